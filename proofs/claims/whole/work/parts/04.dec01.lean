theorem dX11_beginAnew_14 : decode cX11_beginAnew 14 = .ok (.aload_n 0, 1) := by decide +kernel
theorem dX11_beginAnew_15 : decode cX11_beginAnew 15 = .ok (.iconst 0, 1) := by decide +kernel
theorem dX11_beginAnew_16 : decode cX11_beginAnew 16 = .ok (.putfield 66, 3) := by decide +kernel
theorem dX11_beginAnew_19 : decode cX11_beginAnew 19 = .ok (.aload_n 0, 1) := by decide +kernel
theorem dX11_beginAnew_20 : decode cX11_beginAnew 20 = .ok (.getfield 73, 3) := by decide +kernel
theorem dX11_beginAnew_23 : decode cX11_beginAnew 23 = .ok (.invokevirtual 123, 3) := by decide +kernel
theorem dX11_beginAnew_26 : decode cX11_beginAnew 26 = .ok (.aload_n 0, 1) := by decide +kernel
theorem dX11_beginAnew_27 : decode cX11_beginAnew 27 = .ok (.getfield 80, 3) := by decide +kernel
theorem dX11_beginAnew_30 : decode cX11_beginAnew 30 = .ok (.invokevirtual 126, 3) := by decide +kernel
theorem dX11_beginAnew_33 : decode cX11_beginAnew 33 = .ok (.aload_n 0, 1) := by decide +kernel
theorem dX11_beginAnew_34 : decode cX11_beginAnew 34 = .ok (.iconst (-1), 1) := by decide +kernel
theorem dX11_beginAnew_35 : decode cX11_beginAnew 35 = .ok (.putfield 88, 3) := by decide +kernel
theorem dX11_beginAnew_38 : decode cX11_beginAnew 38 = .ok (.return_, 1) := by decide +kernel
theorem dX11_fault_0 : decode cX11_fault 0 = .ok (.iload_n 1, 1) := by decide +kernel
theorem dX11_fault_1 : decode cX11_fault 1 = .ok (.ifCond .ne 8, 3) := by decide +kernel
theorem dX11_fault_4 : decode cX11_fault 4 = .ok (.aload_n 0, 1) := by decide +kernel
theorem dX11_fault_5 : decode cX11_fault 5 = .ok (.getfield 21, 3) := by decide +kernel
theorem dX11_fault_8 : decode cX11_fault 8 = .ok (.ireturn, 1) := by decide +kernel
theorem dX11_fault_9 : decode cX11_fault 9 = .ok (.iload_n 1, 1) := by decide +kernel
theorem dX11_fault_10 : decode cX11_fault 10 = .ok (.iconst 1, 1) := by decide +kernel
theorem dX11_fault_11 : decode cX11_fault 11 = .ok (.if_icmp .ne 10, 3) := by decide +kernel
theorem dX11_fault_14 : decode cX11_fault 14 = .ok (.aload_n 0, 1) := by decide +kernel
theorem dX11_fault_15 : decode cX11_fault 15 = .ok (.getfield 24, 3) := by decide +kernel
theorem dX11_fault_18 : decode cX11_fault 18 = .ok (.goto 4, 3) := by decide +kernel
theorem dX11_fault_21 : decode cX11_fault 21 = .ok (.iconst (-1), 1) := by decide +kernel
theorem dX11_fault_22 : decode cX11_fault 22 = .ok (.ireturn, 1) := by decide +kernel
theorem dX11_named_0 : decode cX11_named 0 = .ok (.iload_n 1, 1) := by decide +kernel
theorem dX11_named_1 : decode cX11_named 1 = .ok (.tableswitch 63 0 2 #[27, 39, 51], 27) := by decide +kernel
theorem dX11_named_28 : decode cX11_named 28 = .ok (.aload_n 0, 1) := by decide +kernel
theorem dX11_named_29 : decode cX11_named 29 = .ok (.getfield 30, 3) := by decide +kernel
theorem dX11_named_32 : decode cX11_named 32 = .ok (.getfield 127, 3) := by decide +kernel
theorem dX11_named_35 : decode cX11_named 35 = .ok (.iload_n 2, 1) := by decide +kernel
theorem dX11_named_36 : decode cX11_named 36 = .ok (.invokevirtual 131, 3) := by decide +kernel
theorem dX11_named_39 : decode cX11_named 39 = .ok (.ireturn, 1) := by decide +kernel
theorem dX11_named_40 : decode cX11_named 40 = .ok (.aload_n 0, 1) := by decide +kernel
theorem dX11_named_41 : decode cX11_named 41 = .ok (.getfield 30, 3) := by decide +kernel
theorem dX11_named_44 : decode cX11_named 44 = .ok (.getfield 137, 3) := by decide +kernel
theorem dX11_named_47 : decode cX11_named 47 = .ok (.iload_n 2, 1) := by decide +kernel
theorem dX11_named_48 : decode cX11_named 48 = .ok (.invokevirtual 131, 3) := by decide +kernel
theorem dX11_named_51 : decode cX11_named 51 = .ok (.ireturn, 1) := by decide +kernel
theorem dX11_named_52 : decode cX11_named 52 = .ok (.aload_n 0, 1) := by decide +kernel
theorem dX11_named_53 : decode cX11_named 53 = .ok (.getfield 30, 3) := by decide +kernel
theorem dX11_named_56 : decode cX11_named 56 = .ok (.getfield 140, 3) := by decide +kernel
theorem dX11_named_59 : decode cX11_named 59 = .ok (.iload_n 2, 1) := by decide +kernel
theorem dX11_named_60 : decode cX11_named 60 = .ok (.invokevirtual 131, 3) := by decide +kernel
theorem dX11_named_63 : decode cX11_named 63 = .ok (.ireturn, 1) := by decide +kernel
theorem dX11_named_64 : decode cX11_named 64 = .ok (.iconst (-1), 1) := by decide +kernel
theorem dX11_named_65 : decode cX11_named 65 = .ok (.ireturn, 1) := by decide +kernel
theorem dX11_act_0 : decode cX11_act 0 = .ok (.aload_n 0, 1) := by decide +kernel
theorem dX11_act_1 : decode cX11_act 1 = .ok (.getfield 30, 3) := by decide +kernel
theorem dX11_act_4 : decode cX11_act 4 = .ok (.getfield 127, 3) := by decide +kernel
theorem dX11_act_7 : decode cX11_act 7 = .ok (.iload_n 1, 1) := by decide +kernel
theorem dX11_act_8 : decode cX11_act 8 = .ok (.invokevirtual 143, 3) := by decide +kernel
theorem dX11_act_11 : decode cX11_act 11 = .ok (.ifCond .ne 5, 3) := by decide +kernel
theorem dX11_act_14 : decode cX11_act 14 = .ok (.iconst (-1), 1) := by decide +kernel
theorem dX11_act_15 : decode cX11_act 15 = .ok (.ireturn, 1) := by decide +kernel
theorem dX11_act_16 : decode cX11_act 16 = .ok (.iload_n 2, 1) := by decide +kernel
theorem dX11_act_17 : decode cX11_act 17 = .ok (.tableswitch 68 0 2 #[27, 36, 45], 27) := by decide +kernel
theorem dX11_act_44 : decode cX11_act 44 = .ok (.aload_n 0, 1) := by decide +kernel
theorem dX11_act_45 : decode cX11_act 45 = .ok (.getfield 30, 3) := by decide +kernel
theorem dX11_act_48 : decode cX11_act 48 = .ok (.iload_n 1, 1) := by decide +kernel
theorem dX11_act_49 : decode cX11_act 49 = .ok (.invokevirtual 174, 3) := by decide +kernel
theorem dX11_act_52 : decode cX11_act 52 = .ok (.ireturn, 1) := by decide +kernel
theorem dX11_act_53 : decode cX11_act 53 = .ok (.aload_n 0, 1) := by decide +kernel
theorem dX11_act_54 : decode cX11_act 54 = .ok (.getfield 30, 3) := by decide +kernel
theorem dX11_act_57 : decode cX11_act 57 = .ok (.iload_n 1, 1) := by decide +kernel
theorem dX11_act_58 : decode cX11_act 58 = .ok (.invokevirtual 177, 3) := by decide +kernel
theorem dX11_act_61 : decode cX11_act 61 = .ok (.ireturn, 1) := by decide +kernel
theorem dX11_act_62 : decode cX11_act 62 = .ok (.aload_n 0, 1) := by decide +kernel
theorem dX11_act_63 : decode cX11_act 63 = .ok (.getfield 56, 3) := by decide +kernel
theorem dX11_act_66 : decode cX11_act 66 = .ok (.getfield 180, 3) := by decide +kernel
theorem dX11_act_69 : decode cX11_act 69 = .ok (.iload_n 1, 1) := by decide +kernel
theorem dX11_act_70 : decode cX11_act 70 = .ok (.if_icmp .ne 13, 3) := by decide +kernel
theorem dX11_act_73 : decode cX11_act 73 = .ok (.aload_n 0, 1) := by decide +kernel
theorem dX11_act_74 : decode cX11_act 74 = .ok (.getfield 56, 3) := by decide +kernel
theorem dX11_act_77 : decode cX11_act 77 = .ok (.getfield 183, 3) := by decide +kernel
theorem dX11_act_80 : decode cX11_act 80 = .ok (.goto 4, 3) := by decide +kernel
theorem dX11_act_83 : decode cX11_act 83 = .ok (.iconst 0, 1) := by decide +kernel
theorem dX11_act_84 : decode cX11_act 84 = .ok (.ireturn, 1) := by decide +kernel
theorem dX11_act_85 : decode cX11_act 85 = .ok (.iconst (-1), 1) := by decide +kernel
theorem dX11_act_86 : decode cX11_act 86 = .ok (.ireturn, 1) := by decide +kernel
theorem dX11_grain_0 : decode cX11_grain 0 = .ok (.aload_n 0, 1) := by decide +kernel
theorem dX11_grain_1 : decode cX11_grain 1 = .ok (.getfield 30, 3) := by decide +kernel
theorem dX11_grain_4 : decode cX11_grain 4 = .ok (.getfield 140, 3) := by decide +kernel
theorem dX11_grain_7 : decode cX11_grain 7 = .ok (.iload_n 1, 1) := by decide +kernel
theorem dX11_grain_8 : decode cX11_grain 8 = .ok (.invokevirtual 143, 3) := by decide +kernel
theorem dX11_grain_11 : decode cX11_grain 11 = .ok (.ifCond .ne 5, 3) := by decide +kernel
theorem dX11_grain_14 : decode cX11_grain 14 = .ok (.iconst (-1), 1) := by decide +kernel
theorem dX11_grain_15 : decode cX11_grain 15 = .ok (.ireturn, 1) := by decide +kernel
theorem dX11_grain_16 : decode cX11_grain 16 = .ok (.iload_n 2, 1) := by decide +kernel
theorem dX11_grain_17 : decode cX11_grain 17 = .ok (.tableswitch 78 0 3 #[31, 40, 49, 68], 31) := by decide +kernel
theorem dX11_grain_48 : decode cX11_grain 48 = .ok (.aload_n 0, 1) := by decide +kernel
theorem dX11_grain_49 : decode cX11_grain 49 = .ok (.getfield 30, 3) := by decide +kernel
theorem dX11_grain_52 : decode cX11_grain 52 = .ok (.iload_n 1, 1) := by decide +kernel
theorem dX11_grain_53 : decode cX11_grain 53 = .ok (.invokevirtual 186, 3) := by decide +kernel
theorem dX11_grain_56 : decode cX11_grain 56 = .ok (.ireturn, 1) := by decide +kernel
theorem dX11_grain_57 : decode cX11_grain 57 = .ok (.aload_n 0, 1) := by decide +kernel
theorem dX11_grain_58 : decode cX11_grain 58 = .ok (.getfield 30, 3) := by decide +kernel
theorem dX11_grain_61 : decode cX11_grain 61 = .ok (.iload_n 1, 1) := by decide +kernel
theorem dX11_grain_62 : decode cX11_grain 62 = .ok (.invokevirtual 189, 3) := by decide +kernel
theorem dX11_grain_65 : decode cX11_grain 65 = .ok (.ireturn, 1) := by decide +kernel
theorem dX11_grain_66 : decode cX11_grain 66 = .ok (.aload_n 0, 1) := by decide +kernel
theorem dX11_grain_67 : decode cX11_grain 67 = .ok (.getfield 30, 3) := by decide +kernel
theorem dX11_grain_70 : decode cX11_grain 70 = .ok (.iload_n 1, 1) := by decide +kernel
theorem dX11_grain_71 : decode cX11_grain 71 = .ok (.invokevirtual 192, 3) := by decide +kernel
theorem dX11_grain_74 : decode cX11_grain 74 = .ok (.aload_n 0, 1) := by decide +kernel
theorem dX11_grain_75 : decode cX11_grain 75 = .ok (.getfield 56, 3) := by decide +kernel
theorem dX11_grain_78 : decode cX11_grain 78 = .ok (.getfield 195, 3) := by decide +kernel
theorem dX11_grain_81 : decode cX11_grain 81 = .ok (.iload_n 1, 1) := by decide +kernel
theorem dX11_grain_82 : decode cX11_grain 82 = .ok (.iaload, 1) := by decide +kernel
theorem dX11_grain_83 : decode cX11_grain 83 = .ok (.isub, 1) := by decide +kernel
theorem dX11_grain_84 : decode cX11_grain 84 = .ok (.ireturn, 1) := by decide +kernel
theorem dX11_grain_85 : decode cX11_grain 85 = .ok (.aload_n 0, 1) := by decide +kernel
theorem dX11_grain_86 : decode cX11_grain 86 = .ok (.getfield 56, 3) := by decide +kernel
theorem dX11_grain_89 : decode cX11_grain 89 = .ok (.getfield 195, 3) := by decide +kernel
theorem dX11_grain_92 : decode cX11_grain 92 = .ok (.iload_n 1, 1) := by decide +kernel
theorem dX11_grain_93 : decode cX11_grain 93 = .ok (.iaload, 1) := by decide +kernel
theorem dX11_grain_94 : decode cX11_grain 94 = .ok (.ireturn, 1) := by decide +kernel
theorem dX11_grain_95 : decode cX11_grain 95 = .ok (.iconst (-1), 1) := by decide +kernel
theorem dX11_grain_96 : decode cX11_grain 96 = .ok (.ireturn, 1) := by decide +kernel
theorem dX11_law_0 : decode cX11_law 0 = .ok (.aload_n 0, 1) := by decide +kernel
theorem dX11_law_1 : decode cX11_law 1 = .ok (.getfield 49, 3) := by decide +kernel
theorem dX11_law_4 : decode cX11_law 4 = .ok (.aload_n 0, 1) := by decide +kernel
theorem dX11_law_5 : decode cX11_law 5 = .ok (.getfield 30, 3) := by decide +kernel
theorem dX11_law_8 : decode cX11_law 8 = .ok (.invokevirtual 198, 3) := by decide +kernel
theorem dX11_law_11 : decode cX11_law 11 = .ok (.iload_n 1, 1) := by decide +kernel
theorem dX11_law_12 : decode cX11_law 12 = .ok (.ifCond .ne 51, 3) := by decide +kernel
theorem dX11_law_15 : decode cX11_law 15 = .ok (.aload_n 0, 1) := by decide +kernel
theorem dX11_law_16 : decode cX11_law 16 = .ok (.getfield 30, 3) := by decide +kernel
theorem dX11_law_19 : decode cX11_law 19 = .ok (.getfield 137, 3) := by decide +kernel
theorem dX11_law_22 : decode cX11_law 22 = .ok (.iload_n 2, 1) := by decide +kernel
theorem dX11_law_23 : decode cX11_law 23 = .ok (.invokevirtual 143, 3) := by decide +kernel
theorem dX11_law_26 : decode cX11_law 26 = .ok (.ifCond .eq 33, 3) := by decide +kernel
theorem dX11_law_29 : decode cX11_law 29 = .ok (.aload_n 0, 1) := by decide +kernel
theorem dX11_law_30 : decode cX11_law 30 = .ok (.getfield 49, 3) := by decide +kernel
theorem dX11_law_33 : decode cX11_law 33 = .ok (.aload_n 0, 1) := by decide +kernel
theorem dX11_law_34 : decode cX11_law 34 = .ok (.getfield 56, 3) := by decide +kernel
theorem dX11_law_37 : decode cX11_law 37 = .ok (.iload_n 2, 1) := by decide +kernel
theorem dX11_law_38 : decode cX11_law 38 = .ok (.aload_n 0, 1) := by decide +kernel
theorem dX11_law_39 : decode cX11_law 39 = .ok (.getfield 30, 3) := by decide +kernel
theorem dX11_law_42 : decode cX11_law 42 = .ok (.aload_n 0, 1) := by decide +kernel
theorem dX11_law_43 : decode cX11_law 43 = .ok (.getfield 56, 3) := by decide +kernel
theorem dX11_law_46 : decode cX11_law 46 = .ok (.getfield 180, 3) := by decide +kernel
theorem dX11_law_49 : decode cX11_law 49 = .ok (.invokevirtual 174, 3) := by decide +kernel
theorem dX11_law_52 : decode cX11_law 52 = .ok (.iconst 0, 1) := by decide +kernel
theorem dX11_law_53 : decode cX11_law 53 = .ok (.invokevirtual 201, 3) := by decide +kernel
theorem dX11_law_56 : decode cX11_law 56 = .ok (.goto 6, 3) := by decide +kernel
theorem dX11_law_59 : decode cX11_law 59 = .ok (.ldc2_w 205, 3) := by decide +kernel
theorem dX11_law_62 : decode cX11_law 62 = .ok (.lreturn, 1) := by decide +kernel
theorem dX11_law_63 : decode cX11_law 63 = .ok (.iload_n 1, 1) := by decide +kernel
theorem dX11_law_64 : decode cX11_law 64 = .ok (.iconst 1, 1) := by decide +kernel
theorem dX11_law_65 : decode cX11_law 65 = .ok (.if_icmp .eq 8, 3) := by decide +kernel
theorem dX11_law_68 : decode cX11_law 68 = .ok (.iload_n 1, 1) := by decide +kernel
theorem dX11_law_69 : decode cX11_law 69 = .ok (.iconst 2, 1) := by decide +kernel
theorem dX11_law_70 : decode cX11_law 70 = .ok (.if_icmp .ne 19, 3) := by decide +kernel
theorem dX11_law_73 : decode cX11_law 73 = .ok (.aload_n 0, 1) := by decide +kernel
theorem dX11_law_74 : decode cX11_law 74 = .ok (.getfield 49, 3) := by decide +kernel
theorem dX11_law_77 : decode cX11_law 77 = .ok (.aload_n 0, 1) := by decide +kernel
theorem dX11_law_78 : decode cX11_law 78 = .ok (.getfield 56, 3) := by decide +kernel
theorem dX11_law_81 : decode cX11_law 81 = .ok (.iload_n 1, 1) := by decide +kernel
theorem dX11_law_82 : decode cX11_law 82 = .ok (.iconst 0, 1) := by decide +kernel
theorem dX11_law_83 : decode cX11_law 83 = .ok (.invokevirtual 207, 3) := by decide +kernel
theorem dX11_law_86 : decode cX11_law 86 = .ok (.goto 6, 3) := by decide +kernel
theorem dX11_law_89 : decode cX11_law 89 = .ok (.ldc2_w 205, 3) := by decide +kernel
theorem dX11_law_92 : decode cX11_law 92 = .ok (.lreturn, 1) := by decide +kernel
theorem dX11_count_0 : decode cX11_count 0 = .ok (.iload_n 1, 1) := by decide +kernel
theorem dX11_count_1 : decode cX11_count 1 = .ok (.tableswitch 155 0 15 #[79, 90, 101, 112, 123, 155, 155, 155, 155, 155, 155, 155, 155, 131, 139, 147], 79) := by decide +kernel
theorem dX11_count_80 : decode cX11_count 80 = .ok (.aload_n 0, 1) := by decide +kernel
theorem dX11_count_81 : decode cX11_count 81 = .ok (.getfield 30, 3) := by decide +kernel
theorem dX11_count_84 : decode cX11_count 84 = .ok (.getfield 127, 3) := by decide +kernel
theorem dX11_count_87 : decode cX11_count 87 = .ok (.getfield 211, 3) := by decide +kernel
theorem dX11_count_90 : decode cX11_count 90 = .ok (.ireturn, 1) := by decide +kernel
theorem dX11_count_91 : decode cX11_count 91 = .ok (.aload_n 0, 1) := by decide +kernel
theorem dX11_count_92 : decode cX11_count 92 = .ok (.getfield 30, 3) := by decide +kernel
theorem dX11_count_95 : decode cX11_count 95 = .ok (.getfield 137, 3) := by decide +kernel
theorem dX11_count_98 : decode cX11_count 98 = .ok (.getfield 211, 3) := by decide +kernel
theorem dX11_count_101 : decode cX11_count 101 = .ok (.ireturn, 1) := by decide +kernel
theorem dX11_count_102 : decode cX11_count 102 = .ok (.aload_n 0, 1) := by decide +kernel
theorem dX11_count_103 : decode cX11_count 103 = .ok (.getfield 30, 3) := by decide +kernel
theorem dX11_count_106 : decode cX11_count 106 = .ok (.getfield 140, 3) := by decide +kernel
theorem dX11_count_109 : decode cX11_count 109 = .ok (.getfield 211, 3) := by decide +kernel
theorem dX11_count_112 : decode cX11_count 112 = .ok (.ireturn, 1) := by decide +kernel
theorem dX11_count_113 : decode cX11_count 113 = .ok (.aload_n 0, 1) := by decide +kernel
theorem dX11_count_114 : decode cX11_count 114 = .ok (.getfield 30, 3) := by decide +kernel
theorem dX11_count_117 : decode cX11_count 117 = .ok (.getfield 214, 3) := by decide +kernel
theorem dX11_count_120 : decode cX11_count 120 = .ok (.getfield 211, 3) := by decide +kernel
theorem dX11_count_123 : decode cX11_count 123 = .ok (.ireturn, 1) := by decide +kernel
theorem dX11_count_124 : decode cX11_count 124 = .ok (.aload_n 0, 1) := by decide +kernel
theorem dX11_count_125 : decode cX11_count 125 = .ok (.getfield 30, 3) := by decide +kernel
theorem dX11_count_128 : decode cX11_count 128 = .ok (.getfield 217, 3) := by decide +kernel
theorem dX11_count_131 : decode cX11_count 131 = .ok (.ireturn, 1) := by decide +kernel
theorem dX11_count_132 : decode cX11_count 132 = .ok (.aload_n 0, 1) := by decide +kernel
theorem dX11_count_133 : decode cX11_count 133 = .ok (.getfield 80, 3) := by decide +kernel
theorem dX11_count_136 : decode cX11_count 136 = .ok (.getfield 220, 3) := by decide +kernel
theorem dX11_count_139 : decode cX11_count 139 = .ok (.ireturn, 1) := by decide +kernel
theorem dX11_count_140 : decode cX11_count 140 = .ok (.aload_n 0, 1) := by decide +kernel
theorem dX11_count_141 : decode cX11_count 141 = .ok (.getfield 80, 3) := by decide +kernel
theorem dX11_count_144 : decode cX11_count 144 = .ok (.invokevirtual 221, 3) := by decide +kernel
theorem dX11_count_147 : decode cX11_count 147 = .ok (.ireturn, 1) := by decide +kernel
theorem dX11_count_148 : decode cX11_count 148 = .ok (.aload_n 0, 1) := by decide +kernel
theorem dX11_count_149 : decode cX11_count 149 = .ok (.getfield 73, 3) := by decide +kernel
theorem dX11_count_152 : decode cX11_count 152 = .ok (.getfield 225, 3) := by decide +kernel
theorem dX11_count_155 : decode cX11_count 155 = .ok (.ireturn, 1) := by decide +kernel
theorem dX11_count_156 : decode cX11_count 156 = .ok (.aload_n 0, 1) := by decide +kernel
theorem dX11_count_157 : decode cX11_count 157 = .ok (.iload_n 1, 1) := by decide +kernel
theorem dX11_count_158 : decode cX11_count 158 = .ok (.invokevirtual 226, 3) := by decide +kernel
theorem dX11_count_161 : decode cX11_count 161 = .ok (.ireturn, 1) := by decide +kernel
theorem dX11_countOfHall_0 : decode cX11_countOfHall 0 = .ok (.iload_n 1, 1) := by decide +kernel
theorem dX11_countOfHall_1 : decode cX11_countOfHall 1 = .ok (.tableswitch 135 5 12 #[47, 55, 63, 79, 87, 95, 103, 111], 47) := by decide +kernel
theorem dX11_countOfHall_48 : decode cX11_countOfHall 48 = .ok (.aload_n 0, 1) := by decide +kernel
theorem dX11_countOfHall_49 : decode cX11_countOfHall 49 = .ok (.getfield 56, 3) := by decide +kernel
theorem dX11_countOfHall_52 : decode cX11_countOfHall 52 = .ok (.getfield 229, 3) := by decide +kernel
theorem dX11_countOfHall_55 : decode cX11_countOfHall 55 = .ok (.ireturn, 1) := by decide +kernel
theorem dX11_countOfHall_56 : decode cX11_countOfHall 56 = .ok (.aload_n 0, 1) := by decide +kernel
theorem dX11_countOfHall_57 : decode cX11_countOfHall 57 = .ok (.getfield 56, 3) := by decide +kernel
theorem dX11_countOfHall_60 : decode cX11_countOfHall 60 = .ok (.getfield 232, 3) := by decide +kernel
theorem dX11_countOfHall_63 : decode cX11_countOfHall 63 = .ok (.ireturn, 1) := by decide +kernel
theorem dX11_countOfHall_64 : decode cX11_countOfHall 64 = .ok (.aload_n 0, 1) := by decide +kernel
theorem dX11_countOfHall_65 : decode cX11_countOfHall 65 = .ok (.getfield 30, 3) := by decide +kernel
theorem dX11_countOfHall_68 : decode cX11_countOfHall 68 = .ok (.invokevirtual 235, 3) := by decide +kernel
theorem dX11_countOfHall_71 : decode cX11_countOfHall 71 = .ok (.aload_n 0, 1) := by decide +kernel
theorem dX11_countOfHall_72 : decode cX11_countOfHall 72 = .ok (.getfield 56, 3) := by decide +kernel
theorem dX11_countOfHall_75 : decode cX11_countOfHall 75 = .ok (.getfield 238, 3) := by decide +kernel
theorem dX11_countOfHall_78 : decode cX11_countOfHall 78 = .ok (.isub, 1) := by decide +kernel
theorem dX11_countOfHall_79 : decode cX11_countOfHall 79 = .ok (.ireturn, 1) := by decide +kernel
theorem dX11_countOfHall_80 : decode cX11_countOfHall 80 = .ok (.aload_n 0, 1) := by decide +kernel
theorem dX11_countOfHall_81 : decode cX11_countOfHall 81 = .ok (.getfield 56, 3) := by decide +kernel
theorem dX11_countOfHall_84 : decode cX11_countOfHall 84 = .ok (.getfield 238, 3) := by decide +kernel
theorem dX11_countOfHall_87 : decode cX11_countOfHall 87 = .ok (.ireturn, 1) := by decide +kernel
theorem dX11_countOfHall_88 : decode cX11_countOfHall 88 = .ok (.aload_n 0, 1) := by decide +kernel
theorem dX11_countOfHall_89 : decode cX11_countOfHall 89 = .ok (.getfield 56, 3) := by decide +kernel
theorem dX11_countOfHall_92 : decode cX11_countOfHall 92 = .ok (.getfield 241, 3) := by decide +kernel
theorem dX11_countOfHall_95 : decode cX11_countOfHall 95 = .ok (.ireturn, 1) := by decide +kernel
theorem dX11_countOfHall_96 : decode cX11_countOfHall 96 = .ok (.aload_n 0, 1) := by decide +kernel
theorem dX11_countOfHall_97 : decode cX11_countOfHall 97 = .ok (.getfield 56, 3) := by decide +kernel
theorem dX11_countOfHall_100 : decode cX11_countOfHall 100 = .ok (.getfield 244, 3) := by decide +kernel
theorem dX11_countOfHall_103 : decode cX11_countOfHall 103 = .ok (.ireturn, 1) := by decide +kernel
theorem dX11_countOfHall_104 : decode cX11_countOfHall 104 = .ok (.aload_n 0, 1) := by decide +kernel
theorem dX11_countOfHall_105 : decode cX11_countOfHall 105 = .ok (.getfield 56, 3) := by decide +kernel
theorem dX11_countOfHall_108 : decode cX11_countOfHall 108 = .ok (.invokevirtual 247, 3) := by decide +kernel
theorem dX11_countOfHall_111 : decode cX11_countOfHall 111 = .ok (.ireturn, 1) := by decide +kernel
theorem dX11_countOfHall_112 : decode cX11_countOfHall 112 = .ok (.aload_n 0, 1) := by decide +kernel
theorem dX11_countOfHall_113 : decode cX11_countOfHall 113 = .ok (.getfield 56, 3) := by decide +kernel
theorem dX11_countOfHall_116 : decode cX11_countOfHall 116 = .ok (.getfield 180, 3) := by decide +kernel
theorem dX11_countOfHall_119 : decode cX11_countOfHall 119 = .ok (.iconst (-1), 1) := by decide +kernel
theorem dX11_countOfHall_120 : decode cX11_countOfHall 120 = .ok (.if_icmp .ne 8, 3) := by decide +kernel
theorem dX11_countOfHall_123 : decode cX11_countOfHall 123 = .ok (.bipush (-2), 2) := by decide +kernel
theorem dX11_countOfHall_125 : decode cX11_countOfHall 125 = .ok (.goto 10, 3) := by decide +kernel
theorem dX11_countOfHall_128 : decode cX11_countOfHall 128 = .ok (.aload_n 0, 1) := by decide +kernel
theorem dX11_countOfHall_129 : decode cX11_countOfHall 129 = .ok (.getfield 56, 3) := by decide +kernel
theorem dX11_countOfHall_132 : decode cX11_countOfHall 132 = .ok (.getfield 180, 3) := by decide +kernel
theorem dX11_countOfHall_135 : decode cX11_countOfHall 135 = .ok (.ireturn, 1) := by decide +kernel
theorem dX11_countOfHall_136 : decode cX11_countOfHall 136 = .ok (.ldc 250, 2) := by decide +kernel
theorem dX11_countOfHall_138 : decode cX11_countOfHall 138 = .ok (.ireturn, 1) := by decide +kernel
theorem dX11_stage_0 : decode cX11_stage 0 = .ok (.aload_n 0, 1) := by decide +kernel
theorem dX11_stage_1 : decode cX11_stage 1 = .ok (.getfield 30, 3) := by decide +kernel
theorem dX11_stage_4 : decode cX11_stage 4 = .ok (.getfield 127, 3) := by decide +kernel
theorem dX11_stage_7 : decode cX11_stage 7 = .ok (.iload_n 1, 1) := by decide +kernel
theorem dX11_stage_8 : decode cX11_stage 8 = .ok (.invokevirtual 143, 3) := by decide +kernel
theorem dX11_stage_11 : decode cX11_stage 11 = .ok (.ifCond .ne 5, 3) := by decide +kernel
theorem dX11_stage_14 : decode cX11_stage 14 = .ok (.iconst (-1), 1) := by decide +kernel
theorem dX11_stage_15 : decode cX11_stage 15 = .ok (.ireturn, 1) := by decide +kernel
theorem dX11_stage_16 : decode cX11_stage 16 = .ok (.aload_n 0, 1) := by decide +kernel
theorem dX11_stage_17 : decode cX11_stage 17 = .ok (.getfield 56, 3) := by decide +kernel
theorem dX11_stage_20 : decode cX11_stage 20 = .ok (.getfield 180, 3) := by decide +kernel
theorem dX11_stage_23 : decode cX11_stage 23 = .ok (.iconst (-1), 1) := by decide +kernel
theorem dX11_stage_24 : decode cX11_stage 24 = .ok (.if_icmp .eq 6, 3) := by decide +kernel
theorem dX11_stage_27 : decode cX11_stage 27 = .ok (.bipush (-2), 2) := by decide +kernel
theorem dX11_stage_29 : decode cX11_stage 29 = .ok (.ireturn, 1) := by decide +kernel
theorem dX11_stage_30 : decode cX11_stage 30 = .ok (.aload_n 0, 1) := by decide +kernel
theorem dX11_stage_31 : decode cX11_stage 31 = .ok (.getfield 56, 3) := by decide +kernel
theorem dX11_stage_34 : decode cX11_stage 34 = .ok (.iload_n 1, 1) := by decide +kernel
theorem dX11_stage_35 : decode cX11_stage 35 = .ok (.aload_n 0, 1) := by decide +kernel
theorem dX11_stage_36 : decode cX11_stage 36 = .ok (.getfield 30, 3) := by decide +kernel
theorem dX11_stage_39 : decode cX11_stage 39 = .ok (.iload_n 1, 1) := by decide +kernel
theorem dX11_stage_40 : decode cX11_stage 40 = .ok (.invokevirtual 177, 3) := by decide +kernel
theorem dX11_stage_43 : decode cX11_stage 43 = .ok (.invokevirtual 251, 3) := by decide +kernel
theorem dX11_stage_46 : decode cX11_stage 46 = .ok (.aload_n 0, 1) := by decide +kernel
theorem dX11_stage_47 : decode cX11_stage 47 = .ok (.getfield 73, 3) := by decide +kernel
theorem dX11_stage_50 : decode cX11_stage 50 = .ok (.iconst 0, 1) := by decide +kernel
theorem dX11_stage_51 : decode cX11_stage 51 = .ok (.iconst 0, 1) := by decide +kernel
theorem dX11_stage_52 : decode cX11_stage 52 = .ok (.iconst 0, 1) := by decide +kernel
theorem dX11_stage_53 : decode cX11_stage 53 = .ok (.invokevirtual 255, 3) := by decide +kernel
theorem dX11_stage_56 : decode cX11_stage 56 = .ok (.aload_n 0, 1) := by decide +kernel
theorem dX11_stage_57 : decode cX11_stage 57 = .ok (.getfield 56, 3) := by decide +kernel
theorem dX11_stage_60 : decode cX11_stage 60 = .ok (.getfield 183, 3) := by decide +kernel
theorem dX11_stage_63 : decode cX11_stage 63 = .ok (.ireturn, 1) := by decide +kernel
theorem dX11_change_0 : decode cX11_change 0 = .ok (.aload_n 0, 1) := by decide +kernel
theorem dX11_change_1 : decode cX11_change 1 = .ok (.iload_n 1, 1) := by decide +kernel
theorem dX11_change_2 : decode cX11_change 2 = .ok (.iload_n 2, 1) := by decide +kernel
theorem dX11_change_3 : decode cX11_change 3 = .ok (.invokevirtual 259, 3) := by decide +kernel
theorem dX11_change_6 : decode cX11_change 6 = .ok (.ifCond .ne 5, 3) := by decide +kernel
theorem dX11_change_9 : decode cX11_change 9 = .ok (.iconst (-1), 1) := by decide +kernel
theorem dX11_change_10 : decode cX11_change 10 = .ok (.ireturn, 1) := by decide +kernel
theorem dX11_change_11 : decode cX11_change 11 = .ok (.aload_n 0, 1) := by decide +kernel
theorem dX11_change_12 : decode cX11_change 12 = .ok (.getfield 56, 3) := by decide +kernel
theorem dX11_change_15 : decode cX11_change 15 = .ok (.iload_n 1, 1) := by decide +kernel
theorem dX11_change_16 : decode cX11_change 16 = .ok (.iload_n 2, 1) := by decide +kernel
theorem dX11_change_17 : decode cX11_change 17 = .ok (.invokevirtual 263, 3) := by decide +kernel
theorem dX11_change_20 : decode cX11_change 20 = .ok (.aload_n 0, 1) := by decide +kernel
theorem dX11_change_21 : decode cX11_change 21 = .ok (.getfield 73, 3) := by decide +kernel
theorem dX11_change_24 : decode cX11_change 24 = .ok (.iconst 1, 1) := by decide +kernel
theorem dX11_change_25 : decode cX11_change 25 = .ok (.iload_n 1, 1) := by decide +kernel
theorem dX11_change_26 : decode cX11_change 26 = .ok (.iload_n 2, 1) := by decide +kernel
theorem dX11_change_27 : decode cX11_change 27 = .ok (.invokevirtual 255, 3) := by decide +kernel
theorem dX11_change_30 : decode cX11_change 30 = .ok (.aload_n 0, 1) := by decide +kernel
theorem dX11_change_31 : decode cX11_change 31 = .ok (.getfield 56, 3) := by decide +kernel
theorem dX11_change_34 : decode cX11_change 34 = .ok (.iload_n 1, 1) := by decide +kernel
theorem dX11_change_35 : decode cX11_change 35 = .ok (.invokevirtual 160, 3) := by decide +kernel
theorem dX11_change_38 : decode cX11_change 38 = .ok (.ireturn, 1) := by decide +kernel
theorem dX11_areTwoGuests_0 : decode cX11_areTwoGuests 0 = .ok (.aload_n 0, 1) := by decide +kernel
theorem dX11_areTwoGuests_1 : decode cX11_areTwoGuests 1 = .ok (.getfield 30, 3) := by decide +kernel
theorem dX11_areTwoGuests_4 : decode cX11_areTwoGuests 4 = .ok (.getfield 137, 3) := by decide +kernel
theorem dX11_areTwoGuests_7 : decode cX11_areTwoGuests 7 = .ok (.iload_n 1, 1) := by decide +kernel
theorem dX11_areTwoGuests_8 : decode cX11_areTwoGuests 8 = .ok (.invokevirtual 143, 3) := by decide +kernel
theorem dX11_areTwoGuests_11 : decode cX11_areTwoGuests 11 = .ok (.ifCond .eq 26, 3) := by decide +kernel
theorem dX11_areTwoGuests_14 : decode cX11_areTwoGuests 14 = .ok (.aload_n 0, 1) := by decide +kernel
theorem dX11_areTwoGuests_15 : decode cX11_areTwoGuests 15 = .ok (.getfield 30, 3) := by decide +kernel
theorem dX11_areTwoGuests_18 : decode cX11_areTwoGuests 18 = .ok (.getfield 137, 3) := by decide +kernel
theorem dX11_areTwoGuests_21 : decode cX11_areTwoGuests 21 = .ok (.iload_n 2, 1) := by decide +kernel
theorem dX11_areTwoGuests_22 : decode cX11_areTwoGuests 22 = .ok (.invokevirtual 143, 3) := by decide +kernel
theorem dX11_areTwoGuests_25 : decode cX11_areTwoGuests 25 = .ok (.ifCond .eq 12, 3) := by decide +kernel
theorem dX11_areTwoGuests_28 : decode cX11_areTwoGuests 28 = .ok (.iload_n 1, 1) := by decide +kernel
theorem dX11_areTwoGuests_29 : decode cX11_areTwoGuests 29 = .ok (.iload_n 2, 1) := by decide +kernel
theorem dX11_areTwoGuests_30 : decode cX11_areTwoGuests 30 = .ok (.if_icmp .eq 7, 3) := by decide +kernel
theorem dX11_areTwoGuests_33 : decode cX11_areTwoGuests 33 = .ok (.iconst 1, 1) := by decide +kernel
theorem dX11_areTwoGuests_34 : decode cX11_areTwoGuests 34 = .ok (.goto 4, 3) := by decide +kernel
theorem dX11_areTwoGuests_37 : decode cX11_areTwoGuests 37 = .ok (.iconst 0, 1) := by decide +kernel
theorem dX11_areTwoGuests_38 : decode cX11_areTwoGuests 38 = .ok (.ireturn, 1) := by decide +kernel
theorem dX11_push_0 : decode cX11_push 0 = .ok (.iload_n 1, 1) := by decide +kernel
theorem dX11_push_1 : decode cX11_push 1 = .ok (.bipush (-99), 2) := by decide +kernel
theorem dX11_push_3 : decode cX11_push 3 = .ok (.if_icmp .lt 13, 3) := by decide +kernel
theorem dX11_push_6 : decode cX11_push 6 = .ok (.iload_n 1, 1) := by decide +kernel
theorem dX11_push_7 : decode cX11_push 7 = .ok (.bipush 99, 2) := by decide +kernel
theorem dX11_push_9 : decode cX11_push 9 = .ok (.if_icmp .gt 7, 3) := by decide +kernel
theorem dX11_push_12 : decode cX11_push 12 = .ok (.iload_n 1, 1) := by decide +kernel
theorem dX11_push_13 : decode cX11_push 13 = .ok (.ifCond .ne 6, 3) := by decide +kernel
theorem dX11_push_16 : decode cX11_push 16 = .ok (.ldc 250, 2) := by decide +kernel
theorem dX11_push_18 : decode cX11_push 18 = .ok (.ireturn, 1) := by decide +kernel
theorem dX11_push_19 : decode cX11_push 19 = .ok (.aload_n 0, 1) := by decide +kernel
theorem dX11_push_20 : decode cX11_push 20 = .ok (.getfield 73, 3) := by decide +kernel
theorem dX11_push_23 : decode cX11_push 23 = .ok (.iconst 2, 1) := by decide +kernel
theorem dX11_push_24 : decode cX11_push 24 = .ok (.aload_n 0, 1) := by decide +kernel
theorem dX11_push_25 : decode cX11_push 25 = .ok (.getfield 56, 3) := by decide +kernel
theorem dX11_push_28 : decode cX11_push 28 = .ok (.getfield 232, 3) := by decide +kernel
theorem dX11_push_31 : decode cX11_push 31 = .ok (.iconst 0, 1) := by decide +kernel
theorem dX11_push_32 : decode cX11_push 32 = .ok (.invokevirtual 255, 3) := by decide +kernel
theorem dX11_push_35 : decode cX11_push 35 = .ok (.aload_n 0, 1) := by decide +kernel
theorem dX11_push_36 : decode cX11_push 36 = .ok (.getfield 56, 3) := by decide +kernel
theorem dX11_push_39 : decode cX11_push 39 = .ok (.aload_n 0, 1) := by decide +kernel
theorem dX11_push_40 : decode cX11_push 40 = .ok (.getfield 56, 3) := by decide +kernel
theorem dX11_push_43 : decode cX11_push 43 = .ok (.getfield 232, 3) := by decide +kernel
theorem dX11_push_46 : decode cX11_push 46 = .ok (.iload_n 1, 1) := by decide +kernel
theorem dX11_push_47 : decode cX11_push 47 = .ok (.iadd, 1) := by decide +kernel
theorem dX11_push_48 : decode cX11_push 48 = .ok (.i2l, 1) := by decide +kernel
theorem dX11_push_49 : decode cX11_push 49 = .ok (.ldc2_w 266, 3) := by decide +kernel
theorem dX11_push_52 : decode cX11_push 52 = .ok (.ldc2_w 268, 3) := by decide +kernel
theorem dX11_push_55 : decode cX11_push 55 = .ok (.invokestatic 270, 3) := by decide +kernel
theorem dX11_push_58 : decode cX11_push 58 = .ok (.l2i, 1) := by decide +kernel
theorem dX11_push_59 : decode cX11_push 59 = .ok (.putfield 232, 3) := by decide +kernel
theorem dX11_push_62 : decode cX11_push 62 = .ok (.aload_n 0, 1) := by decide +kernel
theorem dX11_push_63 : decode cX11_push 63 = .ok (.getfield 56, 3) := by decide +kernel
theorem dX11_push_66 : decode cX11_push 66 = .ok (.getfield 232, 3) := by decide +kernel
theorem dX11_push_69 : decode cX11_push 69 = .ok (.ireturn, 1) := by decide +kernel
theorem dX11_go_0 : decode cX11_go 0 = .ok (.iload_n 1, 1) := by decide +kernel
theorem dX11_go_1 : decode cX11_go 1 = .ok (.ifCond .lt 25, 3) := by decide +kernel
theorem dX11_go_4 : decode cX11_go 4 = .ok (.iload_n 1, 1) := by decide +kernel
theorem dX11_go_5 : decode cX11_go 5 = .ok (.sipush 200, 3) := by decide +kernel
theorem dX11_go_8 : decode cX11_go 8 = .ok (.if_icmp .gt 18, 3) := by decide +kernel
theorem dX11_go_11 : decode cX11_go 11 = .ok (.aload_n 0, 1) := by decide +kernel
theorem dX11_go_12 : decode cX11_go 12 = .ok (.getfield 56, 3) := by decide +kernel
theorem dX11_go_15 : decode cX11_go 15 = .ok (.getfield 229, 3) := by decide +kernel
theorem dX11_go_18 : decode cX11_go 18 = .ok (.iload_n 1, 1) := by decide +kernel
theorem dX11_go_19 : decode cX11_go 19 = .ok (.iadd, 1) := by decide +kernel
theorem dX11_go_20 : decode cX11_go 20 = .ok (.sipush 9000, 3) := by decide +kernel
theorem dX11_go_23 : decode cX11_go 23 = .ok (.if_icmp .le 5, 3) := by decide +kernel
theorem dX11_go_26 : decode cX11_go 26 = .ok (.iconst (-1), 1) := by decide +kernel
theorem dX11_go_27 : decode cX11_go 27 = .ok (.ireturn, 1) := by decide +kernel
theorem dX11_go_28 : decode cX11_go 28 = .ok (.aload_n 0, 1) := by decide +kernel
theorem dX11_go_29 : decode cX11_go 29 = .ok (.getfield 49, 3) := by decide +kernel
theorem dX11_go_32 : decode cX11_go 32 = .ok (.aload_n 0, 1) := by decide +kernel
theorem dX11_go_33 : decode cX11_go 33 = .ok (.getfield 30, 3) := by decide +kernel
theorem dX11_go_36 : decode cX11_go 36 = .ok (.invokevirtual 274, 3) := by decide +kernel
theorem dX11_go_39 : decode cX11_go 39 = .ok (.aload_n 0, 1) := by decide +kernel
theorem dX11_go_40 : decode cX11_go 40 = .ok (.getfield 49, 3) := by decide +kernel
theorem dX11_go_43 : decode cX11_go 43 = .ok (.aload_n 0, 1) := by decide +kernel
theorem dX11_go_44 : decode cX11_go 44 = .ok (.getfield 56, 3) := by decide +kernel
theorem dX11_go_47 : decode cX11_go 47 = .ok (.iload_n 1, 1) := by decide +kernel
theorem dX11_go_48 : decode cX11_go 48 = .ok (.invokevirtual 277, 3) := by decide +kernel
theorem dX11_go_51 : decode cX11_go 51 = .ok (.iload_n 1, 1) := by decide +kernel
theorem dX11_go_52 : decode cX11_go 52 = .ok (.ifCond .le 10, 3) := by decide +kernel
theorem dX11_go_55 : decode cX11_go 55 = .ok (.aload_n 0, 1) := by decide +kernel
theorem dX11_go_56 : decode cX11_go 56 = .ok (.getfield 73, 3) := by decide +kernel
theorem dX11_go_59 : decode cX11_go 59 = .ok (.invokevirtual 123, 3) := by decide +kernel
theorem dX11_go_62 : decode cX11_go 62 = .ok (.aload_n 0, 1) := by decide +kernel
theorem dX11_go_63 : decode cX11_go 63 = .ok (.getfield 56, 3) := by decide +kernel
theorem dX11_go_66 : decode cX11_go 66 = .ok (.getfield 229, 3) := by decide +kernel
theorem dX11_go_69 : decode cX11_go 69 = .ok (.ireturn, 1) := by decide +kernel
theorem dX11_undo_0 : decode cX11_undo 0 = .ok (.aload_n 0, 1) := by decide +kernel
theorem dX11_undo_1 : decode cX11_undo 1 = .ok (.getfield 73, 3) := by decide +kernel
theorem dX11_undo_4 : decode cX11_undo 4 = .ok (.getfield 225, 3) := by decide +kernel
theorem dX11_undo_7 : decode cX11_undo 7 = .ok (.ifCond .ne 5, 3) := by decide +kernel
theorem dX11_undo_10 : decode cX11_undo 10 = .ok (.iconst (-1), 1) := by decide +kernel
theorem dX11_undo_11 : decode cX11_undo 11 = .ok (.ireturn, 1) := by decide +kernel
theorem dX11_undo_12 : decode cX11_undo 12 = .ok (.aload_n 0, 1) := by decide +kernel
theorem dX11_undo_13 : decode cX11_undo 13 = .ok (.getfield 73, 3) := by decide +kernel
theorem dX11_undo_16 : decode cX11_undo 16 = .ok (.aload_n 0, 1) := by decide +kernel
theorem dX11_undo_17 : decode cX11_undo 17 = .ok (.getfield 56, 3) := by decide +kernel
theorem dX11_undo_20 : decode cX11_undo 20 = .ok (.invokevirtual 281, 3) := by decide +kernel
theorem dX11_undo_23 : decode cX11_undo 23 = .ok (.aload_n 0, 1) := by decide +kernel
theorem dX11_undo_24 : decode cX11_undo 24 = .ok (.getfield 73, 3) := by decide +kernel
theorem dX11_undo_27 : decode cX11_undo 27 = .ok (.getfield 225, 3) := by decide +kernel
theorem dX11_undo_30 : decode cX11_undo 30 = .ok (.ireturn, 1) := by decide +kernel
theorem dX11_keep_0 : decode cX11_keep 0 = .ok (.aload_n 0, 1) := by decide +kernel
theorem dX11_keep_1 : decode cX11_keep 1 = .ok (.getfield 63, 3) := by decide +kernel
theorem dX11_keep_4 : decode cX11_keep 4 = .ok (.aload_n 0, 1) := by decide +kernel
theorem dX11_keep_5 : decode cX11_keep 5 = .ok (.getfield 56, 3) := by decide +kernel
theorem dX11_keep_8 : decode cX11_keep 8 = .ok (.invokevirtual 285, 3) := by decide +kernel
theorem dX11_keep_11 : decode cX11_keep 11 = .ok (.aload_n 0, 1) := by decide +kernel
theorem dX11_keep_12 : decode cX11_keep 12 = .ok (.iconst 1, 1) := by decide +kernel
theorem dX11_keep_13 : decode cX11_keep 13 = .ok (.putfield 66, 3) := by decide +kernel
theorem dX11_keep_16 : decode cX11_keep 16 = .ok (.aload_n 0, 1) := by decide +kernel
theorem dX11_keep_17 : decode cX11_keep 17 = .ok (.getfield 56, 3) := by decide +kernel
theorem dX11_keep_20 : decode cX11_keep 20 = .ok (.getfield 229, 3) := by decide +kernel
theorem dX11_keep_23 : decode cX11_keep 23 = .ok (.ireturn, 1) := by decide +kernel
theorem dX11_back_0 : decode cX11_back 0 = .ok (.aload_n 0, 1) := by decide +kernel
theorem dX11_back_1 : decode cX11_back 1 = .ok (.getfield 66, 3) := by decide +kernel
theorem dX11_back_4 : decode cX11_back 4 = .ok (.ifCond .ne 5, 3) := by decide +kernel
theorem dX11_back_7 : decode cX11_back 7 = .ok (.iconst (-1), 1) := by decide +kernel
theorem dX11_back_8 : decode cX11_back 8 = .ok (.ireturn, 1) := by decide +kernel
theorem dX11_back_9 : decode cX11_back 9 = .ok (.aload_n 0, 1) := by decide +kernel
theorem dX11_back_10 : decode cX11_back 10 = .ok (.getfield 56, 3) := by decide +kernel
theorem dX11_back_13 : decode cX11_back 13 = .ok (.aload_n 0, 1) := by decide +kernel
theorem dX11_back_14 : decode cX11_back 14 = .ok (.getfield 63, 3) := by decide +kernel
theorem dX11_back_17 : decode cX11_back 17 = .ok (.invokevirtual 285, 3) := by decide +kernel
theorem dX11_back_20 : decode cX11_back 20 = .ok (.aload_n 0, 1) := by decide +kernel
theorem dX11_back_21 : decode cX11_back 21 = .ok (.getfield 73, 3) := by decide +kernel
theorem dX11_back_24 : decode cX11_back 24 = .ok (.invokevirtual 123, 3) := by decide +kernel
theorem dX11_back_27 : decode cX11_back 27 = .ok (.aload_n 0, 1) := by decide +kernel
theorem dX11_back_28 : decode cX11_back 28 = .ok (.getfield 56, 3) := by decide +kernel
theorem dX11_back_31 : decode cX11_back 31 = .ok (.getfield 229, 3) := by decide +kernel
theorem dX11_back_34 : decode cX11_back 34 = .ok (.ireturn, 1) := by decide +kernel
theorem dX11_startTrial_0 : decode cX11_startTrial 0 = .ok (.aload_n 0, 1) := by decide +kernel
theorem dX11_startTrial_1 : decode cX11_startTrial 1 = .ok (.getfield 60, 3) := by decide +kernel
theorem dX11_startTrial_4 : decode cX11_startTrial 4 = .ok (.aload_n 0, 1) := by decide +kernel
theorem dX11_startTrial_5 : decode cX11_startTrial 5 = .ok (.getfield 56, 3) := by decide +kernel
theorem dX11_startTrial_8 : decode cX11_startTrial 8 = .ok (.invokevirtual 285, 3) := by decide +kernel
theorem dX11_startTrial_11 : decode cX11_startTrial 11 = .ok (.aload_n 0, 1) := by decide +kernel
theorem dX11_startTrial_12 : decode cX11_startTrial 12 = .ok (.getfield 49, 3) := by decide +kernel
theorem dX11_startTrial_15 : decode cX11_startTrial 15 = .ok (.aload_n 0, 1) := by decide +kernel
theorem dX11_startTrial_16 : decode cX11_startTrial 16 = .ok (.getfield 30, 3) := by decide +kernel
theorem dX11_startTrial_19 : decode cX11_startTrial 19 = .ok (.invokevirtual 198, 3) := by decide +kernel
theorem dX11_startTrial_22 : decode cX11_startTrial 22 = .ok (.return_, 1) := by decide +kernel
theorem dX11_ahead_0 : decode cX11_ahead 0 = .ok (.iload_n 1, 1) := by decide +kernel
theorem dX11_ahead_1 : decode cX11_ahead 1 = .ok (.ifCond .lt 19, 3) := by decide +kernel
theorem dX11_ahead_4 : decode cX11_ahead 4 = .ok (.iload_n 1, 1) := by decide +kernel
theorem dX11_ahead_5 : decode cX11_ahead 5 = .ok (.sipush 200, 3) := by decide +kernel
theorem dX11_ahead_8 : decode cX11_ahead 8 = .ok (.if_icmp .gt 12, 3) := by decide +kernel
theorem dX11_ahead_11 : decode cX11_ahead 11 = .ok (.aload_n 0, 1) := by decide +kernel
theorem dX11_ahead_12 : decode cX11_ahead 12 = .ok (.iload_n 2, 1) := by decide +kernel
theorem dX11_ahead_13 : decode cX11_ahead 13 = .ok (.iload_n 3, 1) := by decide +kernel
theorem dX11_ahead_14 : decode cX11_ahead 14 = .ok (.invokevirtual 288, 3) := by decide +kernel
theorem dX11_ahead_17 : decode cX11_ahead 17 = .ok (.ifCond .ne 6, 3) := by decide +kernel
theorem dX11_ahead_20 : decode cX11_ahead 20 = .ok (.ldc 250, 2) := by decide +kernel
theorem dX11_ahead_22 : decode cX11_ahead 22 = .ok (.ireturn, 1) := by decide +kernel
theorem dX11_ahead_23 : decode cX11_ahead 23 = .ok (.aload_n 0, 1) := by decide +kernel
theorem dX11_ahead_24 : decode cX11_ahead 24 = .ok (.invokevirtual 291, 3) := by decide +kernel
theorem dX11_ahead_27 : decode cX11_ahead 27 = .ok (.aload_n 0, 1) := by decide +kernel
theorem dX11_ahead_28 : decode cX11_ahead 28 = .ok (.getfield 49, 3) := by decide +kernel
theorem dX11_ahead_31 : decode cX11_ahead 31 = .ok (.aload_n 0, 1) := by decide +kernel
theorem dX11_ahead_32 : decode cX11_ahead 32 = .ok (.getfield 60, 3) := by decide +kernel
theorem dX11_ahead_35 : decode cX11_ahead 35 = .ok (.iload_n 1, 1) := by decide +kernel
theorem dX11_ahead_36 : decode cX11_ahead 36 = .ok (.invokevirtual 277, 3) := by decide +kernel
theorem dX11_ahead_39 : decode cX11_ahead 39 = .ok (.iload_n 2, 1) := by decide +kernel
theorem dX11_ahead_40 : decode cX11_ahead 40 = .ok (.tableswitch 74 0 3 #[32, 40, 50, 58], 32) := by decide +kernel
theorem dX11_ahead_72 : decode cX11_ahead 72 = .ok (.aload_n 0, 1) := by decide +kernel
theorem dX11_ahead_73 : decode cX11_ahead 73 = .ok (.getfield 60, 3) := by decide +kernel
theorem dX11_ahead_76 : decode cX11_ahead 76 = .ok (.getfield 238, 3) := by decide +kernel
theorem dX11_ahead_79 : decode cX11_ahead 79 = .ok (.ireturn, 1) := by decide +kernel
theorem dX11_ahead_80 : decode cX11_ahead 80 = .ok (.aload_n 0, 1) := by decide +kernel
theorem dX11_ahead_81 : decode cX11_ahead 81 = .ok (.getfield 60, 3) := by decide +kernel
theorem dX11_ahead_84 : decode cX11_ahead 84 = .ok (.getfield 195, 3) := by decide +kernel
theorem dX11_ahead_87 : decode cX11_ahead 87 = .ok (.iload_n 3, 1) := by decide +kernel
theorem dX11_ahead_88 : decode cX11_ahead 88 = .ok (.iaload, 1) := by decide +kernel
theorem dX11_ahead_89 : decode cX11_ahead 89 = .ok (.ireturn, 1) := by decide +kernel
theorem dX11_ahead_90 : decode cX11_ahead 90 = .ok (.aload_n 0, 1) := by decide +kernel
theorem dX11_ahead_91 : decode cX11_ahead 91 = .ok (.getfield 60, 3) := by decide +kernel
theorem dX11_ahead_94 : decode cX11_ahead 94 = .ok (.getfield 232, 3) := by decide +kernel
theorem dX11_ahead_97 : decode cX11_ahead 97 = .ok (.ireturn, 1) := by decide +kernel
theorem dX11_ahead_98 : decode cX11_ahead 98 = .ok (.aload_n 0, 1) := by decide +kernel
theorem dX11_ahead_99 : decode cX11_ahead 99 = .ok (.getfield 60, 3) := by decide +kernel
theorem dX11_ahead_102 : decode cX11_ahead 102 = .ok (.getfield 241, 3) := by decide +kernel
theorem dX11_ahead_105 : decode cX11_ahead 105 = .ok (.aload_n 0, 1) := by decide +kernel
theorem dX11_ahead_106 : decode cX11_ahead 106 = .ok (.getfield 56, 3) := by decide +kernel
theorem dX11_ahead_109 : decode cX11_ahead 109 = .ok (.getfield 241, 3) := by decide +kernel
theorem dX11_ahead_112 : decode cX11_ahead 112 = .ok (.isub, 1) := by decide +kernel
theorem dX11_ahead_113 : decode cX11_ahead 113 = .ok (.ireturn, 1) := by decide +kernel
theorem dX11_ahead_114 : decode cX11_ahead 114 = .ok (.aload_n 0, 1) := by decide +kernel
theorem dX11_ahead_115 : decode cX11_ahead 115 = .ok (.getfield 60, 3) := by decide +kernel
theorem dX11_ahead_118 : decode cX11_ahead 118 = .ok (.getfield 163, 3) := by decide +kernel
theorem dX11_ahead_121 : decode cX11_ahead 121 = .ok (.iload_n 3, 1) := by decide +kernel
theorem dX11_ahead_122 : decode cX11_ahead 122 = .ok (.iaload, 1) := by decide +kernel
theorem dX11_ahead_123 : decode cX11_ahead 123 = .ok (.ireturn, 1) := by decide +kernel
theorem dX11_canBeAhead_0 : decode cX11_canBeAhead 0 = .ok (.iload_n 1, 1) := by decide +kernel
theorem dX11_canBeAhead_1 : decode cX11_canBeAhead 1 = .ok (.iconst 1, 1) := by decide +kernel
theorem dX11_canBeAhead_2 : decode cX11_canBeAhead 2 = .ok (.if_icmp .ne 15, 3) := by decide +kernel
theorem dX11_canBeAhead_5 : decode cX11_canBeAhead 5 = .ok (.aload_n 0, 1) := by decide +kernel
theorem dX11_canBeAhead_6 : decode cX11_canBeAhead 6 = .ok (.getfield 30, 3) := by decide +kernel
theorem dX11_canBeAhead_9 : decode cX11_canBeAhead 9 = .ok (.getfield 140, 3) := by decide +kernel
theorem dX11_canBeAhead_12 : decode cX11_canBeAhead 12 = .ok (.iload_n 2, 1) := by decide +kernel
theorem dX11_canBeAhead_13 : decode cX11_canBeAhead 13 = .ok (.invokevirtual 143, 3) := by decide +kernel
theorem dX11_canBeAhead_16 : decode cX11_canBeAhead 16 = .ok (.ireturn, 1) := by decide +kernel
theorem dX11_canBeAhead_17 : decode cX11_canBeAhead 17 = .ok (.iload_n 1, 1) := by decide +kernel
theorem dX11_canBeAhead_18 : decode cX11_canBeAhead 18 = .ok (.iconst 4, 1) := by decide +kernel
theorem dX11_canBeAhead_19 : decode cX11_canBeAhead 19 = .ok (.if_icmp .ne 15, 3) := by decide +kernel
theorem dX11_canBeAhead_22 : decode cX11_canBeAhead 22 = .ok (.aload_n 0, 1) := by decide +kernel
theorem dX11_canBeAhead_23 : decode cX11_canBeAhead 23 = .ok (.getfield 30, 3) := by decide +kernel
theorem dX11_canBeAhead_26 : decode cX11_canBeAhead 26 = .ok (.getfield 137, 3) := by decide +kernel
theorem dX11_canBeAhead_29 : decode cX11_canBeAhead 29 = .ok (.iload_n 2, 1) := by decide +kernel
theorem dX11_canBeAhead_30 : decode cX11_canBeAhead 30 = .ok (.invokevirtual 143, 3) := by decide +kernel
theorem dX11_canBeAhead_33 : decode cX11_canBeAhead 33 = .ok (.ireturn, 1) := by decide +kernel
theorem dX11_canBeAhead_34 : decode cX11_canBeAhead 34 = .ok (.iload_n 1, 1) := by decide +kernel
theorem dX11_canBeAhead_35 : decode cX11_canBeAhead 35 = .ok (.ifCond .eq 13, 3) := by decide +kernel
theorem dX11_canBeAhead_38 : decode cX11_canBeAhead 38 = .ok (.iload_n 1, 1) := by decide +kernel
theorem dX11_canBeAhead_39 : decode cX11_canBeAhead 39 = .ok (.iconst 2, 1) := by decide +kernel
theorem dX11_canBeAhead_40 : decode cX11_canBeAhead 40 = .ok (.if_icmp .eq 8, 3) := by decide +kernel
theorem dX11_canBeAhead_43 : decode cX11_canBeAhead 43 = .ok (.iload_n 1, 1) := by decide +kernel
theorem dX11_canBeAhead_44 : decode cX11_canBeAhead 44 = .ok (.iconst 3, 1) := by decide +kernel
theorem dX11_canBeAhead_45 : decode cX11_canBeAhead 45 = .ok (.if_icmp .ne 7, 3) := by decide +kernel
theorem dX11_canBeAhead_48 : decode cX11_canBeAhead 48 = .ok (.iconst 1, 1) := by decide +kernel
theorem dX11_canBeAhead_49 : decode cX11_canBeAhead 49 = .ok (.goto 4, 3) := by decide +kernel
theorem dX11_canBeAhead_52 : decode cX11_canBeAhead 52 = .ok (.iconst 0, 1) := by decide +kernel
theorem dX11_canBeAhead_53 : decode cX11_canBeAhead 53 = .ok (.ireturn, 1) := by decide +kernel
theorem dX11_flour_0 : decode cX11_flour 0 = .ok (.iload_n 1, 1) := by decide +kernel
theorem dX11_flour_1 : decode cX11_flour 1 = .ok (.ifCond .lt 10, 3) := by decide +kernel
theorem dX11_flour_4 : decode cX11_flour 4 = .ok (.iload_n 1, 1) := by decide +kernel
theorem dX11_flour_5 : decode cX11_flour 5 = .ok (.sipush 999, 3) := by decide +kernel
theorem dX11_flour_8 : decode cX11_flour 8 = .ok (.if_icmp .le 5, 3) := by decide +kernel
theorem dX11_flour_11 : decode cX11_flour 11 = .ok (.iconst (-1), 1) := by decide +kernel
theorem dX11_flour_12 : decode cX11_flour 12 = .ok (.ireturn, 1) := by decide +kernel
theorem dX11_flour_13 : decode cX11_flour 13 = .ok (.aload_n 0, 1) := by decide +kernel
theorem dX11_flour_14 : decode cX11_flour 14 = .ok (.invokevirtual 291, 3) := by decide +kernel
theorem dX11_flour_17 : decode cX11_flour 17 = .ok (.iconst 0, 1) := by decide +kernel
theorem dX11_flour_18 : decode cX11_flour 18 = .ok (.istore_n 2, 1) := by decide +kernel
theorem dX11_flour_19 : decode cX11_flour 19 = .ok (.iload_n 2, 1) := by decide +kernel
theorem dX11_flour_20 : decode cX11_flour 20 = .ok (.sipush 199, 3) := by decide +kernel
theorem dX11_flour_23 : decode cX11_flour 23 = .ok (.if_icmp .gt 34, 3) := by decide +kernel
theorem dX11_flour_26 : decode cX11_flour 26 = .ok (.aload_n 0, 1) := by decide +kernel
theorem dX11_flour_27 : decode cX11_flour 27 = .ok (.getfield 60, 3) := by decide +kernel
theorem dX11_flour_30 : decode cX11_flour 30 = .ok (.getfield 238, 3) := by decide +kernel
theorem dX11_flour_33 : decode cX11_flour 33 = .ok (.iload_n 1, 1) := by decide +kernel
theorem dX11_flour_34 : decode cX11_flour 34 = .ok (.if_icmp .lt 5, 3) := by decide +kernel
theorem dX11_flour_37 : decode cX11_flour 37 = .ok (.iload_n 2, 1) := by decide +kernel
theorem dX11_flour_38 : decode cX11_flour 38 = .ok (.ireturn, 1) := by decide +kernel
theorem dX11_flour_39 : decode cX11_flour 39 = .ok (.aload_n 0, 1) := by decide +kernel
theorem dX11_flour_40 : decode cX11_flour 40 = .ok (.getfield 49, 3) := by decide +kernel
theorem dX11_flour_43 : decode cX11_flour 43 = .ok (.aload_n 0, 1) := by decide +kernel
theorem dX11_flour_44 : decode cX11_flour 44 = .ok (.getfield 60, 3) := by decide +kernel
theorem dX11_flour_47 : decode cX11_flour 47 = .ok (.iconst 1, 1) := by decide +kernel
theorem dX11_flour_48 : decode cX11_flour 48 = .ok (.invokevirtual 277, 3) := by decide +kernel
theorem dX11_flour_51 : decode cX11_flour 51 = .ok (.iinc 2 1, 3) := by decide +kernel
theorem dX11_flour_54 : decode cX11_flour 54 = .ok (.goto (-35), 3) := by decide +kernel
theorem dX11_flour_57 : decode cX11_flour 57 = .ok (.bipush (-2), 2) := by decide +kernel
theorem dX11_flour_59 : decode cX11_flour 59 = .ok (.ireturn, 1) := by decide +kernel
theorem dX11_bill_0 : decode cX11_bill 0 = .ok (.aload_n 0, 1) := by decide +kernel
theorem dX11_bill_1 : decode cX11_bill 1 = .ok (.getfield 30, 3) := by decide +kernel
theorem dX11_bill_4 : decode cX11_bill 4 = .ok (.getfield 127, 3) := by decide +kernel
theorem dX11_bill_7 : decode cX11_bill 7 = .ok (.getfield 211, 3) := by decide +kernel
theorem dX11_bill_10 : decode cX11_bill 10 = .ok (.iconst 4, 1) := by decide +kernel
theorem dX11_bill_11 : decode cX11_bill 11 = .ok (.invokestatic 294, 3) := by decide +kernel
theorem dX11_bill_14 : decode cX11_bill 14 = .ok (.istore_n 2, 1) := by decide +kernel
theorem dX11_bill_15 : decode cX11_bill 15 = .ok (.iload_n 1, 1) := by decide +kernel
theorem dX11_bill_16 : decode cX11_bill 16 = .ok (.ifCond .lt 8, 3) := by decide +kernel
theorem dX11_bill_19 : decode cX11_bill 19 = .ok (.iload_n 1, 1) := by decide +kernel
theorem dX11_bill_20 : decode cX11_bill 20 = .ok (.iconst 4, 1) := by decide +kernel
theorem dX11_bill_21 : decode cX11_bill 21 = .ok (.if_icmp .le 5, 3) := by decide +kernel
theorem dX11_bill_24 : decode cX11_bill 24 = .ok (.iconst (-1), 1) := by decide +kernel
theorem dX11_bill_25 : decode cX11_bill 25 = .ok (.ireturn, 1) := by decide +kernel
theorem dX11_bill_26 : decode cX11_bill 26 = .ok (.iload_n 1, 1) := by decide +kernel
theorem dX11_bill_27 : decode cX11_bill 27 = .ok (.iconst 4, 1) := by decide +kernel
theorem dX11_bill_28 : decode cX11_bill 28 = .ok (.if_icmp .ge 11, 3) := by decide +kernel
theorem dX11_bill_31 : decode cX11_bill 31 = .ok (.iload_n 1, 1) := by decide +kernel
theorem dX11_bill_32 : decode cX11_bill 32 = .ok (.iload_n 2, 1) := by decide +kernel
theorem dX11_bill_33 : decode cX11_bill 33 = .ok (.if_icmp .lt 6, 3) := by decide +kernel
theorem dX11_bill_36 : decode cX11_bill 36 = .ok (.bipush (-2), 2) := by decide +kernel
theorem dX11_bill_38 : decode cX11_bill 38 = .ok (.ireturn, 1) := by decide +kernel
theorem dX11_bill_39 : decode cX11_bill 39 = .ok (.iconst 0, 1) := by decide +kernel
theorem dX11_bill_40 : decode cX11_bill 40 = .ok (.istore_n 3, 1) := by decide +kernel
theorem dX11_bill_41 : decode cX11_bill 41 = .ok (.aload_n 0, 1) := by decide +kernel
theorem dX11_bill_42 : decode cX11_bill 42 = .ok (.getfield 94, 3) := by decide +kernel
theorem dX11_bill_45 : decode cX11_bill 45 = .ok (.iload_n 2, 1) := by decide +kernel
theorem dX11_bill_46 : decode cX11_bill 46 = .ok (.invokevirtual 300, 3) := by decide +kernel
theorem dX11_bill_49 : decode cX11_bill 49 = .ok (.iconst 0, 1) := by decide +kernel
theorem dX11_bill_50 : decode cX11_bill 50 = .ok (.istore 4, 2) := by decide +kernel
theorem dX11_bill_52 : decode cX11_bill 52 = .ok (.iload 4, 2) := by decide +kernel
theorem dX11_bill_54 : decode cX11_bill 54 = .ok (.aload_n 0, 1) := by decide +kernel
theorem dX11_bill_55 : decode cX11_bill 55 = .ok (.getfield 94, 3) := by decide +kernel
theorem dX11_bill_58 : decode cX11_bill 58 = .ok (.getfield 301, 3) := by decide +kernel
theorem dX11_bill_61 : decode cX11_bill 61 = .ok (.if_icmp .ge 44, 3) := by decide +kernel
theorem dX11_bill_64 : decode cX11_bill 64 = .ok (.aload_n 0, 1) := by decide +kernel
theorem dX11_bill_65 : decode cX11_bill 65 = .ok (.iload_n 2, 1) := by decide +kernel
theorem dX11_bill_66 : decode cX11_bill 66 = .ok (.invokevirtual 304, 3) := by decide +kernel
theorem dX11_bill_69 : decode cX11_bill 69 = .ok (.istore 5, 2) := by decide +kernel
theorem dX11_bill_71 : decode cX11_bill 71 = .ok (.iload 4, 2) := by decide +kernel
theorem dX11_bill_73 : decode cX11_bill 73 = .ok (.ifCond .eq 9, 3) := by decide +kernel
theorem dX11_bill_76 : decode cX11_bill 76 = .ok (.iload 5, 2) := by decide +kernel
theorem dX11_bill_78 : decode cX11_bill 78 = .ok (.iload_n 3, 1) := by decide +kernel
theorem dX11_bill_79 : decode cX11_bill 79 = .ok (.if_icmp .le 13, 3) := by decide +kernel
theorem dX11_bill_82 : decode cX11_bill 82 = .ok (.iload 5, 2) := by decide +kernel
theorem dX11_bill_84 : decode cX11_bill 84 = .ok (.istore_n 3, 1) := by decide +kernel
theorem dX11_bill_85 : decode cX11_bill 85 = .ok (.aload_n 0, 1) := by decide +kernel
theorem dX11_bill_86 : decode cX11_bill 86 = .ok (.getfield 94, 3) := by decide +kernel
theorem dX11_bill_89 : decode cX11_bill 89 = .ok (.invokevirtual 307, 3) := by decide +kernel
theorem dX11_bill_92 : decode cX11_bill 92 = .ok (.aload_n 0, 1) := by decide +kernel
theorem dX11_bill_93 : decode cX11_bill 93 = .ok (.getfield 94, 3) := by decide +kernel
theorem dX11_bill_96 : decode cX11_bill 96 = .ok (.invokevirtual 310, 3) := by decide +kernel
theorem dX11_bill_99 : decode cX11_bill 99 = .ok (.iinc 4 1, 3) := by decide +kernel
theorem dX11_bill_102 : decode cX11_bill 102 = .ok (.goto (-50), 3) := by decide +kernel
theorem dX11_bill_105 : decode cX11_bill 105 = .ok (.iload_n 1, 1) := by decide +kernel
theorem dX11_bill_106 : decode cX11_bill 106 = .ok (.iconst 4, 1) := by decide +kernel
theorem dX11_bill_107 : decode cX11_bill 107 = .ok (.if_icmp .ne 7, 3) := by decide +kernel
theorem dX11_bill_110 : decode cX11_bill 110 = .ok (.iload_n 3, 1) := by decide +kernel
theorem dX11_bill_111 : decode cX11_bill 111 = .ok (.goto 12, 3) := by decide +kernel
theorem dX11_bill_114 : decode cX11_bill 114 = .ok (.aload_n 0, 1) := by decide +kernel
theorem dX11_bill_115 : decode cX11_bill 115 = .ok (.getfield 94, 3) := by decide +kernel
theorem dX11_bill_118 : decode cX11_bill 118 = .ok (.getfield 313, 3) := by decide +kernel
theorem dX11_bill_121 : decode cX11_bill 121 = .ok (.iload_n 1, 1) := by decide +kernel
theorem dX11_bill_122 : decode cX11_bill 122 = .ok (.iaload, 1) := by decide +kernel
theorem dX11_bill_123 : decode cX11_bill 123 = .ok (.ireturn, 1) := by decide +kernel
theorem dX11_groundByBill_0 : decode cX11_groundByBill 0 = .ok (.aload_n 0, 1) := by decide +kernel
theorem dX11_groundByBill_1 : decode cX11_groundByBill 1 = .ok (.invokevirtual 291, 3) := by decide +kernel
theorem dX11_groundByBill_4 : decode cX11_groundByBill 4 = .ok (.aload_n 0, 1) := by decide +kernel
theorem dX11_groundByBill_5 : decode cX11_groundByBill 5 = .ok (.getfield 49, 3) := by decide +kernel
theorem dX11_groundByBill_8 : decode cX11_groundByBill 8 = .ok (.iconst 0, 1) := by decide +kernel
theorem dX11_groundByBill_9 : decode cX11_groundByBill 9 = .ok (.putfield 316, 3) := by decide +kernel
theorem dX11_groundByBill_12 : decode cX11_groundByBill 12 = .ok (.iconst 0, 1) := by decide +kernel
theorem dX11_groundByBill_13 : decode cX11_groundByBill 13 = .ok (.istore_n 2, 1) := by decide +kernel
theorem dX11_groundByBill_14 : decode cX11_groundByBill 14 = .ok (.iload_n 2, 1) := by decide +kernel
theorem dX11_groundByBill_15 : decode cX11_groundByBill 15 = .ok (.iload_n 1, 1) := by decide +kernel
theorem dX11_groundByBill_16 : decode cX11_groundByBill 16 = .ok (.if_icmp .ge 54, 3) := by decide +kernel
theorem dX11_groundByBill_19 : decode cX11_groundByBill 19 = .ok (.aload_n 0, 1) := by decide +kernel
theorem dX11_groundByBill_20 : decode cX11_groundByBill 20 = .ok (.getfield 94, 3) := by decide +kernel
theorem dX11_groundByBill_23 : decode cX11_groundByBill 23 = .ok (.getfield 319, 3) := by decide +kernel
theorem dX11_groundByBill_26 : decode cX11_groundByBill 26 = .ok (.iload_n 2, 1) := by decide +kernel
theorem dX11_groundByBill_27 : decode cX11_groundByBill 27 = .ok (.iaload, 1) := by decide +kernel
theorem dX11_groundByBill_28 : decode cX11_groundByBill 28 = .ok (.istore_n 3, 1) := by decide +kernel
theorem dX11_groundByBill_29 : decode cX11_groundByBill 29 = .ok (.aload_n 0, 1) := by decide +kernel
theorem dX11_groundByBill_30 : decode cX11_groundByBill 30 = .ok (.getfield 60, 3) := by decide +kernel
theorem dX11_groundByBill_33 : decode cX11_groundByBill 33 = .ok (.iload_n 3, 1) := by decide +kernel
theorem dX11_groundByBill_34 : decode cX11_groundByBill 34 = .ok (.aload_n 0, 1) := by decide +kernel
theorem dX11_groundByBill_35 : decode cX11_groundByBill 35 = .ok (.getfield 30, 3) := by decide +kernel
theorem dX11_groundByBill_38 : decode cX11_groundByBill 38 = .ok (.iload_n 3, 1) := by decide +kernel
theorem dX11_groundByBill_39 : decode cX11_groundByBill 39 = .ok (.invokevirtual 177, 3) := by decide +kernel
theorem dX11_groundByBill_42 : decode cX11_groundByBill 42 = .ok (.invokevirtual 251, 3) := by decide +kernel
theorem dX11_groundByBill_45 : decode cX11_groundByBill 45 = .ok (.aload_n 0, 1) := by decide +kernel
theorem dX11_groundByBill_46 : decode cX11_groundByBill 46 = .ok (.getfield 49, 3) := by decide +kernel
theorem dX11_groundByBill_49 : decode cX11_groundByBill 49 = .ok (.aload_n 0, 1) := by decide +kernel
theorem dX11_groundByBill_50 : decode cX11_groundByBill 50 = .ok (.getfield 60, 3) := by decide +kernel
theorem dX11_groundByBill_53 : decode cX11_groundByBill 53 = .ok (.aload_n 0, 1) := by decide +kernel
theorem dX11_groundByBill_54 : decode cX11_groundByBill 54 = .ok (.getfield 30, 3) := by decide +kernel
theorem dX11_groundByBill_57 : decode cX11_groundByBill 57 = .ok (.iload_n 3, 1) := by decide +kernel
theorem dX11_groundByBill_58 : decode cX11_groundByBill 58 = .ok (.invokevirtual 177, 3) := by decide +kernel
theorem dX11_groundByBill_61 : decode cX11_groundByBill 61 = .ok (.invokevirtual 277, 3) := by decide +kernel
theorem dX11_groundByBill_64 : decode cX11_groundByBill 64 = .ok (.iinc 2 1, 3) := by decide +kernel
theorem dX11_groundByBill_67 : decode cX11_groundByBill 67 = .ok (.goto (-53), 3) := by decide +kernel
theorem dX11_groundByBill_70 : decode cX11_groundByBill 70 = .ok (.aload_n 0, 1) := by decide +kernel
theorem dX11_groundByBill_71 : decode cX11_groundByBill 71 = .ok (.getfield 60, 3) := by decide +kernel
theorem dX11_groundByBill_74 : decode cX11_groundByBill 74 = .ok (.getfield 238, 3) := by decide +kernel
theorem dX11_groundByBill_77 : decode cX11_groundByBill 77 = .ok (.ireturn, 1) := by decide +kernel
theorem dX11_seats_0 : decode cX11_seats 0 = .ok (.aload_n 0, 1) := by decide +kernel
theorem dX11_seats_1 : decode cX11_seats 1 = .ok (.getfield 30, 3) := by decide +kernel
theorem dX11_seats_4 : decode cX11_seats 4 = .ok (.getfield 127, 3) := by decide +kernel
theorem dX11_seats_7 : decode cX11_seats 7 = .ok (.iload_n 1, 1) := by decide +kernel
theorem dX11_seats_8 : decode cX11_seats 8 = .ok (.invokevirtual 143, 3) := by decide +kernel
theorem dX11_seats_11 : decode cX11_seats 11 = .ok (.ifCond .eq 13, 3) := by decide +kernel
theorem dX11_seats_14 : decode cX11_seats 14 = .ok (.iload_n 2, 1) := by decide +kernel
theorem dX11_seats_15 : decode cX11_seats 15 = .ok (.ifCond .lt 9, 3) := by decide +kernel
theorem dX11_seats_18 : decode cX11_seats 18 = .ok (.iload_n 2, 1) := by decide +kernel
theorem dX11_seats_19 : decode cX11_seats 19 = .ok (.bipush 6, 2) := by decide +kernel
theorem dX11_seats_21 : decode cX11_seats 21 = .ok (.if_icmp .le 6, 3) := by decide +kernel
theorem dX11_seats_24 : decode cX11_seats 24 = .ok (.ldc 250, 2) := by decide +kernel
theorem dX11_seats_26 : decode cX11_seats 26 = .ok (.ireturn, 1) := by decide +kernel
theorem dX11_seats_27 : decode cX11_seats 27 = .ok (.aload_n 0, 1) := by decide +kernel
theorem dX11_seats_28 : decode cX11_seats 28 = .ok (.getfield 30, 3) := by decide +kernel
theorem dX11_seats_31 : decode cX11_seats 31 = .ok (.getfield 137, 3) := by decide +kernel
theorem dX11_seats_34 : decode cX11_seats 34 = .ok (.getfield 211, 3) := by decide +kernel
theorem dX11_seats_37 : decode cX11_seats 37 = .ok (.istore_n 3, 1) := by decide +kernel
theorem dX11_seats_38 : decode cX11_seats 38 = .ok (.iload_n 2, 1) := by decide +kernel
theorem dX11_seats_39 : decode cX11_seats 39 = .ok (.bipush 6, 2) := by decide +kernel
theorem dX11_seats_41 : decode cX11_seats 41 = .ok (.if_icmp .ge 11, 3) := by decide +kernel
theorem dX11_seats_44 : decode cX11_seats 44 = .ok (.iload_n 2, 1) := by decide +kernel
theorem dX11_seats_45 : decode cX11_seats 45 = .ok (.iload_n 3, 1) := by decide +kernel
theorem dX11_seats_46 : decode cX11_seats 46 = .ok (.if_icmp .lt 6, 3) := by decide +kernel
theorem dX11_seats_49 : decode cX11_seats 49 = .ok (.bipush (-2), 2) := by decide +kernel
theorem dX11_seats_51 : decode cX11_seats 51 = .ok (.ireturn, 1) := by decide +kernel
theorem dX11_seats_52 : decode cX11_seats 52 = .ok (.aload_n 0, 1) := by decide +kernel
theorem dX11_seats_53 : decode cX11_seats 53 = .ok (.iload_n 1, 1) := by decide +kernel
theorem dX11_seats_54 : decode cX11_seats 54 = .ok (.iload_n 3, 1) := by decide +kernel
theorem dX11_seats_55 : decode cX11_seats 55 = .ok (.invokevirtual 322, 3) := by decide +kernel
theorem dX11_seats_58 : decode cX11_seats 58 = .ok (.istore 4, 2) := by decide +kernel
theorem dX11_seats_60 : decode cX11_seats 60 = .ok (.iload_n 2, 1) := by decide +kernel
theorem dX11_seats_61 : decode cX11_seats 61 = .ok (.bipush 6, 2) := by decide +kernel
theorem dX11_seats_63 : decode cX11_seats 63 = .ok (.if_icmp .ne 8, 3) := by decide +kernel
theorem dX11_seats_66 : decode cX11_seats 66 = .ok (.iload 4, 2) := by decide +kernel
theorem dX11_seats_68 : decode cX11_seats 68 = .ok (.goto 12, 3) := by decide +kernel
theorem dX11_seats_71 : decode cX11_seats 71 = .ok (.aload_n 0, 1) := by decide +kernel
theorem dX11_seats_72 : decode cX11_seats 72 = .ok (.getfield 94, 3) := by decide +kernel
theorem dX11_seats_75 : decode cX11_seats 75 = .ok (.getfield 313, 3) := by decide +kernel
theorem dX11_seats_78 : decode cX11_seats 78 = .ok (.iload_n 2, 1) := by decide +kernel
theorem dX11_seats_79 : decode cX11_seats 79 = .ok (.iaload, 1) := by decide +kernel
theorem dX11_seats_80 : decode cX11_seats 80 = .ok (.ireturn, 1) := by decide +kernel
theorem dX11_bestSeats_0 : decode cX11_bestSeats 0 = .ok (.iconst 0, 1) := by decide +kernel
theorem dX11_bestSeats_1 : decode cX11_bestSeats 1 = .ok (.istore_n 3, 1) := by decide +kernel
theorem dX11_bestSeats_2 : decode cX11_bestSeats 2 = .ok (.aload_n 0, 1) := by decide +kernel
theorem dX11_bestSeats_3 : decode cX11_bestSeats 3 = .ok (.getfield 49, 3) := by decide +kernel
theorem dX11_bestSeats_6 : decode cX11_bestSeats 6 = .ok (.aload_n 0, 1) := by decide +kernel
theorem dX11_bestSeats_7 : decode cX11_bestSeats 7 = .ok (.getfield 30, 3) := by decide +kernel
theorem dX11_bestSeats_10 : decode cX11_bestSeats 10 = .ok (.invokevirtual 198, 3) := by decide +kernel
theorem dX11_bestSeats_13 : decode cX11_bestSeats 13 = .ok (.aload_n 0, 1) := by decide +kernel
theorem dX11_bestSeats_14 : decode cX11_bestSeats 14 = .ok (.getfield 98, 3) := by decide +kernel
theorem dX11_bestSeats_17 : decode cX11_bestSeats 17 = .ok (.bipush 100, 2) := by decide +kernel
theorem dX11_bestSeats_19 : decode cX11_bestSeats 19 = .ok (.invokestatic 325, 3) := by decide +kernel
theorem dX11_bestSeats_22 : decode cX11_bestSeats 22 = .ok (.aload_n 0, 1) := by decide +kernel
theorem dX11_bestSeats_23 : decode cX11_bestSeats 23 = .ok (.getfield 94, 3) := by decide +kernel
theorem dX11_bestSeats_26 : decode cX11_bestSeats 26 = .ok (.iload_n 2, 1) := by decide +kernel
theorem dX11_bestSeats_27 : decode cX11_bestSeats 27 = .ok (.invokevirtual 300, 3) := by decide +kernel
theorem dX11_bestSeats_30 : decode cX11_bestSeats 30 = .ok (.iconst 0, 1) := by decide +kernel
theorem dX11_bestSeats_31 : decode cX11_bestSeats 31 = .ok (.istore 4, 2) := by decide +kernel
theorem dX11_bestSeats_33 : decode cX11_bestSeats 33 = .ok (.iload 4, 2) := by decide +kernel
theorem dX11_bestSeats_35 : decode cX11_bestSeats 35 = .ok (.aload_n 0, 1) := by decide +kernel
theorem dX11_bestSeats_36 : decode cX11_bestSeats 36 = .ok (.getfield 94, 3) := by decide +kernel
theorem dX11_bestSeats_39 : decode cX11_bestSeats 39 = .ok (.getfield 301, 3) := by decide +kernel
theorem dX11_bestSeats_42 : decode cX11_bestSeats 42 = .ok (.if_icmp .ge 45, 3) := by decide +kernel
theorem dX11_bestSeats_45 : decode cX11_bestSeats 45 = .ok (.aload_n 0, 1) := by decide +kernel
theorem dX11_bestSeats_46 : decode cX11_bestSeats 46 = .ok (.iload_n 1, 1) := by decide +kernel
theorem dX11_bestSeats_47 : decode cX11_bestSeats 47 = .ok (.iload_n 2, 1) := by decide +kernel
theorem dX11_bestSeats_48 : decode cX11_bestSeats 48 = .ok (.invokevirtual 331, 3) := by decide +kernel
theorem dX11_bestSeats_51 : decode cX11_bestSeats 51 = .ok (.istore 5, 2) := by decide +kernel
theorem dX11_bestSeats_53 : decode cX11_bestSeats 53 = .ok (.iload 4, 2) := by decide +kernel
theorem dX11_bestSeats_55 : decode cX11_bestSeats 55 = .ok (.ifCond .eq 9, 3) := by decide +kernel
theorem dX11_bestSeats_58 : decode cX11_bestSeats 58 = .ok (.iload 5, 2) := by decide +kernel
theorem dX11_bestSeats_60 : decode cX11_bestSeats 60 = .ok (.iload_n 3, 1) := by decide +kernel
theorem dX11_bestSeats_61 : decode cX11_bestSeats 61 = .ok (.if_icmp .le 13, 3) := by decide +kernel
theorem dX11_bestSeats_64 : decode cX11_bestSeats 64 = .ok (.iload 5, 2) := by decide +kernel
theorem dX11_bestSeats_66 : decode cX11_bestSeats 66 = .ok (.istore_n 3, 1) := by decide +kernel
theorem dX11_bestSeats_67 : decode cX11_bestSeats 67 = .ok (.aload_n 0, 1) := by decide +kernel
theorem dX11_bestSeats_68 : decode cX11_bestSeats 68 = .ok (.getfield 94, 3) := by decide +kernel
theorem dX11_bestSeats_71 : decode cX11_bestSeats 71 = .ok (.invokevirtual 307, 3) := by decide +kernel
theorem dX11_bestSeats_74 : decode cX11_bestSeats 74 = .ok (.aload_n 0, 1) := by decide +kernel
theorem dX11_bestSeats_75 : decode cX11_bestSeats 75 = .ok (.getfield 94, 3) := by decide +kernel
theorem dX11_bestSeats_78 : decode cX11_bestSeats 78 = .ok (.invokevirtual 310, 3) := by decide +kernel
theorem dX11_bestSeats_81 : decode cX11_bestSeats 81 = .ok (.iinc 4 1, 3) := by decide +kernel
theorem dX11_bestSeats_84 : decode cX11_bestSeats 84 = .ok (.goto (-51), 3) := by decide +kernel
theorem dX11_bestSeats_87 : decode cX11_bestSeats 87 = .ok (.iload_n 3, 1) := by decide +kernel
theorem dX11_bestSeats_88 : decode cX11_bestSeats 88 = .ok (.ireturn, 1) := by decide +kernel
theorem dX11_sumBySeats_0 : decode cX11_sumBySeats 0 = .ok (.iconst 0, 1) := by decide +kernel
theorem dX11_sumBySeats_1 : decode cX11_sumBySeats 1 = .ok (.istore_n 3, 1) := by decide +kernel
theorem dX11_sumBySeats_2 : decode cX11_sumBySeats 2 = .ok (.iconst 0, 1) := by decide +kernel
theorem dX11_sumBySeats_3 : decode cX11_sumBySeats 3 = .ok (.istore 4, 2) := by decide +kernel
theorem dX11_sumBySeats_5 : decode cX11_sumBySeats 5 = .ok (.iconst 0, 1) := by decide +kernel
theorem dX11_sumBySeats_6 : decode cX11_sumBySeats 6 = .ok (.istore 5, 2) := by decide +kernel
theorem dX11_sumBySeats_8 : decode cX11_sumBySeats 8 = .ok (.iload 5, 2) := by decide +kernel
theorem dX11_sumBySeats_10 : decode cX11_sumBySeats 10 = .ok (.iload_n 2, 1) := by decide +kernel
theorem dX11_sumBySeats_11 : decode cX11_sumBySeats 11 = .ok (.if_icmp .ge 33, 3) := by decide +kernel
theorem dX11_sumBySeats_14 : decode cX11_sumBySeats 14 = .ok (.aload_n 0, 1) := by decide +kernel
theorem dX11_sumBySeats_15 : decode cX11_sumBySeats 15 = .ok (.iload_n 1, 1) := by decide +kernel
theorem dX11_sumBySeats_16 : decode cX11_sumBySeats 16 = .ok (.aload_n 0, 1) := by decide +kernel
theorem dX11_sumBySeats_17 : decode cX11_sumBySeats 17 = .ok (.getfield 94, 3) := by decide +kernel
theorem dX11_sumBySeats_20 : decode cX11_sumBySeats 20 = .ok (.getfield 319, 3) := by decide +kernel
theorem dX11_sumBySeats_23 : decode cX11_sumBySeats 23 = .ok (.iload 5, 2) := by decide +kernel
theorem dX11_sumBySeats_25 : decode cX11_sumBySeats 25 = .ok (.iaload, 1) := by decide +kernel
theorem dX11_sumBySeats_26 : decode cX11_sumBySeats 26 = .ok (.iload 4, 2) := by decide +kernel
theorem dX11_sumBySeats_28 : decode cX11_sumBySeats 28 = .ok (.invokevirtual 334, 3) := by decide +kernel
theorem dX11_sumBySeats_31 : decode cX11_sumBySeats 31 = .ok (.istore 4, 2) := by decide +kernel
theorem dX11_sumBySeats_33 : decode cX11_sumBySeats 33 = .ok (.iload_n 3, 1) := by decide +kernel
theorem dX11_sumBySeats_34 : decode cX11_sumBySeats 34 = .ok (.iload 4, 2) := by decide +kernel
theorem dX11_sumBySeats_36 : decode cX11_sumBySeats 36 = .ok (.iadd, 1) := by decide +kernel
theorem dX11_sumBySeats_37 : decode cX11_sumBySeats 37 = .ok (.istore_n 3, 1) := by decide +kernel
theorem dX11_sumBySeats_38 : decode cX11_sumBySeats 38 = .ok (.iinc 5 1, 3) := by decide +kernel
theorem dX11_sumBySeats_41 : decode cX11_sumBySeats 41 = .ok (.goto (-33), 3) := by decide +kernel
theorem dX11_sumBySeats_44 : decode cX11_sumBySeats 44 = .ok (.iload_n 3, 1) := by decide +kernel
theorem dX11_sumBySeats_45 : decode cX11_sumBySeats 45 = .ok (.ireturn, 1) := by decide +kernel
theorem dX11_clapBeside_0 : decode cX11_clapBeside 0 = .ok (.iload_n 2, 1) := by decide +kernel
theorem dX11_clapBeside_1 : decode cX11_clapBeside 1 = .ok (.bipush 19, 2) := by decide +kernel
theorem dX11_clapBeside_3 : decode cX11_clapBeside 3 = .ok (.imul, 1) := by decide +kernel
theorem dX11_clapBeside_4 : decode cX11_clapBeside 4 = .ok (.iload_n 3, 1) := by decide +kernel
theorem dX11_clapBeside_5 : decode cX11_clapBeside 5 = .ok (.iadd, 1) := by decide +kernel
theorem dX11_clapBeside_6 : decode cX11_clapBeside 6 = .ok (.bipush 9, 2) := by decide +kernel
theorem dX11_clapBeside_8 : decode cX11_clapBeside 8 = .ok (.iadd, 1) := by decide +kernel
theorem dX11_clapBeside_9 : decode cX11_clapBeside 9 = .ok (.istore 4, 2) := by decide +kernel
theorem dX11_clapBeside_11 : decode cX11_clapBeside 11 = .ok (.iload 4, 2) := by decide +kernel
theorem dX11_clapBeside_13 : decode cX11_clapBeside 13 = .ok (.ifCond .lt 13, 3) := by decide +kernel
theorem dX11_clapBeside_16 : decode cX11_clapBeside 16 = .ok (.iload 4, 2) := by decide +kernel
theorem dX11_clapBeside_18 : decode cX11_clapBeside 18 = .ok (.aload_n 0, 1) := by decide +kernel
theorem dX11_clapBeside_19 : decode cX11_clapBeside 19 = .ok (.getfield 98, 3) := by decide +kernel
theorem dX11_clapBeside_22 : decode cX11_clapBeside 22 = .ok (.arraylength, 1) := by decide +kernel
theorem dX11_clapBeside_23 : decode cX11_clapBeside 23 = .ok (.if_icmp .lt 5, 3) := by decide +kernel
theorem dX11_clapBeside_26 : decode cX11_clapBeside 26 = .ok (.iconst 0, 1) := by decide +kernel
theorem dX11_clapBeside_27 : decode cX11_clapBeside 27 = .ok (.ireturn, 1) := by decide +kernel
theorem dX11_clapBeside_28 : decode cX11_clapBeside 28 = .ok (.aload_n 0, 1) := by decide +kernel
theorem dX11_clapBeside_29 : decode cX11_clapBeside 29 = .ok (.getfield 98, 3) := by decide +kernel
theorem dX11_clapBeside_32 : decode cX11_clapBeside 32 = .ok (.iload 4, 2) := by decide +kernel
theorem dX11_clapBeside_34 : decode cX11_clapBeside 34 = .ok (.iaload, 1) := by decide +kernel
theorem dX11_clapBeside_35 : decode cX11_clapBeside 35 = .ok (.bipush 100, 2) := by decide +kernel
theorem dX11_clapBeside_37 : decode cX11_clapBeside 37 = .ok (.if_icmp .ne 31, 3) := by decide +kernel
theorem dX11_clapBeside_40 : decode cX11_clapBeside 40 = .ok (.aload_n 0, 1) := by decide +kernel
theorem dX11_clapBeside_41 : decode cX11_clapBeside 41 = .ok (.getfield 98, 3) := by decide +kernel
theorem dX11_clapBeside_44 : decode cX11_clapBeside 44 = .ok (.iload 4, 2) := by decide +kernel
theorem dX11_clapBeside_46 : decode cX11_clapBeside 46 = .ok (.aload_n 0, 1) := by decide +kernel
theorem dX11_clapBeside_47 : decode cX11_clapBeside 47 = .ok (.getfield 49, 3) := by decide +kernel
theorem dX11_clapBeside_50 : decode cX11_clapBeside 50 = .ok (.aload_n 0, 1) := by decide +kernel
theorem dX11_clapBeside_51 : decode cX11_clapBeside 51 = .ok (.getfield 56, 3) := by decide +kernel
theorem dX11_clapBeside_54 : decode cX11_clapBeside 54 = .ok (.iload_n 2, 1) := by decide +kernel
theorem dX11_clapBeside_55 : decode cX11_clapBeside 55 = .ok (.aload_n 0, 1) := by decide +kernel
theorem dX11_clapBeside_56 : decode cX11_clapBeside 56 = .ok (.getfield 30, 3) := by decide +kernel
theorem dX11_clapBeside_59 : decode cX11_clapBeside 59 = .ok (.iload_n 1, 1) := by decide +kernel
theorem dX11_clapBeside_60 : decode cX11_clapBeside 60 = .ok (.invokevirtual 174, 3) := by decide +kernel
theorem dX11_clapBeside_63 : decode cX11_clapBeside 63 = .ok (.iload_n 3, 1) := by decide +kernel
theorem dX11_clapBeside_64 : decode cX11_clapBeside 64 = .ok (.invokevirtual 338, 3) := by decide +kernel
theorem dX11_clapBeside_67 : decode cX11_clapBeside 67 = .ok (.iastore, 1) := by decide +kernel
theorem dX11_clapBeside_68 : decode cX11_clapBeside 68 = .ok (.aload_n 0, 1) := by decide +kernel
theorem dX11_clapBeside_69 : decode cX11_clapBeside 69 = .ok (.getfield 98, 3) := by decide +kernel
theorem dX11_clapBeside_72 : decode cX11_clapBeside 72 = .ok (.iload 4, 2) := by decide +kernel
theorem dX11_clapBeside_74 : decode cX11_clapBeside 74 = .ok (.iaload, 1) := by decide +kernel
theorem dX11_clapBeside_75 : decode cX11_clapBeside 75 = .ok (.ireturn, 1) := by decide +kernel
theorem dX11_enough_0 : decode cX11_enough 0 = .ok (.aload_n 0, 1) := by decide +kernel
theorem dX11_enough_1 : decode cX11_enough 1 = .ok (.getfield 30, 3) := by decide +kernel
theorem dX11_enough_4 : decode cX11_enough 4 = .ok (.getfield 127, 3) := by decide +kernel
theorem dX11_enough_7 : decode cX11_enough 7 = .ok (.iload_n 1, 1) := by decide +kernel
theorem dX11_enough_8 : decode cX11_enough 8 = .ok (.invokevirtual 143, 3) := by decide +kernel
theorem dX11_enough_11 : decode cX11_enough 11 = .ok (.ifCond .eq 14, 3) := by decide +kernel
theorem dX11_enough_14 : decode cX11_enough 14 = .ok (.iload_n 2, 1) := by decide +kernel
theorem dX11_enough_15 : decode cX11_enough 15 = .ok (.iconst 1, 1) := by decide +kernel
theorem dX11_enough_16 : decode cX11_enough 16 = .ok (.if_icmp .lt 9, 3) := by decide +kernel
theorem dX11_enough_19 : decode cX11_enough 19 = .ok (.iload_n 2, 1) := by decide +kernel
theorem dX11_enough_20 : decode cX11_enough 20 = .ok (.bipush 99, 2) := by decide +kernel
theorem dX11_enough_22 : decode cX11_enough 22 = .ok (.if_icmp .le 5, 3) := by decide +kernel
theorem dX11_enough_25 : decode cX11_enough 25 = .ok (.iconst (-1), 1) := by decide +kernel
theorem dX11_enough_26 : decode cX11_enough 26 = .ok (.ireturn, 1) := by decide +kernel
theorem dX11_enough_27 : decode cX11_enough 27 = .ok (.bipush (-2), 2) := by decide +kernel
theorem dX11_enough_29 : decode cX11_enough 29 = .ok (.istore_n 3, 1) := by decide +kernel
theorem dX11_enough_30 : decode cX11_enough 30 = .ok (.iconst 1, 1) := by decide +kernel
theorem dX11_enough_31 : decode cX11_enough 31 = .ok (.istore 4, 2) := by decide +kernel
theorem dX11_enough_33 : decode cX11_enough 33 = .ok (.iload 4, 2) := by decide +kernel
theorem dX11_enough_35 : decode cX11_enough 35 = .ok (.iconst 1, 1) := by decide +kernel
theorem dX11_enough_36 : decode cX11_enough 36 = .ok (.aload_n 0, 1) := by decide +kernel
theorem dX11_enough_37 : decode cX11_enough 37 = .ok (.getfield 30, 3) := by decide +kernel
theorem dX11_enough_40 : decode cX11_enough 40 = .ok (.getfield 137, 3) := by decide +kernel
theorem dX11_enough_43 : decode cX11_enough 43 = .ok (.getfield 211, 3) := by decide +kernel
theorem dX11_enough_46 : decode cX11_enough 46 = .ok (.ishl, 1) := by decide +kernel
theorem dX11_enough_47 : decode cX11_enough 47 = .ok (.if_icmp .ge 53, 3) := by decide +kernel
theorem dX11_enough_50 : decode cX11_enough 50 = .ok (.iload_n 3, 1) := by decide +kernel
theorem dX11_enough_51 : decode cX11_enough 51 = .ok (.bipush (-2), 2) := by decide +kernel
theorem dX11_enough_53 : decode cX11_enough 53 = .ok (.if_icmp .eq 15, 3) := by decide +kernel
theorem dX11_enough_56 : decode cX11_enough 56 = .ok (.iload 4, 2) := by decide +kernel
theorem dX11_enough_58 : decode cX11_enough 58 = .ok (.invokestatic 342, 3) := by decide +kernel
theorem dX11_enough_61 : decode cX11_enough 61 = .ok (.iload_n 3, 1) := by decide +kernel
theorem dX11_enough_62 : decode cX11_enough 62 = .ok (.invokestatic 342, 3) := by decide +kernel
theorem dX11_enough_65 : decode cX11_enough 65 = .ok (.if_icmp .ge 7, 3) := by decide +kernel
theorem dX11_enough_68 : decode cX11_enough 68 = .ok (.iconst 1, 1) := by decide +kernel
theorem dX11_enough_69 : decode cX11_enough 69 = .ok (.goto 4, 3) := by decide +kernel
theorem dX11_enough_72 : decode cX11_enough 72 = .ok (.iconst 0, 1) := by decide +kernel
theorem dX11_enough_73 : decode cX11_enough 73 = .ok (.istore 5, 2) := by decide +kernel
theorem dX11_enough_75 : decode cX11_enough 75 = .ok (.iload 5, 2) := by decide +kernel
theorem dX11_enough_77 : decode cX11_enough 77 = .ok (.ifCond .eq 17, 3) := by decide +kernel
theorem dX11_enough_80 : decode cX11_enough 80 = .ok (.aload_n 0, 1) := by decide +kernel
theorem dX11_enough_81 : decode cX11_enough 81 = .ok (.iload_n 1, 1) := by decide +kernel
theorem dX11_enough_82 : decode cX11_enough 82 = .ok (.iload 4, 2) := by decide +kernel
theorem dX11_enough_84 : decode cX11_enough 84 = .ok (.invokevirtual 345, 3) := by decide +kernel
theorem dX11_enough_87 : decode cX11_enough 87 = .ok (.iload_n 2, 1) := by decide +kernel
theorem dX11_enough_88 : decode cX11_enough 88 = .ok (.if_icmp .lt 6, 3) := by decide +kernel
theorem dX11_enough_91 : decode cX11_enough 91 = .ok (.iload 4, 2) := by decide +kernel
theorem dX11_enough_93 : decode cX11_enough 93 = .ok (.istore_n 3, 1) := by decide +kernel
theorem dX11_enough_94 : decode cX11_enough 94 = .ok (.iinc 4 1, 3) := by decide +kernel
theorem dX11_enough_97 : decode cX11_enough 97 = .ok (.goto (-64), 3) := by decide +kernel
theorem dX11_enough_100 : decode cX11_enough 100 = .ok (.iload_n 3, 1) := by decide +kernel
theorem dX11_enough_101 : decode cX11_enough 101 = .ok (.ireturn, 1) := by decide +kernel
theorem dX11_sumOf_0 : decode cX11_sumOf 0 = .ok (.iconst 0, 1) := by decide +kernel
theorem dX11_sumOf_1 : decode cX11_sumOf 1 = .ok (.istore_n 3, 1) := by decide +kernel
theorem dX11_sumOf_2 : decode cX11_sumOf 2 = .ok (.iconst 0, 1) := by decide +kernel
theorem dX11_sumOf_3 : decode cX11_sumOf 3 = .ok (.istore 4, 2) := by decide +kernel
theorem dX11_sumOf_5 : decode cX11_sumOf 5 = .ok (.iload 4, 2) := by decide +kernel
theorem dX11_sumOf_7 : decode cX11_sumOf 7 = .ok (.aload_n 0, 1) := by decide +kernel
theorem dX11_sumOf_8 : decode cX11_sumOf 8 = .ok (.getfield 30, 3) := by decide +kernel
theorem dX11_sumOf_11 : decode cX11_sumOf 11 = .ok (.getfield 137, 3) := by decide +kernel
theorem dX11_sumOf_14 : decode cX11_sumOf 14 = .ok (.getfield 211, 3) := by decide +kernel
theorem dX11_sumOf_17 : decode cX11_sumOf 17 = .ok (.if_icmp .ge 39, 3) := by decide +kernel
theorem dX11_sumOf_20 : decode cX11_sumOf 20 = .ok (.iload_n 2, 1) := by decide +kernel
theorem dX11_sumOf_21 : decode cX11_sumOf 21 = .ok (.iload 4, 2) := by decide +kernel
theorem dX11_sumOf_23 : decode cX11_sumOf 23 = .ok (.ishr, 1) := by decide +kernel
theorem dX11_sumOf_24 : decode cX11_sumOf 24 = .ok (.iconst 1, 1) := by decide +kernel
theorem dX11_sumOf_25 : decode cX11_sumOf 25 = .ok (.iand, 1) := by decide +kernel
theorem dX11_sumOf_26 : decode cX11_sumOf 26 = .ok (.iconst 1, 1) := by decide +kernel
theorem dX11_sumOf_27 : decode cX11_sumOf 27 = .ok (.if_icmp .ne 23, 3) := by decide +kernel
theorem dX11_sumOf_30 : decode cX11_sumOf 30 = .ok (.iload_n 3, 1) := by decide +kernel
theorem dX11_sumOf_31 : decode cX11_sumOf 31 = .ok (.aload_n 0, 1) := by decide +kernel
theorem dX11_sumOf_32 : decode cX11_sumOf 32 = .ok (.getfield 30, 3) := by decide +kernel
theorem dX11_sumOf_35 : decode cX11_sumOf 35 = .ok (.iload 4, 2) := by decide +kernel
theorem dX11_sumOf_37 : decode cX11_sumOf 37 = .ok (.aload_n 0, 1) := by decide +kernel
theorem dX11_sumOf_38 : decode cX11_sumOf 38 = .ok (.getfield 30, 3) := by decide +kernel
theorem dX11_sumOf_41 : decode cX11_sumOf 41 = .ok (.iload_n 1, 1) := by decide +kernel
theorem dX11_sumOf_42 : decode cX11_sumOf 42 = .ok (.invokevirtual 174, 3) := by decide +kernel
theorem dX11_sumOf_45 : decode cX11_sumOf 45 = .ok (.invokevirtual 348, 3) := by decide +kernel
theorem dX11_sumOf_48 : decode cX11_sumOf 48 = .ok (.iadd, 1) := by decide +kernel
theorem dX11_sumOf_49 : decode cX11_sumOf 49 = .ok (.istore_n 3, 1) := by decide +kernel
theorem dX11_sumOf_50 : decode cX11_sumOf 50 = .ok (.iinc 4 1, 3) := by decide +kernel
theorem dX11_sumOf_53 : decode cX11_sumOf 53 = .ok (.goto (-48), 3) := by decide +kernel
theorem dX11_sumOf_56 : decode cX11_sumOf 56 = .ok (.iload_n 3, 1) := by decide +kernel
theorem dX11_sumOf_57 : decode cX11_sumOf 57 = .ok (.ireturn, 1) := by decide +kernel
theorem dX11_span_0 : decode cX11_span 0 = .ok (.aload_n 0, 1) := by decide +kernel
theorem dX11_span_1 : decode cX11_span 1 = .ok (.getfield 30, 3) := by decide +kernel
theorem dX11_span_4 : decode cX11_span 4 = .ok (.getfield 140, 3) := by decide +kernel
theorem dX11_span_7 : decode cX11_span 7 = .ok (.iload_n 1, 1) := by decide +kernel
theorem dX11_span_8 : decode cX11_span 8 = .ok (.invokevirtual 143, 3) := by decide +kernel
theorem dX11_span_11 : decode cX11_span 11 = .ok (.ifCond .ne 5, 3) := by decide +kernel
theorem dX11_span_14 : decode cX11_span 14 = .ok (.iconst (-1), 1) := by decide +kernel
theorem dX11_span_15 : decode cX11_span 15 = .ok (.ireturn, 1) := by decide +kernel
theorem dX11_span_16 : decode cX11_span 16 = .ok (.aload_n 0, 1) := by decide +kernel
theorem dX11_span_17 : decode cX11_span 17 = .ok (.getfield 49, 3) := by decide +kernel
theorem dX11_span_20 : decode cX11_span 20 = .ok (.aload_n 0, 1) := by decide +kernel
theorem dX11_span_21 : decode cX11_span 21 = .ok (.getfield 30, 3) := by decide +kernel
theorem dX11_span_24 : decode cX11_span 24 = .ok (.invokevirtual 198, 3) := by decide +kernel
theorem dX11_span_27 : decode cX11_span 27 = .ok (.iconst 0, 1) := by decide +kernel
theorem dX11_span_28 : decode cX11_span 28 = .ok (.istore_n 2, 1) := by decide +kernel
theorem dX11_span_29 : decode cX11_span 29 = .ok (.iconst 1, 1) := by decide +kernel
theorem dX11_span_30 : decode cX11_span 30 = .ok (.istore_n 3, 1) := by decide +kernel
theorem dX11_span_31 : decode cX11_span 31 = .ok (.iload_n 3, 1) := by decide +kernel
theorem dX11_span_32 : decode cX11_span 32 = .ok (.bipush 99, 2) := by decide +kernel
theorem dX11_span_34 : decode cX11_span 34 = .ok (.if_icmp .gt 28, 3) := by decide +kernel
theorem dX11_span_37 : decode cX11_span 37 = .ok (.aload_n 0, 1) := by decide +kernel
theorem dX11_span_38 : decode cX11_span 38 = .ok (.getfield 49, 3) := by decide +kernel
theorem dX11_span_41 : decode cX11_span 41 = .ok (.aload_n 0, 1) := by decide +kernel
theorem dX11_span_42 : decode cX11_span 42 = .ok (.getfield 56, 3) := by decide +kernel
theorem dX11_span_45 : decode cX11_span 45 = .ok (.iload_n 3, 1) := by decide +kernel
theorem dX11_span_46 : decode cX11_span 46 = .ok (.invokevirtual 351, 3) := by decide +kernel
theorem dX11_span_49 : decode cX11_span 49 = .ok (.iload_n 1, 1) := by decide +kernel
theorem dX11_span_50 : decode cX11_span 50 = .ok (.if_icmp .ne 6, 3) := by decide +kernel
theorem dX11_span_53 : decode cX11_span 53 = .ok (.iinc 2 1, 3) := by decide +kernel
theorem dX11_span_56 : decode cX11_span 56 = .ok (.iinc 3 1, 3) := by decide +kernel
theorem dX11_span_59 : decode cX11_span 59 = .ok (.goto (-28), 3) := by decide +kernel
theorem dX11_span_62 : decode cX11_span 62 = .ok (.iload_n 2, 1) := by decide +kernel
theorem dX11_span_63 : decode cX11_span 63 = .ok (.ireturn, 1) := by decide +kernel
theorem dX11_pushFor_0 : decode cX11_pushFor 0 = .ok (.iload_n 1, 1) := by decide +kernel
theorem dX11_pushFor_1 : decode cX11_pushFor 1 = .ok (.ifCond .lt 20, 3) := by decide +kernel
theorem dX11_pushFor_4 : decode cX11_pushFor 4 = .ok (.iload_n 1, 1) := by decide +kernel
theorem dX11_pushFor_5 : decode cX11_pushFor 5 = .ok (.bipush 60, 2) := by decide +kernel
theorem dX11_pushFor_7 : decode cX11_pushFor 7 = .ok (.if_icmp .gt 14, 3) := by decide +kernel
theorem dX11_pushFor_10 : decode cX11_pushFor 10 = .ok (.iload_n 2, 1) := by decide +kernel
theorem dX11_pushFor_11 : decode cX11_pushFor 11 = .ok (.iconst 1, 1) := by decide +kernel
theorem dX11_pushFor_12 : decode cX11_pushFor 12 = .ok (.if_icmp .lt 9, 3) := by decide +kernel
theorem dX11_pushFor_15 : decode cX11_pushFor 15 = .ok (.iload_n 2, 1) := by decide +kernel
theorem dX11_pushFor_16 : decode cX11_pushFor 16 = .ok (.bipush 99, 2) := by decide +kernel
theorem dX11_pushFor_18 : decode cX11_pushFor 18 = .ok (.if_icmp .le 5, 3) := by decide +kernel
theorem dX11_pushFor_21 : decode cX11_pushFor 21 = .ok (.iconst (-1), 1) := by decide +kernel
theorem dX11_pushFor_22 : decode cX11_pushFor 22 = .ok (.ireturn, 1) := by decide +kernel
theorem dX11_pushFor_23 : decode cX11_pushFor 23 = .ok (.iconst 0, 1) := by decide +kernel
theorem dX11_pushFor_24 : decode cX11_pushFor 24 = .ok (.istore_n 3, 1) := by decide +kernel
theorem dX11_pushFor_25 : decode cX11_pushFor 25 = .ok (.iload_n 3, 1) := by decide +kernel
theorem dX11_pushFor_26 : decode cX11_pushFor 26 = .ok (.bipush 99, 2) := by decide +kernel
theorem dX11_pushFor_28 : decode cX11_pushFor 28 = .ok (.if_icmp .gt 54, 3) := by decide +kernel
theorem dX11_pushFor_31 : decode cX11_pushFor 31 = .ok (.aload_n 0, 1) := by decide +kernel
theorem dX11_pushFor_32 : decode cX11_pushFor 32 = .ok (.invokevirtual 291, 3) := by decide +kernel
theorem dX11_pushFor_35 : decode cX11_pushFor 35 = .ok (.aload_n 0, 1) := by decide +kernel
theorem dX11_pushFor_36 : decode cX11_pushFor 36 = .ok (.getfield 60, 3) := by decide +kernel
theorem dX11_pushFor_39 : decode cX11_pushFor 39 = .ok (.iload_n 3, 1) := by decide +kernel
theorem dX11_pushFor_40 : decode cX11_pushFor 40 = .ok (.putfield 232, 3) := by decide +kernel
theorem dX11_pushFor_43 : decode cX11_pushFor 43 = .ok (.aload_n 0, 1) := by decide +kernel
theorem dX11_pushFor_44 : decode cX11_pushFor 44 = .ok (.getfield 49, 3) := by decide +kernel
theorem dX11_pushFor_47 : decode cX11_pushFor 47 = .ok (.aload_n 0, 1) := by decide +kernel
theorem dX11_pushFor_48 : decode cX11_pushFor 48 = .ok (.getfield 60, 3) := by decide +kernel
theorem dX11_pushFor_51 : decode cX11_pushFor 51 = .ok (.iload_n 1, 1) := by decide +kernel
theorem dX11_pushFor_52 : decode cX11_pushFor 52 = .ok (.invokevirtual 277, 3) := by decide +kernel
theorem dX11_pushFor_55 : decode cX11_pushFor 55 = .ok (.aload_n 0, 1) := by decide +kernel
theorem dX11_pushFor_56 : decode cX11_pushFor 56 = .ok (.getfield 60, 3) := by decide +kernel
theorem dX11_pushFor_59 : decode cX11_pushFor 59 = .ok (.getfield 238, 3) := by decide +kernel
theorem dX11_pushFor_62 : decode cX11_pushFor 62 = .ok (.aload_n 0, 1) := by decide +kernel
theorem dX11_pushFor_63 : decode cX11_pushFor 63 = .ok (.getfield 56, 3) := by decide +kernel
theorem dX11_pushFor_66 : decode cX11_pushFor 66 = .ok (.getfield 238, 3) := by decide +kernel
theorem dX11_pushFor_69 : decode cX11_pushFor 69 = .ok (.isub, 1) := by decide +kernel
theorem dX11_pushFor_70 : decode cX11_pushFor 70 = .ok (.iload_n 2, 1) := by decide +kernel
theorem dX11_pushFor_71 : decode cX11_pushFor 71 = .ok (.if_icmp .lt 5, 3) := by decide +kernel
theorem dX11_pushFor_74 : decode cX11_pushFor 74 = .ok (.iload_n 3, 1) := by decide +kernel
theorem dX11_pushFor_75 : decode cX11_pushFor 75 = .ok (.ireturn, 1) := by decide +kernel
theorem dX11_pushFor_76 : decode cX11_pushFor 76 = .ok (.iinc 3 1, 3) := by decide +kernel
theorem dX11_pushFor_79 : decode cX11_pushFor 79 = .ok (.goto (-54), 3) := by decide +kernel
theorem dX11_pushFor_82 : decode cX11_pushFor 82 = .ok (.bipush (-2), 2) := by decide +kernel
theorem dX11_pushFor_84 : decode cX11_pushFor 84 = .ok (.ireturn, 1) := by decide +kernel
theorem dX11_silence_0 : decode cX11_silence 0 = .ok (.iload_n 1, 1) := by decide +kernel
theorem dX11_silence_1 : decode cX11_silence 1 = .ok (.ifCond .lt 10, 3) := by decide +kernel
theorem dX11_silence_4 : decode cX11_silence 4 = .ok (.iload_n 1, 1) := by decide +kernel
theorem dX11_silence_5 : decode cX11_silence 5 = .ok (.sipush 200, 3) := by decide +kernel
theorem dX11_silence_8 : decode cX11_silence 8 = .ok (.if_icmp .le 5, 3) := by decide +kernel
theorem dX11_silence_11 : decode cX11_silence 11 = .ok (.iconst (-1), 1) := by decide +kernel
theorem dX11_silence_12 : decode cX11_silence 12 = .ok (.ireturn, 1) := by decide +kernel
theorem dX11_silence_13 : decode cX11_silence 13 = .ok (.aload_n 0, 1) := by decide +kernel
theorem dX11_silence_14 : decode cX11_silence 14 = .ok (.invokevirtual 291, 3) := by decide +kernel
theorem dX11_silence_17 : decode cX11_silence 17 = .ok (.iconst 0, 1) := by decide +kernel
theorem dX11_silence_18 : decode cX11_silence 18 = .ok (.istore_n 2, 1) := by decide +kernel
theorem dX11_silence_19 : decode cX11_silence 19 = .ok (.iconst 0, 1) := by decide +kernel
theorem dX11_silence_20 : decode cX11_silence 20 = .ok (.istore_n 3, 1) := by decide +kernel
theorem dX11_silence_21 : decode cX11_silence 21 = .ok (.iconst 0, 1) := by decide +kernel
theorem dX11_silence_22 : decode cX11_silence 22 = .ok (.istore 4, 2) := by decide +kernel
theorem dX11_silence_24 : decode cX11_silence 24 = .ok (.iload 4, 2) := by decide +kernel
theorem dX11_silence_26 : decode cX11_silence 26 = .ok (.iload_n 1, 1) := by decide +kernel
theorem dX11_silence_27 : decode cX11_silence 27 = .ok (.if_icmp .ge 45, 3) := by decide +kernel
theorem dX11_silence_30 : decode cX11_silence 30 = .ok (.aload_n 0, 1) := by decide +kernel
theorem dX11_silence_31 : decode cX11_silence 31 = .ok (.getfield 49, 3) := by decide +kernel
theorem dX11_silence_34 : decode cX11_silence 34 = .ok (.aload_n 0, 1) := by decide +kernel
theorem dX11_silence_35 : decode cX11_silence 35 = .ok (.getfield 60, 3) := by decide +kernel
theorem dX11_silence_38 : decode cX11_silence 38 = .ok (.iconst 1, 1) := by decide +kernel
theorem dX11_silence_39 : decode cX11_silence 39 = .ok (.invokevirtual 277, 3) := by decide +kernel
theorem dX11_silence_42 : decode cX11_silence 42 = .ok (.aload_n 0, 1) := by decide +kernel
theorem dX11_silence_43 : decode cX11_silence 43 = .ok (.getfield 60, 3) := by decide +kernel
theorem dX11_silence_46 : decode cX11_silence 46 = .ok (.getfield 232, 3) := by decide +kernel
theorem dX11_silence_49 : decode cX11_silence 49 = .ok (.ifCond .ne 9, 3) := by decide +kernel
theorem dX11_silence_52 : decode cX11_silence 52 = .ok (.iload_n 3, 1) := by decide +kernel
theorem dX11_silence_53 : decode cX11_silence 53 = .ok (.iconst 1, 1) := by decide +kernel
theorem dX11_silence_54 : decode cX11_silence 54 = .ok (.iadd, 1) := by decide +kernel
theorem dX11_silence_55 : decode cX11_silence 55 = .ok (.goto 4, 3) := by decide +kernel
theorem dX11_silence_58 : decode cX11_silence 58 = .ok (.iconst 0, 1) := by decide +kernel
theorem dX11_silence_59 : decode cX11_silence 59 = .ok (.istore_n 3, 1) := by decide +kernel
theorem dX11_silence_60 : decode cX11_silence 60 = .ok (.iload_n 2, 1) := by decide +kernel
theorem dX11_silence_61 : decode cX11_silence 61 = .ok (.iload_n 3, 1) := by decide +kernel
theorem dX11_silence_62 : decode cX11_silence 62 = .ok (.invokestatic 355, 3) := by decide +kernel
theorem dX11_silence_65 : decode cX11_silence 65 = .ok (.istore_n 2, 1) := by decide +kernel
theorem dX11_silence_66 : decode cX11_silence 66 = .ok (.iinc 4 1, 3) := by decide +kernel
theorem dX11_silence_69 : decode cX11_silence 69 = .ok (.goto (-45), 3) := by decide +kernel
theorem dX11_silence_72 : decode cX11_silence 72 = .ok (.iload_n 2, 1) := by decide +kernel
theorem dX11_silence_73 : decode cX11_silence 73 = .ok (.ireturn, 1) := by decide +kernel
theorem dX11_game_0 : decode cX11_game 0 = .ok (.aload_n 0, 1) := by decide +kernel
theorem dX11_game_1 : decode cX11_game 1 = .ok (.getfield 30, 3) := by decide +kernel
theorem dX11_game_4 : decode cX11_game 4 = .ok (.getfield 140, 3) := by decide +kernel
theorem dX11_game_7 : decode cX11_game 7 = .ok (.iload_n 1, 1) := by decide +kernel
theorem dX11_game_8 : decode cX11_game 8 = .ok (.invokevirtual 143, 3) := by decide +kernel
theorem dX11_game_11 : decode cX11_game 11 = .ok (.ifCond .eq 12, 3) := by decide +kernel
theorem dX11_game_14 : decode cX11_game 14 = .ok (.iload_n 2, 1) := by decide +kernel
theorem dX11_game_15 : decode cX11_game 15 = .ok (.ifCond .lt 8, 3) := by decide +kernel
theorem dX11_game_18 : decode cX11_game 18 = .ok (.iload_n 2, 1) := by decide +kernel
theorem dX11_game_19 : decode cX11_game 19 = .ok (.iconst 1, 1) := by decide +kernel
theorem dX11_game_20 : decode cX11_game 20 = .ok (.if_icmp .le 5, 3) := by decide +kernel
theorem dX11_game_23 : decode cX11_game 23 = .ok (.iconst (-1), 1) := by decide +kernel
theorem dX11_game_24 : decode cX11_game 24 = .ok (.ireturn, 1) := by decide +kernel
theorem dX11_game_25 : decode cX11_game 25 = .ok (.aload_n 0, 1) := by decide +kernel
theorem dX11_game_26 : decode cX11_game 26 = .ok (.getfield 30, 3) := by decide +kernel
theorem dX11_game_29 : decode cX11_game 29 = .ok (.iload_n 1, 1) := by decide +kernel
theorem dX11_game_30 : decode cX11_game 30 = .ok (.invokevirtual 189, 3) := by decide +kernel
theorem dX11_game_33 : decode cX11_game 33 = .ok (.aload_n 0, 1) := by decide +kernel
theorem dX11_game_34 : decode cX11_game 34 = .ok (.getfield 56, 3) := by decide +kernel
theorem dX11_game_37 : decode cX11_game 37 = .ok (.getfield 232, 3) := by decide +kernel
theorem dX11_game_40 : decode cX11_game 40 = .ok (.isub, 1) := by decide +kernel
theorem dX11_game_41 : decode cX11_game 41 = .ok (.istore_n 3, 1) := by decide +kernel
theorem dX11_game_42 : decode cX11_game 42 = .ok (.iload_n 3, 1) := by decide +kernel
theorem dX11_game_43 : decode cX11_game 43 = .ok (.ifCond .ge 7, 3) := by decide +kernel
theorem dX11_game_46 : decode cX11_game 46 = .ok (.iconst 0, 1) := by decide +kernel
theorem dX11_game_47 : decode cX11_game 47 = .ok (.goto 6, 3) := by decide +kernel
theorem dX11_game_50 : decode cX11_game 50 = .ok (.iload_n 3, 1) := by decide +kernel
theorem dX11_game_51 : decode cX11_game 51 = .ok (.iconst 4, 1) := by decide +kernel
theorem dX11_game_52 : decode cX11_game 52 = .ok (.irem, 1) := by decide +kernel
theorem dX11_game_53 : decode cX11_game 53 = .ok (.istore 4, 2) := by decide +kernel
theorem dX11_game_55 : decode cX11_game 55 = .ok (.iload_n 2, 1) := by decide +kernel
theorem dX11_game_56 : decode cX11_game 56 = .ok (.iconst 1, 1) := by decide +kernel
theorem dX11_game_57 : decode cX11_game 57 = .ok (.if_icmp .ne 16, 3) := by decide +kernel
theorem dX11_game_60 : decode cX11_game 60 = .ok (.iload 4, 2) := by decide +kernel
theorem dX11_game_62 : decode cX11_game 62 = .ok (.ifCond .ne 8, 3) := by decide +kernel
theorem dX11_game_65 : decode cX11_game 65 = .ok (.bipush (-2), 2) := by decide +kernel
theorem dX11_game_67 : decode cX11_game 67 = .ok (.goto 5, 3) := by decide +kernel
theorem dX11_game_70 : decode cX11_game 70 = .ok (.iload 4, 2) := by decide +kernel
theorem dX11_game_72 : decode cX11_game 72 = .ok (.ireturn, 1) := by decide +kernel
theorem dX11_game_73 : decode cX11_game 73 = .ok (.iload_n 3, 1) := by decide +kernel
theorem dX11_game_74 : decode cX11_game 74 = .ok (.ifCond .ge 5, 3) := by decide +kernel
theorem dX11_game_77 : decode cX11_game 77 = .ok (.iconst 2, 1) := by decide +kernel
theorem dX11_game_78 : decode cX11_game 78 = .ok (.ireturn, 1) := by decide +kernel
theorem dX11_game_79 : decode cX11_game 79 = .ok (.iload 4, 2) := by decide +kernel
theorem dX11_game_81 : decode cX11_game 81 = .ok (.ifCond .ne 7, 3) := by decide +kernel
theorem dX11_game_84 : decode cX11_game 84 = .ok (.iconst 1, 1) := by decide +kernel
theorem dX11_game_85 : decode cX11_game 85 = .ok (.goto 4, 3) := by decide +kernel
theorem dX11_game_88 : decode cX11_game 88 = .ok (.iconst 0, 1) := by decide +kernel
theorem dX11_game_89 : decode cX11_game 89 = .ok (.ireturn, 1) := by decide +kernel
theorem dX11_rests_0 : decode cX11_rests 0 = .ok (.aload_n 0, 1) := by decide +kernel
theorem dX11_rests_1 : decode cX11_rests 1 = .ok (.iload_n 1, 1) := by decide +kernel
theorem dX11_rests_2 : decode cX11_rests 2 = .ok (.iload_n 2, 1) := by decide +kernel
theorem dX11_rests_3 : decode cX11_rests 3 = .ok (.invokevirtual 259, 3) := by decide +kernel
theorem dX11_rests_6 : decode cX11_rests 6 = .ok (.ifCond .eq 17, 3) := by decide +kernel
theorem dX11_rests_9 : decode cX11_rests 9 = .ok (.aload_n 0, 1) := by decide +kernel
theorem dX11_rests_10 : decode cX11_rests 10 = .ok (.getfield 30, 3) := by decide +kernel
theorem dX11_rests_13 : decode cX11_rests 13 = .ok (.getfield 127, 3) := by decide +kernel
theorem dX11_rests_16 : decode cX11_rests 16 = .ok (.iload_n 3, 1) := by decide +kernel
theorem dX11_rests_17 : decode cX11_rests 17 = .ok (.invokevirtual 143, 3) := by decide +kernel
theorem dX11_rests_20 : decode cX11_rests 20 = .ok (.ifCond .ne 5, 3) := by decide +kernel
theorem dX11_rests_23 : decode cX11_rests 23 = .ok (.iconst (-1), 1) := by decide +kernel
theorem dX11_rests_24 : decode cX11_rests 24 = .ok (.ireturn, 1) := by decide +kernel
theorem dX11_rests_25 : decode cX11_rests 25 = .ok (.iconst 0, 1) := by decide +kernel
theorem dX11_rests_26 : decode cX11_rests 26 = .ok (.istore 4, 2) := by decide +kernel
theorem dX11_rests_28 : decode cX11_rests 28 = .ok (.iconst 0, 1) := by decide +kernel
theorem dX11_rests_29 : decode cX11_rests 29 = .ok (.istore 5, 2) := by decide +kernel
theorem dX11_rests_31 : decode cX11_rests 31 = .ok (.iload 5, 2) := by decide +kernel
theorem dX11_rests_33 : decode cX11_rests 33 = .ok (.iconst 4, 1) := by decide +kernel
theorem dX11_rests_34 : decode cX11_rests 34 = .ok (.if_icmp .ge 31, 3) := by decide +kernel
theorem dX11_rests_37 : decode cX11_rests 37 = .ok (.aload_n 0, 1) := by decide +kernel
theorem dX11_rests_38 : decode cX11_rests 38 = .ok (.iload_n 1, 1) := by decide +kernel
theorem dX11_rests_39 : decode cX11_rests 39 = .ok (.iload_n 2, 1) := by decide +kernel
theorem dX11_rests_40 : decode cX11_rests 40 = .ok (.aload_n 0, 1) := by decide +kernel
theorem dX11_rests_41 : decode cX11_rests 41 = .ok (.getfield 30, 3) := by decide +kernel
theorem dX11_rests_44 : decode cX11_rests 44 = .ok (.iload_n 3, 1) := by decide +kernel
theorem dX11_rests_45 : decode cX11_rests 45 = .ok (.invokevirtual 174, 3) := by decide +kernel
theorem dX11_rests_48 : decode cX11_rests 48 = .ok (.iload 5, 2) := by decide +kernel
theorem dX11_rests_50 : decode cX11_rests 50 = .ok (.invokevirtual 358, 3) := by decide +kernel
theorem dX11_rests_53 : decode cX11_rests 53 = .ok (.ifCond .eq 6, 3) := by decide +kernel
theorem dX11_rests_56 : decode cX11_rests 56 = .ok (.iinc 4 1, 3) := by decide +kernel
theorem dX11_rests_59 : decode cX11_rests 59 = .ok (.iinc 5 1, 3) := by decide +kernel
theorem dX11_rests_62 : decode cX11_rests 62 = .ok (.goto (-31), 3) := by decide +kernel
theorem dX11_rests_65 : decode cX11_rests 65 = .ok (.iload 4, 2) := by decide +kernel
theorem dX11_rests_67 : decode cX11_rests 67 = .ok (.ireturn, 1) := by decide +kernel
theorem dX11_rest_0 : decode cX11_rest 0 = .ok (.aload_n 0, 1) := by decide +kernel
theorem dX11_rest_1 : decode cX11_rest 1 = .ok (.iload_n 1, 1) := by decide +kernel
theorem dX11_rest_2 : decode cX11_rest 2 = .ok (.iload_n 2, 1) := by decide +kernel
theorem dX11_rest_3 : decode cX11_rest 3 = .ok (.invokevirtual 259, 3) := by decide +kernel
theorem dX11_rest_6 : decode cX11_rest 6 = .ok (.ifCond .eq 22, 3) := by decide +kernel
theorem dX11_rest_9 : decode cX11_rest 9 = .ok (.aload_n 0, 1) := by decide +kernel
theorem dX11_rest_10 : decode cX11_rest 10 = .ok (.getfield 30, 3) := by decide +kernel
theorem dX11_rest_13 : decode cX11_rest 13 = .ok (.getfield 127, 3) := by decide +kernel
theorem dX11_rest_16 : decode cX11_rest 16 = .ok (.iload_n 3, 1) := by decide +kernel
theorem dX11_rest_17 : decode cX11_rest 17 = .ok (.invokevirtual 143, 3) := by decide +kernel
theorem dX11_rest_20 : decode cX11_rest 20 = .ok (.ifCond .eq 8, 3) := by decide +kernel
theorem dX11_rest_23 : decode cX11_rest 23 = .ok (.iload 4, 2) := by decide +kernel
theorem dX11_rest_25 : decode cX11_rest 25 = .ok (.ifCond .ge 5, 3) := by decide +kernel
theorem dX11_rest_28 : decode cX11_rest 28 = .ok (.iconst (-1), 1) := by decide +kernel
theorem dX11_rest_29 : decode cX11_rest 29 = .ok (.ireturn, 1) := by decide +kernel
theorem dX11_rest_30 : decode cX11_rest 30 = .ok (.iconst 0, 1) := by decide +kernel
theorem dX11_rest_31 : decode cX11_rest 31 = .ok (.istore 5, 2) := by decide +kernel
theorem dX11_rest_33 : decode cX11_rest 33 = .ok (.iconst 0, 1) := by decide +kernel
theorem dX11_rest_34 : decode cX11_rest 34 = .ok (.istore 6, 2) := by decide +kernel
theorem dX11_rest_36 : decode cX11_rest 36 = .ok (.iload 6, 2) := by decide +kernel
theorem dX11_rest_38 : decode cX11_rest 38 = .ok (.iconst 4, 1) := by decide +kernel
theorem dX11_rest_39 : decode cX11_rest 39 = .ok (.if_icmp .ge 51, 3) := by decide +kernel
theorem dX11_rest_42 : decode cX11_rest 42 = .ok (.aload_n 0, 1) := by decide +kernel
theorem dX11_rest_43 : decode cX11_rest 43 = .ok (.iload_n 1, 1) := by decide +kernel
theorem dX11_rest_44 : decode cX11_rest 44 = .ok (.iload_n 2, 1) := by decide +kernel
theorem dX11_rest_45 : decode cX11_rest 45 = .ok (.aload_n 0, 1) := by decide +kernel
theorem dX11_rest_46 : decode cX11_rest 46 = .ok (.getfield 30, 3) := by decide +kernel
theorem dX11_rest_49 : decode cX11_rest 49 = .ok (.iload_n 3, 1) := by decide +kernel
theorem dX11_rest_50 : decode cX11_rest 50 = .ok (.invokevirtual 174, 3) := by decide +kernel
theorem dX11_rest_53 : decode cX11_rest 53 = .ok (.iload 6, 2) := by decide +kernel
theorem dX11_rest_55 : decode cX11_rest 55 = .ok (.invokevirtual 358, 3) := by decide +kernel
theorem dX11_rest_58 : decode cX11_rest 58 = .ok (.ifCond .eq 26, 3) := by decide +kernel
theorem dX11_rest_61 : decode cX11_rest 61 = .ok (.iload 5, 2) := by decide +kernel
theorem dX11_rest_63 : decode cX11_rest 63 = .ok (.iload 4, 2) := by decide +kernel
theorem dX11_rest_65 : decode cX11_rest 65 = .ok (.if_icmp .ne 16, 3) := by decide +kernel
theorem dX11_rest_68 : decode cX11_rest 68 = .ok (.bipush 10, 2) := by decide +kernel
theorem dX11_rest_70 : decode cX11_rest 70 = .ok (.iload 6, 2) := by decide +kernel
theorem dX11_rest_72 : decode cX11_rest 72 = .ok (.iconst 1, 1) := by decide +kernel
theorem dX11_rest_73 : decode cX11_rest 73 = .ok (.ishr, 1) := by decide +kernel
theorem dX11_rest_74 : decode cX11_rest 74 = .ok (.imul, 1) := by decide +kernel
theorem dX11_rest_75 : decode cX11_rest 75 = .ok (.iload 6, 2) := by decide +kernel
theorem dX11_rest_77 : decode cX11_rest 77 = .ok (.iconst 1, 1) := by decide +kernel
theorem dX11_rest_78 : decode cX11_rest 78 = .ok (.iand, 1) := by decide +kernel
theorem dX11_rest_79 : decode cX11_rest 79 = .ok (.iadd, 1) := by decide +kernel
theorem dX11_rest_80 : decode cX11_rest 80 = .ok (.ireturn, 1) := by decide +kernel
theorem dX11_rest_81 : decode cX11_rest 81 = .ok (.iinc 5 1, 3) := by decide +kernel
theorem dX11_rest_84 : decode cX11_rest 84 = .ok (.iinc 6 1, 3) := by decide +kernel
theorem dX11_rest_87 : decode cX11_rest 87 = .ok (.goto (-51), 3) := by decide +kernel
theorem dX11_rest_90 : decode cX11_rest 90 = .ok (.bipush (-2), 2) := by decide +kernel
theorem dX11_rest_92 : decode cX11_rest 92 = .ok (.ireturn, 1) := by decide +kernel
theorem dX11_isRest_0 : decode cX11_isRest 0 = .ok (.iload 4, 2) := by decide +kernel
theorem dX11_isRest_2 : decode cX11_isRest 2 = .ok (.iconst 1, 1) := by decide +kernel
theorem dX11_isRest_3 : decode cX11_isRest 3 = .ok (.ishr, 1) := by decide +kernel
theorem dX11_isRest_4 : decode cX11_isRest 4 = .ok (.istore 5, 2) := by decide +kernel
theorem dX11_isRest_6 : decode cX11_isRest 6 = .ok (.iload 4, 2) := by decide +kernel
theorem dX11_isRest_8 : decode cX11_isRest 8 = .ok (.iconst 1, 1) := by decide +kernel
theorem dX11_isRest_9 : decode cX11_isRest 9 = .ok (.iand, 1) := by decide +kernel
theorem dX11_isRest_10 : decode cX11_isRest 10 = .ok (.istore 6, 2) := by decide +kernel
theorem dX11_isRest_12 : decode cX11_isRest 12 = .ok (.aload_n 0, 1) := by decide +kernel
theorem dX11_isRest_13 : decode cX11_isRest 13 = .ok (.iload_n 1, 1) := by decide +kernel
theorem dX11_isRest_14 : decode cX11_isRest 14 = .ok (.iload_n 3, 1) := by decide +kernel
theorem dX11_isRest_15 : decode cX11_isRest 15 = .ok (.iload 5, 2) := by decide +kernel
theorem dX11_isRest_17 : decode cX11_isRest 17 = .ok (.iload 6, 2) := by decide +kernel
theorem dX11_isRest_19 : decode cX11_isRest 19 = .ok (.invokevirtual 362, 3) := by decide +kernel
theorem dX11_isRest_22 : decode cX11_isRest 22 = .ok (.aload_n 0, 1) := by decide +kernel
theorem dX11_isRest_23 : decode cX11_isRest 23 = .ok (.iload_n 1, 1) := by decide +kernel
theorem dX11_isRest_24 : decode cX11_isRest 24 = .ok (.iload_n 3, 1) := by decide +kernel
theorem dX11_isRest_25 : decode cX11_isRest 25 = .ok (.iconst 1, 1) := by decide +kernel
theorem dX11_isRest_26 : decode cX11_isRest 26 = .ok (.iload 5, 2) := by decide +kernel
theorem dX11_isRest_28 : decode cX11_isRest 28 = .ok (.isub, 1) := by decide +kernel
theorem dX11_isRest_29 : decode cX11_isRest 29 = .ok (.iload 6, 2) := by decide +kernel
theorem dX11_isRest_31 : decode cX11_isRest 31 = .ok (.invokevirtual 362, 3) := by decide +kernel
theorem dX11_isRest_34 : decode cX11_isRest 34 = .ok (.if_icmp .lt 32, 3) := by decide +kernel
theorem dX11_isRest_37 : decode cX11_isRest 37 = .ok (.aload_n 0, 1) := by decide +kernel
theorem dX11_isRest_38 : decode cX11_isRest 38 = .ok (.iload_n 2, 1) := by decide +kernel
theorem dX11_isRest_39 : decode cX11_isRest 39 = .ok (.iload_n 3, 1) := by decide +kernel
theorem dX11_isRest_40 : decode cX11_isRest 40 = .ok (.iload 6, 2) := by decide +kernel
theorem dX11_isRest_42 : decode cX11_isRest 42 = .ok (.iload 5, 2) := by decide +kernel
theorem dX11_isRest_44 : decode cX11_isRest 44 = .ok (.invokevirtual 362, 3) := by decide +kernel
theorem dX11_isRest_47 : decode cX11_isRest 47 = .ok (.aload_n 0, 1) := by decide +kernel
theorem dX11_isRest_48 : decode cX11_isRest 48 = .ok (.iload_n 2, 1) := by decide +kernel
theorem dX11_isRest_49 : decode cX11_isRest 49 = .ok (.iload_n 3, 1) := by decide +kernel
theorem dX11_isRest_50 : decode cX11_isRest 50 = .ok (.iconst 1, 1) := by decide +kernel
theorem dX11_isRest_51 : decode cX11_isRest 51 = .ok (.iload 6, 2) := by decide +kernel
theorem dX11_isRest_53 : decode cX11_isRest 53 = .ok (.isub, 1) := by decide +kernel
theorem dX11_isRest_54 : decode cX11_isRest 54 = .ok (.iload 5, 2) := by decide +kernel
theorem dX11_isRest_56 : decode cX11_isRest 56 = .ok (.invokevirtual 362, 3) := by decide +kernel
theorem dX11_isRest_59 : decode cX11_isRest 59 = .ok (.if_icmp .lt 7, 3) := by decide +kernel
theorem dX11_isRest_62 : decode cX11_isRest 62 = .ok (.iconst 1, 1) := by decide +kernel
theorem dX11_isRest_63 : decode cX11_isRest 63 = .ok (.goto 4, 3) := by decide +kernel
theorem dX11_isRest_66 : decode cX11_isRest 66 = .ok (.iconst 0, 1) := by decide +kernel
theorem dX11_isRest_67 : decode cX11_isRest 67 = .ok (.ireturn, 1) := by decide +kernel
theorem dX11_gain_0 : decode cX11_gain 0 = .ok (.iload_n 3, 1) := by decide +kernel
theorem dX11_gain_1 : decode cX11_gain 1 = .ok (.iconst 1, 1) := by decide +kernel
theorem dX11_gain_2 : decode cX11_gain 2 = .ok (.if_icmp .ne 14, 3) := by decide +kernel
theorem dX11_gain_5 : decode cX11_gain 5 = .ok (.iload 4, 2) := by decide +kernel
theorem dX11_gain_7 : decode cX11_gain 7 = .ok (.ifCond .ne 7, 3) := by decide +kernel
theorem dX11_gain_10 : decode cX11_gain 10 = .ok (.iconst 1, 1) := by decide +kernel
theorem dX11_gain_11 : decode cX11_gain 11 = .ok (.goto 4, 3) := by decide +kernel
theorem dX11_gain_14 : decode cX11_gain 14 = .ok (.iconst 0, 1) := by decide +kernel
theorem dX11_gain_15 : decode cX11_gain 15 = .ok (.ireturn, 1) := by decide +kernel
theorem dX11_gain_16 : decode cX11_gain 16 = .ok (.aload_n 0, 1) := by decide +kernel
theorem dX11_gain_17 : decode cX11_gain 17 = .ok (.getfield 30, 3) := by decide +kernel
theorem dX11_gain_20 : decode cX11_gain 20 = .ok (.iload_n 1, 1) := by decide +kernel
theorem dX11_gain_21 : decode cX11_gain 21 = .ok (.iload_n 2, 1) := by decide +kernel
theorem dX11_gain_22 : decode cX11_gain 22 = .ok (.invokevirtual 348, 3) := by decide +kernel
theorem dX11_gain_25 : decode cX11_gain 25 = .ok (.istore 5, 2) := by decide +kernel
theorem dX11_gain_27 : decode cX11_gain 27 = .ok (.iload 4, 2) := by decide +kernel
theorem dX11_gain_29 : decode cX11_gain 29 = .ok (.ifCond .ne 21, 3) := by decide +kernel
theorem dX11_gain_32 : decode cX11_gain 32 = .ok (.iload 5, 2) := by decide +kernel
theorem dX11_gain_34 : decode cX11_gain 34 = .ok (.iconst 2, 1) := by decide +kernel
theorem dX11_gain_35 : decode cX11_gain 35 = .ok (.iadd, 1) := by decide +kernel
theorem dX11_gain_36 : decode cX11_gain 36 = .ok (.aload_n 0, 1) := by decide +kernel
theorem dX11_gain_37 : decode cX11_gain 37 = .ok (.getfield 30, 3) := by decide +kernel
theorem dX11_gain_40 : decode cX11_gain 40 = .ok (.iload_n 1, 1) := by decide +kernel
theorem dX11_gain_41 : decode cX11_gain 41 = .ok (.invokevirtual 157, 3) := by decide +kernel
theorem dX11_gain_44 : decode cX11_gain 44 = .ok (.iconst 3, 1) := by decide +kernel
theorem dX11_gain_45 : decode cX11_gain 45 = .ok (.idiv, 1) := by decide +kernel
theorem dX11_gain_46 : decode cX11_gain 46 = .ok (.isub, 1) := by decide +kernel
theorem dX11_gain_47 : decode cX11_gain 47 = .ok (.goto 16, 3) := by decide +kernel
theorem dX11_gain_50 : decode cX11_gain 50 = .ok (.iload 5, 2) := by decide +kernel
theorem dX11_gain_52 : decode cX11_gain 52 = .ok (.aload_n 0, 1) := by decide +kernel
theorem dX11_gain_53 : decode cX11_gain 53 = .ok (.getfield 30, 3) := by decide +kernel
theorem dX11_gain_56 : decode cX11_gain 56 = .ok (.iload_n 1, 1) := by decide +kernel
theorem dX11_gain_57 : decode cX11_gain 57 = .ok (.invokevirtual 157, 3) := by decide +kernel
theorem dX11_gain_60 : decode cX11_gain 60 = .ok (.iconst 2, 1) := by decide +kernel
theorem dX11_gain_61 : decode cX11_gain 61 = .ok (.idiv, 1) := by decide +kernel
theorem dX11_gain_62 : decode cX11_gain 62 = .ok (.isub, 1) := by decide +kernel
theorem dX11_gain_63 : decode cX11_gain 63 = .ok (.ireturn, 1) := by decide +kernel
theorem dX11_dearest_0 : decode cX11_dearest 0 = .ok (.aload_n 0, 1) := by decide +kernel
theorem dX11_dearest_1 : decode cX11_dearest 1 = .ok (.getfield 30, 3) := by decide +kernel
theorem dX11_dearest_4 : decode cX11_dearest 4 = .ok (.getfield 137, 3) := by decide +kernel
theorem dX11_dearest_7 : decode cX11_dearest 7 = .ok (.iload_n 1, 1) := by decide +kernel
theorem dX11_dearest_8 : decode cX11_dearest 8 = .ok (.invokevirtual 143, 3) := by decide +kernel
theorem dX11_dearest_11 : decode cX11_dearest 11 = .ok (.ifCond .ne 5, 3) := by decide +kernel
theorem dX11_dearest_14 : decode cX11_dearest 14 = .ok (.iconst (-1), 1) := by decide +kernel
theorem dX11_dearest_15 : decode cX11_dearest 15 = .ok (.ireturn, 1) := by decide +kernel
theorem dX11_dearest_16 : decode cX11_dearest 16 = .ok (.bipush (-2), 2) := by decide +kernel
theorem dX11_dearest_18 : decode cX11_dearest 18 = .ok (.istore_n 2, 1) := by decide +kernel
theorem dX11_dearest_19 : decode cX11_dearest 19 = .ok (.iconst 0, 1) := by decide +kernel
theorem dX11_dearest_20 : decode cX11_dearest 20 = .ok (.istore_n 3, 1) := by decide +kernel
theorem dX11_dearest_21 : decode cX11_dearest 21 = .ok (.iconst 0, 1) := by decide +kernel
theorem dX11_dearest_22 : decode cX11_dearest 22 = .ok (.istore 4, 2) := by decide +kernel
theorem dX11_dearest_24 : decode cX11_dearest 24 = .ok (.iload 4, 2) := by decide +kernel
theorem dX11_dearest_26 : decode cX11_dearest 26 = .ok (.aload_n 0, 1) := by decide +kernel
theorem dX11_dearest_27 : decode cX11_dearest 27 = .ok (.getfield 30, 3) := by decide +kernel
theorem dX11_dearest_30 : decode cX11_dearest 30 = .ok (.getfield 127, 3) := by decide +kernel
theorem dX11_dearest_33 : decode cX11_dearest 33 = .ok (.getfield 211, 3) := by decide +kernel
theorem dX11_dearest_36 : decode cX11_dearest 36 = .ok (.if_icmp .ge 50, 3) := by decide +kernel
theorem dX11_dearest_39 : decode cX11_dearest 39 = .ok (.aload_n 0, 1) := by decide +kernel
theorem dX11_dearest_40 : decode cX11_dearest 40 = .ok (.getfield 30, 3) := by decide +kernel
theorem dX11_dearest_43 : decode cX11_dearest 43 = .ok (.iload 4, 2) := by decide +kernel
theorem dX11_dearest_45 : decode cX11_dearest 45 = .ok (.invokevirtual 174, 3) := by decide +kernel
theorem dX11_dearest_48 : decode cX11_dearest 48 = .ok (.aload_n 0, 1) := by decide +kernel
theorem dX11_dearest_49 : decode cX11_dearest 49 = .ok (.getfield 30, 3) := by decide +kernel
theorem dX11_dearest_52 : decode cX11_dearest 52 = .ok (.iload_n 1, 1) := by decide +kernel
theorem dX11_dearest_53 : decode cX11_dearest 53 = .ok (.invokevirtual 154, 3) := by decide +kernel
theorem dX11_dearest_56 : decode cX11_dearest 56 = .ok (.isub, 1) := by decide +kernel
theorem dX11_dearest_57 : decode cX11_dearest 57 = .ok (.invokestatic 366, 3) := by decide +kernel
theorem dX11_dearest_60 : decode cX11_dearest 60 = .ok (.istore 5, 2) := by decide +kernel
theorem dX11_dearest_62 : decode cX11_dearest 62 = .ok (.iload_n 2, 1) := by decide +kernel
theorem dX11_dearest_63 : decode cX11_dearest 63 = .ok (.bipush (-2), 2) := by decide +kernel
theorem dX11_dearest_65 : decode cX11_dearest 65 = .ok (.if_icmp .eq 9, 3) := by decide +kernel
theorem dX11_dearest_68 : decode cX11_dearest 68 = .ok (.iload 5, 2) := by decide +kernel
theorem dX11_dearest_70 : decode cX11_dearest 70 = .ok (.iload_n 3, 1) := by decide +kernel
theorem dX11_dearest_71 : decode cX11_dearest 71 = .ok (.if_icmp .ge 9, 3) := by decide +kernel
theorem dX11_dearest_74 : decode cX11_dearest 74 = .ok (.iload 4, 2) := by decide +kernel
theorem dX11_dearest_76 : decode cX11_dearest 76 = .ok (.istore_n 2, 1) := by decide +kernel
theorem dX11_dearest_77 : decode cX11_dearest 77 = .ok (.iload 5, 2) := by decide +kernel
theorem dX11_dearest_79 : decode cX11_dearest 79 = .ok (.istore_n 3, 1) := by decide +kernel
theorem dX11_dearest_80 : decode cX11_dearest 80 = .ok (.iinc 4 1, 3) := by decide +kernel
theorem dX11_dearest_83 : decode cX11_dearest 83 = .ok (.goto (-59), 3) := by decide +kernel
theorem dX11_dearest_86 : decode cX11_dearest 86 = .ok (.iload_n 2, 1) := by decide +kernel
theorem dX11_dearest_87 : decode cX11_dearest 87 = .ok (.ireturn, 1) := by decide +kernel
theorem dX11_quiet_0 : decode cX11_quiet 0 = .ok (.iload_n 1, 1) := by decide +kernel
theorem dX11_quiet_1 : decode cX11_quiet 1 = .ok (.ifCond .lt 18, 3) := by decide +kernel
theorem dX11_quiet_4 : decode cX11_quiet 4 = .ok (.iload_n 1, 1) := by decide +kernel
theorem dX11_quiet_5 : decode cX11_quiet 5 = .ok (.bipush 6, 2) := by decide +kernel
theorem dX11_quiet_7 : decode cX11_quiet 7 = .ok (.if_icmp .gt 12, 3) := by decide +kernel
theorem dX11_quiet_10 : decode cX11_quiet 10 = .ok (.iload_n 2, 1) := by decide +kernel
theorem dX11_quiet_11 : decode cX11_quiet 11 = .ok (.ifCond .lt 8, 3) := by decide +kernel
theorem dX11_quiet_14 : decode cX11_quiet 14 = .ok (.iload_n 2, 1) := by decide +kernel
theorem dX11_quiet_15 : decode cX11_quiet 15 = .ok (.iconst 1, 1) := by decide +kernel
theorem dX11_quiet_16 : decode cX11_quiet 16 = .ok (.if_icmp .le 7, 3) := by decide +kernel
theorem dX11_quiet_19 : decode cX11_quiet 19 = .ok (.ldc2_w 369, 3) := by decide +kernel
theorem dX11_quiet_22 : decode cX11_quiet 22 = .ok (.lreturn, 1) := by decide +kernel
theorem dX11_quiet_23 : decode cX11_quiet 23 = .ok (.bipush 100, 2) := by decide +kernel
theorem dX11_quiet_25 : decode cX11_quiet 25 = .ok (.aload_n 0, 1) := by decide +kernel
theorem dX11_quiet_26 : decode cX11_quiet 26 = .ok (.getfield 30, 3) := by decide +kernel
theorem dX11_quiet_29 : decode cX11_quiet 29 = .ok (.getfield 371, 3) := by decide +kernel
theorem dX11_quiet_32 : decode cX11_quiet 32 = .ok (.isub, 1) := by decide +kernel
theorem dX11_quiet_33 : decode cX11_quiet 33 = .ok (.istore_n 3, 1) := by decide +kernel
theorem dX11_quiet_34 : decode cX11_quiet 34 = .ok (.bipush 100, 2) := by decide +kernel
theorem dX11_quiet_36 : decode cX11_quiet 36 = .ok (.istore 4, 2) := by decide +kernel
theorem dX11_quiet_38 : decode cX11_quiet 38 = .ok (.iload 4, 2) := by decide +kernel
theorem dX11_quiet_40 : decode cX11_quiet 40 = .ok (.iconst 1, 1) := by decide +kernel
theorem dX11_quiet_41 : decode cX11_quiet 41 = .ok (.if_icmp .le 24, 3) := by decide +kernel
theorem dX11_quiet_44 : decode cX11_quiet 44 = .ok (.iload_n 3, 1) := by decide +kernel
theorem dX11_quiet_45 : decode cX11_quiet 45 = .ok (.iload 4, 2) := by decide +kernel
theorem dX11_quiet_47 : decode cX11_quiet 47 = .ok (.irem, 1) := by decide +kernel
theorem dX11_quiet_48 : decode cX11_quiet 48 = .ok (.ifCond .ne 11, 3) := by decide +kernel
theorem dX11_quiet_51 : decode cX11_quiet 51 = .ok (.bipush 100, 2) := by decide +kernel
theorem dX11_quiet_53 : decode cX11_quiet 53 = .ok (.iload 4, 2) := by decide +kernel
theorem dX11_quiet_55 : decode cX11_quiet 55 = .ok (.irem, 1) := by decide +kernel
theorem dX11_quiet_56 : decode cX11_quiet 56 = .ok (.ifCond .eq 9, 3) := by decide +kernel
theorem dX11_quiet_59 : decode cX11_quiet 59 = .ok (.iinc 4 (-1), 3) := by decide +kernel
theorem dX11_quiet_62 : decode cX11_quiet 62 = .ok (.goto (-24), 3) := by decide +kernel
theorem dX11_quiet_65 : decode cX11_quiet 65 = .ok (.iload_n 2, 1) := by decide +kernel
theorem dX11_quiet_66 : decode cX11_quiet 66 = .ok (.ifCond .ne 10, 3) := by decide +kernel
theorem dX11_quiet_69 : decode cX11_quiet 69 = .ok (.iload_n 3, 1) := by decide +kernel
theorem dX11_quiet_70 : decode cX11_quiet 70 = .ok (.iload 4, 2) := by decide +kernel
theorem dX11_quiet_72 : decode cX11_quiet 72 = .ok (.idiv, 1) := by decide +kernel
theorem dX11_quiet_73 : decode cX11_quiet 73 = .ok (.goto 8, 3) := by decide +kernel
theorem dX11_quiet_76 : decode cX11_quiet 76 = .ok (.bipush 100, 2) := by decide +kernel
theorem dX11_quiet_78 : decode cX11_quiet 78 = .ok (.iload 4, 2) := by decide +kernel
theorem dX11_quiet_80 : decode cX11_quiet 80 = .ok (.idiv, 1) := by decide +kernel
theorem dX11_quiet_81 : decode cX11_quiet 81 = .ok (.istore 5, 2) := by decide +kernel
theorem dX11_quiet_83 : decode cX11_quiet 83 = .ok (.lconst 1, 1) := by decide +kernel
theorem dX11_quiet_84 : decode cX11_quiet 84 = .ok (.lstore 6, 2) := by decide +kernel
theorem dX11_quiet_86 : decode cX11_quiet 86 = .ok (.iconst 0, 1) := by decide +kernel
theorem dX11_quiet_87 : decode cX11_quiet 87 = .ok (.istore 8, 2) := by decide +kernel
theorem dX11_quiet_89 : decode cX11_quiet 89 = .ok (.iload 8, 2) := by decide +kernel
theorem dX11_quiet_91 : decode cX11_quiet 91 = .ok (.iload_n 1, 1) := by decide +kernel
theorem dX11_quiet_92 : decode cX11_quiet 92 = .ok (.if_icmp .ge 17, 3) := by decide +kernel
theorem dX11_quiet_95 : decode cX11_quiet 95 = .ok (.lload 6, 2) := by decide +kernel
theorem dX11_quiet_97 : decode cX11_quiet 97 = .ok (.iload 5, 2) := by decide +kernel
theorem dX11_quiet_99 : decode cX11_quiet 99 = .ok (.i2l, 1) := by decide +kernel
theorem dX11_quiet_100 : decode cX11_quiet 100 = .ok (.lmul, 1) := by decide +kernel
theorem dX11_quiet_101 : decode cX11_quiet 101 = .ok (.lstore 6, 2) := by decide +kernel
theorem dX11_quiet_103 : decode cX11_quiet 103 = .ok (.iinc 8 1, 3) := by decide +kernel
theorem dX11_quiet_106 : decode cX11_quiet 106 = .ok (.goto (-17), 3) := by decide +kernel
theorem dX11_quiet_109 : decode cX11_quiet 109 = .ok (.lload 6, 2) := by decide +kernel
theorem dX11_quiet_111 : decode cX11_quiet 111 = .ok (.lreturn, 1) := by decide +kernel
theorem dX11_see_0 : decode cX11_see 0 = .ok (.iload_n 1, 1) := by decide +kernel
theorem dX11_see_1 : decode cX11_see 1 = .ok (.iconst 1, 1) := by decide +kernel
theorem dX11_see_2 : decode cX11_see 2 = .ok (.if_icmp .lt 30, 3) := by decide +kernel
theorem dX11_see_5 : decode cX11_see 5 = .ok (.iload_n 1, 1) := by decide +kernel
theorem dX11_see_6 : decode cX11_see 6 = .ok (.bipush 60, 2) := by decide +kernel
theorem dX11_see_8 : decode cX11_see 8 = .ok (.if_icmp .gt 24, 3) := by decide +kernel
theorem dX11_see_11 : decode cX11_see 11 = .ok (.iload_n 2, 1) := by decide +kernel
theorem dX11_see_12 : decode cX11_see 12 = .ok (.ifCond .lt 20, 3) := by decide +kernel
theorem dX11_see_15 : decode cX11_see 15 = .ok (.iload_n 2, 1) := by decide +kernel
theorem dX11_see_16 : decode cX11_see 16 = .ok (.sipush 999, 3) := by decide +kernel
theorem dX11_see_19 : decode cX11_see 19 = .ok (.if_icmp .gt 13, 3) := by decide +kernel
theorem dX11_see_22 : decode cX11_see 22 = .ok (.aload_n 0, 1) := by decide +kernel
theorem dX11_see_23 : decode cX11_see 23 = .ok (.getfield 80, 3) := by decide +kernel
theorem dX11_see_26 : decode cX11_see 26 = .ok (.invokevirtual 374, 3) := by decide +kernel
theorem dX11_see_29 : decode cX11_see 29 = .ok (.ifCond .eq 5, 3) := by decide +kernel
theorem dX11_see_32 : decode cX11_see 32 = .ok (.iconst (-1), 1) := by decide +kernel
theorem dX11_see_33 : decode cX11_see 33 = .ok (.ireturn, 1) := by decide +kernel
theorem dX11_see_34 : decode cX11_see 34 = .ok (.aload_n 0, 1) := by decide +kernel
theorem dX11_see_35 : decode cX11_see 35 = .ok (.getfield 80, 3) := by decide +kernel
theorem dX11_see_38 : decode cX11_see 38 = .ok (.iload_n 1, 1) := by decide +kernel
theorem dX11_see_39 : decode cX11_see 39 = .ok (.iload_n 2, 1) := by decide +kernel
theorem dX11_see_40 : decode cX11_see 40 = .ok (.iload_n 3, 1) := by decide +kernel
theorem dX11_see_41 : decode cX11_see 41 = .ok (.invokevirtual 378, 3) := by decide +kernel
theorem dX11_see_44 : decode cX11_see 44 = .ok (.ireturn, 1) := by decide +kernel
theorem dX11_strike_0 : decode cX11_strike 0 = .ok (.iload_n 1, 1) := by decide +kernel
theorem dX11_strike_1 : decode cX11_strike 1 = .ok (.ifCond .lt 24, 3) := by decide +kernel
theorem dX11_strike_4 : decode cX11_strike 4 = .ok (.iload_n 1, 1) := by decide +kernel
theorem dX11_strike_5 : decode cX11_strike 5 = .ok (.aload_n 0, 1) := by decide +kernel
theorem dX11_strike_6 : decode cX11_strike 6 = .ok (.getfield 80, 3) := by decide +kernel
theorem dX11_strike_9 : decode cX11_strike 9 = .ok (.getfield 220, 3) := by decide +kernel
theorem dX11_strike_12 : decode cX11_strike 12 = .ok (.if_icmp .ge 13, 3) := by decide +kernel
theorem dX11_strike_15 : decode cX11_strike 15 = .ok (.aload_n 0, 1) := by decide +kernel
theorem dX11_strike_16 : decode cX11_strike 16 = .ok (.getfield 80, 3) := by decide +kernel
theorem dX11_strike_19 : decode cX11_strike 19 = .ok (.invokevirtual 374, 3) := by decide +kernel
theorem dX11_strike_22 : decode cX11_strike 22 = .ok (.ifCond .eq 5, 3) := by decide +kernel
theorem dX11_strike_25 : decode cX11_strike 25 = .ok (.iconst (-1), 1) := by decide +kernel
theorem dX11_strike_26 : decode cX11_strike 26 = .ok (.ireturn, 1) := by decide +kernel
theorem dX11_strike_27 : decode cX11_strike 27 = .ok (.aload_n 0, 1) := by decide +kernel
theorem dX11_strike_28 : decode cX11_strike 28 = .ok (.getfield 80, 3) := by decide +kernel
theorem dX11_strike_31 : decode cX11_strike 31 = .ok (.iload_n 1, 1) := by decide +kernel
theorem dX11_strike_32 : decode cX11_strike 32 = .ok (.invokevirtual 382, 3) := by decide +kernel
theorem dX11_strike_35 : decode cX11_strike 35 = .ok (.ireturn, 1) := by decide +kernel
theorem dX11_known_0 : decode cX11_known 0 = .ok (.iload_n 1, 1) := by decide +kernel
theorem dX11_known_1 : decode cX11_known 1 = .ok (.iconst (-1), 1) := by decide +kernel
theorem dX11_known_2 : decode cX11_known 2 = .ok (.if_icmp .lt 14, 3) := by decide +kernel
theorem dX11_known_5 : decode cX11_known 5 = .ok (.iload_n 1, 1) := by decide +kernel
theorem dX11_known_6 : decode cX11_known 6 = .ok (.aload_n 0, 1) := by decide +kernel
theorem dX11_known_7 : decode cX11_known 7 = .ok (.getfield 80, 3) := by decide +kernel
theorem dX11_known_10 : decode cX11_known 10 = .ok (.getfield 220, 3) := by decide +kernel
theorem dX11_known_13 : decode cX11_known 13 = .ok (.if_icmp .le 5, 3) := by decide +kernel
theorem dX11_known_16 : decode cX11_known 16 = .ok (.iconst 0, 1) := by decide +kernel
theorem dX11_known_17 : decode cX11_known 17 = .ok (.ireturn, 1) := by decide +kernel
theorem dX11_known_18 : decode cX11_known 18 = .ok (.aload_n 0, 1) := by decide +kernel
theorem dX11_known_19 : decode cX11_known 19 = .ok (.getfield 80, 3) := by decide +kernel
theorem dX11_known_22 : decode cX11_known 22 = .ok (.iload_n 1, 1) := by decide +kernel
theorem dX11_known_23 : decode cX11_known 23 = .ok (.putfield 385, 3) := by decide +kernel
theorem dX11_known_26 : decode cX11_known 26 = .ok (.iconst 1, 1) := by decide +kernel
theorem dX11_known_27 : decode cX11_known 27 = .ok (.ireturn, 1) := by decide +kernel
theorem dX11_moods_0 : decode cX11_moods 0 = .ok (.aload_n 0, 1) := by decide +kernel
theorem dX11_moods_1 : decode cX11_moods 1 = .ok (.getfield 30, 3) := by decide +kernel
theorem dX11_moods_4 : decode cX11_moods 4 = .ok (.getfield 127, 3) := by decide +kernel
theorem dX11_moods_7 : decode cX11_moods 7 = .ok (.iload_n 1, 1) := by decide +kernel
theorem dX11_moods_8 : decode cX11_moods 8 = .ok (.invokevirtual 143, 3) := by decide +kernel
theorem dX11_moods_11 : decode cX11_moods 11 = .ok (.ifCond .ne 5, 3) := by decide +kernel
theorem dX11_moods_14 : decode cX11_moods 14 = .ok (.iconst (-1), 1) := by decide +kernel
theorem dX11_moods_15 : decode cX11_moods 15 = .ok (.ireturn, 1) := by decide +kernel
theorem dX11_moods_16 : decode cX11_moods 16 = .ok (.aload_n 0, 1) := by decide +kernel
theorem dX11_moods_17 : decode cX11_moods 17 = .ok (.iload_n 1, 1) := by decide +kernel
theorem dX11_moods_18 : decode cX11_moods 18 = .ok (.invokevirtual 388, 3) := by decide +kernel
theorem dX11_moods_21 : decode cX11_moods 21 = .ok (.aload_n 0, 1) := by decide +kernel
theorem dX11_moods_22 : decode cX11_moods 22 = .ok (.invokevirtual 391, 3) := by decide +kernel
theorem dX11_moods_25 : decode cX11_moods 25 = .ok (.ireturn, 1) := by decide +kernel
theorem dX11_agreeingMoods_0 : decode cX11_agreeingMoods 0 = .ok (.aload_n 0, 1) := by decide +kernel
theorem dX11_agreeingMoods_1 : decode cX11_agreeingMoods 1 = .ok (.getfield 80, 3) := by decide +kernel
theorem dX11_agreeingMoods_4 : decode cX11_agreeingMoods 4 = .ok (.invokevirtual 394, 3) := by decide +kernel
theorem dX11_agreeingMoods_7 : decode cX11_agreeingMoods 7 = .ok (.iconst 0, 1) := by decide +kernel
theorem dX11_agreeingMoods_8 : decode cX11_agreeingMoods 8 = .ok (.istore_n 1, 1) := by decide +kernel
theorem dX11_agreeingMoods_9 : decode cX11_agreeingMoods 9 = .ok (.iconst 0, 1) := by decide +kernel
theorem dX11_agreeingMoods_10 : decode cX11_agreeingMoods 10 = .ok (.istore_n 2, 1) := by decide +kernel
theorem dX11_agreeingMoods_11 : decode cX11_agreeingMoods 11 = .ok (.iload_n 2, 1) := by decide +kernel
theorem dX11_agreeingMoods_12 : decode cX11_agreeingMoods 12 = .ok (.bipush 10, 2) := by decide +kernel
theorem dX11_agreeingMoods_14 : decode cX11_agreeingMoods 14 = .ok (.if_icmp .ge 33, 3) := by decide +kernel
theorem dX11_agreeingMoods_17 : decode cX11_agreeingMoods 17 = .ok (.aload_n 0, 1) := by decide +kernel
theorem dX11_agreeingMoods_18 : decode cX11_agreeingMoods 18 = .ok (.getfield 80, 3) := by decide +kernel
theorem dX11_agreeingMoods_21 : decode cX11_agreeingMoods 21 = .ok (.aload_n 0, 1) := by decide +kernel
theorem dX11_agreeingMoods_22 : decode cX11_agreeingMoods 22 = .ok (.getfield 84, 3) := by decide +kernel
theorem dX11_agreeingMoods_25 : decode cX11_agreeingMoods 25 = .ok (.iload_n 2, 1) := by decide +kernel
theorem dX11_agreeingMoods_26 : decode cX11_agreeingMoods 26 = .ok (.bipush 60, 2) := by decide +kernel
theorem dX11_agreeingMoods_28 : decode cX11_agreeingMoods 28 = .ok (.imul, 1) := by decide +kernel
theorem dX11_agreeingMoods_29 : decode cX11_agreeingMoods 29 = .ok (.invokevirtual 397, 3) := by decide +kernel
theorem dX11_agreeingMoods_32 : decode cX11_agreeingMoods 32 = .ok (.ifCond .eq 9, 3) := by decide +kernel
theorem dX11_agreeingMoods_35 : decode cX11_agreeingMoods 35 = .ok (.iload_n 1, 1) := by decide +kernel
theorem dX11_agreeingMoods_36 : decode cX11_agreeingMoods 36 = .ok (.iconst 1, 1) := by decide +kernel
theorem dX11_agreeingMoods_37 : decode cX11_agreeingMoods 37 = .ok (.iload_n 2, 1) := by decide +kernel
theorem dX11_agreeingMoods_38 : decode cX11_agreeingMoods 38 = .ok (.ishl, 1) := by decide +kernel
theorem dX11_agreeingMoods_39 : decode cX11_agreeingMoods 39 = .ok (.ior, 1) := by decide +kernel
theorem dX11_agreeingMoods_40 : decode cX11_agreeingMoods 40 = .ok (.istore_n 1, 1) := by decide +kernel
theorem dX11_agreeingMoods_41 : decode cX11_agreeingMoods 41 = .ok (.iinc 2 1, 3) := by decide +kernel
theorem dX11_agreeingMoods_44 : decode cX11_agreeingMoods 44 = .ok (.goto (-33), 3) := by decide +kernel
theorem dX11_agreeingMoods_47 : decode cX11_agreeingMoods 47 = .ok (.iload_n 1, 1) := by decide +kernel
theorem dX11_agreeingMoods_48 : decode cX11_agreeingMoods 48 = .ok (.ireturn, 1) := by decide +kernel
theorem dX11_foresee_0 : decode cX11_foresee 0 = .ok (.aload_n 0, 1) := by decide +kernel
theorem dX11_foresee_1 : decode cX11_foresee 1 = .ok (.getfield 88, 3) := by decide +kernel
theorem dX11_foresee_4 : decode cX11_foresee 4 = .ok (.iload_n 1, 1) := by decide +kernel
theorem dX11_foresee_5 : decode cX11_foresee 5 = .ok (.if_icmp .ne 4, 3) := by decide +kernel
theorem dX11_foresee_8 : decode cX11_foresee 8 = .ok (.return_, 1) := by decide +kernel
theorem dX11_foresee_9 : decode cX11_foresee 9 = .ok (.aload_n 0, 1) := by decide +kernel
theorem dX11_foresee_10 : decode cX11_foresee 10 = .ok (.getfield 49, 3) := by decide +kernel
theorem dX11_foresee_13 : decode cX11_foresee 13 = .ok (.aload_n 0, 1) := by decide +kernel
theorem dX11_foresee_14 : decode cX11_foresee 14 = .ok (.getfield 30, 3) := by decide +kernel
theorem dX11_foresee_17 : decode cX11_foresee 17 = .ok (.invokevirtual 198, 3) := by decide +kernel
theorem dX11_foresee_20 : decode cX11_foresee 20 = .ok (.aload_n 0, 1) := by decide +kernel
theorem dX11_foresee_21 : decode cX11_foresee 21 = .ok (.getfield 49, 3) := by decide +kernel
theorem dX11_foresee_24 : decode cX11_foresee 24 = .ok (.iload_n 1, 1) := by decide +kernel
theorem dX11_foresee_25 : decode cX11_foresee 25 = .ok (.putfield 401, 3) := by decide +kernel
theorem dX11_foresee_28 : decode cX11_foresee 28 = .ok (.iconst 0, 1) := by decide +kernel
theorem dX11_foresee_29 : decode cX11_foresee 29 = .ok (.istore_n 2, 1) := by decide +kernel
theorem dX11_foresee_30 : decode cX11_foresee 30 = .ok (.iload_n 2, 1) := by decide +kernel
theorem dX11_foresee_31 : decode cX11_foresee 31 = .ok (.bipush 10, 2) := by decide +kernel
theorem dX11_foresee_33 : decode cX11_foresee 33 = .ok (.if_icmp .ge 75, 3) := by decide +kernel
theorem dX11_foresee_36 : decode cX11_foresee 36 = .ok (.aload_n 0, 1) := by decide +kernel
theorem dX11_foresee_37 : decode cX11_foresee 37 = .ok (.getfield 49, 3) := by decide +kernel
theorem dX11_foresee_40 : decode cX11_foresee 40 = .ok (.iload_n 2, 1) := by decide +kernel
theorem dX11_foresee_41 : decode cX11_foresee 41 = .ok (.putfield 404, 3) := by decide +kernel
theorem dX11_foresee_44 : decode cX11_foresee 44 = .ok (.aload_n 0, 1) := by decide +kernel
theorem dX11_foresee_45 : decode cX11_foresee 45 = .ok (.getfield 60, 3) := by decide +kernel
theorem dX11_foresee_48 : decode cX11_foresee 48 = .ok (.aload_n 0, 1) := by decide +kernel
theorem dX11_foresee_49 : decode cX11_foresee 49 = .ok (.getfield 30, 3) := by decide +kernel
theorem dX11_foresee_52 : decode cX11_foresee 52 = .ok (.getfield 117, 3) := by decide +kernel
theorem dX11_foresee_55 : decode cX11_foresee 55 = .ok (.invokevirtual 120, 3) := by decide +kernel
theorem dX11_foresee_58 : decode cX11_foresee 58 = .ok (.iconst 0, 1) := by decide +kernel
theorem dX11_foresee_59 : decode cX11_foresee 59 = .ok (.istore_n 3, 1) := by decide +kernel
theorem dX11_foresee_60 : decode cX11_foresee 60 = .ok (.iload_n 3, 1) := by decide +kernel
theorem dX11_foresee_61 : decode cX11_foresee 61 = .ok (.bipush 60, 2) := by decide +kernel
theorem dX11_foresee_63 : decode cX11_foresee 63 = .ok (.if_icmp .ge 39, 3) := by decide +kernel
theorem dX11_foresee_66 : decode cX11_foresee 66 = .ok (.aload_n 0, 1) := by decide +kernel
theorem dX11_foresee_67 : decode cX11_foresee 67 = .ok (.getfield 49, 3) := by decide +kernel
theorem dX11_foresee_70 : decode cX11_foresee 70 = .ok (.aload_n 0, 1) := by decide +kernel
theorem dX11_foresee_71 : decode cX11_foresee 71 = .ok (.getfield 60, 3) := by decide +kernel
theorem dX11_foresee_74 : decode cX11_foresee 74 = .ok (.iconst 1, 1) := by decide +kernel
theorem dX11_foresee_75 : decode cX11_foresee 75 = .ok (.invokevirtual 277, 3) := by decide +kernel
theorem dX11_foresee_78 : decode cX11_foresee 78 = .ok (.aload_n 0, 1) := by decide +kernel
theorem dX11_foresee_79 : decode cX11_foresee 79 = .ok (.getfield 84, 3) := by decide +kernel
theorem dX11_foresee_82 : decode cX11_foresee 82 = .ok (.iload_n 2, 1) := by decide +kernel
theorem dX11_foresee_83 : decode cX11_foresee 83 = .ok (.bipush 60, 2) := by decide +kernel
theorem dX11_foresee_85 : decode cX11_foresee 85 = .ok (.imul, 1) := by decide +kernel
theorem dX11_foresee_86 : decode cX11_foresee 86 = .ok (.iload_n 3, 1) := by decide +kernel
theorem dX11_foresee_87 : decode cX11_foresee 87 = .ok (.iadd, 1) := by decide +kernel
theorem dX11_foresee_88 : decode cX11_foresee 88 = .ok (.aload_n 0, 1) := by decide +kernel
theorem dX11_foresee_89 : decode cX11_foresee 89 = .ok (.getfield 60, 3) := by decide +kernel
theorem dX11_foresee_92 : decode cX11_foresee 92 = .ok (.getfield 238, 3) := by decide +kernel
theorem dX11_foresee_95 : decode cX11_foresee 95 = .ok (.iastore, 1) := by decide +kernel
theorem dX11_foresee_96 : decode cX11_foresee 96 = .ok (.iinc 3 1, 3) := by decide +kernel
theorem dX11_foresee_99 : decode cX11_foresee 99 = .ok (.goto (-39), 3) := by decide +kernel
theorem dX11_foresee_102 : decode cX11_foresee 102 = .ok (.iinc 2 1, 3) := by decide +kernel
theorem dX11_foresee_105 : decode cX11_foresee 105 = .ok (.goto (-75), 3) := by decide +kernel
theorem dX11_foresee_108 : decode cX11_foresee 108 = .ok (.aload_n 0, 1) := by decide +kernel
theorem dX11_foresee_109 : decode cX11_foresee 109 = .ok (.iload_n 1, 1) := by decide +kernel
theorem dX11_foresee_110 : decode cX11_foresee 110 = .ok (.putfield 88, 3) := by decide +kernel
theorem dX11_foresee_113 : decode cX11_foresee 113 = .ok (.return_, 1) := by decide +kernel
theorem dX11_ask_0 : decode cX11_ask 0 = .ok (.aload_n 0, 1) := by decide +kernel
theorem dX11_ask_1 : decode cX11_ask 1 = .ok (.getfield 30, 3) := by decide +kernel
theorem dX11_ask_4 : decode cX11_ask 4 = .ok (.getfield 127, 3) := by decide +kernel
theorem dX11_ask_7 : decode cX11_ask 7 = .ok (.iload_n 1, 1) := by decide +kernel
theorem dX11_ask_8 : decode cX11_ask 8 = .ok (.invokevirtual 143, 3) := by decide +kernel
theorem dX11_ask_11 : decode cX11_ask 11 = .ok (.ifCond .eq 12, 3) := by decide +kernel
theorem dX11_ask_14 : decode cX11_ask 14 = .ok (.iload_n 2, 1) := by decide +kernel
theorem dX11_ask_15 : decode cX11_ask 15 = .ok (.ifCond .lt 8, 3) := by decide +kernel
theorem dX11_ask_18 : decode cX11_ask 18 = .ok (.iload_n 2, 1) := by decide +kernel
theorem dX11_ask_19 : decode cX11_ask 19 = .ok (.iconst 1, 1) := by decide +kernel
theorem dX11_ask_20 : decode cX11_ask 20 = .ok (.if_icmp .le 5, 3) := by decide +kernel
theorem dX11_ask_23 : decode cX11_ask 23 = .ok (.iconst (-1), 1) := by decide +kernel
theorem dX11_ask_24 : decode cX11_ask 24 = .ok (.ireturn, 1) := by decide +kernel
theorem dX11_ask_25 : decode cX11_ask 25 = .ok (.aload_n 0, 1) := by decide +kernel
theorem dX11_ask_26 : decode cX11_ask 26 = .ok (.iload_n 1, 1) := by decide +kernel
theorem dX11_ask_27 : decode cX11_ask 27 = .ok (.invokevirtual 388, 3) := by decide +kernel
theorem dX11_ask_30 : decode cX11_ask 30 = .ok (.aload_n 0, 1) := by decide +kernel
theorem dX11_ask_31 : decode cX11_ask 31 = .ok (.invokevirtual 391, 3) := by decide +kernel
theorem dX11_ask_34 : decode cX11_ask 34 = .ok (.istore_n 3, 1) := by decide +kernel
theorem dX11_ask_35 : decode cX11_ask 35 = .ok (.iconst 0, 1) := by decide +kernel
theorem dX11_ask_36 : decode cX11_ask 36 = .ok (.istore 4, 2) := by decide +kernel
theorem dX11_ask_38 : decode cX11_ask 38 = .ok (.iconst 0, 1) := by decide +kernel
theorem dX11_ask_39 : decode cX11_ask 39 = .ok (.istore 5, 2) := by decide +kernel
theorem dX11_ask_41 : decode cX11_ask 41 = .ok (.iconst 0, 1) := by decide +kernel
theorem dX11_ask_42 : decode cX11_ask 42 = .ok (.istore 6, 2) := by decide +kernel
theorem dX11_ask_44 : decode cX11_ask 44 = .ok (.iload 6, 2) := by decide +kernel
theorem dX11_ask_46 : decode cX11_ask 46 = .ok (.bipush 60, 2) := by decide +kernel
theorem dX11_ask_48 : decode cX11_ask 48 = .ok (.if_icmp .ge 38, 3) := by decide +kernel
theorem dX11_ask_51 : decode cX11_ask 51 = .ok (.aload_n 0, 1) := by decide +kernel
theorem dX11_ask_52 : decode cX11_ask 52 = .ok (.iload_n 3, 1) := by decide +kernel
theorem dX11_ask_53 : decode cX11_ask 53 = .ok (.iload 6, 2) := by decide +kernel
theorem dX11_ask_55 : decode cX11_ask 55 = .ok (.invokevirtual 407, 3) := by decide +kernel
theorem dX11_ask_58 : decode cX11_ask 58 = .ok (.istore 7, 2) := by decide +kernel
theorem dX11_ask_60 : decode cX11_ask 60 = .ok (.iload 6, 2) := by decide +kernel
theorem dX11_ask_62 : decode cX11_ask 62 = .ok (.ifCond .eq 10, 3) := by decide +kernel
theorem dX11_ask_65 : decode cX11_ask 65 = .ok (.iload 7, 2) := by decide +kernel
theorem dX11_ask_67 : decode cX11_ask 67 = .ok (.iload 5, 2) := by decide +kernel
theorem dX11_ask_69 : decode cX11_ask 69 = .ok (.if_icmp .ge 11, 3) := by decide +kernel
theorem dX11_ask_72 : decode cX11_ask 72 = .ok (.iload 6, 2) := by decide +kernel
theorem dX11_ask_74 : decode cX11_ask 74 = .ok (.istore 4, 2) := by decide +kernel
theorem dX11_ask_76 : decode cX11_ask 76 = .ok (.iload 7, 2) := by decide +kernel
theorem dX11_ask_78 : decode cX11_ask 78 = .ok (.istore 5, 2) := by decide +kernel
theorem dX11_ask_80 : decode cX11_ask 80 = .ok (.iinc 6 1, 3) := by decide +kernel
theorem dX11_ask_83 : decode cX11_ask 83 = .ok (.goto (-39), 3) := by decide +kernel
theorem dX11_ask_86 : decode cX11_ask 86 = .ok (.iload_n 2, 1) := by decide +kernel
theorem dX11_ask_87 : decode cX11_ask 87 = .ok (.ifCond .ne 10, 3) := by decide +kernel
theorem dX11_ask_90 : decode cX11_ask 90 = .ok (.iload 4, 2) := by decide +kernel
theorem dX11_ask_92 : decode cX11_ask 92 = .ok (.iconst 1, 1) := by decide +kernel
theorem dX11_ask_93 : decode cX11_ask 93 = .ok (.iadd, 1) := by decide +kernel
theorem dX11_ask_94 : decode cX11_ask 94 = .ok (.goto 5, 3) := by decide +kernel
theorem dX11_ask_97 : decode cX11_ask 97 = .ok (.iload 5, 2) := by decide +kernel
theorem dX11_ask_99 : decode cX11_ask 99 = .ok (.ireturn, 1) := by decide +kernel
theorem dX11_leftAtWorst_0 : decode cX11_leftAtWorst 0 = .ok (.iconst 0, 1) := by decide +kernel
theorem dX11_leftAtWorst_1 : decode cX11_leftAtWorst 1 = .ok (.istore_n 3, 1) := by decide +kernel
theorem dX11_leftAtWorst_2 : decode cX11_leftAtWorst 2 = .ok (.iconst 0, 1) := by decide +kernel
theorem dX11_leftAtWorst_3 : decode cX11_leftAtWorst 3 = .ok (.istore 4, 2) := by decide +kernel
theorem dX11_leftAtWorst_5 : decode cX11_leftAtWorst 5 = .ok (.iload 4, 2) := by decide +kernel
theorem dX11_leftAtWorst_7 : decode cX11_leftAtWorst 7 = .ok (.bipush 10, 2) := by decide +kernel
theorem dX11_leftAtWorst_9 : decode cX11_leftAtWorst 9 = .ok (.if_icmp .ge 42, 3) := by decide +kernel
theorem dX11_leftAtWorst_12 : decode cX11_leftAtWorst 12 = .ok (.iload_n 1, 1) := by decide +kernel
theorem dX11_leftAtWorst_13 : decode cX11_leftAtWorst 13 = .ok (.iload 4, 2) := by decide +kernel
theorem dX11_leftAtWorst_15 : decode cX11_leftAtWorst 15 = .ok (.ishr, 1) := by decide +kernel
theorem dX11_leftAtWorst_16 : decode cX11_leftAtWorst 16 = .ok (.iconst 1, 1) := by decide +kernel
theorem dX11_leftAtWorst_17 : decode cX11_leftAtWorst 17 = .ok (.iand, 1) := by decide +kernel
theorem dX11_leftAtWorst_18 : decode cX11_leftAtWorst 18 = .ok (.iconst 1, 1) := by decide +kernel
theorem dX11_leftAtWorst_19 : decode cX11_leftAtWorst 19 = .ok (.if_icmp .ne 26, 3) := by decide +kernel
theorem dX11_leftAtWorst_22 : decode cX11_leftAtWorst 22 = .ok (.iload_n 3, 1) := by decide +kernel
theorem dX11_leftAtWorst_23 : decode cX11_leftAtWorst 23 = .ok (.aload_n 0, 1) := by decide +kernel
theorem dX11_leftAtWorst_24 : decode cX11_leftAtWorst 24 = .ok (.iload_n 1, 1) := by decide +kernel
theorem dX11_leftAtWorst_25 : decode cX11_leftAtWorst 25 = .ok (.iload_n 2, 1) := by decide +kernel
theorem dX11_leftAtWorst_26 : decode cX11_leftAtWorst 26 = .ok (.aload_n 0, 1) := by decide +kernel
theorem dX11_leftAtWorst_27 : decode cX11_leftAtWorst 27 = .ok (.getfield 84, 3) := by decide +kernel
theorem dX11_leftAtWorst_30 : decode cX11_leftAtWorst 30 = .ok (.iload 4, 2) := by decide +kernel
theorem dX11_leftAtWorst_32 : decode cX11_leftAtWorst 32 = .ok (.bipush 60, 2) := by decide +kernel
theorem dX11_leftAtWorst_34 : decode cX11_leftAtWorst 34 = .ok (.imul, 1) := by decide +kernel
theorem dX11_leftAtWorst_35 : decode cX11_leftAtWorst 35 = .ok (.iload_n 2, 1) := by decide +kernel
theorem dX11_leftAtWorst_36 : decode cX11_leftAtWorst 36 = .ok (.iadd, 1) := by decide +kernel
theorem dX11_leftAtWorst_37 : decode cX11_leftAtWorst 37 = .ok (.iaload, 1) := by decide +kernel
theorem dX11_leftAtWorst_38 : decode cX11_leftAtWorst 38 = .ok (.invokevirtual 410, 3) := by decide +kernel
theorem dX11_leftAtWorst_41 : decode cX11_leftAtWorst 41 = .ok (.invokestatic 355, 3) := by decide +kernel
theorem dX11_leftAtWorst_44 : decode cX11_leftAtWorst 44 = .ok (.istore_n 3, 1) := by decide +kernel
theorem dX11_leftAtWorst_45 : decode cX11_leftAtWorst 45 = .ok (.iinc 4 1, 3) := by decide +kernel
theorem dX11_leftAtWorst_48 : decode cX11_leftAtWorst 48 = .ok (.goto (-43), 3) := by decide +kernel
theorem dX11_leftAtWorst_51 : decode cX11_leftAtWorst 51 = .ok (.iload_n 3, 1) := by decide +kernel
theorem dX11_leftAtWorst_52 : decode cX11_leftAtWorst 52 = .ok (.ireturn, 1) := by decide +kernel
theorem dX11_leftBy_0 : decode cX11_leftBy 0 = .ok (.iconst 0, 1) := by decide +kernel
theorem dX11_leftBy_1 : decode cX11_leftBy 1 = .ok (.istore 4, 2) := by decide +kernel
theorem dX11_leftBy_3 : decode cX11_leftBy 3 = .ok (.iconst 0, 1) := by decide +kernel
theorem dX11_leftBy_4 : decode cX11_leftBy 4 = .ok (.istore 5, 2) := by decide +kernel
theorem dX11_leftBy_6 : decode cX11_leftBy 6 = .ok (.iload 5, 2) := by decide +kernel
theorem dX11_leftBy_8 : decode cX11_leftBy 8 = .ok (.bipush 10, 2) := by decide +kernel
theorem dX11_leftBy_10 : decode cX11_leftBy 10 = .ok (.if_icmp .ge 38, 3) := by decide +kernel
theorem dX11_leftBy_13 : decode cX11_leftBy 13 = .ok (.iload_n 1, 1) := by decide +kernel
theorem dX11_leftBy_14 : decode cX11_leftBy 14 = .ok (.iload 5, 2) := by decide +kernel
theorem dX11_leftBy_16 : decode cX11_leftBy 16 = .ok (.ishr, 1) := by decide +kernel
theorem dX11_leftBy_17 : decode cX11_leftBy 17 = .ok (.iconst 1, 1) := by decide +kernel
theorem dX11_leftBy_18 : decode cX11_leftBy 18 = .ok (.iand, 1) := by decide +kernel
theorem dX11_leftBy_19 : decode cX11_leftBy 19 = .ok (.iconst 1, 1) := by decide +kernel
theorem dX11_leftBy_20 : decode cX11_leftBy 20 = .ok (.if_icmp .ne 22, 3) := by decide +kernel
theorem dX11_leftBy_23 : decode cX11_leftBy 23 = .ok (.aload_n 0, 1) := by decide +kernel
theorem dX11_leftBy_24 : decode cX11_leftBy 24 = .ok (.getfield 84, 3) := by decide +kernel
theorem dX11_leftBy_27 : decode cX11_leftBy 27 = .ok (.iload 5, 2) := by decide +kernel
theorem dX11_leftBy_29 : decode cX11_leftBy 29 = .ok (.bipush 60, 2) := by decide +kernel
theorem dX11_leftBy_31 : decode cX11_leftBy 31 = .ok (.imul, 1) := by decide +kernel
theorem dX11_leftBy_32 : decode cX11_leftBy 32 = .ok (.iload_n 2, 1) := by decide +kernel
theorem dX11_leftBy_33 : decode cX11_leftBy 33 = .ok (.iadd, 1) := by decide +kernel
theorem dX11_leftBy_34 : decode cX11_leftBy 34 = .ok (.iaload, 1) := by decide +kernel
theorem dX11_leftBy_35 : decode cX11_leftBy 35 = .ok (.iload_n 3, 1) := by decide +kernel
theorem dX11_leftBy_36 : decode cX11_leftBy 36 = .ok (.if_icmp .ne 6, 3) := by decide +kernel
theorem dX11_leftBy_39 : decode cX11_leftBy 39 = .ok (.iinc 4 1, 3) := by decide +kernel
theorem dX11_leftBy_42 : decode cX11_leftBy 42 = .ok (.iinc 5 1, 3) := by decide +kernel
theorem dX11_leftBy_45 : decode cX11_leftBy 45 = .ok (.goto (-39), 3) := by decide +kernel
theorem dX11_leftBy_48 : decode cX11_leftBy 48 = .ok (.iload 4, 2) := by decide +kernel
theorem dX11_leftBy_50 : decode cX11_leftBy 50 = .ok (.ireturn, 1) := by decide +kernel
theorem dX11_chance_0 : decode cX11_chance 0 = .ok (.iload_n 1, 1) := by decide +kernel
theorem dX11_chance_1 : decode cX11_chance 1 = .ok (.ifCond .lt 25, 3) := by decide +kernel
theorem dX11_chance_4 : decode cX11_chance 4 = .ok (.iload_n 2, 1) := by decide +kernel
theorem dX11_chance_5 : decode cX11_chance 5 = .ok (.iconst 1, 1) := by decide +kernel
theorem dX11_chance_6 : decode cX11_chance 6 = .ok (.if_icmp .lt 20, 3) := by decide +kernel
theorem dX11_chance_9 : decode cX11_chance 9 = .ok (.iload_n 2, 1) := by decide +kernel
theorem dX11_chance_10 : decode cX11_chance 10 = .ok (.bipush 99, 2) := by decide +kernel
theorem dX11_chance_12 : decode cX11_chance 12 = .ok (.if_icmp .gt 14, 3) := by decide +kernel
theorem dX11_chance_15 : decode cX11_chance 15 = .ok (.iload_n 3, 1) := by decide +kernel
theorem dX11_chance_16 : decode cX11_chance 16 = .ok (.ifCond .lt 10, 3) := by decide +kernel
theorem dX11_chance_19 : decode cX11_chance 19 = .ok (.iload_n 3, 1) := by decide +kernel
theorem dX11_chance_20 : decode cX11_chance 20 = .ok (.sipush 999, 3) := by decide +kernel
theorem dX11_chance_23 : decode cX11_chance 23 = .ok (.if_icmp .le 5, 3) := by decide +kernel
theorem dX11_chance_26 : decode cX11_chance 26 = .ok (.iconst (-1), 1) := by decide +kernel
theorem dX11_chance_27 : decode cX11_chance 27 = .ok (.ireturn, 1) := by decide +kernel
theorem dX11_chance_28 : decode cX11_chance 28 = .ok (.aload_n 0, 1) := by decide +kernel
theorem dX11_chance_29 : decode cX11_chance 29 = .ok (.getfield 49, 3) := by decide +kernel
theorem dX11_chance_32 : decode cX11_chance 32 = .ok (.aload_n 0, 1) := by decide +kernel
theorem dX11_chance_33 : decode cX11_chance 33 = .ok (.getfield 30, 3) := by decide +kernel
theorem dX11_chance_36 : decode cX11_chance 36 = .ok (.invokevirtual 274, 3) := by decide +kernel
theorem dX11_chance_39 : decode cX11_chance 39 = .ok (.iload_n 1, 1) := by decide +kernel
theorem dX11_chance_40 : decode cX11_chance 40 = .ok (.i2l, 1) := by decide +kernel
theorem dX11_chance_41 : decode cX11_chance 41 = .ok (.lstore 4, 2) := by decide +kernel
theorem dX11_chance_43 : decode cX11_chance 43 = .ok (.iconst 0, 1) := by decide +kernel
theorem dX11_chance_44 : decode cX11_chance 44 = .ok (.istore 6, 2) := by decide +kernel
theorem dX11_chance_46 : decode cX11_chance 46 = .ok (.iconst 0, 1) := by decide +kernel
theorem dX11_chance_47 : decode cX11_chance 47 = .ok (.istore 7, 2) := by decide +kernel
theorem dX11_chance_49 : decode cX11_chance 49 = .ok (.iload 7, 2) := by decide +kernel
theorem dX11_chance_51 : decode cX11_chance 51 = .ok (.bipush 10, 2) := by decide +kernel
theorem dX11_chance_53 : decode cX11_chance 53 = .ok (.if_icmp .ge 64, 3) := by decide +kernel
theorem dX11_chance_56 : decode cX11_chance 56 = .ok (.aload_n 0, 1) := by decide +kernel
theorem dX11_chance_57 : decode cX11_chance 57 = .ok (.getfield 60, 3) := by decide +kernel
theorem dX11_chance_60 : decode cX11_chance 60 = .ok (.aload_n 0, 1) := by decide +kernel
theorem dX11_chance_61 : decode cX11_chance 61 = .ok (.getfield 56, 3) := by decide +kernel
theorem dX11_chance_64 : decode cX11_chance 64 = .ok (.invokevirtual 285, 3) := by decide +kernel
theorem dX11_chance_67 : decode cX11_chance 67 = .ok (.aload_n 0, 1) := by decide +kernel
theorem dX11_chance_68 : decode cX11_chance 68 = .ok (.getfield 60, 3) := by decide +kernel
theorem dX11_chance_71 : decode cX11_chance 71 = .ok (.lload 4, 2) := by decide +kernel
theorem dX11_chance_73 : decode cX11_chance 73 = .ok (.putfield 413, 3) := by decide +kernel
theorem dX11_chance_76 : decode cX11_chance 76 = .ok (.aload_n 0, 1) := by decide +kernel
theorem dX11_chance_77 : decode cX11_chance 77 = .ok (.getfield 49, 3) := by decide +kernel
theorem dX11_chance_80 : decode cX11_chance 80 = .ok (.aload_n 0, 1) := by decide +kernel
theorem dX11_chance_81 : decode cX11_chance 81 = .ok (.getfield 60, 3) := by decide +kernel
theorem dX11_chance_84 : decode cX11_chance 84 = .ok (.iload_n 2, 1) := by decide +kernel
theorem dX11_chance_85 : decode cX11_chance 85 = .ok (.invokevirtual 277, 3) := by decide +kernel
theorem dX11_chance_88 : decode cX11_chance 88 = .ok (.aload_n 0, 1) := by decide +kernel
theorem dX11_chance_89 : decode cX11_chance 89 = .ok (.getfield 60, 3) := by decide +kernel
theorem dX11_chance_92 : decode cX11_chance 92 = .ok (.getfield 413, 3) := by decide +kernel
theorem dX11_chance_95 : decode cX11_chance 95 = .ok (.lstore 4, 2) := by decide +kernel
theorem dX11_chance_97 : decode cX11_chance 97 = .ok (.aload_n 0, 1) := by decide +kernel
theorem dX11_chance_98 : decode cX11_chance 98 = .ok (.getfield 60, 3) := by decide +kernel
theorem dX11_chance_101 : decode cX11_chance 101 = .ok (.getfield 238, 3) := by decide +kernel
theorem dX11_chance_104 : decode cX11_chance 104 = .ok (.iload_n 3, 1) := by decide +kernel
theorem dX11_chance_105 : decode cX11_chance 105 = .ok (.if_icmp .lt 6, 3) := by decide +kernel
theorem dX11_chance_108 : decode cX11_chance 108 = .ok (.iinc 6 1, 3) := by decide +kernel
theorem dX11_chance_111 : decode cX11_chance 111 = .ok (.iinc 7 1, 3) := by decide +kernel
theorem dX11_chance_114 : decode cX11_chance 114 = .ok (.goto (-65), 3) := by decide +kernel
theorem dX11_chance_117 : decode cX11_chance 117 = .ok (.iload 6, 2) := by decide +kernel
theorem dX11_chance_119 : decode cX11_chance 119 = .ok (.ireturn, 1) := by decide +kernel
theorem dX11_tried_0 : decode cX11_tried 0 = .ok (.iload_n 1, 1) := by decide +kernel
theorem dX11_tried_1 : decode cX11_tried 1 = .ok (.iconst 2, 1) := by decide +kernel
theorem dX11_tried_2 : decode cX11_tried 2 = .ok (.if_icmp .ne 17, 3) := by decide +kernel
theorem dX11_tried_5 : decode cX11_tried 5 = .ok (.aload_n 0, 1) := by decide +kernel
theorem dX11_tried_6 : decode cX11_tried 6 = .ok (.getfield 30, 3) := by decide +kernel
theorem dX11_tried_9 : decode cX11_tried 9 = .ok (.getfield 137, 3) := by decide +kernel
theorem dX11_tried_12 : decode cX11_tried 12 = .ok (.iload_n 2, 1) := by decide +kernel
theorem dX11_tried_13 : decode cX11_tried 13 = .ok (.invokevirtual 143, 3) := by decide +kernel
theorem dX11_tried_16 : decode cX11_tried 16 = .ok (.goto 21, 3) := by decide +kernel
theorem dX11_tried_19 : decode cX11_tried 19 = .ok (.iload_n 1, 1) := by decide +kernel
theorem dX11_tried_20 : decode cX11_tried 20 = .ok (.ifCond .lt 16, 3) := by decide +kernel
theorem dX11_tried_23 : decode cX11_tried 23 = .ok (.iload_n 1, 1) := by decide +kernel
theorem dX11_tried_24 : decode cX11_tried 24 = .ok (.iconst 4, 1) := by decide +kernel
theorem dX11_tried_25 : decode cX11_tried 25 = .ok (.if_icmp .gt 11, 3) := by decide +kernel
theorem dX11_tried_28 : decode cX11_tried 28 = .ok (.iload_n 2, 1) := by decide +kernel
theorem dX11_tried_29 : decode cX11_tried 29 = .ok (.ifCond .ne 7, 3) := by decide +kernel
theorem dX11_tried_32 : decode cX11_tried 32 = .ok (.iconst 1, 1) := by decide +kernel
theorem dX11_tried_33 : decode cX11_tried 33 = .ok (.goto 4, 3) := by decide +kernel
theorem dX11_tried_36 : decode cX11_tried 36 = .ok (.iconst 0, 1) := by decide +kernel
theorem dX11_tried_37 : decode cX11_tried 37 = .ok (.istore 4, 2) := by decide +kernel
theorem dX11_tried_39 : decode cX11_tried 39 = .ok (.iload 4, 2) := by decide +kernel
theorem dX11_tried_41 : decode cX11_tried 41 = .ok (.ifCond .eq 14, 3) := by decide +kernel
theorem dX11_tried_44 : decode cX11_tried 44 = .ok (.iload_n 3, 1) := by decide +kernel
theorem dX11_tried_45 : decode cX11_tried 45 = .ok (.ifCond .lt 10, 3) := by decide +kernel
theorem dX11_tried_48 : decode cX11_tried 48 = .ok (.iload_n 3, 1) := by decide +kernel
theorem dX11_tried_49 : decode cX11_tried 49 = .ok (.sipush 200, 3) := by decide +kernel
theorem dX11_tried_52 : decode cX11_tried 52 = .ok (.if_icmp .le 5, 3) := by decide +kernel
theorem dX11_tried_55 : decode cX11_tried 55 = .ok (.iconst (-1), 1) := by decide +kernel
theorem dX11_tried_56 : decode cX11_tried 56 = .ok (.ireturn, 1) := by decide +kernel
theorem dX11_tried_57 : decode cX11_tried 57 = .ok (.aload_n 0, 1) := by decide +kernel
theorem dX11_tried_58 : decode cX11_tried 58 = .ok (.invokevirtual 291, 3) := by decide +kernel
theorem dX11_tried_61 : decode cX11_tried 61 = .ok (.iload_n 1, 1) := by decide +kernel
theorem dX11_tried_62 : decode cX11_tried 62 = .ok (.tableswitch 74 0 3 #[30, 41, 52, 63], 30) := by decide +kernel
theorem dX11_tried_92 : decode cX11_tried 92 = .ok (.aload_n 0, 1) := by decide +kernel
theorem dX11_tried_93 : decode cX11_tried 93 = .ok (.getfield 49, 3) := by decide +kernel
theorem dX11_tried_96 : decode cX11_tried 96 = .ok (.iconst 2, 1) := by decide +kernel
theorem dX11_tried_97 : decode cX11_tried 97 = .ok (.putfield 417, 3) := by decide +kernel
theorem dX11_tried_100 : decode cX11_tried 100 = .ok (.goto 44, 3) := by decide +kernel
theorem dX11_tried_103 : decode cX11_tried 103 = .ok (.aload_n 0, 1) := by decide +kernel
theorem dX11_tried_104 : decode cX11_tried 104 = .ok (.getfield 49, 3) := by decide +kernel
theorem dX11_tried_107 : decode cX11_tried 107 = .ok (.iconst 3, 1) := by decide +kernel
theorem dX11_tried_108 : decode cX11_tried 108 = .ok (.putfield 417, 3) := by decide +kernel
theorem dX11_tried_111 : decode cX11_tried 111 = .ok (.goto 33, 3) := by decide +kernel
theorem dX11_tried_114 : decode cX11_tried 114 = .ok (.aload_n 0, 1) := by decide +kernel
theorem dX11_tried_115 : decode cX11_tried 115 = .ok (.getfield 49, 3) := by decide +kernel
theorem dX11_tried_118 : decode cX11_tried 118 = .ok (.iload_n 2, 1) := by decide +kernel
theorem dX11_tried_119 : decode cX11_tried 119 = .ok (.putfield 420, 3) := by decide +kernel
theorem dX11_tried_122 : decode cX11_tried 122 = .ok (.goto 22, 3) := by decide +kernel
theorem dX11_tried_125 : decode cX11_tried 125 = .ok (.aload_n 0, 1) := by decide +kernel
theorem dX11_tried_126 : decode cX11_tried 126 = .ok (.getfield 49, 3) := by decide +kernel
theorem dX11_tried_129 : decode cX11_tried 129 = .ok (.iconst 0, 1) := by decide +kernel
theorem dX11_tried_130 : decode cX11_tried 130 = .ok (.putfield 423, 3) := by decide +kernel
theorem dX11_tried_133 : decode cX11_tried 133 = .ok (.goto 11, 3) := by decide +kernel
theorem dX11_tried_136 : decode cX11_tried 136 = .ok (.aload_n 0, 1) := by decide +kernel
theorem dX11_tried_137 : decode cX11_tried 137 = .ok (.getfield 49, 3) := by decide +kernel
theorem dX11_tried_140 : decode cX11_tried 140 = .ok (.iconst 1, 1) := by decide +kernel
theorem dX11_tried_141 : decode cX11_tried 141 = .ok (.putfield 426, 3) := by decide +kernel
theorem dX11_tried_144 : decode cX11_tried 144 = .ok (.aload_n 0, 1) := by decide +kernel
theorem dX11_tried_145 : decode cX11_tried 145 = .ok (.getfield 49, 3) := by decide +kernel
theorem dX11_tried_148 : decode cX11_tried 148 = .ok (.aload_n 0, 1) := by decide +kernel
theorem dX11_tried_149 : decode cX11_tried 149 = .ok (.getfield 60, 3) := by decide +kernel
theorem dX11_tried_152 : decode cX11_tried 152 = .ok (.iload_n 3, 1) := by decide +kernel
theorem dX11_tried_153 : decode cX11_tried 153 = .ok (.invokevirtual 277, 3) := by decide +kernel
theorem dX11_tried_156 : decode cX11_tried 156 = .ok (.aload_n 0, 1) := by decide +kernel
theorem dX11_tried_157 : decode cX11_tried 157 = .ok (.getfield 60, 3) := by decide +kernel
theorem dX11_tried_160 : decode cX11_tried 160 = .ok (.getfield 238, 3) := by decide +kernel
theorem dX11_tried_163 : decode cX11_tried 163 = .ok (.ireturn, 1) := by decide +kernel
theorem dX11_within_0 : decode cX11_within 0 = .ok (.lload_n 2, 1) := by decide +kernel
theorem dX11_within_1 : decode cX11_within 1 = .ok (.lload 4, 2) := by decide +kernel
theorem dX11_within_3 : decode cX11_within 3 = .ok (.lload_n 0, 1) := by decide +kernel
theorem dX11_within_4 : decode cX11_within 4 = .ok (.invokestatic 429, 3) := by decide +kernel
theorem dX11_within_7 : decode cX11_within 7 = .ok (.invokestatic 432, 3) := by decide +kernel
theorem dX11_within_10 : decode cX11_within 10 = .ok (.lreturn, 1) := by decide +kernel
theorem dX12_thrown_0 : decode cX12_thrown 0 = .ok (.aload_n 0, 1) := by decide +kernel
theorem dX12_thrown_1 : decode cX12_thrown 1 = .ok (.getfield 157, 3) := by decide +kernel
theorem dX12_thrown_4 : decode cX12_thrown 4 = .ok (.ireturn, 1) := by decide +kernel
theorem dX12_feed_0 : decode cX12_feed 0 = .ok (.aload_n 0, 1) := by decide +kernel
theorem dX12_feed_1 : decode cX12_feed 1 = .ok (.iconst 0, 1) := by decide +kernel
theorem dX12_feed_2 : decode cX12_feed 2 = .ok (.putfield 157, 3) := by decide +kernel
theorem dX12_feed_5 : decode cX12_feed 5 = .ok (.aload_n 0, 1) := by decide +kernel
theorem dX12_feed_6 : decode cX12_feed 6 = .ok (.getfield 160, 3) := by decide +kernel
theorem dX12_feed_9 : decode cX12_feed 9 = .ok (.bipush 20, 2) := by decide +kernel
theorem dX12_feed_11 : decode cX12_feed 11 = .ok (.iadd, 1) := by decide +kernel
theorem dX12_feed_12 : decode cX12_feed 12 = .ok (.sipush 700, 3) := by decide +kernel
theorem dX12_feed_15 : decode cX12_feed 15 = .ok (.if_icmp .le 5, 3) := by decide +kernel
theorem dX12_feed_18 : decode cX12_feed 18 = .ok (.iconst (-1), 1) := by decide +kernel
theorem dX12_feed_19 : decode cX12_feed 19 = .ok (.ireturn, 1) := by decide +kernel
theorem dX12_feed_20 : decode cX12_feed 20 = .ok (.iconst 0, 1) := by decide +kernel
theorem dX12_feed_21 : decode cX12_feed 21 = .ok (.istore 6, 2) := by decide +kernel
theorem dX12_feed_23 : decode cX12_feed 23 = .ok (.iload 6, 2) := by decide +kernel
theorem dX12_feed_25 : decode cX12_feed 25 = .ok (.bipush 20, 2) := by decide +kernel
theorem dX12_feed_27 : decode cX12_feed 27 = .ok (.if_icmp .ge 86, 3) := by decide +kernel
theorem dX12_feed_30 : decode cX12_feed 30 = .ok (.iload 6, 2) := by decide +kernel
theorem dX12_feed_32 : decode cX12_feed 32 = .ok (.iconst 4, 1) := by decide +kernel
theorem dX12_feed_33 : decode cX12_feed 33 = .ok (.if_icmp .ge 7, 3) := by decide +kernel
theorem dX12_feed_36 : decode cX12_feed 36 = .ok (.iload_n 1, 1) := by decide +kernel
theorem dX12_feed_37 : decode cX12_feed 37 = .ok (.goto 39, 3) := by decide +kernel
theorem dX12_feed_40 : decode cX12_feed 40 = .ok (.iload 6, 2) := by decide +kernel
theorem dX12_feed_42 : decode cX12_feed 42 = .ok (.bipush 8, 2) := by decide +kernel
theorem dX12_feed_44 : decode cX12_feed 44 = .ok (.if_icmp .ge 7, 3) := by decide +kernel
theorem dX12_feed_47 : decode cX12_feed 47 = .ok (.iload_n 2, 1) := by decide +kernel
theorem dX12_feed_48 : decode cX12_feed 48 = .ok (.goto 28, 3) := by decide +kernel
theorem dX12_feed_51 : decode cX12_feed 51 = .ok (.iload 6, 2) := by decide +kernel
theorem dX12_feed_53 : decode cX12_feed 53 = .ok (.bipush 12, 2) := by decide +kernel
theorem dX12_feed_55 : decode cX12_feed 55 = .ok (.if_icmp .ge 7, 3) := by decide +kernel
theorem dX12_feed_58 : decode cX12_feed 58 = .ok (.iload_n 3, 1) := by decide +kernel
theorem dX12_feed_59 : decode cX12_feed 59 = .ok (.goto 17, 3) := by decide +kernel
theorem dX12_feed_62 : decode cX12_feed 62 = .ok (.iload 6, 2) := by decide +kernel
theorem dX12_feed_64 : decode cX12_feed 64 = .ok (.bipush 16, 2) := by decide +kernel
theorem dX12_feed_66 : decode cX12_feed 66 = .ok (.if_icmp .ge 8, 3) := by decide +kernel
theorem dX12_feed_69 : decode cX12_feed 69 = .ok (.iload 4, 2) := by decide +kernel
theorem dX12_feed_71 : decode cX12_feed 71 = .ok (.goto 5, 3) := by decide +kernel
theorem dX12_feed_74 : decode cX12_feed 74 = .ok (.iload 5, 2) := by decide +kernel
theorem dX12_feed_76 : decode cX12_feed 76 = .ok (.istore 7, 2) := by decide +kernel
theorem dX12_feed_78 : decode cX12_feed 78 = .ok (.aload_n 0, 1) := by decide +kernel
theorem dX12_feed_79 : decode cX12_feed 79 = .ok (.getfield 7, 3) := by decide +kernel
theorem dX12_feed_82 : decode cX12_feed 82 = .ok (.aload_n 0, 1) := by decide +kernel
theorem dX12_feed_83 : decode cX12_feed 83 = .ok (.getfield 160, 3) := by decide +kernel
theorem dX12_feed_86 : decode cX12_feed 86 = .ok (.iload 6, 2) := by decide +kernel
theorem dX12_feed_88 : decode cX12_feed 88 = .ok (.iadd, 1) := by decide +kernel
theorem dX12_feed_89 : decode cX12_feed 89 = .ok (.iload 7, 2) := by decide +kernel
theorem dX12_feed_91 : decode cX12_feed 91 = .ok (.bipush 24, 2) := by decide +kernel
theorem dX12_feed_93 : decode cX12_feed 93 = .ok (.bipush 8, 2) := by decide +kernel
theorem dX12_feed_95 : decode cX12_feed 95 = .ok (.iload 6, 2) := by decide +kernel
theorem dX12_feed_97 : decode cX12_feed 97 = .ok (.iconst 4, 1) := by decide +kernel
theorem dX12_feed_98 : decode cX12_feed 98 = .ok (.irem, 1) := by decide +kernel
theorem dX12_feed_99 : decode cX12_feed 99 = .ok (.imul, 1) := by decide +kernel
theorem dX12_feed_100 : decode cX12_feed 100 = .ok (.isub, 1) := by decide +kernel
theorem dX12_feed_101 : decode cX12_feed 101 = .ok (.ishr, 1) := by decide +kernel
theorem dX12_feed_102 : decode cX12_feed 102 = .ok (.sipush 255, 3) := by decide +kernel
theorem dX12_feed_105 : decode cX12_feed 105 = .ok (.iand, 1) := by decide +kernel
theorem dX12_feed_106 : decode cX12_feed 106 = .ok (.iastore, 1) := by decide +kernel
theorem dX12_feed_107 : decode cX12_feed 107 = .ok (.iinc 6 1, 3) := by decide +kernel
theorem dX12_feed_110 : decode cX12_feed 110 = .ok (.goto (-87), 3) := by decide +kernel
theorem dX12_feed_113 : decode cX12_feed 113 = .ok (.aload_n 0, 1) := by decide +kernel
theorem dX12_feed_114 : decode cX12_feed 114 = .ok (.dup, 1) := by decide +kernel
theorem dX12_feed_115 : decode cX12_feed 115 = .ok (.getfield 160, 3) := by decide +kernel
theorem dX12_feed_118 : decode cX12_feed 118 = .ok (.bipush 20, 2) := by decide +kernel
theorem dX12_feed_120 : decode cX12_feed 120 = .ok (.iadd, 1) := by decide +kernel
theorem dX12_feed_121 : decode cX12_feed 121 = .ok (.putfield 160, 3) := by decide +kernel
theorem dX12_feed_124 : decode cX12_feed 124 = .ok (.aload_n 0, 1) := by decide +kernel
theorem dX12_feed_125 : decode cX12_feed 125 = .ok (.getfield 160, 3) := by decide +kernel
theorem dX12_feed_128 : decode cX12_feed 128 = .ok (.ireturn, 1) := by decide +kernel
theorem dX12_isIn_0 : decode cX12_isIn 0 = .ok (.iload_n 0, 1) := by decide +kernel
theorem dX12_isIn_1 : decode cX12_isIn 1 = .ok (.iload_n 1, 1) := by decide +kernel
theorem dX12_isIn_2 : decode cX12_isIn 2 = .ok (.if_icmp .lt 12, 3) := by decide +kernel
theorem dX12_isIn_5 : decode cX12_isIn 5 = .ok (.iload_n 0, 1) := by decide +kernel
theorem dX12_isIn_6 : decode cX12_isIn 6 = .ok (.iload_n 2, 1) := by decide +kernel
theorem dX12_isIn_7 : decode cX12_isIn 7 = .ok (.if_icmp .gt 7, 3) := by decide +kernel
theorem dX12_isIn_10 : decode cX12_isIn 10 = .ok (.iconst 1, 1) := by decide +kernel
theorem dX12_isIn_11 : decode cX12_isIn 11 = .ok (.goto 4, 3) := by decide +kernel
theorem dX12_isIn_14 : decode cX12_isIn 14 = .ok (.iconst 0, 1) := by decide +kernel
theorem dX12_isIn_15 : decode cX12_isIn 15 = .ok (.ireturn, 1) := by decide +kernel
theorem dX12_isOf_0 : decode cX12_isOf 0 = .ok (.iload_n 0, 1) := by decide +kernel
theorem dX12_isOf_1 : decode cX12_isOf 1 = .ok (.iload_n 1, 1) := by decide +kernel
theorem dX12_isOf_2 : decode cX12_isOf 2 = .ok (.ishr, 1) := by decide +kernel
theorem dX12_isOf_3 : decode cX12_isOf 3 = .ok (.iconst 1, 1) := by decide +kernel
theorem dX12_isOf_4 : decode cX12_isOf 4 = .ok (.iand, 1) := by decide +kernel
theorem dX12_isOf_5 : decode cX12_isOf 5 = .ok (.iconst 1, 1) := by decide +kernel
theorem dX12_isOf_6 : decode cX12_isOf 6 = .ok (.if_icmp .ne 7, 3) := by decide +kernel
theorem dX12_isOf_9 : decode cX12_isOf 9 = .ok (.iconst 1, 1) := by decide +kernel
theorem dX12_isOf_10 : decode cX12_isOf 10 = .ok (.goto 4, 3) := by decide +kernel
theorem dX12_isOf_13 : decode cX12_isOf 13 = .ok (.iconst 0, 1) := by decide +kernel
theorem dX12_isOf_14 : decode cX12_isOf 14 = .ok (.ireturn, 1) := by decide +kernel
theorem dX12_wrong_0 : decode cX12_wrong 0 = .ok (.aload_n 0, 1) := by decide +kernel
theorem dX12_wrong_1 : decode cX12_wrong 1 = .ok (.iload_n 1, 1) := by decide +kernel
theorem dX12_wrong_2 : decode cX12_wrong 2 = .ok (.putfield 163, 3) := by decide +kernel
theorem dX12_wrong_5 : decode cX12_wrong 5 = .ok (.aload_n 0, 1) := by decide +kernel
theorem dX12_wrong_6 : decode cX12_wrong 6 = .ok (.aload_n 0, 1) := by decide +kernel
theorem dX12_wrong_7 : decode cX12_wrong 7 = .ok (.getfield 166, 3) := by decide +kernel
theorem dX12_wrong_10 : decode cX12_wrong 10 = .ok (.putfield 16, 3) := by decide +kernel
theorem dX12_wrong_13 : decode cX12_wrong 13 = .ok (.iconst 0, 1) := by decide +kernel
theorem dX12_wrong_14 : decode cX12_wrong 14 = .ok (.ireturn, 1) := by decide +kernel
theorem dX12_wordAt_0 : decode cX12_wordAt 0 = .ok (.iconst 0, 1) := by decide +kernel
theorem dX12_wordAt_1 : decode cX12_wordAt 1 = .ok (.istore_n 3, 1) := by decide +kernel
theorem dX12_wordAt_2 : decode cX12_wordAt 2 = .ok (.iconst 0, 1) := by decide +kernel
theorem dX12_wordAt_3 : decode cX12_wordAt 3 = .ok (.istore 4, 2) := by decide +kernel
theorem dX12_wordAt_5 : decode cX12_wordAt 5 = .ok (.iload 4, 2) := by decide +kernel
theorem dX12_wordAt_7 : decode cX12_wordAt 7 = .ok (.aload_n 0, 1) := by decide +kernel
theorem dX12_wordAt_8 : decode cX12_wordAt 8 = .ok (.getfield 13, 3) := by decide +kernel
theorem dX12_wordAt_11 : decode cX12_wordAt 11 = .ok (.arraylength, 1) := by decide +kernel
theorem dX12_wordAt_12 : decode cX12_wordAt 12 = .ok (.if_icmp .ge 114, 3) := by decide +kernel
theorem dX12_wordAt_15 : decode cX12_wordAt 15 = .ok (.iconst 0, 1) := by decide +kernel
theorem dX12_wordAt_16 : decode cX12_wordAt 16 = .ok (.istore 5, 2) := by decide +kernel
theorem dX12_wordAt_18 : decode cX12_wordAt 18 = .ok (.aload_n 0, 1) := by decide +kernel
theorem dX12_wordAt_19 : decode cX12_wordAt 19 = .ok (.getfield 13, 3) := by decide +kernel
theorem dX12_wordAt_22 : decode cX12_wordAt 22 = .ok (.iload 4, 2) := by decide +kernel
theorem dX12_wordAt_24 : decode cX12_wordAt 24 = .ok (.iload 5, 2) := by decide +kernel
theorem dX12_wordAt_26 : decode cX12_wordAt 26 = .ok (.iadd, 1) := by decide +kernel
theorem dX12_wordAt_27 : decode cX12_wordAt 27 = .ok (.iaload, 1) := by decide +kernel
theorem dX12_wordAt_28 : decode cX12_wordAt 28 = .ok (.bipush 32, 2) := by decide +kernel
theorem dX12_wordAt_30 : decode cX12_wordAt 30 = .ok (.if_icmp .eq 9, 3) := by decide +kernel
theorem dX12_wordAt_33 : decode cX12_wordAt 33 = .ok (.iinc 5 1, 3) := by decide +kernel
theorem dX12_wordAt_36 : decode cX12_wordAt 36 = .ok (.goto (-18), 3) := by decide +kernel
theorem dX12_wordAt_39 : decode cX12_wordAt 39 = .ok (.iload 5, 2) := by decide +kernel
theorem dX12_wordAt_41 : decode cX12_wordAt 41 = .ok (.iload_n 2, 1) := by decide +kernel
theorem dX12_wordAt_42 : decode cX12_wordAt 42 = .ok (.iload_n 1, 1) := by decide +kernel
theorem dX12_wordAt_43 : decode cX12_wordAt 43 = .ok (.isub, 1) := by decide +kernel
theorem dX12_wordAt_44 : decode cX12_wordAt 44 = .ok (.if_icmp .ne 7, 3) := by decide +kernel
theorem dX12_wordAt_47 : decode cX12_wordAt 47 = .ok (.iconst 1, 1) := by decide +kernel
theorem dX12_wordAt_48 : decode cX12_wordAt 48 = .ok (.goto 4, 3) := by decide +kernel
theorem dX12_wordAt_51 : decode cX12_wordAt 51 = .ok (.iconst 0, 1) := by decide +kernel
theorem dX12_wordAt_52 : decode cX12_wordAt 52 = .ok (.istore 6, 2) := by decide +kernel
theorem dX12_wordAt_54 : decode cX12_wordAt 54 = .ok (.iconst 0, 1) := by decide +kernel
theorem dX12_wordAt_55 : decode cX12_wordAt 55 = .ok (.istore 7, 2) := by decide +kernel
theorem dX12_wordAt_57 : decode cX12_wordAt 57 = .ok (.iload 7, 2) := by decide +kernel
theorem dX12_wordAt_59 : decode cX12_wordAt 59 = .ok (.iload 5, 2) := by decide +kernel
theorem dX12_wordAt_61 : decode cX12_wordAt 61 = .ok (.if_icmp .ge 43, 3) := by decide +kernel
theorem dX12_wordAt_64 : decode cX12_wordAt 64 = .ok (.iload 6, 2) := by decide +kernel
theorem dX12_wordAt_66 : decode cX12_wordAt 66 = .ok (.ifCond .eq 38, 3) := by decide +kernel
theorem dX12_wordAt_69 : decode cX12_wordAt 69 = .ok (.aload_n 0, 1) := by decide +kernel
theorem dX12_wordAt_70 : decode cX12_wordAt 70 = .ok (.getfield 13, 3) := by decide +kernel
theorem dX12_wordAt_73 : decode cX12_wordAt 73 = .ok (.iload 4, 2) := by decide +kernel
theorem dX12_wordAt_75 : decode cX12_wordAt 75 = .ok (.iload 7, 2) := by decide +kernel
theorem dX12_wordAt_77 : decode cX12_wordAt 77 = .ok (.iadd, 1) := by decide +kernel
theorem dX12_wordAt_78 : decode cX12_wordAt 78 = .ok (.iaload, 1) := by decide +kernel
theorem dX12_wordAt_79 : decode cX12_wordAt 79 = .ok (.aload_n 0, 1) := by decide +kernel
theorem dX12_wordAt_80 : decode cX12_wordAt 80 = .ok (.getfield 7, 3) := by decide +kernel
theorem dX12_wordAt_83 : decode cX12_wordAt 83 = .ok (.iload_n 1, 1) := by decide +kernel
theorem dX12_wordAt_84 : decode cX12_wordAt 84 = .ok (.iload 7, 2) := by decide +kernel
theorem dX12_wordAt_86 : decode cX12_wordAt 86 = .ok (.iadd, 1) := by decide +kernel
theorem dX12_wordAt_87 : decode cX12_wordAt 87 = .ok (.iaload, 1) := by decide +kernel
theorem dX12_wordAt_88 : decode cX12_wordAt 88 = .ok (.if_icmp .ne 7, 3) := by decide +kernel
theorem dX12_wordAt_91 : decode cX12_wordAt 91 = .ok (.iconst 1, 1) := by decide +kernel
theorem dX12_wordAt_92 : decode cX12_wordAt 92 = .ok (.goto 4, 3) := by decide +kernel
theorem dX12_wordAt_95 : decode cX12_wordAt 95 = .ok (.iconst 0, 1) := by decide +kernel
theorem dX12_wordAt_96 : decode cX12_wordAt 96 = .ok (.istore 6, 2) := by decide +kernel
theorem dX12_wordAt_98 : decode cX12_wordAt 98 = .ok (.iinc 7 1, 3) := by decide +kernel
theorem dX12_wordAt_101 : decode cX12_wordAt 101 = .ok (.goto (-44), 3) := by decide +kernel
theorem dX12_wordAt_104 : decode cX12_wordAt 104 = .ok (.iload 6, 2) := by decide +kernel
theorem dX12_wordAt_106 : decode cX12_wordAt 106 = .ok (.ifCond .eq 5, 3) := by decide +kernel
theorem dX12_wordAt_109 : decode cX12_wordAt 109 = .ok (.iload_n 3, 1) := by decide +kernel
theorem dX12_wordAt_110 : decode cX12_wordAt 110 = .ok (.ireturn, 1) := by decide +kernel
theorem dX12_wordAt_111 : decode cX12_wordAt 111 = .ok (.iload 4, 2) := by decide +kernel
theorem dX12_wordAt_113 : decode cX12_wordAt 113 = .ok (.iload 5, 2) := by decide +kernel
theorem dX12_wordAt_115 : decode cX12_wordAt 115 = .ok (.iconst 1, 1) := by decide +kernel
theorem dX12_wordAt_116 : decode cX12_wordAt 116 = .ok (.iadd, 1) := by decide +kernel
theorem dX12_wordAt_117 : decode cX12_wordAt 117 = .ok (.iadd, 1) := by decide +kernel
theorem dX12_wordAt_118 : decode cX12_wordAt 118 = .ok (.istore 4, 2) := by decide +kernel
theorem dX12_wordAt_120 : decode cX12_wordAt 120 = .ok (.iinc 3 1, 3) := by decide +kernel
theorem dX12_wordAt_123 : decode cX12_wordAt 123 = .ok (.goto (-118), 3) := by decide +kernel
theorem dX12_wordAt_126 : decode cX12_wordAt 126 = .ok (.iconst (-1), 1) := by decide +kernel
theorem dX12_wordAt_127 : decode cX12_wordAt 127 = .ok (.ireturn, 1) := by decide +kernel
theorem dX12_isSmall_0 : decode cX12_isSmall 0 = .ok (.iload_n 1, 1) := by decide +kernel
theorem dX12_isSmall_1 : decode cX12_isSmall 1 = .ok (.aload_n 0, 1) := by decide +kernel
theorem dX12_isSmall_2 : decode cX12_isSmall 2 = .ok (.getfield 169, 3) := by decide +kernel
theorem dX12_isSmall_5 : decode cX12_isSmall 5 = .ok (.if_icmp .ge 29, 3) := by decide +kernel
theorem dX12_isSmall_8 : decode cX12_isSmall 8 = .ok (.aload_n 0, 1) := by decide +kernel
theorem dX12_isSmall_9 : decode cX12_isSmall 9 = .ok (.getfield 7, 3) := by decide +kernel
theorem dX12_isSmall_12 : decode cX12_isSmall 12 = .ok (.iload_n 1, 1) := by decide +kernel
theorem dX12_isSmall_13 : decode cX12_isSmall 13 = .ok (.iaload, 1) := by decide +kernel
theorem dX12_isSmall_14 : decode cX12_isSmall 14 = .ok (.bipush 97, 2) := by decide +kernel
theorem dX12_isSmall_16 : decode cX12_isSmall 16 = .ok (.if_icmp .lt 18, 3) := by decide +kernel
theorem dX12_isSmall_19 : decode cX12_isSmall 19 = .ok (.aload_n 0, 1) := by decide +kernel
theorem dX12_isSmall_20 : decode cX12_isSmall 20 = .ok (.getfield 7, 3) := by decide +kernel
theorem dX12_isSmall_23 : decode cX12_isSmall 23 = .ok (.iload_n 1, 1) := by decide +kernel
theorem dX12_isSmall_24 : decode cX12_isSmall 24 = .ok (.iaload, 1) := by decide +kernel
theorem dX12_isSmall_25 : decode cX12_isSmall 25 = .ok (.bipush 122, 2) := by decide +kernel
theorem dX12_isSmall_27 : decode cX12_isSmall 27 = .ok (.if_icmp .gt 7, 3) := by decide +kernel
theorem dX12_isSmall_30 : decode cX12_isSmall 30 = .ok (.iconst 1, 1) := by decide +kernel
theorem dX12_isSmall_31 : decode cX12_isSmall 31 = .ok (.goto 4, 3) := by decide +kernel
theorem dX12_isSmall_34 : decode cX12_isSmall 34 = .ok (.iconst 0, 1) := by decide +kernel
theorem dX12_isSmall_35 : decode cX12_isSmall 35 = .ok (.ireturn, 1) := by decide +kernel
theorem dX12_isDigit_0 : decode cX12_isDigit 0 = .ok (.iload_n 1, 1) := by decide +kernel
theorem dX12_isDigit_1 : decode cX12_isDigit 1 = .ok (.aload_n 0, 1) := by decide +kernel
theorem dX12_isDigit_2 : decode cX12_isDigit 2 = .ok (.getfield 169, 3) := by decide +kernel
theorem dX12_isDigit_5 : decode cX12_isDigit 5 = .ok (.if_icmp .ge 29, 3) := by decide +kernel
theorem dX12_isDigit_8 : decode cX12_isDigit 8 = .ok (.aload_n 0, 1) := by decide +kernel
theorem dX12_isDigit_9 : decode cX12_isDigit 9 = .ok (.getfield 7, 3) := by decide +kernel
theorem dX12_isDigit_12 : decode cX12_isDigit 12 = .ok (.iload_n 1, 1) := by decide +kernel
theorem dX12_isDigit_13 : decode cX12_isDigit 13 = .ok (.iaload, 1) := by decide +kernel
theorem dX12_isDigit_14 : decode cX12_isDigit 14 = .ok (.bipush 48, 2) := by decide +kernel
theorem dX12_isDigit_16 : decode cX12_isDigit 16 = .ok (.if_icmp .lt 18, 3) := by decide +kernel
theorem dX12_isDigit_19 : decode cX12_isDigit 19 = .ok (.aload_n 0, 1) := by decide +kernel
theorem dX12_isDigit_20 : decode cX12_isDigit 20 = .ok (.getfield 7, 3) := by decide +kernel
theorem dX12_isDigit_23 : decode cX12_isDigit 23 = .ok (.iload_n 1, 1) := by decide +kernel
theorem dX12_isDigit_24 : decode cX12_isDigit 24 = .ok (.iaload, 1) := by decide +kernel
theorem dX12_isDigit_25 : decode cX12_isDigit 25 = .ok (.bipush 57, 2) := by decide +kernel
theorem dX12_isDigit_27 : decode cX12_isDigit 27 = .ok (.if_icmp .gt 7, 3) := by decide +kernel
theorem dX12_isDigit_30 : decode cX12_isDigit 30 = .ok (.iconst 1, 1) := by decide +kernel
theorem dX12_isDigit_31 : decode cX12_isDigit 31 = .ok (.goto 4, 3) := by decide +kernel
theorem dX12_isDigit_34 : decode cX12_isDigit 34 = .ok (.iconst 0, 1) := by decide +kernel
theorem dX12_isDigit_35 : decode cX12_isDigit 35 = .ok (.ireturn, 1) := by decide +kernel
theorem dX12_token_0 : decode cX12_token 0 = .ok (.aload_n 0, 1) := by decide +kernel
theorem dX12_token_1 : decode cX12_token 1 = .ok (.getfield 172, 3) := by decide +kernel
theorem dX12_token_4 : decode cX12_token 4 = .ok (.aload_n 0, 1) := by decide +kernel
theorem dX12_token_5 : decode cX12_token 5 = .ok (.getfield 169, 3) := by decide +kernel
theorem dX12_token_8 : decode cX12_token 8 = .ok (.if_icmp .ge 44, 3) := by decide +kernel
theorem dX12_token_11 : decode cX12_token 11 = .ok (.aload_n 0, 1) := by decide +kernel
theorem dX12_token_12 : decode cX12_token 12 = .ok (.getfield 7, 3) := by decide +kernel
theorem dX12_token_15 : decode cX12_token 15 = .ok (.aload_n 0, 1) := by decide +kernel
theorem dX12_token_16 : decode cX12_token 16 = .ok (.getfield 172, 3) := by decide +kernel
theorem dX12_token_19 : decode cX12_token 19 = .ok (.iaload, 1) := by decide +kernel
theorem dX12_token_20 : decode cX12_token 20 = .ok (.bipush 10, 2) := by decide +kernel
theorem dX12_token_22 : decode cX12_token 22 = .ok (.if_icmp .eq 17, 3) := by decide +kernel
theorem dX12_token_25 : decode cX12_token 25 = .ok (.aload_n 0, 1) := by decide +kernel
theorem dX12_token_26 : decode cX12_token 26 = .ok (.getfield 7, 3) := by decide +kernel
theorem dX12_token_29 : decode cX12_token 29 = .ok (.aload_n 0, 1) := by decide +kernel
theorem dX12_token_30 : decode cX12_token 30 = .ok (.getfield 172, 3) := by decide +kernel
theorem dX12_token_33 : decode cX12_token 33 = .ok (.iaload, 1) := by decide +kernel
theorem dX12_token_34 : decode cX12_token 34 = .ok (.bipush 32, 2) := by decide +kernel
theorem dX12_token_36 : decode cX12_token 36 = .ok (.if_icmp .ne 16, 3) := by decide +kernel
theorem dX12_token_39 : decode cX12_token 39 = .ok (.aload_n 0, 1) := by decide +kernel
theorem dX12_token_40 : decode cX12_token 40 = .ok (.dup, 1) := by decide +kernel
theorem dX12_token_41 : decode cX12_token 41 = .ok (.getfield 172, 3) := by decide +kernel
theorem dX12_token_44 : decode cX12_token 44 = .ok (.iconst 1, 1) := by decide +kernel
theorem dX12_token_45 : decode cX12_token 45 = .ok (.iadd, 1) := by decide +kernel
theorem dX12_token_46 : decode cX12_token 46 = .ok (.putfield 172, 3) := by decide +kernel
theorem dX12_token_49 : decode cX12_token 49 = .ok (.goto (-49), 3) := by decide +kernel
theorem dX12_token_52 : decode cX12_token 52 = .ok (.aload_n 0, 1) := by decide +kernel
theorem dX12_token_53 : decode cX12_token 53 = .ok (.aload_n 0, 1) := by decide +kernel
theorem dX12_token_54 : decode cX12_token 54 = .ok (.getfield 172, 3) := by decide +kernel
theorem dX12_token_57 : decode cX12_token 57 = .ok (.putfield 166, 3) := by decide +kernel
theorem dX12_token_60 : decode cX12_token 60 = .ok (.aload_n 0, 1) := by decide +kernel
theorem dX12_token_61 : decode cX12_token 61 = .ok (.getfield 172, 3) := by decide +kernel
theorem dX12_token_64 : decode cX12_token 64 = .ok (.aload_n 0, 1) := by decide +kernel
theorem dX12_token_65 : decode cX12_token 65 = .ok (.getfield 169, 3) := by decide +kernel
theorem dX12_token_68 : decode cX12_token 68 = .ok (.if_icmp .ne 11, 3) := by decide +kernel
theorem dX12_token_71 : decode cX12_token 71 = .ok (.aload_n 0, 1) := by decide +kernel
theorem dX12_token_72 : decode cX12_token 72 = .ok (.iconst 0, 1) := by decide +kernel
theorem dX12_token_73 : decode cX12_token 73 = .ok (.putfield 175, 3) := by decide +kernel
theorem dX12_token_76 : decode cX12_token 76 = .ok (.goto 205, 3) := by decide +kernel
theorem dX12_token_79 : decode cX12_token 79 = .ok (.aload_n 0, 1) := by decide +kernel
theorem dX12_token_80 : decode cX12_token 80 = .ok (.aload_n 0, 1) := by decide +kernel
theorem dX12_token_81 : decode cX12_token 81 = .ok (.getfield 172, 3) := by decide +kernel
theorem dX12_token_84 : decode cX12_token 84 = .ok (.invokevirtual 178, 3) := by decide +kernel
theorem dX12_token_87 : decode cX12_token 87 = .ok (.ifCond .eq 105, 3) := by decide +kernel
theorem dX12_token_90 : decode cX12_token 90 = .ok (.aload_n 0, 1) := by decide +kernel
theorem dX12_token_91 : decode cX12_token 91 = .ok (.aload_n 0, 1) := by decide +kernel
theorem dX12_token_92 : decode cX12_token 92 = .ok (.getfield 172, 3) := by decide +kernel
theorem dX12_token_95 : decode cX12_token 95 = .ok (.invokevirtual 178, 3) := by decide +kernel
theorem dX12_token_98 : decode cX12_token 98 = .ok (.ifCond .eq 16, 3) := by decide +kernel
theorem dX12_token_101 : decode cX12_token 101 = .ok (.aload_n 0, 1) := by decide +kernel
theorem dX12_token_102 : decode cX12_token 102 = .ok (.dup, 1) := by decide +kernel
theorem dX12_token_103 : decode cX12_token 103 = .ok (.getfield 172, 3) := by decide +kernel
theorem dX12_token_106 : decode cX12_token 106 = .ok (.iconst 1, 1) := by decide +kernel
theorem dX12_token_107 : decode cX12_token 107 = .ok (.iadd, 1) := by decide +kernel
theorem dX12_token_108 : decode cX12_token 108 = .ok (.putfield 172, 3) := by decide +kernel
theorem dX12_token_111 : decode cX12_token 111 = .ok (.goto (-21), 3) := by decide +kernel
theorem dX12_token_114 : decode cX12_token 114 = .ok (.aload_n 0, 1) := by decide +kernel
theorem dX12_token_115 : decode cX12_token 115 = .ok (.aload_n 0, 1) := by decide +kernel
theorem dX12_token_116 : decode cX12_token 116 = .ok (.aload_n 0, 1) := by decide +kernel
theorem dX12_token_117 : decode cX12_token 117 = .ok (.getfield 166, 3) := by decide +kernel
theorem dX12_token_120 : decode cX12_token 120 = .ok (.aload_n 0, 1) := by decide +kernel
theorem dX12_token_121 : decode cX12_token 121 = .ok (.getfield 172, 3) := by decide +kernel
theorem dX12_token_124 : decode cX12_token 124 = .ok (.invokevirtual 182, 3) := by decide +kernel
theorem dX12_token_127 : decode cX12_token 127 = .ok (.putfield 186, 3) := by decide +kernel
theorem dX12_token_130 : decode cX12_token 130 = .ok (.aload_n 0, 1) := by decide +kernel
theorem dX12_token_131 : decode cX12_token 131 = .ok (.aload_n 0, 1) := by decide +kernel
theorem dX12_token_132 : decode cX12_token 132 = .ok (.getfield 186, 3) := by decide +kernel
theorem dX12_token_135 : decode cX12_token 135 = .ok (.ifCond .lt 7, 3) := by decide +kernel
theorem dX12_token_138 : decode cX12_token 138 = .ok (.iconst 1, 1) := by decide +kernel
theorem dX12_token_139 : decode cX12_token 139 = .ok (.goto 23, 3) := by decide +kernel
theorem dX12_token_142 : decode cX12_token 142 = .ok (.aload_n 0, 1) := by decide +kernel
theorem dX12_token_143 : decode cX12_token 143 = .ok (.getfield 172, 3) := by decide +kernel
theorem dX12_token_146 : decode cX12_token 146 = .ok (.aload_n 0, 1) := by decide +kernel
theorem dX12_token_147 : decode cX12_token 147 = .ok (.getfield 166, 3) := by decide +kernel
theorem dX12_token_150 : decode cX12_token 150 = .ok (.isub, 1) := by decide +kernel
theorem dX12_token_151 : decode cX12_token 151 = .ok (.bipush 6, 2) := by decide +kernel
theorem dX12_token_153 : decode cX12_token 153 = .ok (.if_icmp .le 8, 3) := by decide +kernel
theorem dX12_token_156 : decode cX12_token 156 = .ok (.bipush 6, 2) := by decide +kernel
theorem dX12_token_158 : decode cX12_token 158 = .ok (.goto 4, 3) := by decide +kernel
theorem dX12_token_161 : decode cX12_token 161 = .ok (.iconst 2, 1) := by decide +kernel
theorem dX12_token_162 : decode cX12_token 162 = .ok (.putfield 175, 3) := by decide +kernel
theorem dX12_token_165 : decode cX12_token 165 = .ok (.aload_n 0, 1) := by decide +kernel
theorem dX12_token_166 : decode cX12_token 166 = .ok (.getfield 175, 3) := by decide +kernel
theorem dX12_token_169 : decode cX12_token 169 = .ok (.iconst 2, 1) := by decide +kernel
theorem dX12_token_170 : decode cX12_token 170 = .ok (.if_icmp .ne 111, 3) := by decide +kernel
theorem dX12_token_173 : decode cX12_token 173 = .ok (.aload_n 0, 1) := by decide +kernel
theorem dX12_token_174 : decode cX12_token 174 = .ok (.aload_n 0, 1) := by decide +kernel
theorem dX12_token_175 : decode cX12_token 175 = .ok (.aload_n 0, 1) := by decide +kernel
theorem dX12_token_176 : decode cX12_token 176 = .ok (.getfield 166, 3) := by decide +kernel
theorem dX12_token_179 : decode cX12_token 179 = .ok (.aload_n 0, 1) := by decide +kernel
theorem dX12_token_180 : decode cX12_token 180 = .ok (.getfield 172, 3) := by decide +kernel
theorem dX12_token_183 : decode cX12_token 183 = .ok (.invokevirtual 189, 3) := by decide +kernel
theorem dX12_token_186 : decode cX12_token 186 = .ok (.putfield 186, 3) := by decide +kernel
theorem dX12_token_189 : decode cX12_token 189 = .ok (.goto 92, 3) := by decide +kernel
theorem dX12_token_192 : decode cX12_token 192 = .ok (.aload_n 0, 1) := by decide +kernel
theorem dX12_token_193 : decode cX12_token 193 = .ok (.aload_n 0, 1) := by decide +kernel
theorem dX12_token_194 : decode cX12_token 194 = .ok (.getfield 172, 3) := by decide +kernel
theorem dX12_token_197 : decode cX12_token 197 = .ok (.invokevirtual 192, 3) := by decide +kernel
theorem dX12_token_200 : decode cX12_token 200 = .ok (.ifCond .eq 77, 3) := by decide +kernel
theorem dX12_token_203 : decode cX12_token 203 = .ok (.aload_n 0, 1) := by decide +kernel
theorem dX12_token_204 : decode cX12_token 204 = .ok (.iconst 3, 1) := by decide +kernel
theorem dX12_token_205 : decode cX12_token 205 = .ok (.putfield 175, 3) := by decide +kernel
theorem dX12_token_208 : decode cX12_token 208 = .ok (.aload_n 0, 1) := by decide +kernel
theorem dX12_token_209 : decode cX12_token 209 = .ok (.iconst 0, 1) := by decide +kernel
theorem dX12_token_210 : decode cX12_token 210 = .ok (.putfield 186, 3) := by decide +kernel
theorem dX12_token_213 : decode cX12_token 213 = .ok (.aload_n 0, 1) := by decide +kernel
theorem dX12_token_214 : decode cX12_token 214 = .ok (.aload_n 0, 1) := by decide +kernel
theorem dX12_token_215 : decode cX12_token 215 = .ok (.getfield 172, 3) := by decide +kernel
theorem dX12_token_218 : decode cX12_token 218 = .ok (.invokevirtual 192, 3) := by decide +kernel
theorem dX12_token_221 : decode cX12_token 221 = .ok (.ifCond .eq 60, 3) := by decide +kernel
theorem dX12_token_224 : decode cX12_token 224 = .ok (.aload_n 0, 1) := by decide +kernel
theorem dX12_token_225 : decode cX12_token 225 = .ok (.aload_n 0, 1) := by decide +kernel
theorem dX12_token_226 : decode cX12_token 226 = .ok (.getfield 186, 3) := by decide +kernel
theorem dX12_token_229 : decode cX12_token 229 = .ok (.ldc 195, 2) := by decide +kernel
theorem dX12_token_231 : decode cX12_token 231 = .ok (.if_icmp .le 10, 3) := by decide +kernel
theorem dX12_token_234 : decode cX12_token 234 = .ok (.aload_n 0, 1) := by decide +kernel
theorem dX12_token_235 : decode cX12_token 235 = .ok (.getfield 186, 3) := by decide +kernel
theorem dX12_token_238 : decode cX12_token 238 = .ok (.goto 23, 3) := by decide +kernel
theorem dX12_token_241 : decode cX12_token 241 = .ok (.bipush 10, 2) := by decide +kernel
theorem dX12_token_243 : decode cX12_token 243 = .ok (.aload_n 0, 1) := by decide +kernel
theorem dX12_token_244 : decode cX12_token 244 = .ok (.getfield 186, 3) := by decide +kernel
theorem dX12_token_247 : decode cX12_token 247 = .ok (.imul, 1) := by decide +kernel
theorem dX12_token_248 : decode cX12_token 248 = .ok (.aload_n 0, 1) := by decide +kernel
theorem dX12_token_249 : decode cX12_token 249 = .ok (.getfield 7, 3) := by decide +kernel
theorem dX12_token_252 : decode cX12_token 252 = .ok (.aload_n 0, 1) := by decide +kernel
theorem dX12_token_253 : decode cX12_token 253 = .ok (.getfield 172, 3) := by decide +kernel
theorem dX12_token_256 : decode cX12_token 256 = .ok (.iaload, 1) := by decide +kernel
theorem dX12_token_257 : decode cX12_token 257 = .ok (.iadd, 1) := by decide +kernel
theorem dX12_token_258 : decode cX12_token 258 = .ok (.bipush 48, 2) := by decide +kernel
theorem dX12_token_260 : decode cX12_token 260 = .ok (.isub, 1) := by decide +kernel
theorem dX12_token_261 : decode cX12_token 261 = .ok (.putfield 186, 3) := by decide +kernel
theorem dX12_token_264 : decode cX12_token 264 = .ok (.aload_n 0, 1) := by decide +kernel
theorem dX12_token_265 : decode cX12_token 265 = .ok (.dup, 1) := by decide +kernel
theorem dX12_token_266 : decode cX12_token 266 = .ok (.getfield 172, 3) := by decide +kernel
theorem dX12_token_269 : decode cX12_token 269 = .ok (.iconst 1, 1) := by decide +kernel
theorem dX12_token_270 : decode cX12_token 270 = .ok (.iadd, 1) := by decide +kernel
theorem dX12_token_271 : decode cX12_token 271 = .ok (.putfield 172, 3) := by decide +kernel
theorem dX12_token_274 : decode cX12_token 274 = .ok (.goto (-61), 3) := by decide +kernel
theorem dX12_token_277 : decode cX12_token 277 = .ok (.aload_n 0, 1) := by decide +kernel
theorem dX12_token_278 : decode cX12_token 278 = .ok (.invokevirtual 196, 3) := by decide +kernel
theorem dX12_token_281 : decode cX12_token 281 = .ok (.return_, 1) := by decide +kernel
theorem dX12_signToken_0 : decode cX12_signToken 0 = .ok (.aload_n 0, 1) := by decide +kernel
theorem dX12_signToken_1 : decode cX12_signToken 1 = .ok (.aload_n 0, 1) := by decide +kernel
theorem dX12_signToken_2 : decode cX12_signToken 2 = .ok (.getfield 7, 3) := by decide +kernel
theorem dX12_signToken_5 : decode cX12_signToken 5 = .ok (.aload_n 0, 1) := by decide +kernel
theorem dX12_signToken_6 : decode cX12_signToken 6 = .ok (.getfield 172, 3) := by decide +kernel
theorem dX12_signToken_9 : decode cX12_signToken 9 = .ok (.iaload, 1) := by decide +kernel
theorem dX12_signToken_10 : decode cX12_signToken 10 = .ok (.putfield 186, 3) := by decide +kernel
theorem dX12_signToken_13 : decode cX12_signToken 13 = .ok (.aload_n 0, 1) := by decide +kernel
theorem dX12_signToken_14 : decode cX12_signToken 14 = .ok (.dup, 1) := by decide +kernel
theorem dX12_signToken_15 : decode cX12_signToken 15 = .ok (.getfield 172, 3) := by decide +kernel
theorem dX12_signToken_18 : decode cX12_signToken 18 = .ok (.iconst 1, 1) := by decide +kernel
theorem dX12_signToken_19 : decode cX12_signToken 19 = .ok (.iadd, 1) := by decide +kernel
theorem dX12_signToken_20 : decode cX12_signToken 20 = .ok (.putfield 172, 3) := by decide +kernel
theorem dX12_signToken_23 : decode cX12_signToken 23 = .ok (.aload_n 0, 1) := by decide +kernel
theorem dX12_signToken_24 : decode cX12_signToken 24 = .ok (.getfield 186, 3) := by decide +kernel
theorem dX12_signToken_27 : decode cX12_signToken 27 = .ok (.bipush 60, 2) := by decide +kernel
theorem dX12_signToken_29 : decode cX12_signToken 29 = .ok (.if_icmp .eq 21, 3) := by decide +kernel
theorem dX12_signToken_32 : decode cX12_signToken 32 = .ok (.aload_n 0, 1) := by decide +kernel
theorem dX12_signToken_33 : decode cX12_signToken 33 = .ok (.getfield 186, 3) := by decide +kernel
theorem dX12_signToken_36 : decode cX12_signToken 36 = .ok (.bipush 62, 2) := by decide +kernel
theorem dX12_signToken_38 : decode cX12_signToken 38 = .ok (.if_icmp .eq 12, 3) := by decide +kernel
theorem dX12_signToken_41 : decode cX12_signToken 41 = .ok (.aload_n 0, 1) := by decide +kernel
theorem dX12_signToken_42 : decode cX12_signToken 42 = .ok (.getfield 186, 3) := by decide +kernel
theorem dX12_signToken_45 : decode cX12_signToken 45 = .ok (.bipush 61, 2) := by decide +kernel
theorem dX12_signToken_47 : decode cX12_signToken 47 = .ok (.if_icmp .ne 151, 3) := by decide +kernel
theorem dX12_signToken_50 : decode cX12_signToken 50 = .ok (.aload_n 0, 1) := by decide +kernel
theorem dX12_signToken_51 : decode cX12_signToken 51 = .ok (.getfield 172, 3) := by decide +kernel
theorem dX12_signToken_54 : decode cX12_signToken 54 = .ok (.aload_n 0, 1) := by decide +kernel
theorem dX12_signToken_55 : decode cX12_signToken 55 = .ok (.getfield 169, 3) := by decide +kernel
theorem dX12_signToken_58 : decode cX12_signToken 58 = .ok (.if_icmp .ge 15, 3) := by decide +kernel
theorem dX12_signToken_61 : decode cX12_signToken 61 = .ok (.aload_n 0, 1) := by decide +kernel
theorem dX12_signToken_62 : decode cX12_signToken 62 = .ok (.getfield 7, 3) := by decide +kernel
theorem dX12_signToken_65 : decode cX12_signToken 65 = .ok (.aload_n 0, 1) := by decide +kernel
theorem dX12_signToken_66 : decode cX12_signToken 66 = .ok (.getfield 172, 3) := by decide +kernel
theorem dX12_signToken_69 : decode cX12_signToken 69 = .ok (.iaload, 1) := by decide +kernel
theorem dX12_signToken_70 : decode cX12_signToken 70 = .ok (.goto 4, 3) := by decide +kernel
theorem dX12_signToken_73 : decode cX12_signToken 73 = .ok (.iconst 0, 1) := by decide +kernel
theorem dX12_signToken_74 : decode cX12_signToken 74 = .ok (.istore_n 1, 1) := by decide +kernel
theorem dX12_signToken_75 : decode cX12_signToken 75 = .ok (.aload_n 0, 1) := by decide +kernel
theorem dX12_signToken_76 : decode cX12_signToken 76 = .ok (.getfield 186, 3) := by decide +kernel
theorem dX12_signToken_79 : decode cX12_signToken 79 = .ok (.bipush 61, 2) := by decide +kernel
theorem dX12_signToken_81 : decode cX12_signToken 81 = .ok (.if_icmp .eq 13, 3) := by decide +kernel
theorem dX12_signToken_84 : decode cX12_signToken 84 = .ok (.iload_n 1, 1) := by decide +kernel
theorem dX12_signToken_85 : decode cX12_signToken 85 = .ok (.bipush 61, 2) := by decide +kernel
theorem dX12_signToken_87 : decode cX12_signToken 87 = .ok (.if_icmp .ne 7, 3) := by decide +kernel
theorem dX12_signToken_90 : decode cX12_signToken 90 = .ok (.iconst 1, 1) := by decide +kernel
theorem dX12_signToken_91 : decode cX12_signToken 91 = .ok (.goto 4, 3) := by decide +kernel
theorem dX12_signToken_94 : decode cX12_signToken 94 = .ok (.iconst 0, 1) := by decide +kernel
theorem dX12_signToken_95 : decode cX12_signToken 95 = .ok (.istore_n 2, 1) := by decide +kernel
theorem dX12_signToken_96 : decode cX12_signToken 96 = .ok (.aload_n 0, 1) := by decide +kernel
theorem dX12_signToken_97 : decode cX12_signToken 97 = .ok (.getfield 186, 3) := by decide +kernel
theorem dX12_signToken_100 : decode cX12_signToken 100 = .ok (.bipush 60, 2) := by decide +kernel
theorem dX12_signToken_102 : decode cX12_signToken 102 = .ok (.if_icmp .ne 13, 3) := by decide +kernel
theorem dX12_signToken_105 : decode cX12_signToken 105 = .ok (.iload_n 1, 1) := by decide +kernel
theorem dX12_signToken_106 : decode cX12_signToken 106 = .ok (.bipush 62, 2) := by decide +kernel
theorem dX12_signToken_108 : decode cX12_signToken 108 = .ok (.if_icmp .ne 7, 3) := by decide +kernel
theorem dX12_signToken_111 : decode cX12_signToken 111 = .ok (.iconst 1, 1) := by decide +kernel
theorem dX12_signToken_112 : decode cX12_signToken 112 = .ok (.goto 4, 3) := by decide +kernel
theorem dX12_signToken_115 : decode cX12_signToken 115 = .ok (.iconst 0, 1) := by decide +kernel
theorem dX12_signToken_116 : decode cX12_signToken 116 = .ok (.istore_n 3, 1) := by decide +kernel
theorem dX12_signToken_117 : decode cX12_signToken 117 = .ok (.iload_n 2, 1) := by decide +kernel
theorem dX12_signToken_118 : decode cX12_signToken 118 = .ok (.ifCond .ne 7, 3) := by decide +kernel
theorem dX12_signToken_121 : decode cX12_signToken 121 = .ok (.iload_n 3, 1) := by decide +kernel
theorem dX12_signToken_122 : decode cX12_signToken 122 = .ok (.ifCond .eq 13, 3) := by decide +kernel
theorem dX12_signToken_125 : decode cX12_signToken 125 = .ok (.aload_n 0, 1) := by decide +kernel
theorem dX12_signToken_126 : decode cX12_signToken 126 = .ok (.dup, 1) := by decide +kernel
theorem dX12_signToken_127 : decode cX12_signToken 127 = .ok (.getfield 172, 3) := by decide +kernel
theorem dX12_signToken_130 : decode cX12_signToken 130 = .ok (.iconst 1, 1) := by decide +kernel
theorem dX12_signToken_131 : decode cX12_signToken 131 = .ok (.iadd, 1) := by decide +kernel
theorem dX12_signToken_132 : decode cX12_signToken 132 = .ok (.putfield 172, 3) := by decide +kernel
theorem dX12_signToken_135 : decode cX12_signToken 135 = .ok (.aload_n 0, 1) := by decide +kernel
theorem dX12_signToken_136 : decode cX12_signToken 136 = .ok (.iconst 5, 1) := by decide +kernel
theorem dX12_signToken_137 : decode cX12_signToken 137 = .ok (.putfield 175, 3) := by decide +kernel
theorem dX12_signToken_140 : decode cX12_signToken 140 = .ok (.aload_n 0, 1) := by decide +kernel
theorem dX12_signToken_141 : decode cX12_signToken 141 = .ok (.aload_n 0, 1) := by decide +kernel
theorem dX12_signToken_142 : decode cX12_signToken 142 = .ok (.getfield 186, 3) := by decide +kernel
theorem dX12_signToken_145 : decode cX12_signToken 145 = .ok (.bipush 61, 2) := by decide +kernel
theorem dX12_signToken_147 : decode cX12_signToken 147 = .ok (.if_icmp .ne 7, 3) := by decide +kernel
theorem dX12_signToken_150 : decode cX12_signToken 150 = .ok (.iconst 2, 1) := by decide +kernel
theorem dX12_signToken_151 : decode cX12_signToken 151 = .ok (.goto 41, 3) := by decide +kernel
theorem dX12_signToken_154 : decode cX12_signToken 154 = .ok (.aload_n 0, 1) := by decide +kernel
theorem dX12_signToken_155 : decode cX12_signToken 155 = .ok (.getfield 186, 3) := by decide +kernel
theorem dX12_signToken_158 : decode cX12_signToken 158 = .ok (.bipush 60, 2) := by decide +kernel
theorem dX12_signToken_160 : decode cX12_signToken 160 = .ok (.if_icmp .ne 23, 3) := by decide +kernel
theorem dX12_signToken_163 : decode cX12_signToken 163 = .ok (.iload_n 2, 1) := by decide +kernel
theorem dX12_signToken_164 : decode cX12_signToken 164 = .ok (.ifCond .eq 7, 3) := by decide +kernel
theorem dX12_signToken_167 : decode cX12_signToken 167 = .ok (.iconst 1, 1) := by decide +kernel
theorem dX12_signToken_168 : decode cX12_signToken 168 = .ok (.goto 24, 3) := by decide +kernel
theorem dX12_signToken_171 : decode cX12_signToken 171 = .ok (.iload_n 3, 1) := by decide +kernel
theorem dX12_signToken_172 : decode cX12_signToken 172 = .ok (.ifCond .eq 7, 3) := by decide +kernel
theorem dX12_signToken_175 : decode cX12_signToken 175 = .ok (.iconst 3, 1) := by decide +kernel
theorem dX12_signToken_176 : decode cX12_signToken 176 = .ok (.goto 16, 3) := by decide +kernel
theorem dX12_signToken_179 : decode cX12_signToken 179 = .ok (.iconst 0, 1) := by decide +kernel
theorem dX12_signToken_180 : decode cX12_signToken 180 = .ok (.goto 12, 3) := by decide +kernel
theorem dX12_signToken_183 : decode cX12_signToken 183 = .ok (.iload_n 2, 1) := by decide +kernel
theorem dX12_signToken_184 : decode cX12_signToken 184 = .ok (.ifCond .eq 7, 3) := by decide +kernel
theorem dX12_signToken_187 : decode cX12_signToken 187 = .ok (.iconst 4, 1) := by decide +kernel
theorem dX12_signToken_188 : decode cX12_signToken 188 = .ok (.goto 4, 3) := by decide +kernel
theorem dX12_signToken_191 : decode cX12_signToken 191 = .ok (.iconst 5, 1) := by decide +kernel
theorem dX12_signToken_192 : decode cX12_signToken 192 = .ok (.putfield 186, 3) := by decide +kernel
theorem dX12_signToken_195 : decode cX12_signToken 195 = .ok (.goto 95, 3) := by decide +kernel
theorem dX12_signToken_198 : decode cX12_signToken 198 = .ok (.aload_n 0, 1) := by decide +kernel
theorem dX12_signToken_199 : decode cX12_signToken 199 = .ok (.getfield 186, 3) := by decide +kernel
theorem dX12_signToken_202 : decode cX12_signToken 202 = .ok (.bipush 59, 2) := by decide +kernel
theorem dX12_signToken_204 : decode cX12_signToken 204 = .ok (.if_icmp .eq 66, 3) := by decide +kernel
theorem dX12_signToken_207 : decode cX12_signToken 207 = .ok (.aload_n 0, 1) := by decide +kernel
theorem dX12_signToken_208 : decode cX12_signToken 208 = .ok (.getfield 186, 3) := by decide +kernel
theorem dX12_signToken_211 : decode cX12_signToken 211 = .ok (.bipush 40, 2) := by decide +kernel
theorem dX12_signToken_213 : decode cX12_signToken 213 = .ok (.if_icmp .eq 57, 3) := by decide +kernel
theorem dX12_signToken_216 : decode cX12_signToken 216 = .ok (.aload_n 0, 1) := by decide +kernel
theorem dX12_signToken_217 : decode cX12_signToken 217 = .ok (.getfield 186, 3) := by decide +kernel
theorem dX12_signToken_220 : decode cX12_signToken 220 = .ok (.bipush 41, 2) := by decide +kernel
theorem dX12_signToken_222 : decode cX12_signToken 222 = .ok (.if_icmp .eq 48, 3) := by decide +kernel
theorem dX12_signToken_225 : decode cX12_signToken 225 = .ok (.aload_n 0, 1) := by decide +kernel
theorem dX12_signToken_226 : decode cX12_signToken 226 = .ok (.getfield 186, 3) := by decide +kernel
theorem dX12_signToken_229 : decode cX12_signToken 229 = .ok (.bipush 43, 2) := by decide +kernel
theorem dX12_signToken_231 : decode cX12_signToken 231 = .ok (.if_icmp .eq 39, 3) := by decide +kernel
theorem dX12_signToken_234 : decode cX12_signToken 234 = .ok (.aload_n 0, 1) := by decide +kernel
theorem dX12_signToken_235 : decode cX12_signToken 235 = .ok (.getfield 186, 3) := by decide +kernel
theorem dX12_signToken_238 : decode cX12_signToken 238 = .ok (.bipush 45, 2) := by decide +kernel
theorem dX12_signToken_240 : decode cX12_signToken 240 = .ok (.if_icmp .eq 30, 3) := by decide +kernel
theorem dX12_signToken_243 : decode cX12_signToken 243 = .ok (.aload_n 0, 1) := by decide +kernel
theorem dX12_signToken_244 : decode cX12_signToken 244 = .ok (.getfield 186, 3) := by decide +kernel
theorem dX12_signToken_247 : decode cX12_signToken 247 = .ok (.bipush 42, 2) := by decide +kernel
theorem dX12_signToken_249 : decode cX12_signToken 249 = .ok (.if_icmp .eq 21, 3) := by decide +kernel
theorem dX12_signToken_252 : decode cX12_signToken 252 = .ok (.aload_n 0, 1) := by decide +kernel
theorem dX12_signToken_253 : decode cX12_signToken 253 = .ok (.getfield 186, 3) := by decide +kernel
theorem dX12_signToken_256 : decode cX12_signToken 256 = .ok (.bipush 47, 2) := by decide +kernel
theorem dX12_signToken_258 : decode cX12_signToken 258 = .ok (.if_icmp .eq 12, 3) := by decide +kernel
theorem dX12_signToken_261 : decode cX12_signToken 261 = .ok (.aload_n 0, 1) := by decide +kernel
theorem dX12_signToken_262 : decode cX12_signToken 262 = .ok (.getfield 186, 3) := by decide +kernel
theorem dX12_signToken_265 : decode cX12_signToken 265 = .ok (.bipush 37, 2) := by decide +kernel
theorem dX12_signToken_267 : decode cX12_signToken 267 = .ok (.if_icmp .ne 7, 3) := by decide +kernel
theorem dX12_signToken_270 : decode cX12_signToken 270 = .ok (.iconst 1, 1) := by decide +kernel
theorem dX12_signToken_271 : decode cX12_signToken 271 = .ok (.goto 4, 3) := by decide +kernel
theorem dX12_signToken_274 : decode cX12_signToken 274 = .ok (.iconst 0, 1) := by decide +kernel
theorem dX12_signToken_275 : decode cX12_signToken 275 = .ok (.istore_n 1, 1) := by decide +kernel
theorem dX12_signToken_276 : decode cX12_signToken 276 = .ok (.aload_n 0, 1) := by decide +kernel
theorem dX12_signToken_277 : decode cX12_signToken 277 = .ok (.iload_n 1, 1) := by decide +kernel
theorem dX12_signToken_278 : decode cX12_signToken 278 = .ok (.ifCond .eq 7, 3) := by decide +kernel
theorem dX12_signToken_281 : decode cX12_signToken 281 = .ok (.iconst 4, 1) := by decide +kernel
theorem dX12_signToken_282 : decode cX12_signToken 282 = .ok (.goto 5, 3) := by decide +kernel
theorem dX12_signToken_285 : decode cX12_signToken 285 = .ok (.bipush 6, 2) := by decide +kernel
theorem dX12_signToken_287 : decode cX12_signToken 287 = .ok (.putfield 175, 3) := by decide +kernel
theorem dX12_signToken_290 : decode cX12_signToken 290 = .ok (.return_, 1) := by decide +kernel
theorem dX12_packed_0 : decode cX12_packed 0 = .ok (.iconst 0, 1) := by decide +kernel
theorem dX12_packed_1 : decode cX12_packed 1 = .ok (.istore_n 3, 1) := by decide +kernel
theorem dX12_packed_2 : decode cX12_packed 2 = .ok (.iload_n 1, 1) := by decide +kernel
theorem dX12_packed_3 : decode cX12_packed 3 = .ok (.istore 4, 2) := by decide +kernel
theorem dX12_packed_5 : decode cX12_packed 5 = .ok (.iload 4, 2) := by decide +kernel
theorem dX12_packed_7 : decode cX12_packed 7 = .ok (.iload_n 1, 1) := by decide +kernel
theorem dX12_packed_8 : decode cX12_packed 8 = .ok (.bipush 6, 2) := by decide +kernel
theorem dX12_packed_10 : decode cX12_packed 10 = .ok (.iadd, 1) := by decide +kernel
theorem dX12_packed_11 : decode cX12_packed 11 = .ok (.if_icmp .ge 34, 3) := by decide +kernel
theorem dX12_packed_14 : decode cX12_packed 14 = .ok (.iload_n 3, 1) := by decide +kernel
theorem dX12_packed_15 : decode cX12_packed 15 = .ok (.iconst 5, 1) := by decide +kernel
theorem dX12_packed_16 : decode cX12_packed 16 = .ok (.ishl, 1) := by decide +kernel
theorem dX12_packed_17 : decode cX12_packed 17 = .ok (.iload 4, 2) := by decide +kernel
theorem dX12_packed_19 : decode cX12_packed 19 = .ok (.iload_n 2, 1) := by decide +kernel
theorem dX12_packed_20 : decode cX12_packed 20 = .ok (.if_icmp .ge 16, 3) := by decide +kernel
theorem dX12_packed_23 : decode cX12_packed 23 = .ok (.aload_n 0, 1) := by decide +kernel
theorem dX12_packed_24 : decode cX12_packed 24 = .ok (.getfield 7, 3) := by decide +kernel
theorem dX12_packed_27 : decode cX12_packed 27 = .ok (.iload 4, 2) := by decide +kernel
theorem dX12_packed_29 : decode cX12_packed 29 = .ok (.iaload, 1) := by decide +kernel
theorem dX12_packed_30 : decode cX12_packed 30 = .ok (.bipush 96, 2) := by decide +kernel
theorem dX12_packed_32 : decode cX12_packed 32 = .ok (.isub, 1) := by decide +kernel
theorem dX12_packed_33 : decode cX12_packed 33 = .ok (.goto 4, 3) := by decide +kernel
theorem dX12_packed_36 : decode cX12_packed 36 = .ok (.iconst 0, 1) := by decide +kernel
theorem dX12_packed_37 : decode cX12_packed 37 = .ok (.ior, 1) := by decide +kernel
theorem dX12_packed_38 : decode cX12_packed 38 = .ok (.istore_n 3, 1) := by decide +kernel
theorem dX12_packed_39 : decode cX12_packed 39 = .ok (.iinc 4 1, 3) := by decide +kernel
theorem dX12_packed_42 : decode cX12_packed 42 = .ok (.goto (-37), 3) := by decide +kernel
theorem dX12_packed_45 : decode cX12_packed 45 = .ok (.iload_n 3, 1) := by decide +kernel
theorem dX12_packed_46 : decode cX12_packed 46 = .ok (.ireturn, 1) := by decide +kernel
theorem dX12_isKey_0 : decode cX12_isKey 0 = .ok (.aload_n 0, 1) := by decide +kernel
theorem dX12_isKey_1 : decode cX12_isKey 1 = .ok (.getfield 175, 3) := by decide +kernel
theorem dX12_isKey_4 : decode cX12_isKey 4 = .ok (.iconst 1, 1) := by decide +kernel
theorem dX12_isKey_5 : decode cX12_isKey 5 = .ok (.if_icmp .ne 15, 3) := by decide +kernel
theorem dX12_isKey_8 : decode cX12_isKey 8 = .ok (.aload_n 0, 1) := by decide +kernel
theorem dX12_isKey_9 : decode cX12_isKey 9 = .ok (.getfield 186, 3) := by decide +kernel
theorem dX12_isKey_12 : decode cX12_isKey 12 = .ok (.iload_n 1, 1) := by decide +kernel
theorem dX12_isKey_13 : decode cX12_isKey 13 = .ok (.if_icmp .ne 7, 3) := by decide +kernel
theorem dX12_isKey_16 : decode cX12_isKey 16 = .ok (.iconst 1, 1) := by decide +kernel
theorem dX12_isKey_17 : decode cX12_isKey 17 = .ok (.goto 4, 3) := by decide +kernel
theorem dX12_isKey_20 : decode cX12_isKey 20 = .ok (.iconst 0, 1) := by decide +kernel
theorem dX12_isKey_21 : decode cX12_isKey 21 = .ok (.ireturn, 1) := by decide +kernel
theorem dX12_isSign_0 : decode cX12_isSign 0 = .ok (.aload_n 0, 1) := by decide +kernel
theorem dX12_isSign_1 : decode cX12_isSign 1 = .ok (.getfield 175, 3) := by decide +kernel
theorem dX12_isSign_4 : decode cX12_isSign 4 = .ok (.iconst 4, 1) := by decide +kernel
theorem dX12_isSign_5 : decode cX12_isSign 5 = .ok (.if_icmp .ne 15, 3) := by decide +kernel
theorem dX12_isSign_8 : decode cX12_isSign 8 = .ok (.aload_n 0, 1) := by decide +kernel
theorem dX12_isSign_9 : decode cX12_isSign 9 = .ok (.getfield 186, 3) := by decide +kernel
theorem dX12_isSign_12 : decode cX12_isSign 12 = .ok (.iload_n 1, 1) := by decide +kernel
theorem dX12_isSign_13 : decode cX12_isSign 13 = .ok (.if_icmp .ne 7, 3) := by decide +kernel
theorem dX12_isSign_16 : decode cX12_isSign 16 = .ok (.iconst 1, 1) := by decide +kernel
theorem dX12_isSign_17 : decode cX12_isSign 17 = .ok (.goto 4, 3) := by decide +kernel
theorem dX12_isSign_20 : decode cX12_isSign 20 = .ok (.iconst 0, 1) := by decide +kernel
theorem dX12_isSign_21 : decode cX12_isSign 21 = .ok (.ireturn, 1) := by decide +kernel
theorem dX12_number_0 : decode cX12_number 0 = .ok (.aload_n 0, 1) := by decide +kernel
theorem dX12_number_1 : decode cX12_number 1 = .ok (.getfield 175, 3) := by decide +kernel
theorem dX12_number_4 : decode cX12_number 4 = .ok (.iconst 3, 1) := by decide +kernel
theorem dX12_number_5 : decode cX12_number 5 = .ok (.if_icmp .eq 9, 3) := by decide +kernel
theorem dX12_number_8 : decode cX12_number 8 = .ok (.aload_n 0, 1) := by decide +kernel
theorem dX12_number_9 : decode cX12_number 9 = .ok (.iconst 1, 1) := by decide +kernel
theorem dX12_number_10 : decode cX12_number 10 = .ok (.invokevirtual 199, 3) := by decide +kernel
theorem dX12_number_13 : decode cX12_number 13 = .ok (.ireturn, 1) := by decide +kernel
theorem dX12_number_14 : decode cX12_number 14 = .ok (.aload_n 0, 1) := by decide +kernel
theorem dX12_number_15 : decode cX12_number 15 = .ok (.getfield 186, 3) := by decide +kernel
theorem dX12_number_18 : decode cX12_number 18 = .ok (.iload_n 1, 1) := by decide +kernel
theorem dX12_number_19 : decode cX12_number 19 = .ok (.iload_n 2, 1) := by decide +kernel
theorem dX12_number_20 : decode cX12_number 20 = .ok (.invokestatic 202, 3) := by decide +kernel
theorem dX12_number_23 : decode cX12_number 23 = .ok (.ifCond .ne 9, 3) := by decide +kernel
theorem dX12_number_26 : decode cX12_number 26 = .ok (.aload_n 0, 1) := by decide +kernel
theorem dX12_number_27 : decode cX12_number 27 = .ok (.iconst 2, 1) := by decide +kernel
theorem dX12_number_28 : decode cX12_number 28 = .ok (.invokevirtual 199, 3) := by decide +kernel
theorem dX12_number_31 : decode cX12_number 31 = .ok (.ireturn, 1) := by decide +kernel
theorem dX12_number_32 : decode cX12_number 32 = .ok (.aload_n 0, 1) := by decide +kernel
theorem dX12_number_33 : decode cX12_number 33 = .ok (.aload_n 0, 1) := by decide +kernel
theorem dX12_number_34 : decode cX12_number 34 = .ok (.getfield 186, 3) := by decide +kernel
theorem dX12_number_37 : decode cX12_number 37 = .ok (.putfield 206, 3) := by decide +kernel
theorem dX12_number_40 : decode cX12_number 40 = .ok (.aload_n 0, 1) := by decide +kernel
theorem dX12_number_41 : decode cX12_number 41 = .ok (.invokevirtual 209, 3) := by decide +kernel
theorem dX12_number_44 : decode cX12_number 44 = .ok (.iconst 1, 1) := by decide +kernel
theorem dX12_number_45 : decode cX12_number 45 = .ok (.ireturn, 1) := by decide +kernel
theorem dX12_plain_0 : decode cX12_plain 0 = .ok (.aload_n 0, 1) := by decide +kernel
theorem dX12_plain_1 : decode cX12_plain 1 = .ok (.iconst 0, 1) := by decide +kernel
theorem dX12_plain_2 : decode cX12_plain 2 = .ok (.putfield 219, 3) := by decide +kernel
theorem dX12_plain_5 : decode cX12_plain 5 = .ok (.aload_n 0, 1) := by decide +kernel
theorem dX12_plain_6 : decode cX12_plain 6 = .ok (.iconst 0, 1) := by decide +kernel
theorem dX12_plain_7 : decode cX12_plain 7 = .ok (.putfield 222, 3) := by decide +kernel
theorem dX12_plain_10 : decode cX12_plain 10 = .ok (.aload_n 0, 1) := by decide +kernel
theorem dX12_plain_11 : decode cX12_plain 11 = .ok (.iconst 0, 1) := by decide +kernel
theorem dX12_plain_12 : decode cX12_plain 12 = .ok (.putfield 225, 3) := by decide +kernel
theorem dX12_plain_15 : decode cX12_plain 15 = .ok (.aload_n 0, 1) := by decide +kernel
theorem dX12_plain_16 : decode cX12_plain 16 = .ok (.iconst 0, 1) := by decide +kernel
theorem dX12_plain_17 : decode cX12_plain 17 = .ok (.putfield 228, 3) := by decide +kernel
theorem dX12_plain_20 : decode cX12_plain 20 = .ok (.aload_n 0, 1) := by decide +kernel
theorem dX12_plain_21 : decode cX12_plain 21 = .ok (.iconst 0, 1) := by decide +kernel
theorem dX12_plain_22 : decode cX12_plain 22 = .ok (.putfield 231, 3) := by decide +kernel
theorem dX12_plain_25 : decode cX12_plain 25 = .ok (.aload_n 0, 1) := by decide +kernel
theorem dX12_plain_26 : decode cX12_plain 26 = .ok (.iconst 0, 1) := by decide +kernel
theorem dX12_plain_27 : decode cX12_plain 27 = .ok (.putfield 234, 3) := by decide +kernel
theorem dX12_plain_30 : decode cX12_plain 30 = .ok (.iconst 0, 1) := by decide +kernel
theorem dX12_plain_31 : decode cX12_plain 31 = .ok (.istore_n 1, 1) := by decide +kernel
theorem dX12_plain_32 : decode cX12_plain 32 = .ok (.iload_n 1, 1) := by decide +kernel
theorem dX12_plain_33 : decode cX12_plain 33 = .ok (.iconst 2, 1) := by decide +kernel
theorem dX12_plain_34 : decode cX12_plain 34 = .ok (.if_icmp .ge 25, 3) := by decide +kernel
theorem dX12_plain_37 : decode cX12_plain 37 = .ok (.aload_n 0, 1) := by decide +kernel
theorem dX12_plain_38 : decode cX12_plain 38 = .ok (.getfield 20, 3) := by decide +kernel
theorem dX12_plain_41 : decode cX12_plain 41 = .ok (.iload_n 1, 1) := by decide +kernel
theorem dX12_plain_42 : decode cX12_plain 42 = .ok (.iconst 0, 1) := by decide +kernel
theorem dX12_plain_43 : decode cX12_plain 43 = .ok (.bastore, 1) := by decide +kernel
theorem dX12_plain_44 : decode cX12_plain 44 = .ok (.aload_n 0, 1) := by decide +kernel
theorem dX12_plain_45 : decode cX12_plain 45 = .ok (.getfield 24, 3) := by decide +kernel
theorem dX12_plain_48 : decode cX12_plain 48 = .ok (.iconst 2, 1) := by decide +kernel
theorem dX12_plain_49 : decode cX12_plain 49 = .ok (.iload_n 1, 1) := by decide +kernel
theorem dX12_plain_50 : decode cX12_plain 50 = .ok (.iadd, 1) := by decide +kernel
theorem dX12_plain_51 : decode cX12_plain 51 = .ok (.iconst 0, 1) := by decide +kernel
theorem dX12_plain_52 : decode cX12_plain 52 = .ok (.iastore, 1) := by decide +kernel
theorem dX12_plain_53 : decode cX12_plain 53 = .ok (.iinc 1 1, 3) := by decide +kernel
theorem dX12_plain_56 : decode cX12_plain 56 = .ok (.goto (-24), 3) := by decide +kernel
theorem dX12_plain_59 : decode cX12_plain 59 = .ok (.iconst 3, 1) := by decide +kernel
theorem dX12_plain_60 : decode cX12_plain 60 = .ok (.istore_n 1, 1) := by decide +kernel
theorem dX12_plain_61 : decode cX12_plain 61 = .ok (.iload_n 1, 1) := by decide +kernel
theorem dX12_plain_62 : decode cX12_plain 62 = .ok (.bipush 6, 2) := by decide +kernel
theorem dX12_plain_64 : decode cX12_plain 64 = .ok (.if_icmp .ge 16, 3) := by decide +kernel
theorem dX12_plain_67 : decode cX12_plain 67 = .ok (.aload_n 0, 1) := by decide +kernel
theorem dX12_plain_68 : decode cX12_plain 68 = .ok (.getfield 63, 3) := by decide +kernel
theorem dX12_plain_71 : decode cX12_plain 71 = .ok (.iload_n 1, 1) := by decide +kernel
theorem dX12_plain_72 : decode cX12_plain 72 = .ok (.iconst 0, 1) := by decide +kernel
theorem dX12_plain_73 : decode cX12_plain 73 = .ok (.bastore, 1) := by decide +kernel
theorem dX12_plain_74 : decode cX12_plain 74 = .ok (.iinc 1 1, 3) := by decide +kernel
theorem dX12_plain_77 : decode cX12_plain 77 = .ok (.goto (-16), 3) := by decide +kernel
theorem dX12_plain_80 : decode cX12_plain 80 = .ok (.return_, 1) := by decide +kernel
theorem dX12_copies_0 : decode cX12_copies 0 = .ok (.iconst 0, 1) := by decide +kernel
theorem dX12_copies_1 : decode cX12_copies 1 = .ok (.istore_n 2, 1) := by decide +kernel
theorem dX12_copies_2 : decode cX12_copies 2 = .ok (.iload_n 2, 1) := by decide +kernel
theorem dX12_copies_3 : decode cX12_copies 3 = .ok (.iload_n 1, 1) := by decide +kernel
theorem dX12_copies_4 : decode cX12_copies 4 = .ok (.if_icmp .ge 17, 3) := by decide +kernel
theorem dX12_copies_7 : decode cX12_copies 7 = .ok (.aload_n 0, 1) := by decide +kernel
theorem dX12_copies_8 : decode cX12_copies 8 = .ok (.iload_n 2, 1) := by decide +kernel
theorem dX12_copies_9 : decode cX12_copies 9 = .ok (.aload_n 0, 1) := by decide +kernel
theorem dX12_copies_10 : decode cX12_copies 10 = .ok (.iload_n 1, 1) := by decide +kernel
theorem dX12_copies_11 : decode cX12_copies 11 = .ok (.iload_n 2, 1) := by decide +kernel
theorem dX12_copies_12 : decode cX12_copies 12 = .ok (.iadd, 1) := by decide +kernel
theorem dX12_copies_13 : decode cX12_copies 13 = .ok (.iaload, 1) := by decide +kernel
theorem dX12_copies_14 : decode cX12_copies 14 = .ok (.iastore, 1) := by decide +kernel
theorem dX12_copies_15 : decode cX12_copies 15 = .ok (.iinc 2 1, 3) := by decide +kernel
theorem dX12_copies_18 : decode cX12_copies 18 = .ok (.goto (-16), 3) := by decide +kernel
theorem dX12_copies_21 : decode cX12_copies 21 = .ok (.return_, 1) := by decide +kernel
theorem dX12_keepText_0 : decode cX12_keepText 0 = .ok (.aload_n 0, 1) := by decide +kernel
theorem dX12_keepText_1 : decode cX12_keepText 1 = .ok (.aload_n 0, 1) := by decide +kernel
theorem dX12_keepText_2 : decode cX12_keepText 2 = .ok (.getfield 219, 3) := by decide +kernel
theorem dX12_keepText_5 : decode cX12_keepText 5 = .ok (.putfield 237, 3) := by decide +kernel
theorem dX12_keepText_8 : decode cX12_keepText 8 = .ok (.aload_n 0, 1) := by decide +kernel
theorem dX12_keepText_9 : decode cX12_keepText 9 = .ok (.aload_n 0, 1) := by decide +kernel
theorem dX12_keepText_10 : decode cX12_keepText 10 = .ok (.getfield 222, 3) := by decide +kernel
theorem dX12_keepText_13 : decode cX12_keepText 13 = .ok (.putfield 240, 3) := by decide +kernel
theorem dX12_keepText_16 : decode cX12_keepText 16 = .ok (.aload_n 0, 1) := by decide +kernel
theorem dX12_keepText_17 : decode cX12_keepText 17 = .ok (.aload_n 0, 1) := by decide +kernel
theorem dX12_keepText_18 : decode cX12_keepText 18 = .ok (.getfield 225, 3) := by decide +kernel
theorem dX12_keepText_21 : decode cX12_keepText 21 = .ok (.putfield 243, 3) := by decide +kernel
theorem dX12_keepText_24 : decode cX12_keepText 24 = .ok (.aload_n 0, 1) := by decide +kernel
theorem dX12_keepText_25 : decode cX12_keepText 25 = .ok (.aload_n 0, 1) := by decide +kernel
theorem dX12_keepText_26 : decode cX12_keepText 26 = .ok (.getfield 228, 3) := by decide +kernel
theorem dX12_keepText_29 : decode cX12_keepText 29 = .ok (.putfield 246, 3) := by decide +kernel
theorem dX12_keepText_32 : decode cX12_keepText 32 = .ok (.aload_n 0, 1) := by decide +kernel
theorem dX12_keepText_33 : decode cX12_keepText 33 = .ok (.aload_n 0, 1) := by decide +kernel
theorem dX12_keepText_34 : decode cX12_keepText 34 = .ok (.getfield 231, 3) := by decide +kernel
theorem dX12_keepText_37 : decode cX12_keepText 37 = .ok (.putfield 249, 3) := by decide +kernel
theorem dX12_keepText_40 : decode cX12_keepText 40 = .ok (.aload_n 0, 1) := by decide +kernel
theorem dX12_keepText_41 : decode cX12_keepText 41 = .ok (.getfield 24, 3) := by decide +kernel
theorem dX12_keepText_44 : decode cX12_keepText 44 = .ok (.iconst 2, 1) := by decide +kernel
theorem dX12_keepText_45 : decode cX12_keepText 45 = .ok (.invokestatic 252, 3) := by decide +kernel
theorem dX12_keepText_48 : decode cX12_keepText 48 = .ok (.aload_n 0, 1) := by decide +kernel
theorem dX12_keepText_49 : decode cX12_keepText 49 = .ok (.getfield 27, 3) := by decide +kernel
theorem dX12_keepText_52 : decode cX12_keepText 52 = .ok (.bipush 6, 2) := by decide +kernel
theorem dX12_keepText_54 : decode cX12_keepText 54 = .ok (.invokestatic 252, 3) := by decide +kernel
theorem dX12_keepText_57 : decode cX12_keepText 57 = .ok (.aload_n 0, 1) := by decide +kernel
theorem dX12_keepText_58 : decode cX12_keepText 58 = .ok (.getfield 30, 3) := by decide +kernel
theorem dX12_keepText_61 : decode cX12_keepText 61 = .ok (.bipush 6, 2) := by decide +kernel
theorem dX12_keepText_63 : decode cX12_keepText 63 = .ok (.invokestatic 252, 3) := by decide +kernel
theorem dX12_keepText_66 : decode cX12_keepText 66 = .ok (.aload_n 0, 1) := by decide +kernel
theorem dX12_keepText_67 : decode cX12_keepText 67 = .ok (.getfield 33, 3) := by decide +kernel
theorem dX12_keepText_70 : decode cX12_keepText 70 = .ok (.bipush 6, 2) := by decide +kernel
theorem dX12_keepText_72 : decode cX12_keepText 72 = .ok (.invokestatic 252, 3) := by decide +kernel
theorem dX12_keepText_75 : decode cX12_keepText 75 = .ok (.aload_n 0, 1) := by decide +kernel
theorem dX12_keepText_76 : decode cX12_keepText 76 = .ok (.getfield 36, 3) := by decide +kernel
theorem dX12_keepText_79 : decode cX12_keepText 79 = .ok (.bipush 6, 2) := by decide +kernel
theorem dX12_keepText_81 : decode cX12_keepText 81 = .ok (.invokestatic 252, 3) := by decide +kernel
theorem dX12_keepText_84 : decode cX12_keepText 84 = .ok (.aload_n 0, 1) := by decide +kernel
theorem dX12_keepText_85 : decode cX12_keepText 85 = .ok (.getfield 39, 3) := by decide +kernel
theorem dX12_keepText_88 : decode cX12_keepText 88 = .ok (.bipush 6, 2) := by decide +kernel
theorem dX12_keepText_90 : decode cX12_keepText 90 = .ok (.invokestatic 252, 3) := by decide +kernel
theorem dX12_keepText_93 : decode cX12_keepText 93 = .ok (.aload_n 0, 1) := by decide +kernel
theorem dX12_keepText_94 : decode cX12_keepText 94 = .ok (.getfield 42, 3) := by decide +kernel
theorem dX12_keepText_97 : decode cX12_keepText 97 = .ok (.bipush 6, 2) := by decide +kernel
theorem dX12_keepText_99 : decode cX12_keepText 99 = .ok (.invokestatic 252, 3) := by decide +kernel
theorem dX12_keepText_102 : decode cX12_keepText 102 = .ok (.aload_n 0, 1) := by decide +kernel
theorem dX12_keepText_103 : decode cX12_keepText 103 = .ok (.getfield 45, 3) := by decide +kernel
theorem dX12_keepText_106 : decode cX12_keepText 106 = .ok (.iconst 4, 1) := by decide +kernel
theorem dX12_keepText_107 : decode cX12_keepText 107 = .ok (.invokestatic 252, 3) := by decide +kernel
theorem dX12_keepText_110 : decode cX12_keepText 110 = .ok (.aload_n 0, 1) := by decide +kernel
theorem dX12_keepText_111 : decode cX12_keepText 111 = .ok (.getfield 48, 3) := by decide +kernel
theorem dX12_keepText_114 : decode cX12_keepText 114 = .ok (.iconst 4, 1) := by decide +kernel
theorem dX12_keepText_115 : decode cX12_keepText 115 = .ok (.invokestatic 252, 3) := by decide +kernel
theorem dX12_keepText_118 : decode cX12_keepText 118 = .ok (.aload_n 0, 1) := by decide +kernel
theorem dX12_keepText_119 : decode cX12_keepText 119 = .ok (.getfield 51, 3) := by decide +kernel
theorem dX12_keepText_122 : decode cX12_keepText 122 = .ok (.iconst 4, 1) := by decide +kernel
theorem dX12_keepText_123 : decode cX12_keepText 123 = .ok (.invokestatic 252, 3) := by decide +kernel
theorem dX12_keepText_126 : decode cX12_keepText 126 = .ok (.aload_n 0, 1) := by decide +kernel
theorem dX12_keepText_127 : decode cX12_keepText 127 = .ok (.getfield 54, 3) := by decide +kernel
theorem dX12_keepText_130 : decode cX12_keepText 130 = .ok (.iconst 4, 1) := by decide +kernel
theorem dX12_keepText_131 : decode cX12_keepText 131 = .ok (.invokestatic 252, 3) := by decide +kernel
theorem dX12_keepText_134 : decode cX12_keepText 134 = .ok (.aload_n 0, 1) := by decide +kernel
theorem dX12_keepText_135 : decode cX12_keepText 135 = .ok (.getfield 57, 3) := by decide +kernel
theorem dX12_keepText_138 : decode cX12_keepText 138 = .ok (.bipush 14, 2) := by decide +kernel
theorem dX12_keepText_140 : decode cX12_keepText 140 = .ok (.invokestatic 252, 3) := by decide +kernel
theorem dX12_keepText_143 : decode cX12_keepText 143 = .ok (.aload_n 0, 1) := by decide +kernel
theorem dX12_keepText_144 : decode cX12_keepText 144 = .ok (.getfield 60, 3) := by decide +kernel
theorem dX12_keepText_147 : decode cX12_keepText 147 = .ok (.bipush 14, 2) := by decide +kernel
theorem dX12_keepText_149 : decode cX12_keepText 149 = .ok (.invokestatic 252, 3) := by decide +kernel
theorem dX12_keepText_152 : decode cX12_keepText 152 = .ok (.iconst 0, 1) := by decide +kernel
theorem dX12_keepText_153 : decode cX12_keepText 153 = .ok (.istore_n 1, 1) := by decide +kernel
theorem dX12_keepText_154 : decode cX12_keepText 154 = .ok (.iload_n 1, 1) := by decide +kernel
theorem dX12_keepText_155 : decode cX12_keepText 155 = .ok (.iconst 3, 1) := by decide +kernel
theorem dX12_keepText_156 : decode cX12_keepText 156 = .ok (.if_icmp .ge 23, 3) := by decide +kernel
theorem dX12_keepText_159 : decode cX12_keepText 159 = .ok (.aload_n 0, 1) := by decide +kernel
theorem dX12_keepText_160 : decode cX12_keepText 160 = .ok (.getfield 63, 3) := by decide +kernel
theorem dX12_keepText_163 : decode cX12_keepText 163 = .ok (.iload_n 1, 1) := by decide +kernel
theorem dX12_keepText_164 : decode cX12_keepText 164 = .ok (.aload_n 0, 1) := by decide +kernel
theorem dX12_keepText_165 : decode cX12_keepText 165 = .ok (.getfield 63, 3) := by decide +kernel
theorem dX12_keepText_168 : decode cX12_keepText 168 = .ok (.iconst 3, 1) := by decide +kernel
theorem dX12_keepText_169 : decode cX12_keepText 169 = .ok (.iload_n 1, 1) := by decide +kernel
theorem dX12_keepText_170 : decode cX12_keepText 170 = .ok (.iadd, 1) := by decide +kernel
theorem dX12_keepText_171 : decode cX12_keepText 171 = .ok (.baload, 1) := by decide +kernel
theorem dX12_keepText_172 : decode cX12_keepText 172 = .ok (.bastore, 1) := by decide +kernel
theorem dX12_keepText_173 : decode cX12_keepText 173 = .ok (.iinc 1 1, 3) := by decide +kernel
theorem dX12_keepText_176 : decode cX12_keepText 176 = .ok (.goto (-22), 3) := by decide +kernel
theorem dX12_keepText_179 : decode cX12_keepText 179 = .ok (.aload_n 0, 1) := by decide +kernel
theorem dX12_keepText_180 : decode cX12_keepText 180 = .ok (.getfield 66, 3) := by decide +kernel
theorem dX12_keepText_183 : decode cX12_keepText 183 = .ok (.iconst 3, 1) := by decide +kernel
theorem dX12_keepText_184 : decode cX12_keepText 184 = .ok (.invokestatic 252, 3) := by decide +kernel
theorem dX12_keepText_187 : decode cX12_keepText 187 = .ok (.aload_n 0, 1) := by decide +kernel
theorem dX12_keepText_188 : decode cX12_keepText 188 = .ok (.getfield 69, 3) := by decide +kernel
theorem dX12_keepText_191 : decode cX12_keepText 191 = .ok (.iconst 3, 1) := by decide +kernel
theorem dX12_keepText_192 : decode cX12_keepText 192 = .ok (.invokestatic 252, 3) := by decide +kernel
theorem dX12_keepText_195 : decode cX12_keepText 195 = .ok (.aload_n 0, 1) := by decide +kernel
theorem dX12_keepText_196 : decode cX12_keepText 196 = .ok (.getfield 72, 3) := by decide +kernel
theorem dX12_keepText_199 : decode cX12_keepText 199 = .ok (.bipush 64, 2) := by decide +kernel
theorem dX12_keepText_201 : decode cX12_keepText 201 = .ok (.invokestatic 252, 3) := by decide +kernel
theorem dX12_keepText_204 : decode cX12_keepText 204 = .ok (.aload_n 0, 1) := by decide +kernel
theorem dX12_keepText_205 : decode cX12_keepText 205 = .ok (.getfield 75, 3) := by decide +kernel
theorem dX12_keepText_208 : decode cX12_keepText 208 = .ok (.bipush 64, 2) := by decide +kernel
theorem dX12_keepText_210 : decode cX12_keepText 210 = .ok (.invokestatic 252, 3) := by decide +kernel
theorem dX12_keepText_213 : decode cX12_keepText 213 = .ok (.aload_n 0, 1) := by decide +kernel
theorem dX12_keepText_214 : decode cX12_keepText 214 = .ok (.getfield 78, 3) := by decide +kernel
theorem dX12_keepText_217 : decode cX12_keepText 217 = .ok (.bipush 64, 2) := by decide +kernel
theorem dX12_keepText_219 : decode cX12_keepText 219 = .ok (.invokestatic 252, 3) := by decide +kernel
theorem dX12_keepText_222 : decode cX12_keepText 222 = .ok (.aload_n 0, 1) := by decide +kernel
theorem dX12_keepText_223 : decode cX12_keepText 223 = .ok (.invokevirtual 256, 3) := by decide +kernel
theorem dX12_keepText_226 : decode cX12_keepText 226 = .ok (.return_, 1) := by decide +kernel
theorem dX12_find_0 : decode cX12_find 0 = .ok (.iconst 0, 1) := by decide +kernel
theorem dX12_find_1 : decode cX12_find 1 = .ok (.istore 4, 2) := by decide +kernel
theorem dX12_find_3 : decode cX12_find 3 = .ok (.iload 4, 2) := by decide +kernel
theorem dX12_find_5 : decode cX12_find 5 = .ok (.iload_n 2, 1) := by decide +kernel
theorem dX12_find_6 : decode cX12_find 6 = .ok (.if_icmp .ge 22, 3) := by decide +kernel
theorem dX12_find_9 : decode cX12_find 9 = .ok (.aload_n 0, 1) := by decide +kernel
theorem dX12_find_10 : decode cX12_find 10 = .ok (.iload_n 1, 1) := by decide +kernel
theorem dX12_find_11 : decode cX12_find 11 = .ok (.iload 4, 2) := by decide +kernel
theorem dX12_find_13 : decode cX12_find 13 = .ok (.iadd, 1) := by decide +kernel
theorem dX12_find_14 : decode cX12_find 14 = .ok (.iaload, 1) := by decide +kernel
theorem dX12_find_15 : decode cX12_find 15 = .ok (.iload_n 3, 1) := by decide +kernel
theorem dX12_find_16 : decode cX12_find 16 = .ok (.if_icmp .ne 6, 3) := by decide +kernel
theorem dX12_find_19 : decode cX12_find 19 = .ok (.iload 4, 2) := by decide +kernel
theorem dX12_find_21 : decode cX12_find 21 = .ok (.ireturn, 1) := by decide +kernel
theorem dX12_find_22 : decode cX12_find 22 = .ok (.iinc 4 1, 3) := by decide +kernel
theorem dX12_find_25 : decode cX12_find 25 = .ok (.goto (-22), 3) := by decide +kernel
theorem dX12_find_28 : decode cX12_find 28 = .ok (.iconst (-1), 1) := by decide +kernel
theorem dX12_find_29 : decode cX12_find 29 = .ok (.ireturn, 1) := by decide +kernel
theorem dX12_newName_0 : decode cX12_newName 0 = .ok (.aload_n 0, 1) := by decide +kernel
theorem dX12_newName_1 : decode cX12_newName 1 = .ok (.getfield 175, 3) := by decide +kernel
theorem dX12_newName_4 : decode cX12_newName 4 = .ok (.iconst 2, 1) := by decide +kernel
theorem dX12_newName_5 : decode cX12_newName 5 = .ok (.if_icmp .eq 9, 3) := by decide +kernel
theorem dX12_newName_8 : decode cX12_newName 8 = .ok (.aload_n 0, 1) := by decide +kernel
theorem dX12_newName_9 : decode cX12_newName 9 = .ok (.iconst 1, 1) := by decide +kernel
theorem dX12_newName_10 : decode cX12_newName 10 = .ok (.invokevirtual 199, 3) := by decide +kernel
theorem dX12_newName_13 : decode cX12_newName 13 = .ok (.ireturn, 1) := by decide +kernel
theorem dX12_newName_14 : decode cX12_newName 14 = .ok (.aload_n 1, 1) := by decide +kernel
theorem dX12_newName_15 : decode cX12_newName 15 = .ok (.iload_n 2, 1) := by decide +kernel
theorem dX12_newName_16 : decode cX12_newName 16 = .ok (.iload_n 3, 1) := by decide +kernel
theorem dX12_newName_17 : decode cX12_newName 17 = .ok (.aload_n 0, 1) := by decide +kernel
theorem dX12_newName_18 : decode cX12_newName 18 = .ok (.getfield 186, 3) := by decide +kernel
theorem dX12_newName_21 : decode cX12_newName 21 = .ok (.invokestatic 259, 3) := by decide +kernel
theorem dX12_newName_24 : decode cX12_newName 24 = .ok (.ifCond .lt 9, 3) := by decide +kernel
theorem dX12_newName_27 : decode cX12_newName 27 = .ok (.aload_n 0, 1) := by decide +kernel
theorem dX12_newName_28 : decode cX12_newName 28 = .ok (.iconst 3, 1) := by decide +kernel
theorem dX12_newName_29 : decode cX12_newName 29 = .ok (.invokevirtual 199, 3) := by decide +kernel
theorem dX12_newName_32 : decode cX12_newName 32 = .ok (.ireturn, 1) := by decide +kernel
theorem dX12_newName_33 : decode cX12_newName 33 = .ok (.aload_n 1, 1) := by decide +kernel
theorem dX12_newName_34 : decode cX12_newName 34 = .ok (.iload_n 2, 1) := by decide +kernel
theorem dX12_newName_35 : decode cX12_newName 35 = .ok (.iload_n 3, 1) := by decide +kernel
theorem dX12_newName_36 : decode cX12_newName 36 = .ok (.iadd, 1) := by decide +kernel
theorem dX12_newName_37 : decode cX12_newName 37 = .ok (.aload_n 0, 1) := by decide +kernel
theorem dX12_newName_38 : decode cX12_newName 38 = .ok (.getfield 186, 3) := by decide +kernel
theorem dX12_newName_41 : decode cX12_newName 41 = .ok (.iastore, 1) := by decide +kernel
theorem dX12_newName_42 : decode cX12_newName 42 = .ok (.aload_n 0, 1) := by decide +kernel
theorem dX12_newName_43 : decode cX12_newName 43 = .ok (.invokevirtual 209, 3) := by decide +kernel
theorem dX12_newName_46 : decode cX12_newName 46 = .ok (.iconst 1, 1) := by decide +kernel
theorem dX12_newName_47 : decode cX12_newName 47 = .ok (.ireturn, 1) := by decide +kernel
theorem dX12_actLine_0 : decode cX12_actLine 0 = .ok (.aload_n 0, 1) := by decide +kernel
theorem dX12_actLine_1 : decode cX12_actLine 1 = .ok (.getfield 219, 3) := by decide +kernel
theorem dX12_actLine_4 : decode cX12_actLine 4 = .ok (.bipush 6, 2) := by decide +kernel
theorem dX12_actLine_6 : decode cX12_actLine 6 = .ok (.if_icmp .ne 9, 3) := by decide +kernel
theorem dX12_actLine_9 : decode cX12_actLine 9 = .ok (.aload_n 0, 1) := by decide +kernel
theorem dX12_actLine_10 : decode cX12_actLine 10 = .ok (.iconst 2, 1) := by decide +kernel
theorem dX12_actLine_11 : decode cX12_actLine 11 = .ok (.invokevirtual 199, 3) := by decide +kernel
theorem dX12_actLine_14 : decode cX12_actLine 14 = .ok (.ireturn, 1) := by decide +kernel
theorem dX12_actLine_15 : decode cX12_actLine 15 = .ok (.aload_n 0, 1) := by decide +kernel
theorem dX12_actLine_16 : decode cX12_actLine 16 = .ok (.invokevirtual 209, 3) := by decide +kernel
theorem dX12_actLine_19 : decode cX12_actLine 19 = .ok (.aload_n 0, 1) := by decide +kernel
theorem dX12_actLine_20 : decode cX12_actLine 20 = .ok (.aload_n 0, 1) := by decide +kernel
theorem dX12_actLine_21 : decode cX12_actLine 21 = .ok (.getfield 27, 3) := by decide +kernel
theorem dX12_actLine_24 : decode cX12_actLine 24 = .ok (.bipush 6, 2) := by decide +kernel
theorem dX12_actLine_26 : decode cX12_actLine 26 = .ok (.aload_n 0, 1) := by decide +kernel
theorem dX12_actLine_27 : decode cX12_actLine 27 = .ok (.getfield 219, 3) := by decide +kernel
theorem dX12_actLine_30 : decode cX12_actLine 30 = .ok (.invokevirtual 263, 3) := by decide +kernel
theorem dX12_actLine_33 : decode cX12_actLine 33 = .ok (.ifCond .ne 5, 3) := by decide +kernel
theorem dX12_actLine_36 : decode cX12_actLine 36 = .ok (.iconst 0, 1) := by decide +kernel
theorem dX12_actLine_37 : decode cX12_actLine 37 = .ok (.ireturn, 1) := by decide +kernel
theorem dX12_actLine_38 : decode cX12_actLine 38 = .ok (.bipush 6, 2) := by decide +kernel
theorem dX12_actLine_40 : decode cX12_actLine 40 = .ok (.aload_n 0, 1) := by decide +kernel
theorem dX12_actLine_41 : decode cX12_actLine 41 = .ok (.getfield 219, 3) := by decide +kernel
theorem dX12_actLine_44 : decode cX12_actLine 44 = .ok (.iadd, 1) := by decide +kernel
theorem dX12_actLine_45 : decode cX12_actLine 45 = .ok (.istore_n 1, 1) := by decide +kernel
theorem dX12_actLine_46 : decode cX12_actLine 46 = .ok (.aload_n 0, 1) := by decide +kernel
theorem dX12_actLine_47 : decode cX12_actLine 47 = .ok (.iconst 0, 1) := by decide +kernel
theorem dX12_actLine_48 : decode cX12_actLine 48 = .ok (.bipush 9, 2) := by decide +kernel
theorem dX12_actLine_50 : decode cX12_actLine 50 = .ok (.invokevirtual 215, 3) := by decide +kernel
theorem dX12_actLine_53 : decode cX12_actLine 53 = .ok (.ifCond .ne 5, 3) := by decide +kernel
theorem dX12_actLine_56 : decode cX12_actLine 56 = .ok (.iconst 0, 1) := by decide +kernel
theorem dX12_actLine_57 : decode cX12_actLine 57 = .ok (.ireturn, 1) := by decide +kernel
theorem dX12_actLine_58 : decode cX12_actLine 58 = .ok (.aload_n 0, 1) := by decide +kernel
theorem dX12_actLine_59 : decode cX12_actLine 59 = .ok (.getfield 30, 3) := by decide +kernel
theorem dX12_actLine_62 : decode cX12_actLine 62 = .ok (.iload_n 1, 1) := by decide +kernel
theorem dX12_actLine_63 : decode cX12_actLine 63 = .ok (.aload_n 0, 1) := by decide +kernel
theorem dX12_actLine_64 : decode cX12_actLine 64 = .ok (.getfield 206, 3) := by decide +kernel
theorem dX12_actLine_67 : decode cX12_actLine 67 = .ok (.iastore, 1) := by decide +kernel
theorem dX12_actLine_68 : decode cX12_actLine 68 = .ok (.aload_n 0, 1) := by decide +kernel
theorem dX12_actLine_69 : decode cX12_actLine 69 = .ok (.iconst 1, 1) := by decide +kernel
theorem dX12_actLine_70 : decode cX12_actLine 70 = .ok (.bipush 9, 2) := by decide +kernel
theorem dX12_actLine_72 : decode cX12_actLine 72 = .ok (.invokevirtual 215, 3) := by decide +kernel
theorem dX12_actLine_75 : decode cX12_actLine 75 = .ok (.ifCond .ne 5, 3) := by decide +kernel
theorem dX12_actLine_78 : decode cX12_actLine 78 = .ok (.iconst 0, 1) := by decide +kernel
theorem dX12_actLine_79 : decode cX12_actLine 79 = .ok (.ireturn, 1) := by decide +kernel
theorem dX12_actLine_80 : decode cX12_actLine 80 = .ok (.aload_n 0, 1) := by decide +kernel
theorem dX12_actLine_81 : decode cX12_actLine 81 = .ok (.getfield 33, 3) := by decide +kernel
theorem dX12_actLine_84 : decode cX12_actLine 84 = .ok (.iload_n 1, 1) := by decide +kernel
theorem dX12_actLine_85 : decode cX12_actLine 85 = .ok (.aload_n 0, 1) := by decide +kernel
theorem dX12_actLine_86 : decode cX12_actLine 86 = .ok (.getfield 206, 3) := by decide +kernel
theorem dX12_actLine_89 : decode cX12_actLine 89 = .ok (.iastore, 1) := by decide +kernel
theorem dX12_actLine_90 : decode cX12_actLine 90 = .ok (.aload_n 0, 1) := by decide +kernel
theorem dX12_actLine_91 : decode cX12_actLine 91 = .ok (.dup, 1) := by decide +kernel
theorem dX12_actLine_92 : decode cX12_actLine 92 = .ok (.getfield 219, 3) := by decide +kernel
theorem dX12_actLine_95 : decode cX12_actLine 95 = .ok (.iconst 1, 1) := by decide +kernel
theorem dX12_actLine_96 : decode cX12_actLine 96 = .ok (.iadd, 1) := by decide +kernel
theorem dX12_actLine_97 : decode cX12_actLine 97 = .ok (.putfield 219, 3) := by decide +kernel
theorem dX12_actLine_100 : decode cX12_actLine 100 = .ok (.iconst 1, 1) := by decide +kernel
theorem dX12_actLine_101 : decode cX12_actLine 101 = .ok (.ireturn, 1) := by decide +kernel
theorem dX12_guestLine_0 : decode cX12_guestLine 0 = .ok (.aload_n 0, 1) := by decide +kernel
theorem dX12_guestLine_1 : decode cX12_guestLine 1 = .ok (.getfield 222, 3) := by decide +kernel
theorem dX12_guestLine_4 : decode cX12_guestLine 4 = .ok (.bipush 6, 2) := by decide +kernel
theorem dX12_guestLine_6 : decode cX12_guestLine 6 = .ok (.if_icmp .ne 9, 3) := by decide +kernel
theorem dX12_guestLine_9 : decode cX12_guestLine 9 = .ok (.aload_n 0, 1) := by decide +kernel
theorem dX12_guestLine_10 : decode cX12_guestLine 10 = .ok (.iconst 2, 1) := by decide +kernel
theorem dX12_guestLine_11 : decode cX12_guestLine 11 = .ok (.invokevirtual 199, 3) := by decide +kernel
theorem dX12_guestLine_14 : decode cX12_guestLine 14 = .ok (.ireturn, 1) := by decide +kernel
theorem dX12_guestLine_15 : decode cX12_guestLine 15 = .ok (.aload_n 0, 1) := by decide +kernel
theorem dX12_guestLine_16 : decode cX12_guestLine 16 = .ok (.invokevirtual 209, 3) := by decide +kernel
theorem dX12_guestLine_19 : decode cX12_guestLine 19 = .ok (.aload_n 0, 1) := by decide +kernel
theorem dX12_guestLine_20 : decode cX12_guestLine 20 = .ok (.aload_n 0, 1) := by decide +kernel
theorem dX12_guestLine_21 : decode cX12_guestLine 21 = .ok (.getfield 36, 3) := by decide +kernel
theorem dX12_guestLine_24 : decode cX12_guestLine 24 = .ok (.bipush 6, 2) := by decide +kernel
theorem dX12_guestLine_26 : decode cX12_guestLine 26 = .ok (.aload_n 0, 1) := by decide +kernel
theorem dX12_guestLine_27 : decode cX12_guestLine 27 = .ok (.getfield 222, 3) := by decide +kernel
theorem dX12_guestLine_30 : decode cX12_guestLine 30 = .ok (.invokevirtual 263, 3) := by decide +kernel
theorem dX12_guestLine_33 : decode cX12_guestLine 33 = .ok (.ifCond .ne 5, 3) := by decide +kernel
theorem dX12_guestLine_36 : decode cX12_guestLine 36 = .ok (.iconst 0, 1) := by decide +kernel
theorem dX12_guestLine_37 : decode cX12_guestLine 37 = .ok (.ireturn, 1) := by decide +kernel
theorem dX12_guestLine_38 : decode cX12_guestLine 38 = .ok (.bipush 6, 2) := by decide +kernel
theorem dX12_guestLine_40 : decode cX12_guestLine 40 = .ok (.aload_n 0, 1) := by decide +kernel
theorem dX12_guestLine_41 : decode cX12_guestLine 41 = .ok (.getfield 222, 3) := by decide +kernel
theorem dX12_guestLine_44 : decode cX12_guestLine 44 = .ok (.iadd, 1) := by decide +kernel
theorem dX12_guestLine_45 : decode cX12_guestLine 45 = .ok (.istore_n 1, 1) := by decide +kernel
theorem dX12_guestLine_46 : decode cX12_guestLine 46 = .ok (.aload_n 0, 1) := by decide +kernel
theorem dX12_guestLine_47 : decode cX12_guestLine 47 = .ok (.iconst 0, 1) := by decide +kernel
theorem dX12_guestLine_48 : decode cX12_guestLine 48 = .ok (.bipush 9, 2) := by decide +kernel
theorem dX12_guestLine_50 : decode cX12_guestLine 50 = .ok (.invokevirtual 215, 3) := by decide +kernel
theorem dX12_guestLine_53 : decode cX12_guestLine 53 = .ok (.ifCond .ne 5, 3) := by decide +kernel
theorem dX12_guestLine_56 : decode cX12_guestLine 56 = .ok (.iconst 0, 1) := by decide +kernel
theorem dX12_guestLine_57 : decode cX12_guestLine 57 = .ok (.ireturn, 1) := by decide +kernel
theorem dX12_guestLine_58 : decode cX12_guestLine 58 = .ok (.aload_n 0, 1) := by decide +kernel
theorem dX12_guestLine_59 : decode cX12_guestLine 59 = .ok (.getfield 39, 3) := by decide +kernel
theorem dX12_guestLine_62 : decode cX12_guestLine 62 = .ok (.iload_n 1, 1) := by decide +kernel
theorem dX12_guestLine_63 : decode cX12_guestLine 63 = .ok (.aload_n 0, 1) := by decide +kernel
theorem dX12_guestLine_64 : decode cX12_guestLine 64 = .ok (.getfield 206, 3) := by decide +kernel
theorem dX12_guestLine_67 : decode cX12_guestLine 67 = .ok (.iastore, 1) := by decide +kernel
theorem dX12_guestLine_68 : decode cX12_guestLine 68 = .ok (.aload_n 0, 1) := by decide +kernel
theorem dX12_guestLine_69 : decode cX12_guestLine 69 = .ok (.iconst 0, 1) := by decide +kernel
theorem dX12_guestLine_70 : decode cX12_guestLine 70 = .ok (.bipush 9, 2) := by decide +kernel
theorem dX12_guestLine_72 : decode cX12_guestLine 72 = .ok (.invokevirtual 215, 3) := by decide +kernel
theorem dX12_guestLine_75 : decode cX12_guestLine 75 = .ok (.ifCond .ne 5, 3) := by decide +kernel
theorem dX12_guestLine_78 : decode cX12_guestLine 78 = .ok (.iconst 0, 1) := by decide +kernel
theorem dX12_guestLine_79 : decode cX12_guestLine 79 = .ok (.ireturn, 1) := by decide +kernel
theorem dX12_guestLine_80 : decode cX12_guestLine 80 = .ok (.aload_n 0, 1) := by decide +kernel
theorem dX12_guestLine_81 : decode cX12_guestLine 81 = .ok (.getfield 42, 3) := by decide +kernel
theorem dX12_guestLine_84 : decode cX12_guestLine 84 = .ok (.iload_n 1, 1) := by decide +kernel
theorem dX12_guestLine_85 : decode cX12_guestLine 85 = .ok (.aload_n 0, 1) := by decide +kernel
theorem dX12_guestLine_86 : decode cX12_guestLine 86 = .ok (.getfield 206, 3) := by decide +kernel
theorem dX12_guestLine_89 : decode cX12_guestLine 89 = .ok (.iastore, 1) := by decide +kernel
theorem dX12_guestLine_90 : decode cX12_guestLine 90 = .ok (.aload_n 0, 1) := by decide +kernel
theorem dX12_guestLine_91 : decode cX12_guestLine 91 = .ok (.dup, 1) := by decide +kernel
theorem dX12_guestLine_92 : decode cX12_guestLine 92 = .ok (.getfield 222, 3) := by decide +kernel
theorem dX12_guestLine_95 : decode cX12_guestLine 95 = .ok (.iconst 1, 1) := by decide +kernel
theorem dX12_guestLine_96 : decode cX12_guestLine 96 = .ok (.iadd, 1) := by decide +kernel
theorem dX12_guestLine_97 : decode cX12_guestLine 97 = .ok (.putfield 222, 3) := by decide +kernel
theorem dX12_guestLine_100 : decode cX12_guestLine 100 = .ok (.iconst 1, 1) := by decide +kernel
theorem dX12_guestLine_101 : decode cX12_guestLine 101 = .ok (.ireturn, 1) := by decide +kernel
theorem dX12_grainLine_0 : decode cX12_grainLine 0 = .ok (.aload_n 0, 1) := by decide +kernel
theorem dX12_grainLine_1 : decode cX12_grainLine 1 = .ok (.getfield 225, 3) := by decide +kernel
theorem dX12_grainLine_4 : decode cX12_grainLine 4 = .ok (.iconst 4, 1) := by decide +kernel
theorem dX12_grainLine_5 : decode cX12_grainLine 5 = .ok (.if_icmp .ne 9, 3) := by decide +kernel
theorem dX12_grainLine_8 : decode cX12_grainLine 8 = .ok (.aload_n 0, 1) := by decide +kernel
theorem dX12_grainLine_9 : decode cX12_grainLine 9 = .ok (.iconst 2, 1) := by decide +kernel
theorem dX12_grainLine_10 : decode cX12_grainLine 10 = .ok (.invokevirtual 199, 3) := by decide +kernel
theorem dX12_grainLine_13 : decode cX12_grainLine 13 = .ok (.ireturn, 1) := by decide +kernel
theorem dX12_grainLine_14 : decode cX12_grainLine 14 = .ok (.aload_n 0, 1) := by decide +kernel
theorem dX12_grainLine_15 : decode cX12_grainLine 15 = .ok (.invokevirtual 209, 3) := by decide +kernel
theorem dX12_grainLine_18 : decode cX12_grainLine 18 = .ok (.aload_n 0, 1) := by decide +kernel
theorem dX12_grainLine_19 : decode cX12_grainLine 19 = .ok (.aload_n 0, 1) := by decide +kernel
theorem dX12_grainLine_20 : decode cX12_grainLine 20 = .ok (.getfield 45, 3) := by decide +kernel
theorem dX12_grainLine_23 : decode cX12_grainLine 23 = .ok (.iconst 4, 1) := by decide +kernel
theorem dX12_grainLine_24 : decode cX12_grainLine 24 = .ok (.aload_n 0, 1) := by decide +kernel
theorem dX12_grainLine_25 : decode cX12_grainLine 25 = .ok (.getfield 225, 3) := by decide +kernel
theorem dX12_grainLine_28 : decode cX12_grainLine 28 = .ok (.invokevirtual 263, 3) := by decide +kernel
theorem dX12_grainLine_31 : decode cX12_grainLine 31 = .ok (.ifCond .ne 5, 3) := by decide +kernel
theorem dX12_grainLine_34 : decode cX12_grainLine 34 = .ok (.iconst 0, 1) := by decide +kernel
theorem dX12_grainLine_35 : decode cX12_grainLine 35 = .ok (.ireturn, 1) := by decide +kernel
theorem dX12_grainLine_36 : decode cX12_grainLine 36 = .ok (.iconst 4, 1) := by decide +kernel
theorem dX12_grainLine_37 : decode cX12_grainLine 37 = .ok (.aload_n 0, 1) := by decide +kernel
theorem dX12_grainLine_38 : decode cX12_grainLine 38 = .ok (.getfield 225, 3) := by decide +kernel
theorem dX12_grainLine_41 : decode cX12_grainLine 41 = .ok (.iadd, 1) := by decide +kernel
theorem dX12_grainLine_42 : decode cX12_grainLine 42 = .ok (.istore_n 1, 1) := by decide +kernel
theorem dX12_grainLine_43 : decode cX12_grainLine 43 = .ok (.aload_n 0, 1) := by decide +kernel
theorem dX12_grainLine_44 : decode cX12_grainLine 44 = .ok (.iconst 0, 1) := by decide +kernel
theorem dX12_grainLine_45 : decode cX12_grainLine 45 = .ok (.bipush 99, 2) := by decide +kernel
theorem dX12_grainLine_47 : decode cX12_grainLine 47 = .ok (.invokevirtual 215, 3) := by decide +kernel
theorem dX12_grainLine_50 : decode cX12_grainLine 50 = .ok (.ifCond .ne 5, 3) := by decide +kernel
theorem dX12_grainLine_53 : decode cX12_grainLine 53 = .ok (.iconst 0, 1) := by decide +kernel
theorem dX12_grainLine_54 : decode cX12_grainLine 54 = .ok (.ireturn, 1) := by decide +kernel
theorem dX12_grainLine_55 : decode cX12_grainLine 55 = .ok (.aload_n 0, 1) := by decide +kernel
theorem dX12_grainLine_56 : decode cX12_grainLine 56 = .ok (.getfield 48, 3) := by decide +kernel
theorem dX12_grainLine_59 : decode cX12_grainLine 59 = .ok (.iload_n 1, 1) := by decide +kernel
theorem dX12_grainLine_60 : decode cX12_grainLine 60 = .ok (.aload_n 0, 1) := by decide +kernel
theorem dX12_grainLine_61 : decode cX12_grainLine 61 = .ok (.getfield 206, 3) := by decide +kernel
theorem dX12_grainLine_64 : decode cX12_grainLine 64 = .ok (.iastore, 1) := by decide +kernel
theorem dX12_grainLine_65 : decode cX12_grainLine 65 = .ok (.aload_n 0, 1) := by decide +kernel
theorem dX12_grainLine_66 : decode cX12_grainLine 66 = .ok (.iconst 0, 1) := by decide +kernel
theorem dX12_grainLine_67 : decode cX12_grainLine 67 = .ok (.bipush 99, 2) := by decide +kernel
theorem dX12_grainLine_69 : decode cX12_grainLine 69 = .ok (.invokevirtual 215, 3) := by decide +kernel
theorem dX12_grainLine_72 : decode cX12_grainLine 72 = .ok (.ifCond .ne 5, 3) := by decide +kernel
theorem dX12_grainLine_75 : decode cX12_grainLine 75 = .ok (.iconst 0, 1) := by decide +kernel
theorem dX12_grainLine_76 : decode cX12_grainLine 76 = .ok (.ireturn, 1) := by decide +kernel
theorem dX12_grainLine_77 : decode cX12_grainLine 77 = .ok (.aload_n 0, 1) := by decide +kernel
theorem dX12_grainLine_78 : decode cX12_grainLine 78 = .ok (.getfield 51, 3) := by decide +kernel
theorem dX12_grainLine_81 : decode cX12_grainLine 81 = .ok (.iload_n 1, 1) := by decide +kernel
theorem dX12_grainLine_82 : decode cX12_grainLine 82 = .ok (.aload_n 0, 1) := by decide +kernel
theorem dX12_grainLine_83 : decode cX12_grainLine 83 = .ok (.getfield 206, 3) := by decide +kernel
theorem dX12_grainLine_86 : decode cX12_grainLine 86 = .ok (.iastore, 1) := by decide +kernel
theorem dX12_grainLine_87 : decode cX12_grainLine 87 = .ok (.aload_n 0, 1) := by decide +kernel
theorem dX12_grainLine_88 : decode cX12_grainLine 88 = .ok (.iconst 0, 1) := by decide +kernel
theorem dX12_grainLine_89 : decode cX12_grainLine 89 = .ok (.bipush 99, 2) := by decide +kernel
theorem dX12_grainLine_91 : decode cX12_grainLine 91 = .ok (.invokevirtual 215, 3) := by decide +kernel
theorem dX12_grainLine_94 : decode cX12_grainLine 94 = .ok (.ifCond .ne 5, 3) := by decide +kernel
theorem dX12_grainLine_97 : decode cX12_grainLine 97 = .ok (.iconst 0, 1) := by decide +kernel
theorem dX12_grainLine_98 : decode cX12_grainLine 98 = .ok (.ireturn, 1) := by decide +kernel
theorem dX12_grainLine_99 : decode cX12_grainLine 99 = .ok (.aload_n 0, 1) := by decide +kernel
theorem dX12_grainLine_100 : decode cX12_grainLine 100 = .ok (.getfield 54, 3) := by decide +kernel
theorem dX12_grainLine_103 : decode cX12_grainLine 103 = .ok (.iload_n 1, 1) := by decide +kernel
theorem dX12_grainLine_104 : decode cX12_grainLine 104 = .ok (.aload_n 0, 1) := by decide +kernel
theorem dX12_grainLine_105 : decode cX12_grainLine 105 = .ok (.getfield 206, 3) := by decide +kernel
theorem dX12_grainLine_108 : decode cX12_grainLine 108 = .ok (.iastore, 1) := by decide +kernel
theorem dX12_grainLine_109 : decode cX12_grainLine 109 = .ok (.aload_n 0, 1) := by decide +kernel
theorem dX12_grainLine_110 : decode cX12_grainLine 110 = .ok (.dup, 1) := by decide +kernel
theorem dX12_grainLine_111 : decode cX12_grainLine 111 = .ok (.getfield 225, 3) := by decide +kernel
theorem dX12_grainLine_114 : decode cX12_grainLine 114 = .ok (.iconst 1, 1) := by decide +kernel
theorem dX12_grainLine_115 : decode cX12_grainLine 115 = .ok (.iadd, 1) := by decide +kernel
theorem dX12_grainLine_116 : decode cX12_grainLine 116 = .ok (.putfield 225, 3) := by decide +kernel
theorem dX12_grainLine_119 : decode cX12_grainLine 119 = .ok (.iconst 1, 1) := by decide +kernel
theorem dX12_grainLine_120 : decode cX12_grainLine 120 = .ok (.ireturn, 1) := by decide +kernel
theorem dX12_showLine_0 : decode cX12_showLine 0 = .ok (.aload_n 0, 1) := by decide +kernel
theorem dX12_showLine_1 : decode cX12_showLine 1 = .ok (.getfield 228, 3) := by decide +kernel
theorem dX12_showLine_4 : decode cX12_showLine 4 = .ok (.bipush 14, 2) := by decide +kernel
theorem dX12_showLine_6 : decode cX12_showLine 6 = .ok (.if_icmp .ne 9, 3) := by decide +kernel
theorem dX12_showLine_9 : decode cX12_showLine 9 = .ok (.aload_n 0, 1) := by decide +kernel
theorem dX12_showLine_10 : decode cX12_showLine 10 = .ok (.iconst 2, 1) := by decide +kernel
theorem dX12_showLine_11 : decode cX12_showLine 11 = .ok (.invokevirtual 199, 3) := by decide +kernel
theorem dX12_showLine_14 : decode cX12_showLine 14 = .ok (.ireturn, 1) := by decide +kernel
theorem dX12_showLine_15 : decode cX12_showLine 15 = .ok (.aload_n 0, 1) := by decide +kernel
theorem dX12_showLine_16 : decode cX12_showLine 16 = .ok (.invokevirtual 209, 3) := by decide +kernel
theorem dX12_showLine_19 : decode cX12_showLine 19 = .ok (.aload_n 0, 1) := by decide +kernel
theorem dX12_showLine_20 : decode cX12_showLine 20 = .ok (.getfield 175, 3) := by decide +kernel
theorem dX12_showLine_23 : decode cX12_showLine 23 = .ok (.iconst 2, 1) := by decide +kernel
theorem dX12_showLine_24 : decode cX12_showLine 24 = .ok (.if_icmp .eq 9, 3) := by decide +kernel
theorem dX12_showLine_27 : decode cX12_showLine 27 = .ok (.aload_n 0, 1) := by decide +kernel
theorem dX12_showLine_28 : decode cX12_showLine 28 = .ok (.iconst 1, 1) := by decide +kernel
theorem dX12_showLine_29 : decode cX12_showLine 29 = .ok (.invokevirtual 199, 3) := by decide +kernel
theorem dX12_showLine_32 : decode cX12_showLine 32 = .ok (.ireturn, 1) := by decide +kernel
theorem dX12_showLine_33 : decode cX12_showLine 33 = .ok (.aload_n 0, 1) := by decide +kernel
theorem dX12_showLine_34 : decode cX12_showLine 34 = .ok (.getfield 27, 3) := by decide +kernel
theorem dX12_showLine_37 : decode cX12_showLine 37 = .ok (.bipush 6, 2) := by decide +kernel
theorem dX12_showLine_39 : decode cX12_showLine 39 = .ok (.aload_n 0, 1) := by decide +kernel
theorem dX12_showLine_40 : decode cX12_showLine 40 = .ok (.getfield 219, 3) := by decide +kernel
theorem dX12_showLine_43 : decode cX12_showLine 43 = .ok (.aload_n 0, 1) := by decide +kernel
theorem dX12_showLine_44 : decode cX12_showLine 44 = .ok (.getfield 186, 3) := by decide +kernel
theorem dX12_showLine_47 : decode cX12_showLine 47 = .ok (.invokestatic 259, 3) := by decide +kernel
theorem dX12_showLine_50 : decode cX12_showLine 50 = .ok (.istore_n 1, 1) := by decide +kernel
theorem dX12_showLine_51 : decode cX12_showLine 51 = .ok (.iload_n 1, 1) := by decide +kernel
theorem dX12_showLine_52 : decode cX12_showLine 52 = .ok (.ifCond .ge 9, 3) := by decide +kernel
theorem dX12_showLine_55 : decode cX12_showLine 55 = .ok (.aload_n 0, 1) := by decide +kernel
theorem dX12_showLine_56 : decode cX12_showLine 56 = .ok (.iconst 4, 1) := by decide +kernel
theorem dX12_showLine_57 : decode cX12_showLine 57 = .ok (.invokevirtual 199, 3) := by decide +kernel
theorem dX12_showLine_60 : decode cX12_showLine 60 = .ok (.ireturn, 1) := by decide +kernel
theorem dX12_showLine_61 : decode cX12_showLine 61 = .ok (.aload_n 0, 1) := by decide +kernel
theorem dX12_showLine_62 : decode cX12_showLine 62 = .ok (.invokevirtual 209, 3) := by decide +kernel
theorem dX12_showLine_65 : decode cX12_showLine 65 = .ok (.aload_n 0, 1) := by decide +kernel
theorem dX12_showLine_66 : decode cX12_showLine 66 = .ok (.getfield 57, 3) := by decide +kernel
theorem dX12_showLine_69 : decode cX12_showLine 69 = .ok (.bipush 14, 2) := by decide +kernel
theorem dX12_showLine_71 : decode cX12_showLine 71 = .ok (.aload_n 0, 1) := by decide +kernel
theorem dX12_showLine_72 : decode cX12_showLine 72 = .ok (.getfield 228, 3) := by decide +kernel
theorem dX12_showLine_75 : decode cX12_showLine 75 = .ok (.iadd, 1) := by decide +kernel
theorem dX12_showLine_76 : decode cX12_showLine 76 = .ok (.iload_n 1, 1) := by decide +kernel
theorem dX12_showLine_77 : decode cX12_showLine 77 = .ok (.iastore, 1) := by decide +kernel
theorem dX12_showLine_78 : decode cX12_showLine 78 = .ok (.aload_n 0, 1) := by decide +kernel
theorem dX12_showLine_79 : decode cX12_showLine 79 = .ok (.iconst 0, 1) := by decide +kernel
theorem dX12_showLine_80 : decode cX12_showLine 80 = .ok (.bipush 99, 2) := by decide +kernel
theorem dX12_showLine_82 : decode cX12_showLine 82 = .ok (.invokevirtual 215, 3) := by decide +kernel
theorem dX12_showLine_85 : decode cX12_showLine 85 = .ok (.ifCond .ne 5, 3) := by decide +kernel
theorem dX12_showLine_88 : decode cX12_showLine 88 = .ok (.iconst 0, 1) := by decide +kernel
theorem dX12_showLine_89 : decode cX12_showLine 89 = .ok (.ireturn, 1) := by decide +kernel
theorem dX12_showLine_90 : decode cX12_showLine 90 = .ok (.aload_n 0, 1) := by decide +kernel
theorem dX12_showLine_91 : decode cX12_showLine 91 = .ok (.getfield 60, 3) := by decide +kernel
theorem dX12_showLine_94 : decode cX12_showLine 94 = .ok (.bipush 14, 2) := by decide +kernel
theorem dX12_showLine_96 : decode cX12_showLine 96 = .ok (.aload_n 0, 1) := by decide +kernel
theorem dX12_showLine_97 : decode cX12_showLine 97 = .ok (.getfield 228, 3) := by decide +kernel
theorem dX12_showLine_100 : decode cX12_showLine 100 = .ok (.iadd, 1) := by decide +kernel
theorem dX12_showLine_101 : decode cX12_showLine 101 = .ok (.aload_n 0, 1) := by decide +kernel
theorem dX12_showLine_102 : decode cX12_showLine 102 = .ok (.getfield 206, 3) := by decide +kernel
theorem dX12_showLine_105 : decode cX12_showLine 105 = .ok (.iastore, 1) := by decide +kernel
theorem dX12_showLine_106 : decode cX12_showLine 106 = .ok (.aload_n 0, 1) := by decide +kernel
theorem dX12_showLine_107 : decode cX12_showLine 107 = .ok (.dup, 1) := by decide +kernel
theorem dX12_showLine_108 : decode cX12_showLine 108 = .ok (.getfield 228, 3) := by decide +kernel
theorem dX12_showLine_111 : decode cX12_showLine 111 = .ok (.iconst 1, 1) := by decide +kernel
theorem dX12_showLine_112 : decode cX12_showLine 112 = .ok (.iadd, 1) := by decide +kernel
theorem dX12_showLine_113 : decode cX12_showLine 113 = .ok (.putfield 228, 3) := by decide +kernel
theorem dX12_showLine_116 : decode cX12_showLine 116 = .ok (.iconst 1, 1) := by decide +kernel
theorem dX12_showLine_117 : decode cX12_showLine 117 = .ok (.ireturn, 1) := by decide +kernel
theorem dX12_onceLine_0 : decode cX12_onceLine 0 = .ok (.aload_n 0, 1) := by decide +kernel
theorem dX12_onceLine_1 : decode cX12_onceLine 1 = .ok (.getfield 20, 3) := by decide +kernel
theorem dX12_onceLine_4 : decode cX12_onceLine 4 = .ok (.iload_n 1, 1) := by decide +kernel
theorem dX12_onceLine_5 : decode cX12_onceLine 5 = .ok (.baload, 1) := by decide +kernel
theorem dX12_onceLine_6 : decode cX12_onceLine 6 = .ok (.ifCond .eq 9, 3) := by decide +kernel
theorem dX12_onceLine_9 : decode cX12_onceLine 9 = .ok (.aload_n 0, 1) := by decide +kernel
theorem dX12_onceLine_10 : decode cX12_onceLine 10 = .ok (.iconst 3, 1) := by decide +kernel
theorem dX12_onceLine_11 : decode cX12_onceLine 11 = .ok (.invokevirtual 199, 3) := by decide +kernel
theorem dX12_onceLine_14 : decode cX12_onceLine 14 = .ok (.ireturn, 1) := by decide +kernel
theorem dX12_onceLine_15 : decode cX12_onceLine 15 = .ok (.aload_n 0, 1) := by decide +kernel
theorem dX12_onceLine_16 : decode cX12_onceLine 16 = .ok (.getfield 20, 3) := by decide +kernel
theorem dX12_onceLine_19 : decode cX12_onceLine 19 = .ok (.iload_n 1, 1) := by decide +kernel
theorem dX12_onceLine_20 : decode cX12_onceLine 20 = .ok (.iconst 1, 1) := by decide +kernel
theorem dX12_onceLine_21 : decode cX12_onceLine 21 = .ok (.bastore, 1) := by decide +kernel
theorem dX12_onceLine_22 : decode cX12_onceLine 22 = .ok (.aload_n 0, 1) := by decide +kernel
theorem dX12_onceLine_23 : decode cX12_onceLine 23 = .ok (.invokevirtual 209, 3) := by decide +kernel
theorem dX12_onceLine_26 : decode cX12_onceLine 26 = .ok (.aload_n 0, 1) := by decide +kernel
theorem dX12_onceLine_27 : decode cX12_onceLine 27 = .ok (.iconst 0, 1) := by decide +kernel
theorem dX12_onceLine_28 : decode cX12_onceLine 28 = .ok (.iload_n 2, 1) := by decide +kernel
theorem dX12_onceLine_29 : decode cX12_onceLine 29 = .ok (.invokevirtual 215, 3) := by decide +kernel
theorem dX12_onceLine_32 : decode cX12_onceLine 32 = .ok (.ifCond .ne 5, 3) := by decide +kernel
theorem dX12_onceLine_35 : decode cX12_onceLine 35 = .ok (.iconst 0, 1) := by decide +kernel
theorem dX12_onceLine_36 : decode cX12_onceLine 36 = .ok (.ireturn, 1) := by decide +kernel
theorem dX12_onceLine_37 : decode cX12_onceLine 37 = .ok (.aload_n 0, 1) := by decide +kernel
theorem dX12_onceLine_38 : decode cX12_onceLine 38 = .ok (.getfield 24, 3) := by decide +kernel
theorem dX12_onceLine_41 : decode cX12_onceLine 41 = .ok (.iconst 2, 1) := by decide +kernel
theorem dX12_onceLine_42 : decode cX12_onceLine 42 = .ok (.iload_n 1, 1) := by decide +kernel
theorem dX12_onceLine_43 : decode cX12_onceLine 43 = .ok (.iadd, 1) := by decide +kernel
theorem dX12_onceLine_44 : decode cX12_onceLine 44 = .ok (.aload_n 0, 1) := by decide +kernel
theorem dX12_onceLine_45 : decode cX12_onceLine 45 = .ok (.getfield 206, 3) := by decide +kernel
theorem dX12_onceLine_48 : decode cX12_onceLine 48 = .ok (.iastore, 1) := by decide +kernel
theorem dX12_onceLine_49 : decode cX12_onceLine 49 = .ok (.iconst 1, 1) := by decide +kernel
theorem dX12_onceLine_50 : decode cX12_onceLine 50 = .ok (.ireturn, 1) := by decide +kernel
theorem dX12_lineRead_0 : decode cX12_lineRead 0 = .ok (.aload_n 0, 1) := by decide +kernel
theorem dX12_lineRead_1 : decode cX12_lineRead 1 = .ok (.getfield 175, 3) := by decide +kernel
theorem dX12_lineRead_4 : decode cX12_lineRead 4 = .ok (.iconst 1, 1) := by decide +kernel
theorem dX12_lineRead_5 : decode cX12_lineRead 5 = .ok (.if_icmp .ne 12, 3) := by decide +kernel
theorem dX12_lineRead_8 : decode cX12_lineRead 8 = .ok (.aload_n 0, 1) := by decide +kernel
theorem dX12_lineRead_9 : decode cX12_lineRead 9 = .ok (.getfield 186, 3) := by decide +kernel
theorem dX12_lineRead_12 : decode cX12_lineRead 12 = .ok (.bipush 6, 2) := by decide +kernel
theorem dX12_lineRead_14 : decode cX12_lineRead 14 = .ok (.if_icmp .le 9, 3) := by decide +kernel
theorem dX12_lineRead_17 : decode cX12_lineRead 17 = .ok (.aload_n 0, 1) := by decide +kernel
theorem dX12_lineRead_18 : decode cX12_lineRead 18 = .ok (.iconst 1, 1) := by decide +kernel
theorem dX12_lineRead_19 : decode cX12_lineRead 19 = .ok (.invokevirtual 199, 3) := by decide +kernel
theorem dX12_lineRead_22 : decode cX12_lineRead 22 = .ok (.ireturn, 1) := by decide +kernel
theorem dX12_lineRead_23 : decode cX12_lineRead 23 = .ok (.aload_n 0, 1) := by decide +kernel
theorem dX12_lineRead_24 : decode cX12_lineRead 24 = .ok (.getfield 186, 3) := by decide +kernel
theorem dX12_lineRead_27 : decode cX12_lineRead 27 = .ok (.tableswitch 91 0 5 #[37, 45, 53, 61, 69, 80], 37) := by decide +kernel
theorem dX12_lineRead_64 : decode cX12_lineRead 64 = .ok (.aload_n 0, 1) := by decide +kernel
theorem dX12_lineRead_65 : decode cX12_lineRead 65 = .ok (.invokevirtual 267, 3) := by decide +kernel
theorem dX12_lineRead_68 : decode cX12_lineRead 68 = .ok (.istore_n 1, 1) := by decide +kernel
theorem dX12_lineRead_69 : decode cX12_lineRead 69 = .ok (.goto 146, 3) := by decide +kernel
theorem dX12_lineRead_72 : decode cX12_lineRead 72 = .ok (.aload_n 0, 1) := by decide +kernel
theorem dX12_lineRead_73 : decode cX12_lineRead 73 = .ok (.invokevirtual 271, 3) := by decide +kernel
theorem dX12_lineRead_76 : decode cX12_lineRead 76 = .ok (.istore_n 1, 1) := by decide +kernel
theorem dX12_lineRead_77 : decode cX12_lineRead 77 = .ok (.goto 138, 3) := by decide +kernel
theorem dX12_lineRead_80 : decode cX12_lineRead 80 = .ok (.aload_n 0, 1) := by decide +kernel
theorem dX12_lineRead_81 : decode cX12_lineRead 81 = .ok (.invokevirtual 274, 3) := by decide +kernel
theorem dX12_lineRead_84 : decode cX12_lineRead 84 = .ok (.istore_n 1, 1) := by decide +kernel
theorem dX12_lineRead_85 : decode cX12_lineRead 85 = .ok (.goto 130, 3) := by decide +kernel
theorem dX12_lineRead_88 : decode cX12_lineRead 88 = .ok (.aload_n 0, 1) := by decide +kernel
theorem dX12_lineRead_89 : decode cX12_lineRead 89 = .ok (.invokevirtual 277, 3) := by decide +kernel
theorem dX12_lineRead_92 : decode cX12_lineRead 92 = .ok (.istore_n 1, 1) := by decide +kernel
theorem dX12_lineRead_93 : decode cX12_lineRead 93 = .ok (.goto 122, 3) := by decide +kernel
theorem dX12_lineRead_96 : decode cX12_lineRead 96 = .ok (.aload_n 0, 1) := by decide +kernel
theorem dX12_lineRead_97 : decode cX12_lineRead 97 = .ok (.iconst 0, 1) := by decide +kernel
theorem dX12_lineRead_98 : decode cX12_lineRead 98 = .ok (.bipush 100, 2) := by decide +kernel
theorem dX12_lineRead_100 : decode cX12_lineRead 100 = .ok (.invokevirtual 280, 3) := by decide +kernel
theorem dX12_lineRead_103 : decode cX12_lineRead 103 = .ok (.istore_n 1, 1) := by decide +kernel
theorem dX12_lineRead_104 : decode cX12_lineRead 104 = .ok (.goto 111, 3) := by decide +kernel
theorem dX12_lineRead_107 : decode cX12_lineRead 107 = .ok (.aload_n 0, 1) := by decide +kernel
theorem dX12_lineRead_108 : decode cX12_lineRead 108 = .ok (.iconst 1, 1) := by decide +kernel
theorem dX12_lineRead_109 : decode cX12_lineRead 109 = .ok (.ldc 195, 2) := by decide +kernel
theorem dX12_lineRead_111 : decode cX12_lineRead 111 = .ok (.invokevirtual 280, 3) := by decide +kernel
theorem dX12_lineRead_114 : decode cX12_lineRead 114 = .ok (.istore_n 1, 1) := by decide +kernel
theorem dX12_lineRead_115 : decode cX12_lineRead 115 = .ok (.goto 100, 3) := by decide +kernel
theorem dX12_lineRead_118 : decode cX12_lineRead 118 = .ok (.aload_n 0, 1) := by decide +kernel
theorem dX12_lineRead_119 : decode cX12_lineRead 119 = .ok (.invokevirtual 209, 3) := by decide +kernel
theorem dX12_lineRead_122 : decode cX12_lineRead 122 = .ok (.aload_n 0, 1) := by decide +kernel
theorem dX12_lineRead_123 : decode cX12_lineRead 123 = .ok (.getfield 175, 3) := by decide +kernel
theorem dX12_lineRead_126 : decode cX12_lineRead 126 = .ok (.iconst 1, 1) := by decide +kernel
theorem dX12_lineRead_127 : decode cX12_lineRead 127 = .ok (.if_icmp .ne 21, 3) := by decide +kernel
theorem dX12_lineRead_130 : decode cX12_lineRead 130 = .ok (.aload_n 0, 1) := by decide +kernel
theorem dX12_lineRead_131 : decode cX12_lineRead 131 = .ok (.getfield 186, 3) := by decide +kernel
theorem dX12_lineRead_134 : decode cX12_lineRead 134 = .ok (.bipush 7, 2) := by decide +kernel
theorem dX12_lineRead_136 : decode cX12_lineRead 136 = .ok (.if_icmp .lt 12, 3) := by decide +kernel
theorem dX12_lineRead_139 : decode cX12_lineRead 139 = .ok (.aload_n 0, 1) := by decide +kernel
theorem dX12_lineRead_140 : decode cX12_lineRead 140 = .ok (.getfield 186, 3) := by decide +kernel
theorem dX12_lineRead_143 : decode cX12_lineRead 143 = .ok (.bipush 9, 2) := by decide +kernel
theorem dX12_lineRead_145 : decode cX12_lineRead 145 = .ok (.if_icmp .le 9, 3) := by decide +kernel
theorem dX12_lineRead_148 : decode cX12_lineRead 148 = .ok (.aload_n 0, 1) := by decide +kernel
theorem dX12_lineRead_149 : decode cX12_lineRead 149 = .ok (.iconst 1, 1) := by decide +kernel
theorem dX12_lineRead_150 : decode cX12_lineRead 150 = .ok (.invokevirtual 199, 3) := by decide +kernel
theorem dX12_lineRead_153 : decode cX12_lineRead 153 = .ok (.ireturn, 1) := by decide +kernel
theorem dX12_lineRead_154 : decode cX12_lineRead 154 = .ok (.iconst 3, 1) := by decide +kernel
theorem dX12_lineRead_155 : decode cX12_lineRead 155 = .ok (.aload_n 0, 1) := by decide +kernel
theorem dX12_lineRead_156 : decode cX12_lineRead 156 = .ok (.getfield 186, 3) := by decide +kernel
theorem dX12_lineRead_159 : decode cX12_lineRead 159 = .ok (.iadd, 1) := by decide +kernel
theorem dX12_lineRead_160 : decode cX12_lineRead 160 = .ok (.bipush 7, 2) := by decide +kernel
theorem dX12_lineRead_162 : decode cX12_lineRead 162 = .ok (.isub, 1) := by decide +kernel
theorem dX12_lineRead_163 : decode cX12_lineRead 163 = .ok (.istore_n 2, 1) := by decide +kernel
theorem dX12_lineRead_164 : decode cX12_lineRead 164 = .ok (.aload_n 0, 1) := by decide +kernel
theorem dX12_lineRead_165 : decode cX12_lineRead 165 = .ok (.getfield 63, 3) := by decide +kernel
theorem dX12_lineRead_168 : decode cX12_lineRead 168 = .ok (.iload_n 2, 1) := by decide +kernel
theorem dX12_lineRead_169 : decode cX12_lineRead 169 = .ok (.baload, 1) := by decide +kernel
theorem dX12_lineRead_170 : decode cX12_lineRead 170 = .ok (.ifCond .eq 9, 3) := by decide +kernel
theorem dX12_lineRead_173 : decode cX12_lineRead 173 = .ok (.aload_n 0, 1) := by decide +kernel
theorem dX12_lineRead_174 : decode cX12_lineRead 174 = .ok (.iconst 3, 1) := by decide +kernel
theorem dX12_lineRead_175 : decode cX12_lineRead 175 = .ok (.invokevirtual 199, 3) := by decide +kernel
theorem dX12_lineRead_178 : decode cX12_lineRead 178 = .ok (.ireturn, 1) := by decide +kernel
theorem dX12_lineRead_179 : decode cX12_lineRead 179 = .ok (.aload_n 0, 1) := by decide +kernel
theorem dX12_lineRead_180 : decode cX12_lineRead 180 = .ok (.getfield 63, 3) := by decide +kernel
theorem dX12_lineRead_183 : decode cX12_lineRead 183 = .ok (.iload_n 2, 1) := by decide +kernel
theorem dX12_lineRead_184 : decode cX12_lineRead 184 = .ok (.iconst 1, 1) := by decide +kernel
theorem dX12_lineRead_185 : decode cX12_lineRead 185 = .ok (.bastore, 1) := by decide +kernel
theorem dX12_lineRead_186 : decode cX12_lineRead 186 = .ok (.aload_n 0, 1) := by decide +kernel
theorem dX12_lineRead_187 : decode cX12_lineRead 187 = .ok (.invokevirtual 209, 3) := by decide +kernel
theorem dX12_lineRead_190 : decode cX12_lineRead 190 = .ok (.aload_n 0, 1) := by decide +kernel
theorem dX12_lineRead_191 : decode cX12_lineRead 191 = .ok (.getfield 66, 3) := by decide +kernel
theorem dX12_lineRead_194 : decode cX12_lineRead 194 = .ok (.iload_n 2, 1) := by decide +kernel
theorem dX12_lineRead_195 : decode cX12_lineRead 195 = .ok (.aload_n 0, 1) := by decide +kernel
theorem dX12_lineRead_196 : decode cX12_lineRead 196 = .ok (.getfield 231, 3) := by decide +kernel
theorem dX12_lineRead_199 : decode cX12_lineRead 199 = .ok (.iastore, 1) := by decide +kernel
theorem dX12_lineRead_200 : decode cX12_lineRead 200 = .ok (.aload_n 0, 1) := by decide +kernel
theorem dX12_lineRead_201 : decode cX12_lineRead 201 = .ok (.invokevirtual 283, 3) := by decide +kernel
theorem dX12_lineRead_204 : decode cX12_lineRead 204 = .ok (.istore_n 1, 1) := by decide +kernel
theorem dX12_lineRead_205 : decode cX12_lineRead 205 = .ok (.aload_n 0, 1) := by decide +kernel
theorem dX12_lineRead_206 : decode cX12_lineRead 206 = .ok (.getfield 69, 3) := by decide +kernel
theorem dX12_lineRead_209 : decode cX12_lineRead 209 = .ok (.iload_n 2, 1) := by decide +kernel
theorem dX12_lineRead_210 : decode cX12_lineRead 210 = .ok (.aload_n 0, 1) := by decide +kernel
theorem dX12_lineRead_211 : decode cX12_lineRead 211 = .ok (.getfield 231, 3) := by decide +kernel
theorem dX12_lineRead_214 : decode cX12_lineRead 214 = .ok (.iastore, 1) := by decide +kernel
theorem dX12_lineRead_215 : decode cX12_lineRead 215 = .ok (.iload_n 1, 1) := by decide +kernel
theorem dX12_lineRead_216 : decode cX12_lineRead 216 = .ok (.ifCond .ne 5, 3) := by decide +kernel
theorem dX12_lineRead_219 : decode cX12_lineRead 219 = .ok (.iconst 0, 1) := by decide +kernel
theorem dX12_lineRead_220 : decode cX12_lineRead 220 = .ok (.ireturn, 1) := by decide +kernel
theorem dX12_lineRead_221 : decode cX12_lineRead 221 = .ok (.aload_n 0, 1) := by decide +kernel
theorem dX12_lineRead_222 : decode cX12_lineRead 222 = .ok (.bipush 59, 2) := by decide +kernel
theorem dX12_lineRead_224 : decode cX12_lineRead 224 = .ok (.invokevirtual 212, 3) := by decide +kernel
theorem dX12_lineRead_227 : decode cX12_lineRead 227 = .ok (.ifCond .ne 9, 3) := by decide +kernel
theorem dX12_lineRead_230 : decode cX12_lineRead 230 = .ok (.aload_n 0, 1) := by decide +kernel
theorem dX12_lineRead_231 : decode cX12_lineRead 231 = .ok (.iconst 1, 1) := by decide +kernel
theorem dX12_lineRead_232 : decode cX12_lineRead 232 = .ok (.invokevirtual 199, 3) := by decide +kernel
theorem dX12_lineRead_235 : decode cX12_lineRead 235 = .ok (.ireturn, 1) := by decide +kernel
theorem dX12_lineRead_236 : decode cX12_lineRead 236 = .ok (.aload_n 0, 1) := by decide +kernel
theorem dX12_lineRead_237 : decode cX12_lineRead 237 = .ok (.invokevirtual 209, 3) := by decide +kernel
theorem dX12_lineRead_240 : decode cX12_lineRead 240 = .ok (.iconst 1, 1) := by decide +kernel
theorem dX12_lineRead_241 : decode cX12_lineRead 241 = .ok (.ireturn, 1) := by decide +kernel
theorem dX12_text_0 : decode cX12_text 0 = .ok (.aload_n 0, 1) := by decide +kernel
theorem dX12_text_1 : decode cX12_text 1 = .ok (.iconst 0, 1) := by decide +kernel
theorem dX12_text_2 : decode cX12_text 2 = .ok (.putfield 157, 3) := by decide +kernel
theorem dX12_text_5 : decode cX12_text 5 = .ok (.iload_n 1, 1) := by decide +kernel
theorem dX12_text_6 : decode cX12_text 6 = .ok (.ifCond .lt 11, 3) := by decide +kernel
theorem dX12_text_9 : decode cX12_text 9 = .ok (.iload_n 1, 1) := by decide +kernel
theorem dX12_text_10 : decode cX12_text 10 = .ok (.aload_n 0, 1) := by decide +kernel
theorem dX12_text_11 : decode cX12_text 11 = .ok (.getfield 160, 3) := by decide +kernel
theorem dX12_text_14 : decode cX12_text 14 = .ok (.if_icmp .le 6, 3) := by decide +kernel
theorem dX12_text_17 : decode cX12_text 17 = .ok (.bipush (-2), 2) := by decide +kernel
theorem dX12_text_19 : decode cX12_text 19 = .ok (.ireturn, 1) := by decide +kernel
theorem dX12_text_20 : decode cX12_text 20 = .ok (.aload_n 0, 1) := by decide +kernel
theorem dX12_text_21 : decode cX12_text 21 = .ok (.iload_n 1, 1) := by decide +kernel
theorem dX12_text_22 : decode cX12_text 22 = .ok (.putfield 169, 3) := by decide +kernel
theorem dX12_text_25 : decode cX12_text 25 = .ok (.aload_n 0, 1) := by decide +kernel
theorem dX12_text_26 : decode cX12_text 26 = .ok (.iconst 0, 1) := by decide +kernel
theorem dX12_text_27 : decode cX12_text 27 = .ok (.putfield 160, 3) := by decide +kernel
theorem dX12_text_30 : decode cX12_text 30 = .ok (.aload_n 0, 1) := by decide +kernel
theorem dX12_text_31 : decode cX12_text 31 = .ok (.iconst 0, 1) := by decide +kernel
theorem dX12_text_32 : decode cX12_text 32 = .ok (.putfield 163, 3) := by decide +kernel
theorem dX12_text_35 : decode cX12_text 35 = .ok (.aload_n 0, 1) := by decide +kernel
theorem dX12_text_36 : decode cX12_text 36 = .ok (.iconst (-1), 1) := by decide +kernel
theorem dX12_text_37 : decode cX12_text 37 = .ok (.putfield 16, 3) := by decide +kernel
theorem dX12_text_40 : decode cX12_text 40 = .ok (.aload_n 0, 1) := by decide +kernel
theorem dX12_text_41 : decode cX12_text 41 = .ok (.iconst 0, 1) := by decide +kernel
theorem dX12_text_42 : decode cX12_text 42 = .ok (.putfield 172, 3) := by decide +kernel
theorem dX12_text_45 : decode cX12_text 45 = .ok (.aload_n 0, 1) := by decide +kernel
theorem dX12_text_46 : decode cX12_text 46 = .ok (.invokevirtual 151, 3) := by decide +kernel
theorem dX12_text_49 : decode cX12_text 49 = .ok (.aload_n 0, 1) := by decide +kernel
theorem dX12_text_50 : decode cX12_text 50 = .ok (.invokevirtual 209, 3) := by decide +kernel
theorem dX12_text_53 : decode cX12_text 53 = .ok (.iconst 0, 1) := by decide +kernel
theorem dX12_text_54 : decode cX12_text 54 = .ok (.istore_n 2, 1) := by decide +kernel
theorem dX12_text_55 : decode cX12_text 55 = .ok (.aload_n 0, 1) := by decide +kernel
theorem dX12_text_56 : decode cX12_text 56 = .ok (.getfield 175, 3) := by decide +kernel
theorem dX12_text_59 : decode cX12_text 59 = .ok (.ifCond .eq 18, 3) := by decide +kernel
theorem dX12_text_62 : decode cX12_text 62 = .ok (.aload_n 0, 1) := by decide +kernel
theorem dX12_text_63 : decode cX12_text 63 = .ok (.invokevirtual 286, 3) := by decide +kernel
theorem dX12_text_66 : decode cX12_text 66 = .ok (.ifCond .ne 5, 3) := by decide +kernel
theorem dX12_text_69 : decode cX12_text 69 = .ok (.iconst (-1), 1) := by decide +kernel
theorem dX12_text_70 : decode cX12_text 70 = .ok (.ireturn, 1) := by decide +kernel
theorem dX12_text_71 : decode cX12_text 71 = .ok (.iinc 2 1, 3) := by decide +kernel
theorem dX12_text_74 : decode cX12_text 74 = .ok (.goto (-19), 3) := by decide +kernel
