theorem dX0_forget_0 : decode cX0_forget 0 = .ok (.aload_n 0, 1) := by decide +kernel
theorem dX0_forget_1 : decode cX0_forget 1 = .ok (.iconst 0, 1) := by decide +kernel
theorem dX0_forget_2 : decode cX0_forget 2 = .ok (.putfield 22, 3) := by decide +kernel
theorem dX0_forget_5 : decode cX0_forget 5 = .ok (.aload_n 0, 1) := by decide +kernel
theorem dX0_forget_6 : decode cX0_forget 6 = .ok (.iconst 0, 1) := by decide +kernel
theorem dX0_forget_7 : decode cX0_forget 7 = .ok (.putfield 26, 3) := by decide +kernel
theorem dX0_forget_10 : decode cX0_forget 10 = .ok (.return_, 1) := by decide +kernel
theorem dX0_add_0 : decode cX0_add 0 = .ok (.aload_n 0, 1) := by decide +kernel
theorem dX0_add_1 : decode cX0_add 1 = .ok (.getfield 22, 3) := by decide +kernel
theorem dX0_add_4 : decode cX0_add 4 = .ok (.bipush 64, 2) := by decide +kernel
theorem dX0_add_6 : decode cX0_add 6 = .ok (.if_icmp .ge 33, 3) := by decide +kernel
theorem dX0_add_9 : decode cX0_add 9 = .ok (.aload_n 0, 1) := by decide +kernel
theorem dX0_add_10 : decode cX0_add 10 = .ok (.getfield 9, 3) := by decide +kernel
theorem dX0_add_13 : decode cX0_add 13 = .ok (.aload_n 0, 1) := by decide +kernel
theorem dX0_add_14 : decode cX0_add 14 = .ok (.getfield 22, 3) := by decide +kernel
theorem dX0_add_17 : decode cX0_add 17 = .ok (.iload_n 1, 1) := by decide +kernel
theorem dX0_add_18 : decode cX0_add 18 = .ok (.iastore, 1) := by decide +kernel
theorem dX0_add_19 : decode cX0_add 19 = .ok (.aload_n 0, 1) := by decide +kernel
theorem dX0_add_20 : decode cX0_add 20 = .ok (.getfield 15, 3) := by decide +kernel
theorem dX0_add_23 : decode cX0_add 23 = .ok (.aload_n 0, 1) := by decide +kernel
theorem dX0_add_24 : decode cX0_add 24 = .ok (.getfield 22, 3) := by decide +kernel
theorem dX0_add_27 : decode cX0_add 27 = .ok (.iload_n 2, 1) := by decide +kernel
theorem dX0_add_28 : decode cX0_add 28 = .ok (.iastore, 1) := by decide +kernel
theorem dX0_add_29 : decode cX0_add 29 = .ok (.aload_n 0, 1) := by decide +kernel
theorem dX0_add_30 : decode cX0_add 30 = .ok (.dup, 1) := by decide +kernel
theorem dX0_add_31 : decode cX0_add 31 = .ok (.getfield 22, 3) := by decide +kernel
theorem dX0_add_34 : decode cX0_add 34 = .ok (.iconst 1, 1) := by decide +kernel
theorem dX0_add_35 : decode cX0_add 35 = .ok (.iadd, 1) := by decide +kernel
theorem dX0_add_36 : decode cX0_add 36 = .ok (.putfield 22, 3) := by decide +kernel
theorem dX0_add_39 : decode cX0_add 39 = .ok (.return_, 1) := by decide +kernel
theorem dX0_value_0 : decode cX0_value 0 = .ok (.iconst 0, 1) := by decide +kernel
theorem dX0_value_1 : decode cX0_value 1 = .ok (.istore_n 2, 1) := by decide +kernel
theorem dX0_value_2 : decode cX0_value 2 = .ok (.iconst 0, 1) := by decide +kernel
theorem dX0_value_3 : decode cX0_value 3 = .ok (.istore_n 3, 1) := by decide +kernel
theorem dX0_value_4 : decode cX0_value 4 = .ok (.iload_n 3, 1) := by decide +kernel
theorem dX0_value_5 : decode cX0_value 5 = .ok (.aload_n 0, 1) := by decide +kernel
theorem dX0_value_6 : decode cX0_value 6 = .ok (.getfield 22, 3) := by decide +kernel
theorem dX0_value_9 : decode cX0_value 9 = .ok (.if_icmp .ge 172, 3) := by decide +kernel
theorem dX0_value_12 : decode cX0_value 12 = .ok (.aload_n 0, 1) := by decide +kernel
theorem dX0_value_13 : decode cX0_value 13 = .ok (.getfield 9, 3) := by decide +kernel
theorem dX0_value_16 : decode cX0_value 16 = .ok (.iload_n 3, 1) := by decide +kernel
theorem dX0_value_17 : decode cX0_value 17 = .ok (.iaload, 1) := by decide +kernel
theorem dX0_value_18 : decode cX0_value 18 = .ok (.istore 4, 2) := by decide +kernel
theorem dX0_value_20 : decode cX0_value 20 = .ok (.iload 4, 2) := by decide +kernel
theorem dX0_value_22 : decode cX0_value 22 = .ok (.ifCond .eq 9, 3) := by decide +kernel
theorem dX0_value_25 : decode cX0_value 25 = .ok (.iload 4, 2) := by decide +kernel
theorem dX0_value_27 : decode cX0_value 27 = .ok (.iconst 1, 1) := by decide +kernel
theorem dX0_value_28 : decode cX0_value 28 = .ok (.if_icmp .ne 38, 3) := by decide +kernel
theorem dX0_value_31 : decode cX0_value 31 = .ok (.aload_n 0, 1) := by decide +kernel
theorem dX0_value_32 : decode cX0_value 32 = .ok (.getfield 18, 3) := by decide +kernel
theorem dX0_value_35 : decode cX0_value 35 = .ok (.iload_n 2, 1) := by decide +kernel
theorem dX0_value_36 : decode cX0_value 36 = .ok (.iload 4, 2) := by decide +kernel
theorem dX0_value_38 : decode cX0_value 38 = .ok (.ifCond .ne 13, 3) := by decide +kernel
theorem dX0_value_41 : decode cX0_value 41 = .ok (.aload_n 0, 1) := by decide +kernel
theorem dX0_value_42 : decode cX0_value 42 = .ok (.getfield 15, 3) := by decide +kernel
theorem dX0_value_45 : decode cX0_value 45 = .ok (.iload_n 3, 1) := by decide +kernel
theorem dX0_value_46 : decode cX0_value 46 = .ok (.iaload, 1) := by decide +kernel
theorem dX0_value_47 : decode cX0_value 47 = .ok (.i2l, 1) := by decide +kernel
theorem dX0_value_48 : decode cX0_value 48 = .ok (.goto 11, 3) := by decide +kernel
theorem dX0_value_51 : decode cX0_value 51 = .ok (.aload_n 1, 1) := by decide +kernel
theorem dX0_value_52 : decode cX0_value 52 = .ok (.aload_n 0, 1) := by decide +kernel
theorem dX0_value_53 : decode cX0_value 53 = .ok (.getfield 15, 3) := by decide +kernel
theorem dX0_value_56 : decode cX0_value 56 = .ok (.iload_n 3, 1) := by decide +kernel
theorem dX0_value_57 : decode cX0_value 57 = .ok (.iaload, 1) := by decide +kernel
theorem dX0_value_58 : decode cX0_value 58 = .ok (.laload, 1) := by decide +kernel
theorem dX0_value_59 : decode cX0_value 59 = .ok (.lastore, 1) := by decide +kernel
theorem dX0_value_60 : decode cX0_value 60 = .ok (.iinc 2 1, 3) := by decide +kernel
theorem dX0_value_63 : decode cX0_value 63 = .ok (.goto 112, 3) := by decide +kernel
theorem dX0_value_66 : decode cX0_value 66 = .ok (.iload 4, 2) := by decide +kernel
theorem dX0_value_68 : decode cX0_value 68 = .ok (.iconst 2, 1) := by decide +kernel
theorem dX0_value_69 : decode cX0_value 69 = .ok (.if_icmp .ne 37, 3) := by decide +kernel
theorem dX0_value_72 : decode cX0_value 72 = .ok (.iload_n 2, 1) := by decide +kernel
theorem dX0_value_73 : decode cX0_value 73 = .ok (.iconst 1, 1) := by decide +kernel
theorem dX0_value_74 : decode cX0_value 74 = .ok (.if_icmp .lt 32, 3) := by decide +kernel
theorem dX0_value_77 : decode cX0_value 77 = .ok (.aload_n 0, 1) := by decide +kernel
theorem dX0_value_78 : decode cX0_value 78 = .ok (.getfield 18, 3) := by decide +kernel
theorem dX0_value_81 : decode cX0_value 81 = .ok (.iload_n 2, 1) := by decide +kernel
theorem dX0_value_82 : decode cX0_value 82 = .ok (.iconst 1, 1) := by decide +kernel
theorem dX0_value_83 : decode cX0_value 83 = .ok (.isub, 1) := by decide +kernel
theorem dX0_value_84 : decode cX0_value 84 = .ok (.aload_n 0, 1) := by decide +kernel
theorem dX0_value_85 : decode cX0_value 85 = .ok (.getfield 18, 3) := by decide +kernel
theorem dX0_value_88 : decode cX0_value 88 = .ok (.iload_n 2, 1) := by decide +kernel
theorem dX0_value_89 : decode cX0_value 89 = .ok (.iconst 1, 1) := by decide +kernel
theorem dX0_value_90 : decode cX0_value 90 = .ok (.isub, 1) := by decide +kernel
theorem dX0_value_91 : decode cX0_value 91 = .ok (.laload, 1) := by decide +kernel
theorem dX0_value_92 : decode cX0_value 92 = .ok (.lconst 0, 1) := by decide +kernel
theorem dX0_value_93 : decode cX0_value 93 = .ok (.lcmp, 1) := by decide +kernel
theorem dX0_value_94 : decode cX0_value 94 = .ok (.ifCond .ne 7, 3) := by decide +kernel
theorem dX0_value_97 : decode cX0_value 97 = .ok (.lconst 1, 1) := by decide +kernel
theorem dX0_value_98 : decode cX0_value 98 = .ok (.goto 4, 3) := by decide +kernel
theorem dX0_value_101 : decode cX0_value 101 = .ok (.lconst 0, 1) := by decide +kernel
theorem dX0_value_102 : decode cX0_value 102 = .ok (.lastore, 1) := by decide +kernel
theorem dX0_value_103 : decode cX0_value 103 = .ok (.goto 72, 3) := by decide +kernel
theorem dX0_value_106 : decode cX0_value 106 = .ok (.iload_n 2, 1) := by decide +kernel
theorem dX0_value_107 : decode cX0_value 107 = .ok (.iconst 2, 1) := by decide +kernel
theorem dX0_value_108 : decode cX0_value 108 = .ok (.if_icmp .lt 67, 3) := by decide +kernel
theorem dX0_value_111 : decode cX0_value 111 = .ok (.iinc 2 (-1), 3) := by decide +kernel
theorem dX0_value_114 : decode cX0_value 114 = .ok (.aload_n 0, 1) := by decide +kernel
theorem dX0_value_115 : decode cX0_value 115 = .ok (.getfield 18, 3) := by decide +kernel
theorem dX0_value_118 : decode cX0_value 118 = .ok (.iload_n 2, 1) := by decide +kernel
theorem dX0_value_119 : decode cX0_value 119 = .ok (.iconst 1, 1) := by decide +kernel
theorem dX0_value_120 : decode cX0_value 120 = .ok (.isub, 1) := by decide +kernel
theorem dX0_value_121 : decode cX0_value 121 = .ok (.iload 4, 2) := by decide +kernel
theorem dX0_value_123 : decode cX0_value 123 = .ok (.aload_n 0, 1) := by decide +kernel
theorem dX0_value_124 : decode cX0_value 124 = .ok (.getfield 18, 3) := by decide +kernel
theorem dX0_value_127 : decode cX0_value 127 = .ok (.iload_n 2, 1) := by decide +kernel
theorem dX0_value_128 : decode cX0_value 128 = .ok (.iconst 1, 1) := by decide +kernel
theorem dX0_value_129 : decode cX0_value 129 = .ok (.isub, 1) := by decide +kernel
theorem dX0_value_130 : decode cX0_value 130 = .ok (.laload, 1) := by decide +kernel
theorem dX0_value_131 : decode cX0_value 131 = .ok (.aload_n 0, 1) := by decide +kernel
theorem dX0_value_132 : decode cX0_value 132 = .ok (.getfield 18, 3) := by decide +kernel
theorem dX0_value_135 : decode cX0_value 135 = .ok (.iload_n 2, 1) := by decide +kernel
theorem dX0_value_136 : decode cX0_value 136 = .ok (.laload, 1) := by decide +kernel
theorem dX0_value_137 : decode cX0_value 137 = .ok (.invokestatic 30, 3) := by decide +kernel
theorem dX0_value_140 : decode cX0_value 140 = .ok (.lastore, 1) := by decide +kernel
theorem dX0_value_141 : decode cX0_value 141 = .ok (.aload_n 0, 1) := by decide +kernel
theorem dX0_value_142 : decode cX0_value 142 = .ok (.getfield 18, 3) := by decide +kernel
theorem dX0_value_145 : decode cX0_value 145 = .ok (.iload_n 2, 1) := by decide +kernel
theorem dX0_value_146 : decode cX0_value 146 = .ok (.iconst 1, 1) := by decide +kernel
theorem dX0_value_147 : decode cX0_value 147 = .ok (.isub, 1) := by decide +kernel
theorem dX0_value_148 : decode cX0_value 148 = .ok (.laload, 1) := by decide +kernel
theorem dX0_value_149 : decode cX0_value 149 = .ok (.ldc2_w 34, 3) := by decide +kernel
theorem dX0_value_152 : decode cX0_value 152 = .ok (.lcmp, 1) := by decide +kernel
theorem dX0_value_153 : decode cX0_value 153 = .ok (.ifCond .gt 18, 3) := by decide +kernel
theorem dX0_value_156 : decode cX0_value 156 = .ok (.aload_n 0, 1) := by decide +kernel
theorem dX0_value_157 : decode cX0_value 157 = .ok (.getfield 18, 3) := by decide +kernel
theorem dX0_value_160 : decode cX0_value 160 = .ok (.iload_n 2, 1) := by decide +kernel
theorem dX0_value_161 : decode cX0_value 161 = .ok (.iconst 1, 1) := by decide +kernel
theorem dX0_value_162 : decode cX0_value 162 = .ok (.isub, 1) := by decide +kernel
theorem dX0_value_163 : decode cX0_value 163 = .ok (.laload, 1) := by decide +kernel
theorem dX0_value_164 : decode cX0_value 164 = .ok (.ldc2_w 36, 3) := by decide +kernel
theorem dX0_value_167 : decode cX0_value 167 = .ok (.lcmp, 1) := by decide +kernel
theorem dX0_value_168 : decode cX0_value 168 = .ok (.ifCond .ge 7, 3) := by decide +kernel
theorem dX0_value_171 : decode cX0_value 171 = .ok (.ldc2_w 38, 3) := by decide +kernel
theorem dX0_value_174 : decode cX0_value 174 = .ok (.lreturn, 1) := by decide +kernel
theorem dX0_value_175 : decode cX0_value 175 = .ok (.iinc 3 1, 3) := by decide +kernel
theorem dX0_value_178 : decode cX0_value 178 = .ok (.goto (-174), 3) := by decide +kernel
theorem dX0_value_181 : decode cX0_value 181 = .ok (.iload_n 2, 1) := by decide +kernel
theorem dX0_value_182 : decode cX0_value 182 = .ok (.iconst 1, 1) := by decide +kernel
theorem dX0_value_183 : decode cX0_value 183 = .ok (.if_icmp .ne 12, 3) := by decide +kernel
theorem dX0_value_186 : decode cX0_value 186 = .ok (.aload_n 0, 1) := by decide +kernel
theorem dX0_value_187 : decode cX0_value 187 = .ok (.getfield 18, 3) := by decide +kernel
theorem dX0_value_190 : decode cX0_value 190 = .ok (.iconst 0, 1) := by decide +kernel
theorem dX0_value_191 : decode cX0_value 191 = .ok (.laload, 1) := by decide +kernel
theorem dX0_value_192 : decode cX0_value 192 = .ok (.goto 6, 3) := by decide +kernel
theorem dX0_value_195 : decode cX0_value 195 = .ok (.ldc2_w 38, 3) := by decide +kernel
theorem dX0_value_198 : decode cX0_value 198 = .ok (.lreturn, 1) := by decide +kernel
theorem dX0_join_0 : decode cX0_join 0 = .ok (.iload_n 0, 1) := by decide +kernel
theorem dX0_join_1 : decode cX0_join 1 = .ok (.tableswitch 207 3 13 #[59, 77, 95, 107, 119, 131, 143, 155, 167, 171, 175], 59) := by decide +kernel
theorem dX0_join_60 : decode cX0_join 60 = .ok (.lload_n 1, 1) := by decide +kernel
theorem dX0_join_61 : decode cX0_join 61 = .ok (.lconst 0, 1) := by decide +kernel
theorem dX0_join_62 : decode cX0_join 62 = .ok (.lcmp, 1) := by decide +kernel
theorem dX0_join_63 : decode cX0_join 63 = .ok (.ifCond .ne 9, 3) := by decide +kernel
theorem dX0_join_66 : decode cX0_join 66 = .ok (.lload_n 3, 1) := by decide +kernel
theorem dX0_join_67 : decode cX0_join 67 = .ok (.lconst 0, 1) := by decide +kernel
theorem dX0_join_68 : decode cX0_join 68 = .ok (.lcmp, 1) := by decide +kernel
theorem dX0_join_69 : decode cX0_join 69 = .ok (.ifCond .eq 7, 3) := by decide +kernel
theorem dX0_join_72 : decode cX0_join 72 = .ok (.lconst 1, 1) := by decide +kernel
theorem dX0_join_73 : decode cX0_join 73 = .ok (.goto 4, 3) := by decide +kernel
theorem dX0_join_76 : decode cX0_join 76 = .ok (.lconst 0, 1) := by decide +kernel
theorem dX0_join_77 : decode cX0_join 77 = .ok (.lreturn, 1) := by decide +kernel
theorem dX0_join_78 : decode cX0_join 78 = .ok (.lload_n 1, 1) := by decide +kernel
theorem dX0_join_79 : decode cX0_join 79 = .ok (.lconst 0, 1) := by decide +kernel
theorem dX0_join_80 : decode cX0_join 80 = .ok (.lcmp, 1) := by decide +kernel
theorem dX0_join_81 : decode cX0_join 81 = .ok (.ifCond .eq 13, 3) := by decide +kernel
theorem dX0_join_84 : decode cX0_join 84 = .ok (.lload_n 3, 1) := by decide +kernel
theorem dX0_join_85 : decode cX0_join 85 = .ok (.lconst 0, 1) := by decide +kernel
theorem dX0_join_86 : decode cX0_join 86 = .ok (.lcmp, 1) := by decide +kernel
theorem dX0_join_87 : decode cX0_join 87 = .ok (.ifCond .eq 7, 3) := by decide +kernel
theorem dX0_join_90 : decode cX0_join 90 = .ok (.lconst 1, 1) := by decide +kernel
theorem dX0_join_91 : decode cX0_join 91 = .ok (.goto 4, 3) := by decide +kernel
theorem dX0_join_94 : decode cX0_join 94 = .ok (.lconst 0, 1) := by decide +kernel
theorem dX0_join_95 : decode cX0_join 95 = .ok (.lreturn, 1) := by decide +kernel
theorem dX0_join_96 : decode cX0_join 96 = .ok (.lload_n 1, 1) := by decide +kernel
theorem dX0_join_97 : decode cX0_join 97 = .ok (.lload_n 3, 1) := by decide +kernel
theorem dX0_join_98 : decode cX0_join 98 = .ok (.lcmp, 1) := by decide +kernel
theorem dX0_join_99 : decode cX0_join 99 = .ok (.ifCond .ge 7, 3) := by decide +kernel
theorem dX0_join_102 : decode cX0_join 102 = .ok (.lconst 1, 1) := by decide +kernel
theorem dX0_join_103 : decode cX0_join 103 = .ok (.goto 4, 3) := by decide +kernel
theorem dX0_join_106 : decode cX0_join 106 = .ok (.lconst 0, 1) := by decide +kernel
theorem dX0_join_107 : decode cX0_join 107 = .ok (.lreturn, 1) := by decide +kernel
theorem dX0_join_108 : decode cX0_join 108 = .ok (.lload_n 1, 1) := by decide +kernel
theorem dX0_join_109 : decode cX0_join 109 = .ok (.lload_n 3, 1) := by decide +kernel
theorem dX0_join_110 : decode cX0_join 110 = .ok (.lcmp, 1) := by decide +kernel
theorem dX0_join_111 : decode cX0_join 111 = .ok (.ifCond .gt 7, 3) := by decide +kernel
theorem dX0_join_114 : decode cX0_join 114 = .ok (.lconst 1, 1) := by decide +kernel
theorem dX0_join_115 : decode cX0_join 115 = .ok (.goto 4, 3) := by decide +kernel
theorem dX0_join_118 : decode cX0_join 118 = .ok (.lconst 0, 1) := by decide +kernel
theorem dX0_join_119 : decode cX0_join 119 = .ok (.lreturn, 1) := by decide +kernel
theorem dX0_join_120 : decode cX0_join 120 = .ok (.lload_n 1, 1) := by decide +kernel
theorem dX0_join_121 : decode cX0_join 121 = .ok (.lload_n 3, 1) := by decide +kernel
theorem dX0_join_122 : decode cX0_join 122 = .ok (.lcmp, 1) := by decide +kernel
theorem dX0_join_123 : decode cX0_join 123 = .ok (.ifCond .ne 7, 3) := by decide +kernel
theorem dX0_join_126 : decode cX0_join 126 = .ok (.lconst 1, 1) := by decide +kernel
theorem dX0_join_127 : decode cX0_join 127 = .ok (.goto 4, 3) := by decide +kernel
theorem dX0_join_130 : decode cX0_join 130 = .ok (.lconst 0, 1) := by decide +kernel
theorem dX0_join_131 : decode cX0_join 131 = .ok (.lreturn, 1) := by decide +kernel
theorem dX0_join_132 : decode cX0_join 132 = .ok (.lload_n 1, 1) := by decide +kernel
theorem dX0_join_133 : decode cX0_join 133 = .ok (.lload_n 3, 1) := by decide +kernel
theorem dX0_join_134 : decode cX0_join 134 = .ok (.lcmp, 1) := by decide +kernel
theorem dX0_join_135 : decode cX0_join 135 = .ok (.ifCond .eq 7, 3) := by decide +kernel
theorem dX0_join_138 : decode cX0_join 138 = .ok (.lconst 1, 1) := by decide +kernel
theorem dX0_join_139 : decode cX0_join 139 = .ok (.goto 4, 3) := by decide +kernel
theorem dX0_join_142 : decode cX0_join 142 = .ok (.lconst 0, 1) := by decide +kernel
theorem dX0_join_143 : decode cX0_join 143 = .ok (.lreturn, 1) := by decide +kernel
theorem dX0_join_144 : decode cX0_join 144 = .ok (.lload_n 1, 1) := by decide +kernel
theorem dX0_join_145 : decode cX0_join 145 = .ok (.lload_n 3, 1) := by decide +kernel
theorem dX0_join_146 : decode cX0_join 146 = .ok (.lcmp, 1) := by decide +kernel
theorem dX0_join_147 : decode cX0_join 147 = .ok (.ifCond .lt 7, 3) := by decide +kernel
theorem dX0_join_150 : decode cX0_join 150 = .ok (.lconst 1, 1) := by decide +kernel
theorem dX0_join_151 : decode cX0_join 151 = .ok (.goto 4, 3) := by decide +kernel
theorem dX0_join_154 : decode cX0_join 154 = .ok (.lconst 0, 1) := by decide +kernel
theorem dX0_join_155 : decode cX0_join 155 = .ok (.lreturn, 1) := by decide +kernel
theorem dX0_join_156 : decode cX0_join 156 = .ok (.lload_n 1, 1) := by decide +kernel
theorem dX0_join_157 : decode cX0_join 157 = .ok (.lload_n 3, 1) := by decide +kernel
theorem dX0_join_158 : decode cX0_join 158 = .ok (.lcmp, 1) := by decide +kernel
theorem dX0_join_159 : decode cX0_join 159 = .ok (.ifCond .le 7, 3) := by decide +kernel
theorem dX0_join_162 : decode cX0_join 162 = .ok (.lconst 1, 1) := by decide +kernel
theorem dX0_join_163 : decode cX0_join 163 = .ok (.goto 4, 3) := by decide +kernel
theorem dX0_join_166 : decode cX0_join 166 = .ok (.lconst 0, 1) := by decide +kernel
theorem dX0_join_167 : decode cX0_join 167 = .ok (.lreturn, 1) := by decide +kernel
theorem dX0_join_168 : decode cX0_join 168 = .ok (.lload_n 1, 1) := by decide +kernel
theorem dX0_join_169 : decode cX0_join 169 = .ok (.lload_n 3, 1) := by decide +kernel
theorem dX0_join_170 : decode cX0_join 170 = .ok (.ladd, 1) := by decide +kernel
theorem dX0_join_171 : decode cX0_join 171 = .ok (.lreturn, 1) := by decide +kernel
theorem dX0_join_172 : decode cX0_join 172 = .ok (.lload_n 1, 1) := by decide +kernel
theorem dX0_join_173 : decode cX0_join 173 = .ok (.lload_n 3, 1) := by decide +kernel
theorem dX0_join_174 : decode cX0_join 174 = .ok (.lsub, 1) := by decide +kernel
theorem dX0_join_175 : decode cX0_join 175 = .ok (.lreturn, 1) := by decide +kernel
theorem dX0_join_176 : decode cX0_join 176 = .ok (.lload_n 1, 1) := by decide +kernel
theorem dX0_join_177 : decode cX0_join 177 = .ok (.lconst 0, 1) := by decide +kernel
theorem dX0_join_178 : decode cX0_join 178 = .ok (.lcmp, 1) := by decide +kernel
theorem dX0_join_179 : decode cX0_join 179 = .ok (.ifCond .eq 25, 3) := by decide +kernel
theorem dX0_join_182 : decode cX0_join 182 = .ok (.lload_n 3, 1) := by decide +kernel
theorem dX0_join_183 : decode cX0_join 183 = .ok (.invokestatic 40, 3) := by decide +kernel
theorem dX0_join_186 : decode cX0_join 186 = .ok (.ldc2_w 34, 3) := by decide +kernel
theorem dX0_join_189 : decode cX0_join 189 = .ok (.lload_n 1, 1) := by decide +kernel
theorem dX0_join_190 : decode cX0_join 190 = .ok (.invokestatic 40, 3) := by decide +kernel
theorem dX0_join_193 : decode cX0_join 193 = .ok (.ldiv, 1) := by decide +kernel
theorem dX0_join_194 : decode cX0_join 194 = .ok (.lcmp, 1) := by decide +kernel
theorem dX0_join_195 : decode cX0_join 195 = .ok (.ifCond .le 9, 3) := by decide +kernel
theorem dX0_join_198 : decode cX0_join 198 = .ok (.ldc2_w 38, 3) := by decide +kernel
theorem dX0_join_201 : decode cX0_join 201 = .ok (.goto 6, 3) := by decide +kernel
theorem dX0_join_204 : decode cX0_join 204 = .ok (.lload_n 1, 1) := by decide +kernel
theorem dX0_join_205 : decode cX0_join 205 = .ok (.lload_n 3, 1) := by decide +kernel
theorem dX0_join_206 : decode cX0_join 206 = .ok (.lmul, 1) := by decide +kernel
theorem dX0_join_207 : decode cX0_join 207 = .ok (.lreturn, 1) := by decide +kernel
theorem dX0_join_208 : decode cX0_join 208 = .ok (.lload_n 3, 1) := by decide +kernel
theorem dX0_join_209 : decode cX0_join 209 = .ok (.lconst 0, 1) := by decide +kernel
theorem dX0_join_210 : decode cX0_join 210 = .ok (.lcmp, 1) := by decide +kernel
theorem dX0_join_211 : decode cX0_join 211 = .ok (.ifCond .ne 9, 3) := by decide +kernel
theorem dX0_join_214 : decode cX0_join 214 = .ok (.ldc2_w 38, 3) := by decide +kernel
theorem dX0_join_217 : decode cX0_join 217 = .ok (.goto 6, 3) := by decide +kernel
theorem dX0_join_220 : decode cX0_join 220 = .ok (.lload_n 1, 1) := by decide +kernel
theorem dX0_join_221 : decode cX0_join 221 = .ok (.lload_n 3, 1) := by decide +kernel
theorem dX0_join_222 : decode cX0_join 222 = .ok (.ldiv, 1) := by decide +kernel
theorem dX0_join_223 : decode cX0_join 223 = .ok (.lreturn, 1) := by decide +kernel
theorem dX1_begin_0 : decode cX1_begin 0 = .ok (.aload_n 0, 1) := by decide +kernel
theorem dX1_begin_1 : decode cX1_begin 1 = .ok (.iconst 0, 1) := by decide +kernel
theorem dX1_begin_2 : decode cX1_begin 2 = .ok (.putfield 28, 3) := by decide +kernel
theorem dX1_begin_5 : decode cX1_begin 5 = .ok (.aload_n 0, 1) := by decide +kernel
theorem dX1_begin_6 : decode cX1_begin 6 = .ok (.iconst 0, 1) := by decide +kernel
theorem dX1_begin_7 : decode cX1_begin 7 = .ok (.putfield 32, 3) := by decide +kernel
theorem dX1_begin_10 : decode cX1_begin 10 = .ok (.aload_n 0, 1) := by decide +kernel
theorem dX1_begin_11 : decode cX1_begin 11 = .ok (.iconst (-1), 1) := by decide +kernel
theorem dX1_begin_12 : decode cX1_begin 12 = .ok (.putfield 35, 3) := by decide +kernel
theorem dX1_begin_15 : decode cX1_begin 15 = .ok (.aload_n 0, 1) := by decide +kernel
theorem dX1_begin_16 : decode cX1_begin 16 = .ok (.iconst 0, 1) := by decide +kernel
theorem dX1_begin_17 : decode cX1_begin 17 = .ok (.putfield 38, 3) := by decide +kernel
theorem dX1_begin_20 : decode cX1_begin 20 = .ok (.aload_n 0, 1) := by decide +kernel
theorem dX1_begin_21 : decode cX1_begin 21 = .ok (.iconst 0, 1) := by decide +kernel
theorem dX1_begin_22 : decode cX1_begin 22 = .ok (.putfield 41, 3) := by decide +kernel
theorem dX1_begin_25 : decode cX1_begin 25 = .ok (.aload_n 0, 1) := by decide +kernel
theorem dX1_begin_26 : decode cX1_begin 26 = .ok (.iconst 0, 1) := by decide +kernel
theorem dX1_begin_27 : decode cX1_begin 27 = .ok (.putfield 44, 3) := by decide +kernel
theorem dX1_begin_30 : decode cX1_begin 30 = .ok (.aload_n 0, 1) := by decide +kernel
theorem dX1_begin_31 : decode cX1_begin 31 = .ok (.iconst 0, 1) := by decide +kernel
theorem dX1_begin_32 : decode cX1_begin 32 = .ok (.putfield 47, 3) := by decide +kernel
theorem dX1_begin_35 : decode cX1_begin 35 = .ok (.aload_n 0, 1) := by decide +kernel
theorem dX1_begin_36 : decode cX1_begin 36 = .ok (.iconst (-1), 1) := by decide +kernel
theorem dX1_begin_37 : decode cX1_begin 37 = .ok (.putfield 50, 3) := by decide +kernel
theorem dX1_begin_40 : decode cX1_begin 40 = .ok (.aload_n 0, 1) := by decide +kernel
theorem dX1_begin_41 : decode cX1_begin 41 = .ok (.iload_n 1, 1) := by decide +kernel
theorem dX1_begin_42 : decode cX1_begin 42 = .ok (.i2l, 1) := by decide +kernel
theorem dX1_begin_43 : decode cX1_begin 43 = .ok (.putfield 53, 3) := by decide +kernel
theorem dX1_begin_46 : decode cX1_begin 46 = .ok (.iconst 0, 1) := by decide +kernel
theorem dX1_begin_47 : decode cX1_begin 47 = .ok (.istore_n 2, 1) := by decide +kernel
theorem dX1_begin_48 : decode cX1_begin 48 = .ok (.iload_n 2, 1) := by decide +kernel
theorem dX1_begin_49 : decode cX1_begin 49 = .ok (.aload_n 0, 1) := by decide +kernel
theorem dX1_begin_50 : decode cX1_begin 50 = .ok (.getfield 9, 3) := by decide +kernel
theorem dX1_begin_53 : decode cX1_begin 53 = .ok (.arraylength, 1) := by decide +kernel
theorem dX1_begin_54 : decode cX1_begin 54 = .ok (.if_icmp .ge 16, 3) := by decide +kernel
theorem dX1_begin_57 : decode cX1_begin 57 = .ok (.aload_n 0, 1) := by decide +kernel
theorem dX1_begin_58 : decode cX1_begin 58 = .ok (.getfield 9, 3) := by decide +kernel
theorem dX1_begin_61 : decode cX1_begin 61 = .ok (.iload_n 2, 1) := by decide +kernel
theorem dX1_begin_62 : decode cX1_begin 62 = .ok (.iconst 0, 1) := by decide +kernel
theorem dX1_begin_63 : decode cX1_begin 63 = .ok (.iastore, 1) := by decide +kernel
theorem dX1_begin_64 : decode cX1_begin 64 = .ok (.iinc 2 1, 3) := by decide +kernel
theorem dX1_begin_67 : decode cX1_begin 67 = .ok (.goto (-19), 3) := by decide +kernel
theorem dX1_begin_70 : decode cX1_begin 70 = .ok (.iconst 0, 1) := by decide +kernel
theorem dX1_begin_71 : decode cX1_begin 71 = .ok (.istore_n 2, 1) := by decide +kernel
theorem dX1_begin_72 : decode cX1_begin 72 = .ok (.iload_n 2, 1) := by decide +kernel
theorem dX1_begin_73 : decode cX1_begin 73 = .ok (.bipush 6, 2) := by decide +kernel
theorem dX1_begin_75 : decode cX1_begin 75 = .ok (.if_icmp .ge 30, 3) := by decide +kernel
theorem dX1_begin_78 : decode cX1_begin 78 = .ok (.aload_n 0, 1) := by decide +kernel
theorem dX1_begin_79 : decode cX1_begin 79 = .ok (.getfield 15, 3) := by decide +kernel
theorem dX1_begin_82 : decode cX1_begin 82 = .ok (.iload_n 2, 1) := by decide +kernel
theorem dX1_begin_83 : decode cX1_begin 83 = .ok (.iconst 0, 1) := by decide +kernel
theorem dX1_begin_84 : decode cX1_begin 84 = .ok (.iastore, 1) := by decide +kernel
theorem dX1_begin_85 : decode cX1_begin 85 = .ok (.aload_n 0, 1) := by decide +kernel
theorem dX1_begin_86 : decode cX1_begin 86 = .ok (.getfield 18, 3) := by decide +kernel
theorem dX1_begin_89 : decode cX1_begin 89 = .ok (.iload_n 2, 1) := by decide +kernel
theorem dX1_begin_90 : decode cX1_begin 90 = .ok (.iconst 0, 1) := by decide +kernel
theorem dX1_begin_91 : decode cX1_begin 91 = .ok (.iastore, 1) := by decide +kernel
theorem dX1_begin_92 : decode cX1_begin 92 = .ok (.aload_n 0, 1) := by decide +kernel
theorem dX1_begin_93 : decode cX1_begin 93 = .ok (.getfield 21, 3) := by decide +kernel
theorem dX1_begin_96 : decode cX1_begin 96 = .ok (.iload_n 2, 1) := by decide +kernel
theorem dX1_begin_97 : decode cX1_begin 97 = .ok (.iload_n 2, 1) := by decide +kernel
theorem dX1_begin_98 : decode cX1_begin 98 = .ok (.iastore, 1) := by decide +kernel
theorem dX1_begin_99 : decode cX1_begin 99 = .ok (.iinc 2 1, 3) := by decide +kernel
theorem dX1_begin_102 : decode cX1_begin 102 = .ok (.goto (-30), 3) := by decide +kernel
theorem dX1_begin_105 : decode cX1_begin 105 = .ok (.return_, 1) := by decide +kernel
theorem dX1_copy_0 : decode cX1_copy 0 = .ok (.aload_n 0, 1) := by decide +kernel
theorem dX1_copy_1 : decode cX1_copy 1 = .ok (.aload_n 1, 1) := by decide +kernel
theorem dX1_copy_2 : decode cX1_copy 2 = .ok (.getfield 28, 3) := by decide +kernel
theorem dX1_copy_5 : decode cX1_copy 5 = .ok (.putfield 28, 3) := by decide +kernel
theorem dX1_copy_8 : decode cX1_copy 8 = .ok (.aload_n 0, 1) := by decide +kernel
theorem dX1_copy_9 : decode cX1_copy 9 = .ok (.aload_n 1, 1) := by decide +kernel
theorem dX1_copy_10 : decode cX1_copy 10 = .ok (.getfield 32, 3) := by decide +kernel
theorem dX1_copy_13 : decode cX1_copy 13 = .ok (.putfield 32, 3) := by decide +kernel
theorem dX1_copy_16 : decode cX1_copy 16 = .ok (.aload_n 0, 1) := by decide +kernel
theorem dX1_copy_17 : decode cX1_copy 17 = .ok (.aload_n 1, 1) := by decide +kernel
theorem dX1_copy_18 : decode cX1_copy 18 = .ok (.getfield 35, 3) := by decide +kernel
theorem dX1_copy_21 : decode cX1_copy 21 = .ok (.putfield 35, 3) := by decide +kernel
theorem dX1_copy_24 : decode cX1_copy 24 = .ok (.aload_n 0, 1) := by decide +kernel
theorem dX1_copy_25 : decode cX1_copy 25 = .ok (.aload_n 1, 1) := by decide +kernel
theorem dX1_copy_26 : decode cX1_copy 26 = .ok (.getfield 38, 3) := by decide +kernel
theorem dX1_copy_29 : decode cX1_copy 29 = .ok (.putfield 38, 3) := by decide +kernel
theorem dX1_copy_32 : decode cX1_copy 32 = .ok (.aload_n 0, 1) := by decide +kernel
theorem dX1_copy_33 : decode cX1_copy 33 = .ok (.aload_n 1, 1) := by decide +kernel
theorem dX1_copy_34 : decode cX1_copy 34 = .ok (.getfield 41, 3) := by decide +kernel
theorem dX1_copy_37 : decode cX1_copy 37 = .ok (.putfield 41, 3) := by decide +kernel
theorem dX1_copy_40 : decode cX1_copy 40 = .ok (.aload_n 0, 1) := by decide +kernel
theorem dX1_copy_41 : decode cX1_copy 41 = .ok (.aload_n 1, 1) := by decide +kernel
theorem dX1_copy_42 : decode cX1_copy 42 = .ok (.getfield 44, 3) := by decide +kernel
theorem dX1_copy_45 : decode cX1_copy 45 = .ok (.putfield 44, 3) := by decide +kernel
theorem dX1_copy_48 : decode cX1_copy 48 = .ok (.aload_n 0, 1) := by decide +kernel
theorem dX1_copy_49 : decode cX1_copy 49 = .ok (.aload_n 1, 1) := by decide +kernel
theorem dX1_copy_50 : decode cX1_copy 50 = .ok (.getfield 47, 3) := by decide +kernel
theorem dX1_copy_53 : decode cX1_copy 53 = .ok (.putfield 47, 3) := by decide +kernel
theorem dX1_copy_56 : decode cX1_copy 56 = .ok (.aload_n 0, 1) := by decide +kernel
theorem dX1_copy_57 : decode cX1_copy 57 = .ok (.aload_n 1, 1) := by decide +kernel
theorem dX1_copy_58 : decode cX1_copy 58 = .ok (.getfield 50, 3) := by decide +kernel
theorem dX1_copy_61 : decode cX1_copy 61 = .ok (.putfield 50, 3) := by decide +kernel
theorem dX1_copy_64 : decode cX1_copy 64 = .ok (.aload_n 0, 1) := by decide +kernel
theorem dX1_copy_65 : decode cX1_copy 65 = .ok (.aload_n 1, 1) := by decide +kernel
theorem dX1_copy_66 : decode cX1_copy 66 = .ok (.getfield 53, 3) := by decide +kernel
theorem dX1_copy_69 : decode cX1_copy 69 = .ok (.putfield 53, 3) := by decide +kernel
theorem dX1_copy_72 : decode cX1_copy 72 = .ok (.iconst 0, 1) := by decide +kernel
theorem dX1_copy_73 : decode cX1_copy 73 = .ok (.istore_n 2, 1) := by decide +kernel
theorem dX1_copy_74 : decode cX1_copy 74 = .ok (.iload_n 2, 1) := by decide +kernel
theorem dX1_copy_75 : decode cX1_copy 75 = .ok (.aload_n 0, 1) := by decide +kernel
theorem dX1_copy_76 : decode cX1_copy 76 = .ok (.getfield 9, 3) := by decide +kernel
theorem dX1_copy_79 : decode cX1_copy 79 = .ok (.arraylength, 1) := by decide +kernel
theorem dX1_copy_80 : decode cX1_copy 80 = .ok (.if_icmp .ge 21, 3) := by decide +kernel
theorem dX1_copy_83 : decode cX1_copy 83 = .ok (.aload_n 0, 1) := by decide +kernel
theorem dX1_copy_84 : decode cX1_copy 84 = .ok (.getfield 9, 3) := by decide +kernel
theorem dX1_copy_87 : decode cX1_copy 87 = .ok (.iload_n 2, 1) := by decide +kernel
theorem dX1_copy_88 : decode cX1_copy 88 = .ok (.aload_n 1, 1) := by decide +kernel
theorem dX1_copy_89 : decode cX1_copy 89 = .ok (.getfield 9, 3) := by decide +kernel
theorem dX1_copy_92 : decode cX1_copy 92 = .ok (.iload_n 2, 1) := by decide +kernel
theorem dX1_copy_93 : decode cX1_copy 93 = .ok (.iaload, 1) := by decide +kernel
theorem dX1_copy_94 : decode cX1_copy 94 = .ok (.iastore, 1) := by decide +kernel
theorem dX1_copy_95 : decode cX1_copy 95 = .ok (.iinc 2 1, 3) := by decide +kernel
theorem dX1_copy_98 : decode cX1_copy 98 = .ok (.goto (-24), 3) := by decide +kernel
theorem dX1_copy_101 : decode cX1_copy 101 = .ok (.iconst 0, 1) := by decide +kernel
theorem dX1_copy_102 : decode cX1_copy 102 = .ok (.istore_n 2, 1) := by decide +kernel
theorem dX1_copy_103 : decode cX1_copy 103 = .ok (.iload_n 2, 1) := by decide +kernel
theorem dX1_copy_104 : decode cX1_copy 104 = .ok (.bipush 6, 2) := by decide +kernel
theorem dX1_copy_106 : decode cX1_copy 106 = .ok (.if_icmp .ge 45, 3) := by decide +kernel
theorem dX1_copy_109 : decode cX1_copy 109 = .ok (.aload_n 0, 1) := by decide +kernel
theorem dX1_copy_110 : decode cX1_copy 110 = .ok (.getfield 15, 3) := by decide +kernel
theorem dX1_copy_113 : decode cX1_copy 113 = .ok (.iload_n 2, 1) := by decide +kernel
theorem dX1_copy_114 : decode cX1_copy 114 = .ok (.aload_n 1, 1) := by decide +kernel
theorem dX1_copy_115 : decode cX1_copy 115 = .ok (.getfield 15, 3) := by decide +kernel
theorem dX1_copy_118 : decode cX1_copy 118 = .ok (.iload_n 2, 1) := by decide +kernel
theorem dX1_copy_119 : decode cX1_copy 119 = .ok (.iaload, 1) := by decide +kernel
theorem dX1_copy_120 : decode cX1_copy 120 = .ok (.iastore, 1) := by decide +kernel
theorem dX1_copy_121 : decode cX1_copy 121 = .ok (.aload_n 0, 1) := by decide +kernel
theorem dX1_copy_122 : decode cX1_copy 122 = .ok (.getfield 18, 3) := by decide +kernel
theorem dX1_copy_125 : decode cX1_copy 125 = .ok (.iload_n 2, 1) := by decide +kernel
theorem dX1_copy_126 : decode cX1_copy 126 = .ok (.aload_n 1, 1) := by decide +kernel
theorem dX1_copy_127 : decode cX1_copy 127 = .ok (.getfield 18, 3) := by decide +kernel
theorem dX1_copy_130 : decode cX1_copy 130 = .ok (.iload_n 2, 1) := by decide +kernel
theorem dX1_copy_131 : decode cX1_copy 131 = .ok (.iaload, 1) := by decide +kernel
theorem dX1_copy_132 : decode cX1_copy 132 = .ok (.iastore, 1) := by decide +kernel
theorem dX1_copy_133 : decode cX1_copy 133 = .ok (.aload_n 0, 1) := by decide +kernel
theorem dX1_copy_134 : decode cX1_copy 134 = .ok (.getfield 21, 3) := by decide +kernel
theorem dX1_copy_137 : decode cX1_copy 137 = .ok (.iload_n 2, 1) := by decide +kernel
theorem dX1_copy_138 : decode cX1_copy 138 = .ok (.aload_n 1, 1) := by decide +kernel
theorem dX1_copy_139 : decode cX1_copy 139 = .ok (.getfield 21, 3) := by decide +kernel
theorem dX1_copy_142 : decode cX1_copy 142 = .ok (.iload_n 2, 1) := by decide +kernel
theorem dX1_copy_143 : decode cX1_copy 143 = .ok (.iaload, 1) := by decide +kernel
theorem dX1_copy_144 : decode cX1_copy 144 = .ok (.iastore, 1) := by decide +kernel
theorem dX1_copy_145 : decode cX1_copy 145 = .ok (.iinc 2 1, 3) := by decide +kernel
theorem dX1_copy_148 : decode cX1_copy 148 = .ok (.goto (-45), 3) := by decide +kernel
theorem dX1_copy_151 : decode cX1_copy 151 = .ok (.return_, 1) := by decide +kernel
theorem dX1_putOn_0 : decode cX1_putOn 0 = .ok (.aload_n 0, 1) := by decide +kernel
theorem dX1_putOn_1 : decode cX1_putOn 1 = .ok (.iload_n 1, 1) := by decide +kernel
theorem dX1_putOn_2 : decode cX1_putOn 2 = .ok (.putfield 35, 3) := by decide +kernel
theorem dX1_putOn_5 : decode cX1_putOn 5 = .ok (.aload_n 0, 1) := by decide +kernel
theorem dX1_putOn_6 : decode cX1_putOn 6 = .ok (.iload_n 2, 1) := by decide +kernel
theorem dX1_putOn_7 : decode cX1_putOn 7 = .ok (.putfield 38, 3) := by decide +kernel
theorem dX1_putOn_10 : decode cX1_putOn 10 = .ok (.return_, 1) := by decide +kernel
theorem dX1_putOff_0 : decode cX1_putOff 0 = .ok (.aload_n 0, 1) := by decide +kernel
theorem dX1_putOff_1 : decode cX1_putOff 1 = .ok (.iconst (-1), 1) := by decide +kernel
theorem dX1_putOff_2 : decode cX1_putOff 2 = .ok (.putfield 35, 3) := by decide +kernel
theorem dX1_putOff_5 : decode cX1_putOff 5 = .ok (.aload_n 0, 1) := by decide +kernel
theorem dX1_putOff_6 : decode cX1_putOff 6 = .ok (.iconst 0, 1) := by decide +kernel
theorem dX1_putOff_7 : decode cX1_putOff 7 = .ok (.putfield 38, 3) := by decide +kernel
theorem dX1_putOff_10 : decode cX1_putOff 10 = .ok (.return_, 1) := by decide +kernel
theorem dX1_seatOf_0 : decode cX1_seatOf 0 = .ok (.iconst 0, 1) := by decide +kernel
theorem dX1_seatOf_1 : decode cX1_seatOf 1 = .ok (.istore_n 2, 1) := by decide +kernel
theorem dX1_seatOf_2 : decode cX1_seatOf 2 = .ok (.iload_n 2, 1) := by decide +kernel
theorem dX1_seatOf_3 : decode cX1_seatOf 3 = .ok (.bipush 6, 2) := by decide +kernel
theorem dX1_seatOf_5 : decode cX1_seatOf 5 = .ok (.if_icmp .ge 21, 3) := by decide +kernel
theorem dX1_seatOf_8 : decode cX1_seatOf 8 = .ok (.aload_n 0, 1) := by decide +kernel
theorem dX1_seatOf_9 : decode cX1_seatOf 9 = .ok (.getfield 21, 3) := by decide +kernel
theorem dX1_seatOf_12 : decode cX1_seatOf 12 = .ok (.iload_n 2, 1) := by decide +kernel
theorem dX1_seatOf_13 : decode cX1_seatOf 13 = .ok (.iaload, 1) := by decide +kernel
theorem dX1_seatOf_14 : decode cX1_seatOf 14 = .ok (.iload_n 1, 1) := by decide +kernel
theorem dX1_seatOf_15 : decode cX1_seatOf 15 = .ok (.if_icmp .ne 5, 3) := by decide +kernel
theorem dX1_seatOf_18 : decode cX1_seatOf 18 = .ok (.iload_n 2, 1) := by decide +kernel
theorem dX1_seatOf_19 : decode cX1_seatOf 19 = .ok (.ireturn, 1) := by decide +kernel
theorem dX1_seatOf_20 : decode cX1_seatOf 20 = .ok (.iinc 2 1, 3) := by decide +kernel
theorem dX1_seatOf_23 : decode cX1_seatOf 23 = .ok (.goto (-21), 3) := by decide +kernel
theorem dX1_seatOf_26 : decode cX1_seatOf 26 = .ok (.iconst (-1), 1) := by decide +kernel
theorem dX1_seatOf_27 : decode cX1_seatOf 27 = .ok (.ireturn, 1) := by decide +kernel
theorem dX1_swapSeats_0 : decode cX1_swapSeats 0 = .ok (.aload_n 0, 1) := by decide +kernel
theorem dX1_swapSeats_1 : decode cX1_swapSeats 1 = .ok (.iload_n 1, 1) := by decide +kernel
theorem dX1_swapSeats_2 : decode cX1_swapSeats 2 = .ok (.invokevirtual 57, 3) := by decide +kernel
theorem dX1_swapSeats_5 : decode cX1_swapSeats 5 = .ok (.istore_n 3, 1) := by decide +kernel
theorem dX1_swapSeats_6 : decode cX1_swapSeats 6 = .ok (.aload_n 0, 1) := by decide +kernel
theorem dX1_swapSeats_7 : decode cX1_swapSeats 7 = .ok (.iload_n 2, 1) := by decide +kernel
theorem dX1_swapSeats_8 : decode cX1_swapSeats 8 = .ok (.invokevirtual 57, 3) := by decide +kernel
theorem dX1_swapSeats_11 : decode cX1_swapSeats 11 = .ok (.istore 4, 2) := by decide +kernel
theorem dX1_swapSeats_13 : decode cX1_swapSeats 13 = .ok (.iload_n 3, 1) := by decide +kernel
theorem dX1_swapSeats_14 : decode cX1_swapSeats 14 = .ok (.iconst (-1), 1) := by decide +kernel
theorem dX1_swapSeats_15 : decode cX1_swapSeats 15 = .ok (.if_icmp .eq 24, 3) := by decide +kernel
theorem dX1_swapSeats_18 : decode cX1_swapSeats 18 = .ok (.iload 4, 2) := by decide +kernel
theorem dX1_swapSeats_20 : decode cX1_swapSeats 20 = .ok (.iconst (-1), 1) := by decide +kernel
theorem dX1_swapSeats_21 : decode cX1_swapSeats 21 = .ok (.if_icmp .eq 18, 3) := by decide +kernel
theorem dX1_swapSeats_24 : decode cX1_swapSeats 24 = .ok (.aload_n 0, 1) := by decide +kernel
theorem dX1_swapSeats_25 : decode cX1_swapSeats 25 = .ok (.getfield 21, 3) := by decide +kernel
theorem dX1_swapSeats_28 : decode cX1_swapSeats 28 = .ok (.iload_n 3, 1) := by decide +kernel
theorem dX1_swapSeats_29 : decode cX1_swapSeats 29 = .ok (.iload_n 2, 1) := by decide +kernel
theorem dX1_swapSeats_30 : decode cX1_swapSeats 30 = .ok (.iastore, 1) := by decide +kernel
theorem dX1_swapSeats_31 : decode cX1_swapSeats 31 = .ok (.aload_n 0, 1) := by decide +kernel
theorem dX1_swapSeats_32 : decode cX1_swapSeats 32 = .ok (.getfield 21, 3) := by decide +kernel
theorem dX1_swapSeats_35 : decode cX1_swapSeats 35 = .ok (.iload 4, 2) := by decide +kernel
theorem dX1_swapSeats_37 : decode cX1_swapSeats 37 = .ok (.iload_n 1, 1) := by decide +kernel
theorem dX1_swapSeats_38 : decode cX1_swapSeats 38 = .ok (.iastore, 1) := by decide +kernel
theorem dX1_swapSeats_39 : decode cX1_swapSeats 39 = .ok (.return_, 1) := by decide +kernel
theorem dX1_tiredInAll_0 : decode cX1_tiredInAll 0 = .ok (.iconst 0, 1) := by decide +kernel
theorem dX1_tiredInAll_1 : decode cX1_tiredInAll 1 = .ok (.istore_n 1, 1) := by decide +kernel
theorem dX1_tiredInAll_2 : decode cX1_tiredInAll 2 = .ok (.iconst 0, 1) := by decide +kernel
theorem dX1_tiredInAll_3 : decode cX1_tiredInAll 3 = .ok (.istore_n 2, 1) := by decide +kernel
theorem dX1_tiredInAll_4 : decode cX1_tiredInAll 4 = .ok (.iload_n 2, 1) := by decide +kernel
theorem dX1_tiredInAll_5 : decode cX1_tiredInAll 5 = .ok (.bipush 6, 2) := by decide +kernel
theorem dX1_tiredInAll_7 : decode cX1_tiredInAll 7 = .ok (.if_icmp .ge 18, 3) := by decide +kernel
theorem dX1_tiredInAll_10 : decode cX1_tiredInAll 10 = .ok (.iload_n 1, 1) := by decide +kernel
theorem dX1_tiredInAll_11 : decode cX1_tiredInAll 11 = .ok (.aload_n 0, 1) := by decide +kernel
theorem dX1_tiredInAll_12 : decode cX1_tiredInAll 12 = .ok (.getfield 15, 3) := by decide +kernel
theorem dX1_tiredInAll_15 : decode cX1_tiredInAll 15 = .ok (.iload_n 2, 1) := by decide +kernel
theorem dX1_tiredInAll_16 : decode cX1_tiredInAll 16 = .ok (.iaload, 1) := by decide +kernel
theorem dX1_tiredInAll_17 : decode cX1_tiredInAll 17 = .ok (.iadd, 1) := by decide +kernel
theorem dX1_tiredInAll_18 : decode cX1_tiredInAll 18 = .ok (.istore_n 1, 1) := by decide +kernel
theorem dX1_tiredInAll_19 : decode cX1_tiredInAll 19 = .ok (.iinc 2 1, 3) := by decide +kernel
theorem dX1_tiredInAll_22 : decode cX1_tiredInAll 22 = .ok (.goto (-18), 3) := by decide +kernel
theorem dX1_tiredInAll_25 : decode cX1_tiredInAll 25 = .ok (.iload_n 1, 1) := by decide +kernel
theorem dX1_tiredInAll_26 : decode cX1_tiredInAll 26 = .ok (.ireturn, 1) := by decide +kernel
theorem dX1_grind_0 : decode cX1_grind 0 = .ok (.aload_n 0, 1) := by decide +kernel
theorem dX1_grind_1 : decode cX1_grind 1 = .ok (.getfield 9, 3) := by decide +kernel
theorem dX1_grind_4 : decode cX1_grind 4 = .ok (.iload_n 1, 1) := by decide +kernel
theorem dX1_grind_5 : decode cX1_grind 5 = .ok (.dup2, 1) := by decide +kernel
theorem dX1_grind_6 : decode cX1_grind 6 = .ok (.iaload, 1) := by decide +kernel
theorem dX1_grind_7 : decode cX1_grind 7 = .ok (.iload_n 2, 1) := by decide +kernel
theorem dX1_grind_8 : decode cX1_grind 8 = .ok (.iadd, 1) := by decide +kernel
theorem dX1_grind_9 : decode cX1_grind 9 = .ok (.iastore, 1) := by decide +kernel
theorem dX1_grind_10 : decode cX1_grind 10 = .ok (.aload_n 0, 1) := by decide +kernel
theorem dX1_grind_11 : decode cX1_grind 11 = .ok (.dup, 1) := by decide +kernel
theorem dX1_grind_12 : decode cX1_grind 12 = .ok (.getfield 47, 3) := by decide +kernel
theorem dX1_grind_15 : decode cX1_grind 15 = .ok (.iload_n 2, 1) := by decide +kernel
theorem dX1_grind_16 : decode cX1_grind 16 = .ok (.iadd, 1) := by decide +kernel
theorem dX1_grind_17 : decode cX1_grind 17 = .ok (.putfield 47, 3) := by decide +kernel
theorem dX1_grind_20 : decode cX1_grind 20 = .ok (.return_, 1) := by decide +kernel
theorem dX2_asItGoes_0 : decode cX2_asItGoes 0 = .ok (.aload_n 0, 1) := by decide +kernel
theorem dX2_asItGoes_1 : decode cX2_asItGoes 1 = .ok (.aload_n 1, 1) := by decide +kernel
theorem dX2_asItGoes_2 : decode cX2_asItGoes 2 = .ok (.putfield 38, 3) := by decide +kernel
theorem dX2_asItGoes_5 : decode cX2_asItGoes 5 = .ok (.aload_n 0, 1) := by decide +kernel
theorem dX2_asItGoes_6 : decode cX2_asItGoes 6 = .ok (.iconst 0, 1) := by decide +kernel
theorem dX2_asItGoes_7 : decode cX2_asItGoes 7 = .ok (.putfield 15, 3) := by decide +kernel
theorem dX2_asItGoes_10 : decode cX2_asItGoes 10 = .ok (.aload_n 0, 1) := by decide +kernel
theorem dX2_asItGoes_11 : decode cX2_asItGoes 11 = .ok (.iconst 1, 1) := by decide +kernel
theorem dX2_asItGoes_12 : decode cX2_asItGoes 12 = .ok (.putfield 19, 3) := by decide +kernel
theorem dX2_asItGoes_15 : decode cX2_asItGoes 15 = .ok (.aload_n 0, 1) := by decide +kernel
theorem dX2_asItGoes_16 : decode cX2_asItGoes 16 = .ok (.iconst (-1), 1) := by decide +kernel
theorem dX2_asItGoes_17 : decode cX2_asItGoes 17 = .ok (.putfield 23, 3) := by decide +kernel
theorem dX2_asItGoes_20 : decode cX2_asItGoes 20 = .ok (.aload_n 0, 1) := by decide +kernel
theorem dX2_asItGoes_21 : decode cX2_asItGoes 21 = .ok (.iconst 1, 1) := by decide +kernel
theorem dX2_asItGoes_22 : decode cX2_asItGoes 22 = .ok (.putfield 26, 3) := by decide +kernel
theorem dX2_asItGoes_25 : decode cX2_asItGoes 25 = .ok (.aload_n 0, 1) := by decide +kernel
theorem dX2_asItGoes_26 : decode cX2_asItGoes 26 = .ok (.iconst 0, 1) := by decide +kernel
theorem dX2_asItGoes_27 : decode cX2_asItGoes 27 = .ok (.putfield 29, 3) := by decide +kernel
theorem dX2_asItGoes_30 : decode cX2_asItGoes 30 = .ok (.aload_n 0, 1) := by decide +kernel
theorem dX2_asItGoes_31 : decode cX2_asItGoes 31 = .ok (.iconst (-1), 1) := by decide +kernel
theorem dX2_asItGoes_32 : decode cX2_asItGoes 32 = .ok (.putfield 32, 3) := by decide +kernel
theorem dX2_asItGoes_35 : decode cX2_asItGoes 35 = .ok (.aload_n 0, 1) := by decide +kernel
theorem dX2_asItGoes_36 : decode cX2_asItGoes 36 = .ok (.iconst 0, 1) := by decide +kernel
theorem dX2_asItGoes_37 : decode cX2_asItGoes 37 = .ok (.putfield 35, 3) := by decide +kernel
theorem dX2_asItGoes_40 : decode cX2_asItGoes 40 = .ok (.return_, 1) := by decide +kernel
theorem dX2_byNumbers_0 : decode cX2_byNumbers 0 = .ok (.aload_n 0, 1) := by decide +kernel
theorem dX2_byNumbers_1 : decode cX2_byNumbers 1 = .ok (.aload_n 1, 1) := by decide +kernel
theorem dX2_byNumbers_2 : decode cX2_byNumbers 2 = .ok (.invokevirtual 42, 3) := by decide +kernel
theorem dX2_byNumbers_5 : decode cX2_byNumbers 5 = .ok (.aload_n 0, 1) := by decide +kernel
theorem dX2_byNumbers_6 : decode cX2_byNumbers 6 = .ok (.iconst 1, 1) := by decide +kernel
theorem dX2_byNumbers_7 : decode cX2_byNumbers 7 = .ok (.putfield 15, 3) := by decide +kernel
theorem dX2_byNumbers_10 : decode cX2_byNumbers 10 = .ok (.return_, 1) := by decide +kernel
theorem dX2_pass_0 : decode cX2_pass 0 = .ok (.iconst 0, 1) := by decide +kernel
theorem dX2_pass_1 : decode cX2_pass 1 = .ok (.istore_n 3, 1) := by decide +kernel
theorem dX2_pass_2 : decode cX2_pass 2 = .ok (.iload_n 3, 1) := by decide +kernel
theorem dX2_pass_3 : decode cX2_pass 3 = .ok (.iload_n 2, 1) := by decide +kernel
theorem dX2_pass_4 : decode cX2_pass 4 = .ok (.if_icmp .ge 102, 3) := by decide +kernel
theorem dX2_pass_7 : decode cX2_pass 7 = .ok (.aload_n 0, 1) := by decide +kernel
theorem dX2_pass_8 : decode cX2_pass 8 = .ok (.getfield 19, 3) := by decide +kernel
theorem dX2_pass_11 : decode cX2_pass 11 = .ok (.ifCond .eq 8, 3) := by decide +kernel
theorem dX2_pass_14 : decode cX2_pass 14 = .ok (.aload_n 0, 1) := by decide +kernel
theorem dX2_pass_15 : decode cX2_pass 15 = .ok (.aload_n 1, 1) := by decide +kernel
theorem dX2_pass_16 : decode cX2_pass 16 = .ok (.invokevirtual 46, 3) := by decide +kernel
theorem dX2_pass_19 : decode cX2_pass 19 = .ok (.aload_n 0, 1) := by decide +kernel
theorem dX2_pass_20 : decode cX2_pass 20 = .ok (.aload_n 1, 1) := by decide +kernel
theorem dX2_pass_21 : decode cX2_pass 21 = .ok (.invokevirtual 50, 3) := by decide +kernel
theorem dX2_pass_24 : decode cX2_pass 24 = .ok (.istore 4, 2) := by decide +kernel
theorem dX2_pass_26 : decode cX2_pass 26 = .ok (.aload_n 1, 1) := by decide +kernel
theorem dX2_pass_27 : decode cX2_pass 27 = .ok (.getfield 54, 3) := by decide +kernel
theorem dX2_pass_30 : decode cX2_pass 30 = .ok (.iconst (-1), 1) := by decide +kernel
theorem dX2_pass_31 : decode cX2_pass 31 = .ok (.if_icmp .eq 24, 3) := by decide +kernel
theorem dX2_pass_34 : decode cX2_pass 34 = .ok (.aload_n 0, 1) := by decide +kernel
theorem dX2_pass_35 : decode cX2_pass 35 = .ok (.aload_n 1, 1) := by decide +kernel
theorem dX2_pass_36 : decode cX2_pass 36 = .ok (.invokevirtual 59, 3) := by decide +kernel
theorem dX2_pass_39 : decode cX2_pass 39 = .ok (.ifCond .eq 16, 3) := by decide +kernel
theorem dX2_pass_42 : decode cX2_pass 42 = .ok (.aload_n 1, 1) := by decide +kernel
theorem dX2_pass_43 : decode cX2_pass 43 = .ok (.dup, 1) := by decide +kernel
theorem dX2_pass_44 : decode cX2_pass 44 = .ok (.getfield 63, 3) := by decide +kernel
theorem dX2_pass_47 : decode cX2_pass 47 = .ok (.iconst 1, 1) := by decide +kernel
theorem dX2_pass_48 : decode cX2_pass 48 = .ok (.iadd, 1) := by decide +kernel
theorem dX2_pass_49 : decode cX2_pass 49 = .ok (.putfield 63, 3) := by decide +kernel
theorem dX2_pass_52 : decode cX2_pass 52 = .ok (.iconst 0, 1) := by decide +kernel
theorem dX2_pass_53 : decode cX2_pass 53 = .ok (.istore 4, 2) := by decide +kernel
theorem dX2_pass_55 : decode cX2_pass 55 = .ok (.aload_n 0, 1) := by decide +kernel
theorem dX2_pass_56 : decode cX2_pass 56 = .ok (.aload_n 1, 1) := by decide +kernel
theorem dX2_pass_57 : decode cX2_pass 57 = .ok (.iload 4, 2) := by decide +kernel
theorem dX2_pass_59 : decode cX2_pass 59 = .ok (.invokevirtual 66, 3) := by decide +kernel
theorem dX2_pass_62 : decode cX2_pass 62 = .ok (.aload_n 0, 1) := by decide +kernel
theorem dX2_pass_63 : decode cX2_pass 63 = .ok (.aload_n 1, 1) := by decide +kernel
theorem dX2_pass_64 : decode cX2_pass 64 = .ok (.iload 4, 2) := by decide +kernel
theorem dX2_pass_66 : decode cX2_pass 66 = .ok (.invokevirtual 70, 3) := by decide +kernel
theorem dX2_pass_69 : decode cX2_pass 69 = .ok (.aload_n 1, 1) := by decide +kernel
theorem dX2_pass_70 : decode cX2_pass 70 = .ok (.dup, 1) := by decide +kernel
theorem dX2_pass_71 : decode cX2_pass 71 = .ok (.getfield 73, 3) := by decide +kernel
theorem dX2_pass_74 : decode cX2_pass 74 = .ok (.iconst 1, 1) := by decide +kernel
theorem dX2_pass_75 : decode cX2_pass 75 = .ok (.isub, 1) := by decide +kernel
theorem dX2_pass_76 : decode cX2_pass 76 = .ok (.putfield 73, 3) := by decide +kernel
theorem dX2_pass_79 : decode cX2_pass 79 = .ok (.aload_n 1, 1) := by decide +kernel
theorem dX2_pass_80 : decode cX2_pass 80 = .ok (.getfield 73, 3) := by decide +kernel
theorem dX2_pass_83 : decode cX2_pass 83 = .ok (.ifCond .gt 7, 3) := by decide +kernel
theorem dX2_pass_86 : decode cX2_pass 86 = .ok (.aload_n 1, 1) := by decide +kernel
theorem dX2_pass_87 : decode cX2_pass 87 = .ok (.invokevirtual 76, 3) := by decide +kernel
theorem dX2_pass_90 : decode cX2_pass 90 = .ok (.aload_n 1, 1) := by decide +kernel
theorem dX2_pass_91 : decode cX2_pass 91 = .ok (.dup, 1) := by decide +kernel
theorem dX2_pass_92 : decode cX2_pass 92 = .ok (.getfield 79, 3) := by decide +kernel
theorem dX2_pass_95 : decode cX2_pass 95 = .ok (.iconst 1, 1) := by decide +kernel
theorem dX2_pass_96 : decode cX2_pass 96 = .ok (.iadd, 1) := by decide +kernel
theorem dX2_pass_97 : decode cX2_pass 97 = .ok (.putfield 79, 3) := by decide +kernel
theorem dX2_pass_100 : decode cX2_pass 100 = .ok (.iinc 3 1, 3) := by decide +kernel
theorem dX2_pass_103 : decode cX2_pass 103 = .ok (.goto (-101), 3) := by decide +kernel
theorem dX2_pass_106 : decode cX2_pass 106 = .ok (.return_, 1) := by decide +kernel
theorem dX2_raiseShows_0 : decode cX2_raiseShows 0 = .ok (.iconst 0, 1) := by decide +kernel
theorem dX2_raiseShows_1 : decode cX2_raiseShows 1 = .ok (.istore_n 2, 1) := by decide +kernel
theorem dX2_raiseShows_2 : decode cX2_raiseShows 2 = .ok (.iload_n 2, 1) := by decide +kernel
theorem dX2_raiseShows_3 : decode cX2_raiseShows 3 = .ok (.aload_n 0, 1) := by decide +kernel
theorem dX2_raiseShows_4 : decode cX2_raiseShows 4 = .ok (.getfield 38, 3) := by decide +kernel
theorem dX2_raiseShows_7 : decode cX2_raiseShows 7 = .ok (.getfield 82, 3) := by decide +kernel
theorem dX2_raiseShows_10 : decode cX2_raiseShows 10 = .ok (.getfield 88, 3) := by decide +kernel
theorem dX2_raiseShows_13 : decode cX2_raiseShows 13 = .ok (.if_icmp .ge 75, 3) := by decide +kernel
theorem dX2_raiseShows_16 : decode cX2_raiseShows 16 = .ok (.aload_n 0, 1) := by decide +kernel
theorem dX2_raiseShows_17 : decode cX2_raiseShows 17 = .ok (.getfield 38, 3) := by decide +kernel
theorem dX2_raiseShows_20 : decode cX2_raiseShows 20 = .ok (.getfield 82, 3) := by decide +kernel
theorem dX2_raiseShows_23 : decode cX2_raiseShows 23 = .ok (.getfield 93, 3) := by decide +kernel
theorem dX2_raiseShows_26 : decode cX2_raiseShows 26 = .ok (.iload_n 2, 1) := by decide +kernel
theorem dX2_raiseShows_27 : decode cX2_raiseShows 27 = .ok (.iaload, 1) := by decide +kernel
theorem dX2_raiseShows_28 : decode cX2_raiseShows 28 = .ok (.aload_n 1, 1) := by decide +kernel
theorem dX2_raiseShows_29 : decode cX2_raiseShows 29 = .ok (.getfield 79, 3) := by decide +kernel
theorem dX2_raiseShows_32 : decode cX2_raiseShows 32 = .ok (.if_icmp .ne 50, 3) := by decide +kernel
theorem dX2_raiseShows_35 : decode cX2_raiseShows 35 = .ok (.aload_n 1, 1) := by decide +kernel
theorem dX2_raiseShows_36 : decode cX2_raiseShows 36 = .ok (.getfield 54, 3) := by decide +kernel
theorem dX2_raiseShows_39 : decode cX2_raiseShows 39 = .ok (.iconst (-1), 1) := by decide +kernel
theorem dX2_raiseShows_40 : decode cX2_raiseShows 40 = .ok (.if_icmp .ne 32, 3) := by decide +kernel
theorem dX2_raiseShows_43 : decode cX2_raiseShows 43 = .ok (.aload_n 0, 1) := by decide +kernel
theorem dX2_raiseShows_44 : decode cX2_raiseShows 44 = .ok (.getfield 38, 3) := by decide +kernel
theorem dX2_raiseShows_47 : decode cX2_raiseShows 47 = .ok (.getfield 82, 3) := by decide +kernel
theorem dX2_raiseShows_50 : decode cX2_raiseShows 50 = .ok (.getfield 97, 3) := by decide +kernel
theorem dX2_raiseShows_53 : decode cX2_raiseShows 53 = .ok (.iload_n 2, 1) := by decide +kernel
theorem dX2_raiseShows_54 : decode cX2_raiseShows 54 = .ok (.iaload, 1) := by decide +kernel
theorem dX2_raiseShows_55 : decode cX2_raiseShows 55 = .ok (.istore_n 3, 1) := by decide +kernel
theorem dX2_raiseShows_56 : decode cX2_raiseShows 56 = .ok (.aload_n 1, 1) := by decide +kernel
theorem dX2_raiseShows_57 : decode cX2_raiseShows 57 = .ok (.iload_n 3, 1) := by decide +kernel
theorem dX2_raiseShows_58 : decode cX2_raiseShows 58 = .ok (.aload_n 0, 1) := by decide +kernel
theorem dX2_raiseShows_59 : decode cX2_raiseShows 59 = .ok (.getfield 38, 3) := by decide +kernel
theorem dX2_raiseShows_62 : decode cX2_raiseShows 62 = .ok (.iload_n 3, 1) := by decide +kernel
theorem dX2_raiseShows_63 : decode cX2_raiseShows 63 = .ok (.invokevirtual 100, 3) := by decide +kernel
theorem dX2_raiseShows_66 : decode cX2_raiseShows 66 = .ok (.invokevirtual 104, 3) := by decide +kernel
theorem dX2_raiseShows_69 : decode cX2_raiseShows 69 = .ok (.goto 13, 3) := by decide +kernel
theorem dX2_raiseShows_72 : decode cX2_raiseShows 72 = .ok (.aload_n 1, 1) := by decide +kernel
theorem dX2_raiseShows_73 : decode cX2_raiseShows 73 = .ok (.dup, 1) := by decide +kernel
theorem dX2_raiseShows_74 : decode cX2_raiseShows 74 = .ok (.getfield 108, 3) := by decide +kernel
theorem dX2_raiseShows_77 : decode cX2_raiseShows 77 = .ok (.iconst 1, 1) := by decide +kernel
theorem dX2_raiseShows_78 : decode cX2_raiseShows 78 = .ok (.iadd, 1) := by decide +kernel
theorem dX2_raiseShows_79 : decode cX2_raiseShows 79 = .ok (.putfield 108, 3) := by decide +kernel
theorem dX2_raiseShows_82 : decode cX2_raiseShows 82 = .ok (.iinc 2 1, 3) := by decide +kernel
theorem dX2_raiseShows_85 : decode cX2_raiseShows 85 = .ok (.goto (-83), 3) := by decide +kernel
theorem dX2_raiseShows_88 : decode cX2_raiseShows 88 = .ok (.return_, 1) := by decide +kernel
theorem dX2_applause_0 : decode cX2_applause 0 = .ok (.iconst 0, 1) := by decide +kernel
theorem dX2_applause_1 : decode cX2_applause 1 = .ok (.istore_n 2, 1) := by decide +kernel
theorem dX2_applause_2 : decode cX2_applause 2 = .ok (.iconst 0, 1) := by decide +kernel
theorem dX2_applause_3 : decode cX2_applause 3 = .ok (.istore_n 3, 1) := by decide +kernel
theorem dX2_applause_4 : decode cX2_applause 4 = .ok (.aload_n 0, 1) := by decide +kernel
theorem dX2_applause_5 : decode cX2_applause 5 = .ok (.aload_n 1, 1) := by decide +kernel
theorem dX2_applause_6 : decode cX2_applause 6 = .ok (.invokevirtual 111, 3) := by decide +kernel
theorem dX2_applause_9 : decode cX2_applause 9 = .ok (.istore 4, 2) := by decide +kernel
theorem dX2_applause_11 : decode cX2_applause 11 = .ok (.iconst 0, 1) := by decide +kernel
theorem dX2_applause_12 : decode cX2_applause 12 = .ok (.istore 5, 2) := by decide +kernel
theorem dX2_applause_14 : decode cX2_applause 14 = .ok (.iload 5, 2) := by decide +kernel
theorem dX2_applause_16 : decode cX2_applause 16 = .ok (.bipush 6, 2) := by decide +kernel
theorem dX2_applause_18 : decode cX2_applause 18 = .ok (.if_icmp .ge 117, 3) := by decide +kernel
theorem dX2_applause_21 : decode cX2_applause 21 = .ok (.aload_n 1, 1) := by decide +kernel
theorem dX2_applause_22 : decode cX2_applause 22 = .ok (.getfield 114, 3) := by decide +kernel
theorem dX2_applause_25 : decode cX2_applause 25 = .ok (.iload 5, 2) := by decide +kernel
theorem dX2_applause_27 : decode cX2_applause 27 = .ok (.iaload, 1) := by decide +kernel
theorem dX2_applause_28 : decode cX2_applause 28 = .ok (.istore 6, 2) := by decide +kernel
theorem dX2_applause_30 : decode cX2_applause 30 = .ok (.aload_n 0, 1) := by decide +kernel
theorem dX2_applause_31 : decode cX2_applause 31 = .ok (.getfield 38, 3) := by decide +kernel
theorem dX2_applause_34 : decode cX2_applause 34 = .ok (.getfield 117, 3) := by decide +kernel
theorem dX2_applause_37 : decode cX2_applause 37 = .ok (.iload 6, 2) := by decide +kernel
theorem dX2_applause_39 : decode cX2_applause 39 = .ok (.invokevirtual 120, 3) := by decide +kernel
theorem dX2_applause_42 : decode cX2_applause 42 = .ok (.ifCond .eq 87, 3) := by decide +kernel
theorem dX2_applause_45 : decode cX2_applause 45 = .ok (.aload_n 1, 1) := by decide +kernel
theorem dX2_applause_46 : decode cX2_applause 46 = .ok (.getfield 54, 3) := by decide +kernel
theorem dX2_applause_49 : decode cX2_applause 49 = .ok (.iconst (-1), 1) := by decide +kernel
theorem dX2_applause_50 : decode cX2_applause 50 = .ok (.if_icmp .eq 12, 3) := by decide +kernel
theorem dX2_applause_53 : decode cX2_applause 53 = .ok (.iload 6, 2) := by decide +kernel
theorem dX2_applause_55 : decode cX2_applause 55 = .ok (.aload_n 0, 1) := by decide +kernel
theorem dX2_applause_56 : decode cX2_applause 56 = .ok (.getfield 23, 3) := by decide +kernel
theorem dX2_applause_59 : decode cX2_applause 59 = .ok (.if_icmp .ne 7, 3) := by decide +kernel
theorem dX2_applause_62 : decode cX2_applause 62 = .ok (.iconst 1, 1) := by decide +kernel
theorem dX2_applause_63 : decode cX2_applause 63 = .ok (.goto 4, 3) := by decide +kernel
theorem dX2_applause_66 : decode cX2_applause 66 = .ok (.iconst 0, 1) := by decide +kernel
theorem dX2_applause_67 : decode cX2_applause 67 = .ok (.istore 7, 2) := by decide +kernel
theorem dX2_applause_69 : decode cX2_applause 69 = .ok (.iload 7, 2) := by decide +kernel
theorem dX2_applause_71 : decode cX2_applause 71 = .ok (.ifCond .eq 7, 3) := by decide +kernel
theorem dX2_applause_74 : decode cX2_applause 74 = .ok (.iconst 0, 1) := by decide +kernel
theorem dX2_applause_75 : decode cX2_applause 75 = .ok (.goto 13, 3) := by decide +kernel
theorem dX2_applause_78 : decode cX2_applause 78 = .ok (.aload_n 0, 1) := by decide +kernel
theorem dX2_applause_79 : decode cX2_applause 79 = .ok (.aload_n 1, 1) := by decide +kernel
theorem dX2_applause_80 : decode cX2_applause 80 = .ok (.iload 6, 2) := by decide +kernel
theorem dX2_applause_82 : decode cX2_applause 82 = .ok (.iload 4, 2) := by decide +kernel
theorem dX2_applause_84 : decode cX2_applause 84 = .ok (.iload_n 3, 1) := by decide +kernel
theorem dX2_applause_85 : decode cX2_applause 85 = .ok (.invokevirtual 124, 3) := by decide +kernel
theorem dX2_applause_88 : decode cX2_applause 88 = .ok (.istore_n 3, 1) := by decide +kernel
theorem dX2_applause_89 : decode cX2_applause 89 = .ok (.aload_n 1, 1) := by decide +kernel
theorem dX2_applause_90 : decode cX2_applause 90 = .ok (.getfield 128, 3) := by decide +kernel
theorem dX2_applause_93 : decode cX2_applause 93 = .ok (.iload 6, 2) := by decide +kernel
theorem dX2_applause_95 : decode cX2_applause 95 = .ok (.iload_n 3, 1) := by decide +kernel
theorem dX2_applause_96 : decode cX2_applause 96 = .ok (.iastore, 1) := by decide +kernel
theorem dX2_applause_97 : decode cX2_applause 97 = .ok (.iload_n 3, 1) := by decide +kernel
theorem dX2_applause_98 : decode cX2_applause 98 = .ok (.ifCond .le 27, 3) := by decide +kernel
theorem dX2_applause_101 : decode cX2_applause 101 = .ok (.aload_n 1, 1) := by decide +kernel
theorem dX2_applause_102 : decode cX2_applause 102 = .ok (.getfield 131, 3) := by decide +kernel
theorem dX2_applause_105 : decode cX2_applause 105 = .ok (.iload 6, 2) := by decide +kernel
theorem dX2_applause_107 : decode cX2_applause 107 = .ok (.iaload, 1) := by decide +kernel
theorem dX2_applause_108 : decode cX2_applause 108 = .ok (.sipush 9999, 3) := by decide +kernel
theorem dX2_applause_111 : decode cX2_applause 111 = .ok (.if_icmp .ge 14, 3) := by decide +kernel
theorem dX2_applause_114 : decode cX2_applause 114 = .ok (.aload_n 1, 1) := by decide +kernel
theorem dX2_applause_115 : decode cX2_applause 115 = .ok (.getfield 131, 3) := by decide +kernel
theorem dX2_applause_118 : decode cX2_applause 118 = .ok (.iload 6, 2) := by decide +kernel
theorem dX2_applause_120 : decode cX2_applause 120 = .ok (.dup2, 1) := by decide +kernel
theorem dX2_applause_121 : decode cX2_applause 121 = .ok (.iaload, 1) := by decide +kernel
theorem dX2_applause_122 : decode cX2_applause 122 = .ok (.iconst 1, 1) := by decide +kernel
theorem dX2_applause_123 : decode cX2_applause 123 = .ok (.iadd, 1) := by decide +kernel
theorem dX2_applause_124 : decode cX2_applause 124 = .ok (.iastore, 1) := by decide +kernel
theorem dX2_applause_125 : decode cX2_applause 125 = .ok (.iload_n 2, 1) := by decide +kernel
theorem dX2_applause_126 : decode cX2_applause 126 = .ok (.iload_n 3, 1) := by decide +kernel
theorem dX2_applause_127 : decode cX2_applause 127 = .ok (.iadd, 1) := by decide +kernel
theorem dX2_applause_128 : decode cX2_applause 128 = .ok (.istore_n 2, 1) := by decide +kernel
theorem dX2_applause_129 : decode cX2_applause 129 = .ok (.iinc 5 1, 3) := by decide +kernel
theorem dX2_applause_132 : decode cX2_applause 132 = .ok (.goto (-118), 3) := by decide +kernel
theorem dX2_applause_135 : decode cX2_applause 135 = .ok (.iload_n 2, 1) := by decide +kernel
theorem dX2_applause_136 : decode cX2_applause 136 = .ok (.ireturn, 1) := by decide +kernel
theorem dX2_moodOn_0 : decode cX2_moodOn 0 = .ok (.aload_n 1, 1) := by decide +kernel
theorem dX2_moodOn_1 : decode cX2_moodOn 1 = .ok (.getfield 54, 3) := by decide +kernel
theorem dX2_moodOn_4 : decode cX2_moodOn 4 = .ok (.iconst (-1), 1) := by decide +kernel
theorem dX2_moodOn_5 : decode cX2_moodOn 5 = .ok (.if_icmp .ne 5, 3) := by decide +kernel
theorem dX2_moodOn_8 : decode cX2_moodOn 8 = .ok (.iconst 0, 1) := by decide +kernel
theorem dX2_moodOn_9 : decode cX2_moodOn 9 = .ok (.ireturn, 1) := by decide +kernel
theorem dX2_moodOn_10 : decode cX2_moodOn 10 = .ok (.aload_n 1, 1) := by decide +kernel
theorem dX2_moodOn_11 : decode cX2_moodOn 11 = .ok (.getfield 54, 3) := by decide +kernel
theorem dX2_moodOn_14 : decode cX2_moodOn 14 = .ok (.aload_n 0, 1) := by decide +kernel
theorem dX2_moodOn_15 : decode cX2_moodOn 15 = .ok (.getfield 32, 3) := by decide +kernel
theorem dX2_moodOn_18 : decode cX2_moodOn 18 = .ok (.if_icmp .ne 10, 3) := by decide +kernel
theorem dX2_moodOn_21 : decode cX2_moodOn 21 = .ok (.aload_n 0, 1) := by decide +kernel
theorem dX2_moodOn_22 : decode cX2_moodOn 22 = .ok (.getfield 35, 3) := by decide +kernel
theorem dX2_moodOn_25 : decode cX2_moodOn 25 = .ok (.goto 14, 3) := by decide +kernel
theorem dX2_moodOn_28 : decode cX2_moodOn 28 = .ok (.aload_n 0, 1) := by decide +kernel
theorem dX2_moodOn_29 : decode cX2_moodOn 29 = .ok (.getfield 38, 3) := by decide +kernel
theorem dX2_moodOn_32 : decode cX2_moodOn 32 = .ok (.aload_n 1, 1) := by decide +kernel
theorem dX2_moodOn_33 : decode cX2_moodOn 33 = .ok (.getfield 54, 3) := by decide +kernel
theorem dX2_moodOn_36 : decode cX2_moodOn 36 = .ok (.invokevirtual 134, 3) := by decide +kernel
theorem dX2_moodOn_39 : decode cX2_moodOn 39 = .ok (.ireturn, 1) := by decide +kernel
theorem dX2_clapOf_0 : decode cX2_clapOf 0 = .ok (.aload_n 0, 1) := by decide +kernel
theorem dX2_clapOf_1 : decode cX2_clapOf 1 = .ok (.getfield 38, 3) := by decide +kernel
theorem dX2_clapOf_4 : decode cX2_clapOf 4 = .ok (.getfield 137, 3) := by decide +kernel
theorem dX2_clapOf_7 : decode cX2_clapOf 7 = .ok (.iconst 0, 1) := by decide +kernel
theorem dX2_clapOf_8 : decode cX2_clapOf 8 = .ok (.aaload, 1) := by decide +kernel
theorem dX2_clapOf_9 : decode cX2_clapOf 9 = .ok (.getfield 141, 3) := by decide +kernel
theorem dX2_clapOf_12 : decode cX2_clapOf 12 = .ok (.ifCond .ne 13, 3) := by decide +kernel
theorem dX2_clapOf_15 : decode cX2_clapOf 15 = .ok (.aload_n 0, 1) := by decide +kernel
theorem dX2_clapOf_16 : decode cX2_clapOf 16 = .ok (.getfield 38, 3) := by decide +kernel
theorem dX2_clapOf_19 : decode cX2_clapOf 19 = .ok (.iload_n 2, 1) := by decide +kernel
theorem dX2_clapOf_20 : decode cX2_clapOf 20 = .ok (.iload_n 3, 1) := by decide +kernel
theorem dX2_clapOf_21 : decode cX2_clapOf 21 = .ok (.invokevirtual 146, 3) := by decide +kernel
theorem dX2_clapOf_24 : decode cX2_clapOf 24 = .ok (.ireturn, 1) := by decide +kernel
theorem dX2_clapOf_25 : decode cX2_clapOf 25 = .ok (.aload_n 0, 1) := by decide +kernel
theorem dX2_clapOf_26 : decode cX2_clapOf 26 = .ok (.aload_n 1, 1) := by decide +kernel
theorem dX2_clapOf_27 : decode cX2_clapOf 27 = .ok (.iload_n 2, 1) := by decide +kernel
theorem dX2_clapOf_28 : decode cX2_clapOf 28 = .ok (.iload_n 3, 1) := by decide +kernel
theorem dX2_clapOf_29 : decode cX2_clapOf 29 = .ok (.iload 4, 2) := by decide +kernel
theorem dX2_clapOf_31 : decode cX2_clapOf 31 = .ok (.invokevirtual 150, 3) := by decide +kernel
theorem dX2_clapOf_34 : decode cX2_clapOf 34 = .ok (.aload_n 0, 1) := by decide +kernel
theorem dX2_clapOf_35 : decode cX2_clapOf 35 = .ok (.getfield 38, 3) := by decide +kernel
theorem dX2_clapOf_38 : decode cX2_clapOf 38 = .ok (.getfield 137, 3) := by decide +kernel
theorem dX2_clapOf_41 : decode cX2_clapOf 41 = .ok (.iconst 0, 1) := by decide +kernel
theorem dX2_clapOf_42 : decode cX2_clapOf 42 = .ok (.aaload, 1) := by decide +kernel
theorem dX2_clapOf_43 : decode cX2_clapOf 43 = .ok (.aload_n 0, 1) := by decide +kernel
theorem dX2_clapOf_44 : decode cX2_clapOf 44 = .ok (.getfield 9, 3) := by decide +kernel
theorem dX2_clapOf_47 : decode cX2_clapOf 47 = .ok (.invokevirtual 154, 3) := by decide +kernel
theorem dX2_clapOf_50 : decode cX2_clapOf 50 = .ok (.lstore 5, 2) := by decide +kernel
theorem dX2_clapOf_52 : decode cX2_clapOf 52 = .ok (.lload 5, 2) := by decide +kernel
theorem dX2_clapOf_54 : decode cX2_clapOf 54 = .ok (.ldc2_w 158, 3) := by decide +kernel
theorem dX2_clapOf_57 : decode cX2_clapOf 57 = .ok (.lcmp, 1) := by decide +kernel
theorem dX2_clapOf_58 : decode cX2_clapOf 58 = .ok (.ifCond .ne 15, 3) := by decide +kernel
theorem dX2_clapOf_61 : decode cX2_clapOf 61 = .ok (.aload_n 0, 1) := by decide +kernel
theorem dX2_clapOf_62 : decode cX2_clapOf 62 = .ok (.getfield 38, 3) := by decide +kernel
theorem dX2_clapOf_65 : decode cX2_clapOf 65 = .ok (.iload_n 2, 1) := by decide +kernel
theorem dX2_clapOf_66 : decode cX2_clapOf 66 = .ok (.iload_n 3, 1) := by decide +kernel
theorem dX2_clapOf_67 : decode cX2_clapOf 67 = .ok (.invokevirtual 146, 3) := by decide +kernel
theorem dX2_clapOf_70 : decode cX2_clapOf 70 = .ok (.goto 15, 3) := by decide +kernel
theorem dX2_clapOf_73 : decode cX2_clapOf 73 = .ok (.lload 5, 2) := by decide +kernel
theorem dX2_clapOf_75 : decode cX2_clapOf 75 = .ok (.ldc2_w 160, 3) := by decide +kernel
theorem dX2_clapOf_78 : decode cX2_clapOf 78 = .ok (.ldc2_w 162, 3) := by decide +kernel
theorem dX2_clapOf_81 : decode cX2_clapOf 81 = .ok (.invokestatic 164, 3) := by decide +kernel
theorem dX2_clapOf_84 : decode cX2_clapOf 84 = .ok (.l2i, 1) := by decide +kernel
theorem dX2_clapOf_85 : decode cX2_clapOf 85 = .ok (.ireturn, 1) := by decide +kernel
theorem dX2_clapLaw_0 : decode cX2_clapLaw 0 = .ok (.aload_n 0, 1) := by decide +kernel
theorem dX2_clapLaw_1 : decode cX2_clapLaw 1 = .ok (.getfield 38, 3) := by decide +kernel
theorem dX2_clapLaw_4 : decode cX2_clapLaw 4 = .ok (.getfield 137, 3) := by decide +kernel
theorem dX2_clapLaw_7 : decode cX2_clapLaw 7 = .ok (.iconst 0, 1) := by decide +kernel
theorem dX2_clapLaw_8 : decode cX2_clapLaw 8 = .ok (.aaload, 1) := by decide +kernel
theorem dX2_clapLaw_9 : decode cX2_clapLaw 9 = .ok (.getfield 141, 3) := by decide +kernel
theorem dX2_clapLaw_12 : decode cX2_clapLaw 12 = .ok (.ifCond .ne 7, 3) := by decide +kernel
theorem dX2_clapLaw_15 : decode cX2_clapLaw 15 = .ok (.ldc2_w 158, 3) := by decide +kernel
theorem dX2_clapLaw_18 : decode cX2_clapLaw 18 = .ok (.lreturn, 1) := by decide +kernel
theorem dX2_clapLaw_19 : decode cX2_clapLaw 19 = .ok (.aload_n 0, 1) := by decide +kernel
theorem dX2_clapLaw_20 : decode cX2_clapLaw 20 = .ok (.aload_n 1, 1) := by decide +kernel
theorem dX2_clapLaw_21 : decode cX2_clapLaw 21 = .ok (.iload_n 2, 1) := by decide +kernel
theorem dX2_clapLaw_22 : decode cX2_clapLaw 22 = .ok (.iload_n 3, 1) := by decide +kernel
theorem dX2_clapLaw_23 : decode cX2_clapLaw 23 = .ok (.iload 4, 2) := by decide +kernel
theorem dX2_clapLaw_25 : decode cX2_clapLaw 25 = .ok (.invokevirtual 150, 3) := by decide +kernel
theorem dX2_clapLaw_28 : decode cX2_clapLaw 28 = .ok (.aload_n 0, 1) := by decide +kernel
theorem dX2_clapLaw_29 : decode cX2_clapLaw 29 = .ok (.getfield 38, 3) := by decide +kernel
theorem dX2_clapLaw_32 : decode cX2_clapLaw 32 = .ok (.getfield 137, 3) := by decide +kernel
theorem dX2_clapLaw_35 : decode cX2_clapLaw 35 = .ok (.iconst 0, 1) := by decide +kernel
theorem dX2_clapLaw_36 : decode cX2_clapLaw 36 = .ok (.aaload, 1) := by decide +kernel
theorem dX2_clapLaw_37 : decode cX2_clapLaw 37 = .ok (.aload_n 0, 1) := by decide +kernel
theorem dX2_clapLaw_38 : decode cX2_clapLaw 38 = .ok (.getfield 9, 3) := by decide +kernel
theorem dX2_clapLaw_41 : decode cX2_clapLaw 41 = .ok (.invokevirtual 154, 3) := by decide +kernel
theorem dX2_clapLaw_44 : decode cX2_clapLaw 44 = .ok (.lreturn, 1) := by decide +kernel
theorem dX2_stoneLaw_0 : decode cX2_stoneLaw 0 = .ok (.aload_n 0, 1) := by decide +kernel
theorem dX2_stoneLaw_1 : decode cX2_stoneLaw 1 = .ok (.getfield 38, 3) := by decide +kernel
theorem dX2_stoneLaw_4 : decode cX2_stoneLaw 4 = .ok (.getfield 137, 3) := by decide +kernel
theorem dX2_stoneLaw_7 : decode cX2_stoneLaw 7 = .ok (.iload_n 2, 1) := by decide +kernel
theorem dX2_stoneLaw_8 : decode cX2_stoneLaw 8 = .ok (.aaload, 1) := by decide +kernel
theorem dX2_stoneLaw_9 : decode cX2_stoneLaw 9 = .ok (.getfield 141, 3) := by decide +kernel
theorem dX2_stoneLaw_12 : decode cX2_stoneLaw 12 = .ok (.ifCond .ne 7, 3) := by decide +kernel
theorem dX2_stoneLaw_15 : decode cX2_stoneLaw 15 = .ok (.ldc2_w 158, 3) := by decide +kernel
theorem dX2_stoneLaw_18 : decode cX2_stoneLaw 18 = .ok (.lreturn, 1) := by decide +kernel
theorem dX2_stoneLaw_19 : decode cX2_stoneLaw 19 = .ok (.aload_n 0, 1) := by decide +kernel
theorem dX2_stoneLaw_20 : decode cX2_stoneLaw 20 = .ok (.getfield 9, 3) := by decide +kernel
theorem dX2_stoneLaw_23 : decode cX2_stoneLaw 23 = .ok (.iconst 0, 1) := by decide +kernel
theorem dX2_stoneLaw_24 : decode cX2_stoneLaw 24 = .ok (.aload_n 0, 1) := by decide +kernel
theorem dX2_stoneLaw_25 : decode cX2_stoneLaw 25 = .ok (.aload_n 1, 1) := by decide +kernel
theorem dX2_stoneLaw_26 : decode cX2_stoneLaw 26 = .ok (.invokevirtual 111, 3) := by decide +kernel
theorem dX2_stoneLaw_29 : decode cX2_stoneLaw 29 = .ok (.i2l, 1) := by decide +kernel
theorem dX2_stoneLaw_30 : decode cX2_stoneLaw 30 = .ok (.lastore, 1) := by decide +kernel
theorem dX2_stoneLaw_31 : decode cX2_stoneLaw 31 = .ok (.aload_n 0, 1) := by decide +kernel
theorem dX2_stoneLaw_32 : decode cX2_stoneLaw 32 = .ok (.getfield 9, 3) := by decide +kernel
theorem dX2_stoneLaw_35 : decode cX2_stoneLaw 35 = .ok (.iconst 1, 1) := by decide +kernel
theorem dX2_stoneLaw_36 : decode cX2_stoneLaw 36 = .ok (.lconst 0, 1) := by decide +kernel
theorem dX2_stoneLaw_37 : decode cX2_stoneLaw 37 = .ok (.lastore, 1) := by decide +kernel
theorem dX2_stoneLaw_38 : decode cX2_stoneLaw 38 = .ok (.aload_n 0, 1) := by decide +kernel
theorem dX2_stoneLaw_39 : decode cX2_stoneLaw 39 = .ok (.getfield 9, 3) := by decide +kernel
theorem dX2_stoneLaw_42 : decode cX2_stoneLaw 42 = .ok (.iconst 2, 1) := by decide +kernel
theorem dX2_stoneLaw_43 : decode cX2_stoneLaw 43 = .ok (.lconst 0, 1) := by decide +kernel
theorem dX2_stoneLaw_44 : decode cX2_stoneLaw 44 = .ok (.lastore, 1) := by decide +kernel
theorem dX2_stoneLaw_45 : decode cX2_stoneLaw 45 = .ok (.aload_n 0, 1) := by decide +kernel
theorem dX2_stoneLaw_46 : decode cX2_stoneLaw 46 = .ok (.getfield 9, 3) := by decide +kernel
theorem dX2_stoneLaw_49 : decode cX2_stoneLaw 49 = .ok (.iconst 3, 1) := by decide +kernel
theorem dX2_stoneLaw_50 : decode cX2_stoneLaw 50 = .ok (.iload_n 3, 1) := by decide +kernel
theorem dX2_stoneLaw_51 : decode cX2_stoneLaw 51 = .ok (.i2l, 1) := by decide +kernel
theorem dX2_stoneLaw_52 : decode cX2_stoneLaw 52 = .ok (.lastore, 1) := by decide +kernel
theorem dX2_stoneLaw_53 : decode cX2_stoneLaw 53 = .ok (.aload_n 0, 1) := by decide +kernel
theorem dX2_stoneLaw_54 : decode cX2_stoneLaw 54 = .ok (.getfield 9, 3) := by decide +kernel
theorem dX2_stoneLaw_57 : decode cX2_stoneLaw 57 = .ok (.iconst 4, 1) := by decide +kernel
theorem dX2_stoneLaw_58 : decode cX2_stoneLaw 58 = .ok (.aload_n 1, 1) := by decide +kernel
theorem dX2_stoneLaw_59 : decode cX2_stoneLaw 59 = .ok (.getfield 168, 3) := by decide +kernel
theorem dX2_stoneLaw_62 : decode cX2_stoneLaw 62 = .ok (.i2l, 1) := by decide +kernel
theorem dX2_stoneLaw_63 : decode cX2_stoneLaw 63 = .ok (.lastore, 1) := by decide +kernel
theorem dX2_stoneLaw_64 : decode cX2_stoneLaw 64 = .ok (.aload_n 0, 1) := by decide +kernel
theorem dX2_stoneLaw_65 : decode cX2_stoneLaw 65 = .ok (.getfield 9, 3) := by decide +kernel
theorem dX2_stoneLaw_68 : decode cX2_stoneLaw 68 = .ok (.iconst 5, 1) := by decide +kernel
theorem dX2_stoneLaw_69 : decode cX2_stoneLaw 69 = .ok (.aload_n 1, 1) := by decide +kernel
theorem dX2_stoneLaw_70 : decode cX2_stoneLaw 70 = .ok (.getfield 171, 3) := by decide +kernel
theorem dX2_stoneLaw_73 : decode cX2_stoneLaw 73 = .ok (.i2l, 1) := by decide +kernel
theorem dX2_stoneLaw_74 : decode cX2_stoneLaw 74 = .ok (.lastore, 1) := by decide +kernel
theorem dX2_stoneLaw_75 : decode cX2_stoneLaw 75 = .ok (.aload_n 0, 1) := by decide +kernel
theorem dX2_stoneLaw_76 : decode cX2_stoneLaw 76 = .ok (.getfield 9, 3) := by decide +kernel
theorem dX2_stoneLaw_79 : decode cX2_stoneLaw 79 = .ok (.bipush 6, 2) := by decide +kernel
theorem dX2_stoneLaw_81 : decode cX2_stoneLaw 81 = .ok (.aload_n 1, 1) := by decide +kernel
theorem dX2_stoneLaw_82 : decode cX2_stoneLaw 82 = .ok (.getfield 79, 3) := by decide +kernel
theorem dX2_stoneLaw_85 : decode cX2_stoneLaw 85 = .ok (.i2l, 1) := by decide +kernel
theorem dX2_stoneLaw_86 : decode cX2_stoneLaw 86 = .ok (.lastore, 1) := by decide +kernel
theorem dX2_stoneLaw_87 : decode cX2_stoneLaw 87 = .ok (.aload_n 0, 1) := by decide +kernel
theorem dX2_stoneLaw_88 : decode cX2_stoneLaw 88 = .ok (.getfield 38, 3) := by decide +kernel
theorem dX2_stoneLaw_91 : decode cX2_stoneLaw 91 = .ok (.getfield 137, 3) := by decide +kernel
theorem dX2_stoneLaw_94 : decode cX2_stoneLaw 94 = .ok (.iload_n 2, 1) := by decide +kernel
theorem dX2_stoneLaw_95 : decode cX2_stoneLaw 95 = .ok (.aaload, 1) := by decide +kernel
theorem dX2_stoneLaw_96 : decode cX2_stoneLaw 96 = .ok (.aload_n 0, 1) := by decide +kernel
theorem dX2_stoneLaw_97 : decode cX2_stoneLaw 97 = .ok (.getfield 9, 3) := by decide +kernel
theorem dX2_stoneLaw_100 : decode cX2_stoneLaw 100 = .ok (.invokevirtual 154, 3) := by decide +kernel
theorem dX2_stoneLaw_103 : decode cX2_stoneLaw 103 = .ok (.lreturn, 1) := by decide +kernel
theorem dX2_nameGuest_0 : decode cX2_nameGuest 0 = .ok (.aload_n 0, 1) := by decide +kernel
theorem dX2_nameGuest_1 : decode cX2_nameGuest 1 = .ok (.getfield 9, 3) := by decide +kernel
theorem dX2_nameGuest_4 : decode cX2_nameGuest 4 = .ok (.iconst 0, 1) := by decide +kernel
theorem dX2_nameGuest_5 : decode cX2_nameGuest 5 = .ok (.iload_n 3, 1) := by decide +kernel
theorem dX2_nameGuest_6 : decode cX2_nameGuest 6 = .ok (.i2l, 1) := by decide +kernel
theorem dX2_nameGuest_7 : decode cX2_nameGuest 7 = .ok (.lastore, 1) := by decide +kernel
theorem dX2_nameGuest_8 : decode cX2_nameGuest 8 = .ok (.aload_n 0, 1) := by decide +kernel
theorem dX2_nameGuest_9 : decode cX2_nameGuest 9 = .ok (.getfield 9, 3) := by decide +kernel
theorem dX2_nameGuest_12 : decode cX2_nameGuest 12 = .ok (.iconst 1, 1) := by decide +kernel
theorem dX2_nameGuest_13 : decode cX2_nameGuest 13 = .ok (.aload_n 0, 1) := by decide +kernel
theorem dX2_nameGuest_14 : decode cX2_nameGuest 14 = .ok (.getfield 38, 3) := by decide +kernel
theorem dX2_nameGuest_17 : decode cX2_nameGuest 17 = .ok (.iload_n 2, 1) := by decide +kernel
theorem dX2_nameGuest_18 : decode cX2_nameGuest 18 = .ok (.invokevirtual 174, 3) := by decide +kernel
theorem dX2_nameGuest_21 : decode cX2_nameGuest 21 = .ok (.i2l, 1) := by decide +kernel
theorem dX2_nameGuest_22 : decode cX2_nameGuest 22 = .ok (.lastore, 1) := by decide +kernel
theorem dX2_nameGuest_23 : decode cX2_nameGuest 23 = .ok (.aload_n 0, 1) := by decide +kernel
theorem dX2_nameGuest_24 : decode cX2_nameGuest 24 = .ok (.getfield 9, 3) := by decide +kernel
theorem dX2_nameGuest_27 : decode cX2_nameGuest 27 = .ok (.iconst 2, 1) := by decide +kernel
theorem dX2_nameGuest_28 : decode cX2_nameGuest 28 = .ok (.aload_n 0, 1) := by decide +kernel
theorem dX2_nameGuest_29 : decode cX2_nameGuest 29 = .ok (.getfield 29, 3) := by decide +kernel
theorem dX2_nameGuest_32 : decode cX2_nameGuest 32 = .ok (.ifCond .eq 9, 3) := by decide +kernel
theorem dX2_nameGuest_35 : decode cX2_nameGuest 35 = .ok (.ldc2_w 162, 3) := by decide +kernel
theorem dX2_nameGuest_38 : decode cX2_nameGuest 38 = .ok (.goto 12, 3) := by decide +kernel
theorem dX2_nameGuest_41 : decode cX2_nameGuest 41 = .ok (.aload_n 0, 1) := by decide +kernel
theorem dX2_nameGuest_42 : decode cX2_nameGuest 42 = .ok (.getfield 38, 3) := by decide +kernel
theorem dX2_nameGuest_45 : decode cX2_nameGuest 45 = .ok (.iload_n 2, 1) := by decide +kernel
theorem dX2_nameGuest_46 : decode cX2_nameGuest 46 = .ok (.invokevirtual 177, 3) := by decide +kernel
theorem dX2_nameGuest_49 : decode cX2_nameGuest 49 = .ok (.i2l, 1) := by decide +kernel
theorem dX2_nameGuest_50 : decode cX2_nameGuest 50 = .ok (.lastore, 1) := by decide +kernel
theorem dX2_nameGuest_51 : decode cX2_nameGuest 51 = .ok (.aload_n 0, 1) := by decide +kernel
theorem dX2_nameGuest_52 : decode cX2_nameGuest 52 = .ok (.getfield 9, 3) := by decide +kernel
theorem dX2_nameGuest_55 : decode cX2_nameGuest 55 = .ok (.iconst 3, 1) := by decide +kernel
theorem dX2_nameGuest_56 : decode cX2_nameGuest 56 = .ok (.iload 4, 2) := by decide +kernel
theorem dX2_nameGuest_58 : decode cX2_nameGuest 58 = .ok (.i2l, 1) := by decide +kernel
theorem dX2_nameGuest_59 : decode cX2_nameGuest 59 = .ok (.lastore, 1) := by decide +kernel
theorem dX2_nameGuest_60 : decode cX2_nameGuest 60 = .ok (.aload_n 0, 1) := by decide +kernel
theorem dX2_nameGuest_61 : decode cX2_nameGuest 61 = .ok (.getfield 9, 3) := by decide +kernel
theorem dX2_nameGuest_64 : decode cX2_nameGuest 64 = .ok (.iconst 4, 1) := by decide +kernel
theorem dX2_nameGuest_65 : decode cX2_nameGuest 65 = .ok (.aload_n 1, 1) := by decide +kernel
theorem dX2_nameGuest_66 : decode cX2_nameGuest 66 = .ok (.getfield 168, 3) := by decide +kernel
theorem dX2_nameGuest_69 : decode cX2_nameGuest 69 = .ok (.i2l, 1) := by decide +kernel
theorem dX2_nameGuest_70 : decode cX2_nameGuest 70 = .ok (.lastore, 1) := by decide +kernel
theorem dX2_nameGuest_71 : decode cX2_nameGuest 71 = .ok (.aload_n 0, 1) := by decide +kernel
theorem dX2_nameGuest_72 : decode cX2_nameGuest 72 = .ok (.getfield 9, 3) := by decide +kernel
theorem dX2_nameGuest_75 : decode cX2_nameGuest 75 = .ok (.iconst 5, 1) := by decide +kernel
theorem dX2_nameGuest_76 : decode cX2_nameGuest 76 = .ok (.aload_n 1, 1) := by decide +kernel
theorem dX2_nameGuest_77 : decode cX2_nameGuest 77 = .ok (.getfield 131, 3) := by decide +kernel
theorem dX2_nameGuest_80 : decode cX2_nameGuest 80 = .ok (.iload_n 2, 1) := by decide +kernel
theorem dX2_nameGuest_81 : decode cX2_nameGuest 81 = .ok (.iaload, 1) := by decide +kernel
theorem dX2_nameGuest_82 : decode cX2_nameGuest 82 = .ok (.i2l, 1) := by decide +kernel
theorem dX2_nameGuest_83 : decode cX2_nameGuest 83 = .ok (.lastore, 1) := by decide +kernel
theorem dX2_nameGuest_84 : decode cX2_nameGuest 84 = .ok (.aload_n 0, 1) := by decide +kernel
theorem dX2_nameGuest_85 : decode cX2_nameGuest 85 = .ok (.getfield 9, 3) := by decide +kernel
theorem dX2_nameGuest_88 : decode cX2_nameGuest 88 = .ok (.bipush 6, 2) := by decide +kernel
theorem dX2_nameGuest_90 : decode cX2_nameGuest 90 = .ok (.aload_n 1, 1) := by decide +kernel
theorem dX2_nameGuest_91 : decode cX2_nameGuest 91 = .ok (.getfield 79, 3) := by decide +kernel
theorem dX2_nameGuest_94 : decode cX2_nameGuest 94 = .ok (.i2l, 1) := by decide +kernel
theorem dX2_nameGuest_95 : decode cX2_nameGuest 95 = .ok (.lastore, 1) := by decide +kernel
theorem dX2_nameGuest_96 : decode cX2_nameGuest 96 = .ok (.return_, 1) := by decide +kernel
theorem dX2_isCoughed_0 : decode cX2_isCoughed 0 = .ok (.aload_n 0, 1) := by decide +kernel
theorem dX2_isCoughed_1 : decode cX2_isCoughed 1 = .ok (.getfield 15, 3) := by decide +kernel
theorem dX2_isCoughed_4 : decode cX2_isCoughed 4 = .ok (.tableswitch 98 1 3 #[32, 28, 30], 28) := by decide +kernel
theorem dX2_isCoughed_32 : decode cX2_isCoughed 32 = .ok (.iconst 0, 1) := by decide +kernel
theorem dX2_isCoughed_33 : decode cX2_isCoughed 33 = .ok (.ireturn, 1) := by decide +kernel
theorem dX2_isCoughed_34 : decode cX2_isCoughed 34 = .ok (.iconst 1, 1) := by decide +kernel
theorem dX2_isCoughed_35 : decode cX2_isCoughed 35 = .ok (.ireturn, 1) := by decide +kernel
theorem dX2_isCoughed_36 : decode cX2_isCoughed 36 = .ok (.aload_n 0, 1) := by decide +kernel
theorem dX2_isCoughed_37 : decode cX2_isCoughed 37 = .ok (.getfield 38, 3) := by decide +kernel
theorem dX2_isCoughed_40 : decode cX2_isCoughed 40 = .ok (.getfield 180, 3) := by decide +kernel
theorem dX2_isCoughed_43 : decode cX2_isCoughed 43 = .ok (.ifCond .le 41, 3) := by decide +kernel
theorem dX2_isCoughed_46 : decode cX2_isCoughed 46 = .ok (.aload_n 0, 1) := by decide +kernel
theorem dX2_isCoughed_47 : decode cX2_isCoughed 47 = .ok (.getfield 38, 3) := by decide +kernel
theorem dX2_isCoughed_50 : decode cX2_isCoughed 50 = .ok (.getfield 180, 3) := by decide +kernel
theorem dX2_isCoughed_53 : decode cX2_isCoughed 53 = .ok (.bipush 100, 2) := by decide +kernel
theorem dX2_isCoughed_55 : decode cX2_isCoughed 55 = .ok (.if_icmp .ge 29, 3) := by decide +kernel
theorem dX2_isCoughed_58 : decode cX2_isCoughed 58 = .ok (.aload_n 1, 1) := by decide +kernel
theorem dX2_isCoughed_59 : decode cX2_isCoughed 59 = .ok (.invokestatic 183, 3) := by decide +kernel
theorem dX2_isCoughed_62 : decode cX2_isCoughed 62 = .ok (.ldc2_w 187, 3) := by decide +kernel
theorem dX2_isCoughed_65 : decode cX2_isCoughed 65 = .ok (.lrem, 1) := by decide +kernel
theorem dX2_isCoughed_66 : decode cX2_isCoughed 66 = .ok (.aload_n 0, 1) := by decide +kernel
theorem dX2_isCoughed_67 : decode cX2_isCoughed 67 = .ok (.getfield 38, 3) := by decide +kernel
theorem dX2_isCoughed_70 : decode cX2_isCoughed 70 = .ok (.getfield 180, 3) := by decide +kernel
theorem dX2_isCoughed_73 : decode cX2_isCoughed 73 = .ok (.i2l, 1) := by decide +kernel
theorem dX2_isCoughed_74 : decode cX2_isCoughed 74 = .ok (.lcmp, 1) := by decide +kernel
theorem dX2_isCoughed_75 : decode cX2_isCoughed 75 = .ok (.ifCond .ge 7, 3) := by decide +kernel
theorem dX2_isCoughed_78 : decode cX2_isCoughed 78 = .ok (.iconst 1, 1) := by decide +kernel
theorem dX2_isCoughed_79 : decode cX2_isCoughed 79 = .ok (.goto 4, 3) := by decide +kernel
theorem dX2_isCoughed_82 : decode cX2_isCoughed 82 = .ok (.iconst 0, 1) := by decide +kernel
theorem dX2_isCoughed_83 : decode cX2_isCoughed 83 = .ok (.ireturn, 1) := by decide +kernel
theorem dX2_isCoughed_84 : decode cX2_isCoughed 84 = .ok (.aload_n 0, 1) := by decide +kernel
theorem dX2_isCoughed_85 : decode cX2_isCoughed 85 = .ok (.getfield 38, 3) := by decide +kernel
theorem dX2_isCoughed_88 : decode cX2_isCoughed 88 = .ok (.getfield 180, 3) := by decide +kernel
theorem dX2_isCoughed_91 : decode cX2_isCoughed 91 = .ok (.bipush 100, 2) := by decide +kernel
theorem dX2_isCoughed_93 : decode cX2_isCoughed 93 = .ok (.if_icmp .lt 7, 3) := by decide +kernel
theorem dX2_isCoughed_96 : decode cX2_isCoughed 96 = .ok (.iconst 1, 1) := by decide +kernel
theorem dX2_isCoughed_97 : decode cX2_isCoughed 97 = .ok (.goto 4, 3) := by decide +kernel
theorem dX2_isCoughed_100 : decode cX2_isCoughed 100 = .ok (.iconst 0, 1) := by decide +kernel
theorem dX2_isCoughed_101 : decode cX2_isCoughed 101 = .ok (.ireturn, 1) := by decide +kernel
theorem dX2_isCoughed_102 : decode cX2_isCoughed 102 = .ok (.aload_n 0, 1) := by decide +kernel
theorem dX2_isCoughed_103 : decode cX2_isCoughed 103 = .ok (.getfield 38, 3) := by decide +kernel
theorem dX2_isCoughed_106 : decode cX2_isCoughed 106 = .ok (.getfield 180, 3) := by decide +kernel
theorem dX2_isCoughed_109 : decode cX2_isCoughed 109 = .ok (.bipush 50, 2) := by decide +kernel
theorem dX2_isCoughed_111 : decode cX2_isCoughed 111 = .ok (.if_icmp .lt 7, 3) := by decide +kernel
theorem dX2_isCoughed_114 : decode cX2_isCoughed 114 = .ok (.iconst 1, 1) := by decide +kernel
theorem dX2_isCoughed_115 : decode cX2_isCoughed 115 = .ok (.goto 4, 3) := by decide +kernel
theorem dX2_isCoughed_118 : decode cX2_isCoughed 118 = .ok (.iconst 0, 1) := by decide +kernel
theorem dX2_isCoughed_119 : decode cX2_isCoughed 119 = .ok (.ireturn, 1) := by decide +kernel
theorem dX2_draw_0 : decode cX2_draw 0 = .ok (.aload_n 0, 1) := by decide +kernel
theorem dX2_draw_1 : decode cX2_draw 1 = .ok (.aload_n 0, 1) := by decide +kernel
theorem dX2_draw_2 : decode cX2_draw 2 = .ok (.getfield 189, 3) := by decide +kernel
theorem dX2_draw_5 : decode cX2_draw 5 = .ok (.ldc2_w 193, 3) := by decide +kernel
theorem dX2_draw_8 : decode cX2_draw 8 = .ok (.lmul, 1) := by decide +kernel
theorem dX2_draw_9 : decode cX2_draw 9 = .ok (.ldc2_w 195, 3) := by decide +kernel
theorem dX2_draw_12 : decode cX2_draw 12 = .ok (.ladd, 1) := by decide +kernel
theorem dX2_draw_13 : decode cX2_draw 13 = .ok (.ldc2_w 197, 3) := by decide +kernel
theorem dX2_draw_16 : decode cX2_draw 16 = .ok (.land, 1) := by decide +kernel
theorem dX2_draw_17 : decode cX2_draw 17 = .ok (.putfield 189, 3) := by decide +kernel
theorem dX2_draw_20 : decode cX2_draw 20 = .ok (.aload_n 0, 1) := by decide +kernel
theorem dX2_draw_21 : decode cX2_draw 21 = .ok (.getfield 189, 3) := by decide +kernel
theorem dX2_draw_24 : decode cX2_draw 24 = .ok (.ldc2_w 199, 3) := by decide +kernel
theorem dX2_draw_27 : decode cX2_draw 27 = .ok (.ldiv, 1) := by decide +kernel
theorem dX2_draw_28 : decode cX2_draw 28 = .ok (.lreturn, 1) := by decide +kernel
theorem dX2_turnStones_0 : decode cX2_turnStones 0 = .ok (.aload_n 0, 1) := by decide +kernel
theorem dX2_turnStones_1 : decode cX2_turnStones 1 = .ok (.aload_n 1, 1) := by decide +kernel
theorem dX2_turnStones_2 : decode cX2_turnStones 2 = .ok (.iconst 1, 1) := by decide +kernel
theorem dX2_turnStones_3 : decode cX2_turnStones 3 = .ok (.iload_n 2, 1) := by decide +kernel
theorem dX2_turnStones_4 : decode cX2_turnStones 4 = .ok (.invokevirtual 201, 3) := by decide +kernel
theorem dX2_turnStones_7 : decode cX2_turnStones 7 = .ok (.lstore_n 3, 1) := by decide +kernel
theorem dX2_turnStones_8 : decode cX2_turnStones 8 = .ok (.lload_n 3, 1) := by decide +kernel
theorem dX2_turnStones_9 : decode cX2_turnStones 9 = .ok (.ldc2_w 158, 3) := by decide +kernel
theorem dX2_turnStones_12 : decode cX2_turnStones 12 = .ok (.lcmp, 1) := by decide +kernel
theorem dX2_turnStones_13 : decode cX2_turnStones 13 = .ok (.ifCond .ne 15, 3) := by decide +kernel
theorem dX2_turnStones_16 : decode cX2_turnStones 16 = .ok (.aload_n 1, 1) := by decide +kernel
theorem dX2_turnStones_17 : decode cX2_turnStones 17 = .ok (.getfield 168, 3) := by decide +kernel
theorem dX2_turnStones_20 : decode cX2_turnStones 20 = .ok (.iload_n 2, 1) := by decide +kernel
theorem dX2_turnStones_21 : decode cX2_turnStones 21 = .ok (.iadd, 1) := by decide +kernel
theorem dX2_turnStones_22 : decode cX2_turnStones 22 = .ok (.iconst 2, 1) := by decide +kernel
theorem dX2_turnStones_23 : decode cX2_turnStones 23 = .ok (.idiv, 1) := by decide +kernel
theorem dX2_turnStones_24 : decode cX2_turnStones 24 = .ok (.i2l, 1) := by decide +kernel
theorem dX2_turnStones_25 : decode cX2_turnStones 25 = .ok (.goto 4, 3) := by decide +kernel
theorem dX2_turnStones_28 : decode cX2_turnStones 28 = .ok (.lload_n 3, 1) := by decide +kernel
theorem dX2_turnStones_29 : decode cX2_turnStones 29 = .ok (.lstore 5, 2) := by decide +kernel
theorem dX2_turnStones_31 : decode cX2_turnStones 31 = .ok (.aload_n 1, 1) := by decide +kernel
theorem dX2_turnStones_32 : decode cX2_turnStones 32 = .ok (.lload 5, 2) := by decide +kernel
theorem dX2_turnStones_34 : decode cX2_turnStones 34 = .ok (.ldc2_w 205, 3) := by decide +kernel
theorem dX2_turnStones_37 : decode cX2_turnStones 37 = .ok (.ldc2_w 207, 3) := by decide +kernel
theorem dX2_turnStones_40 : decode cX2_turnStones 40 = .ok (.invokestatic 164, 3) := by decide +kernel
theorem dX2_turnStones_43 : decode cX2_turnStones 43 = .ok (.l2i, 1) := by decide +kernel
theorem dX2_turnStones_44 : decode cX2_turnStones 44 = .ok (.putfield 168, 3) := by decide +kernel
theorem dX2_turnStones_47 : decode cX2_turnStones 47 = .ok (.return_, 1) := by decide +kernel
theorem dX2_grind_0 : decode cX2_grind 0 = .ok (.aload_n 1, 1) := by decide +kernel
theorem dX2_grind_1 : decode cX2_grind 1 = .ok (.getfield 168, 3) := by decide +kernel
theorem dX2_grind_4 : decode cX2_grind 4 = .ok (.ifCond .ge 9, 3) := by decide +kernel
theorem dX2_grind_7 : decode cX2_grind 7 = .ok (.aload_n 0, 1) := by decide +kernel
theorem dX2_grind_8 : decode cX2_grind 8 = .ok (.aload_n 1, 1) := by decide +kernel
theorem dX2_grind_9 : decode cX2_grind 9 = .ok (.invokevirtual 209, 3) := by decide +kernel
theorem dX2_grind_12 : decode cX2_grind 12 = .ok (.return_, 1) := by decide +kernel
theorem dX2_grind_13 : decode cX2_grind 13 = .ok (.aload_n 0, 1) := by decide +kernel
theorem dX2_grind_14 : decode cX2_grind 14 = .ok (.aload_n 1, 1) := by decide +kernel
theorem dX2_grind_15 : decode cX2_grind 15 = .ok (.aload_n 1, 1) := by decide +kernel
theorem dX2_grind_16 : decode cX2_grind 16 = .ok (.getfield 168, 3) := by decide +kernel
theorem dX2_grind_19 : decode cX2_grind 19 = .ok (.invokevirtual 212, 3) := by decide +kernel
theorem dX2_grind_22 : decode cX2_grind 22 = .ok (.istore_n 3, 1) := by decide +kernel
theorem dX2_grind_23 : decode cX2_grind 23 = .ok (.iload_n 3, 1) := by decide +kernel
theorem dX2_grind_24 : decode cX2_grind 24 = .ok (.iconst (-1), 1) := by decide +kernel
theorem dX2_grind_25 : decode cX2_grind 25 = .ok (.if_icmp .ne 4, 3) := by decide +kernel
theorem dX2_grind_28 : decode cX2_grind 28 = .ok (.return_, 1) := by decide +kernel
theorem dX2_grind_29 : decode cX2_grind 29 = .ok (.aload_n 0, 1) := by decide +kernel
theorem dX2_grind_30 : decode cX2_grind 30 = .ok (.aload_n 1, 1) := by decide +kernel
theorem dX2_grind_31 : decode cX2_grind 31 = .ok (.iconst 2, 1) := by decide +kernel
theorem dX2_grind_32 : decode cX2_grind 32 = .ok (.iload_n 2, 1) := by decide +kernel
theorem dX2_grind_33 : decode cX2_grind 33 = .ok (.invokevirtual 201, 3) := by decide +kernel
theorem dX2_grind_36 : decode cX2_grind 36 = .ok (.lstore 4, 2) := by decide +kernel
theorem dX2_grind_38 : decode cX2_grind 38 = .ok (.lload 4, 2) := by decide +kernel
theorem dX2_grind_40 : decode cX2_grind 40 = .ok (.ldc2_w 158, 3) := by decide +kernel
theorem dX2_grind_43 : decode cX2_grind 43 = .ok (.lcmp, 1) := by decide +kernel
theorem dX2_grind_44 : decode cX2_grind 44 = .ok (.ifCond .ne 7, 3) := by decide +kernel
theorem dX2_grind_47 : decode cX2_grind 47 = .ok (.iconst 1, 1) := by decide +kernel
theorem dX2_grind_48 : decode cX2_grind 48 = .ok (.goto 13, 3) := by decide +kernel
theorem dX2_grind_51 : decode cX2_grind 51 = .ok (.lload 4, 2) := by decide +kernel
theorem dX2_grind_53 : decode cX2_grind 53 = .ok (.lconst 0, 1) := by decide +kernel
theorem dX2_grind_54 : decode cX2_grind 54 = .ok (.ldc2_w 162, 3) := by decide +kernel
theorem dX2_grind_57 : decode cX2_grind 57 = .ok (.invokestatic 164, 3) := by decide +kernel
theorem dX2_grind_60 : decode cX2_grind 60 = .ok (.l2i, 1) := by decide +kernel
theorem dX2_grind_61 : decode cX2_grind 61 = .ok (.istore 6, 2) := by decide +kernel
theorem dX2_grind_63 : decode cX2_grind 63 = .ok (.iload 6, 2) := by decide +kernel
theorem dX2_grind_65 : decode cX2_grind 65 = .ok (.aload_n 0, 1) := by decide +kernel
theorem dX2_grind_66 : decode cX2_grind 66 = .ok (.getfield 38, 3) := by decide +kernel
theorem dX2_grind_69 : decode cX2_grind 69 = .ok (.iload_n 3, 1) := by decide +kernel
theorem dX2_grind_70 : decode cX2_grind 70 = .ok (.invokevirtual 216, 3) := by decide +kernel
theorem dX2_grind_73 : decode cX2_grind 73 = .ok (.aload_n 1, 1) := by decide +kernel
theorem dX2_grind_74 : decode cX2_grind 74 = .ok (.getfield 219, 3) := by decide +kernel
theorem dX2_grind_77 : decode cX2_grind 77 = .ok (.iload_n 3, 1) := by decide +kernel
theorem dX2_grind_78 : decode cX2_grind 78 = .ok (.iaload, 1) := by decide +kernel
theorem dX2_grind_79 : decode cX2_grind 79 = .ok (.isub, 1) := by decide +kernel
theorem dX2_grind_80 : decode cX2_grind 80 = .ok (.invokestatic 222, 3) := by decide +kernel
theorem dX2_grind_83 : decode cX2_grind 83 = .ok (.istore 7, 2) := by decide +kernel
theorem dX2_grind_85 : decode cX2_grind 85 = .ok (.iload 7, 2) := by decide +kernel
theorem dX2_grind_87 : decode cX2_grind 87 = .ok (.ifCond .le 15, 3) := by decide +kernel
theorem dX2_grind_90 : decode cX2_grind 90 = .ok (.aload_n 1, 1) := by decide +kernel
theorem dX2_grind_91 : decode cX2_grind 91 = .ok (.iload_n 3, 1) := by decide +kernel
theorem dX2_grind_92 : decode cX2_grind 92 = .ok (.iload 7, 2) := by decide +kernel
theorem dX2_grind_94 : decode cX2_grind 94 = .ok (.invokevirtual 227, 3) := by decide +kernel
theorem dX2_grind_97 : decode cX2_grind 97 = .ok (.aload_n 1, 1) := by decide +kernel
theorem dX2_grind_98 : decode cX2_grind 98 = .ok (.iload_n 3, 1) := by decide +kernel
theorem dX2_grind_99 : decode cX2_grind 99 = .ok (.putfield 229, 3) := by decide +kernel
theorem dX2_grind_102 : decode cX2_grind 102 = .ok (.return_, 1) := by decide +kernel
theorem dX2_giveBack_0 : decode cX2_giveBack 0 = .ok (.aload_n 0, 1) := by decide +kernel
theorem dX2_giveBack_1 : decode cX2_giveBack 1 = .ok (.getfield 26, 3) := by decide +kernel
theorem dX2_giveBack_4 : decode cX2_giveBack 4 = .ok (.ifCond .eq 41, 3) := by decide +kernel
theorem dX2_giveBack_7 : decode cX2_giveBack 7 = .ok (.aload_n 0, 1) := by decide +kernel
theorem dX2_giveBack_8 : decode cX2_giveBack 8 = .ok (.getfield 38, 3) := by decide +kernel
theorem dX2_giveBack_11 : decode cX2_giveBack 11 = .ok (.getfield 232, 3) := by decide +kernel
theorem dX2_giveBack_14 : decode cX2_giveBack 14 = .ok (.aload_n 1, 1) := by decide +kernel
theorem dX2_giveBack_15 : decode cX2_giveBack 15 = .ok (.getfield 229, 3) := by decide +kernel
theorem dX2_giveBack_18 : decode cX2_giveBack 18 = .ok (.invokevirtual 120, 3) := by decide +kernel
theorem dX2_giveBack_21 : decode cX2_giveBack 21 = .ok (.ifCond .eq 24, 3) := by decide +kernel
theorem dX2_giveBack_24 : decode cX2_giveBack 24 = .ok (.aload_n 1, 1) := by decide +kernel
theorem dX2_giveBack_25 : decode cX2_giveBack 25 = .ok (.getfield 219, 3) := by decide +kernel
theorem dX2_giveBack_28 : decode cX2_giveBack 28 = .ok (.aload_n 1, 1) := by decide +kernel
theorem dX2_giveBack_29 : decode cX2_giveBack 29 = .ok (.getfield 229, 3) := by decide +kernel
theorem dX2_giveBack_32 : decode cX2_giveBack 32 = .ok (.iaload, 1) := by decide +kernel
theorem dX2_giveBack_33 : decode cX2_giveBack 33 = .ok (.ifCond .le 12, 3) := by decide +kernel
theorem dX2_giveBack_36 : decode cX2_giveBack 36 = .ok (.aload_n 1, 1) := by decide +kernel
theorem dX2_giveBack_37 : decode cX2_giveBack 37 = .ok (.aload_n 1, 1) := by decide +kernel
theorem dX2_giveBack_38 : decode cX2_giveBack 38 = .ok (.getfield 229, 3) := by decide +kernel
theorem dX2_giveBack_41 : decode cX2_giveBack 41 = .ok (.iconst (-1), 1) := by decide +kernel
theorem dX2_giveBack_42 : decode cX2_giveBack 42 = .ok (.invokevirtual 227, 3) := by decide +kernel
theorem dX2_giveBack_45 : decode cX2_giveBack 45 = .ok (.return_, 1) := by decide +kernel
theorem dX2_grainAt_0 : decode cX2_grainAt 0 = .ok (.iconst 0, 1) := by decide +kernel
theorem dX2_grainAt_1 : decode cX2_grainAt 1 = .ok (.istore_n 3, 1) := by decide +kernel
theorem dX2_grainAt_2 : decode cX2_grainAt 2 = .ok (.iload_n 3, 1) := by decide +kernel
theorem dX2_grainAt_3 : decode cX2_grainAt 3 = .ok (.aload_n 0, 1) := by decide +kernel
theorem dX2_grainAt_4 : decode cX2_grainAt 4 = .ok (.getfield 38, 3) := by decide +kernel
theorem dX2_grainAt_7 : decode cX2_grainAt 7 = .ok (.getfield 232, 3) := by decide +kernel
theorem dX2_grainAt_10 : decode cX2_grainAt 10 = .ok (.getfield 88, 3) := by decide +kernel
theorem dX2_grainAt_13 : decode cX2_grainAt 13 = .ok (.if_icmp .ge 68, 3) := by decide +kernel
theorem dX2_grainAt_16 : decode cX2_grainAt 16 = .ok (.iload_n 2, 1) := by decide +kernel
theorem dX2_grainAt_17 : decode cX2_grainAt 17 = .ok (.ifCond .le 64, 3) := by decide +kernel
theorem dX2_grainAt_20 : decode cX2_grainAt 20 = .ok (.aload_n 1, 1) := by decide +kernel
theorem dX2_grainAt_21 : decode cX2_grainAt 21 = .ok (.getfield 219, 3) := by decide +kernel
theorem dX2_grainAt_24 : decode cX2_grainAt 24 = .ok (.iload_n 3, 1) := by decide +kernel
theorem dX2_grainAt_25 : decode cX2_grainAt 25 = .ok (.iaload, 1) := by decide +kernel
theorem dX2_grainAt_26 : decode cX2_grainAt 26 = .ok (.aload_n 0, 1) := by decide +kernel
theorem dX2_grainAt_27 : decode cX2_grainAt 27 = .ok (.getfield 38, 3) := by decide +kernel
theorem dX2_grainAt_30 : decode cX2_grainAt 30 = .ok (.iload_n 3, 1) := by decide +kernel
theorem dX2_grainAt_31 : decode cX2_grainAt 31 = .ok (.invokevirtual 216, 3) := by decide +kernel
theorem dX2_grainAt_34 : decode cX2_grainAt 34 = .ok (.if_icmp .ge 7, 3) := by decide +kernel
theorem dX2_grainAt_37 : decode cX2_grainAt 37 = .ok (.iconst 1, 1) := by decide +kernel
theorem dX2_grainAt_38 : decode cX2_grainAt 38 = .ok (.goto 4, 3) := by decide +kernel
theorem dX2_grainAt_41 : decode cX2_grainAt 41 = .ok (.iconst 0, 1) := by decide +kernel
theorem dX2_grainAt_42 : decode cX2_grainAt 42 = .ok (.istore 4, 2) := by decide +kernel
theorem dX2_grainAt_44 : decode cX2_grainAt 44 = .ok (.iload 4, 2) := by decide +kernel
theorem dX2_grainAt_46 : decode cX2_grainAt 46 = .ok (.ifCond .eq 29, 3) := by decide +kernel
theorem dX2_grainAt_49 : decode cX2_grainAt 49 = .ok (.aload_n 0, 1) := by decide +kernel
theorem dX2_grainAt_50 : decode cX2_grainAt 50 = .ok (.getfield 38, 3) := by decide +kernel
theorem dX2_grainAt_53 : decode cX2_grainAt 53 = .ok (.iload_n 3, 1) := by decide +kernel
theorem dX2_grainAt_54 : decode cX2_grainAt 54 = .ok (.invokevirtual 235, 3) := by decide +kernel
theorem dX2_grainAt_57 : decode cX2_grainAt 57 = .ok (.iload_n 2, 1) := by decide +kernel
theorem dX2_grainAt_58 : decode cX2_grainAt 58 = .ok (.if_icmp .gt 17, 3) := by decide +kernel
theorem dX2_grainAt_61 : decode cX2_grainAt 61 = .ok (.aload_n 0, 1) := by decide +kernel
theorem dX2_grainAt_62 : decode cX2_grainAt 62 = .ok (.getfield 38, 3) := by decide +kernel
theorem dX2_grainAt_65 : decode cX2_grainAt 65 = .ok (.iload_n 3, 1) := by decide +kernel
theorem dX2_grainAt_66 : decode cX2_grainAt 66 = .ok (.invokevirtual 238, 3) := by decide +kernel
theorem dX2_grainAt_69 : decode cX2_grainAt 69 = .ok (.iload_n 2, 1) := by decide +kernel
theorem dX2_grainAt_70 : decode cX2_grainAt 70 = .ok (.if_icmp .lt 5, 3) := by decide +kernel
theorem dX2_grainAt_73 : decode cX2_grainAt 73 = .ok (.iload_n 3, 1) := by decide +kernel
theorem dX2_grainAt_74 : decode cX2_grainAt 74 = .ok (.ireturn, 1) := by decide +kernel
theorem dX2_grainAt_75 : decode cX2_grainAt 75 = .ok (.iinc 3 1, 3) := by decide +kernel
theorem dX2_grainAt_78 : decode cX2_grainAt 78 = .ok (.goto (-76), 3) := by decide +kernel
theorem dX2_grainAt_81 : decode cX2_grainAt 81 = .ok (.iconst (-1), 1) := by decide +kernel
theorem dX2_grainAt_82 : decode cX2_grainAt 82 = .ok (.ireturn, 1) := by decide +kernel
theorem dX3_clear_0 : decode cX3_clear 0 = .ok (.aload_n 0, 1) := by decide +kernel
theorem dX3_clear_1 : decode cX3_clear 1 = .ok (.iconst 0, 1) := by decide +kernel
theorem dX3_clear_2 : decode cX3_clear 2 = .ok (.putfield 28, 3) := by decide +kernel
theorem dX3_clear_5 : decode cX3_clear 5 = .ok (.aload_n 0, 1) := by decide +kernel
theorem dX3_clear_6 : decode cX3_clear 6 = .ok (.iconst (-1), 1) := by decide +kernel
theorem dX3_clear_7 : decode cX3_clear 7 = .ok (.putfield 32, 3) := by decide +kernel
theorem dX3_clear_10 : decode cX3_clear 10 = .ok (.return_, 1) := by decide +kernel
theorem dX3_isFull_0 : decode cX3_isFull 0 = .ok (.aload_n 0, 1) := by decide +kernel
theorem dX3_isFull_1 : decode cX3_isFull 1 = .ok (.getfield 28, 3) := by decide +kernel
theorem dX3_isFull_4 : decode cX3_isFull 4 = .ok (.bipush 24, 2) := by decide +kernel
theorem dX3_isFull_6 : decode cX3_isFull 6 = .ok (.if_icmp .lt 7, 3) := by decide +kernel
theorem dX3_isFull_9 : decode cX3_isFull 9 = .ok (.iconst 1, 1) := by decide +kernel
theorem dX3_isFull_10 : decode cX3_isFull 10 = .ok (.goto 4, 3) := by decide +kernel
theorem dX3_isFull_13 : decode cX3_isFull 13 = .ok (.iconst 0, 1) := by decide +kernel
theorem dX3_isFull_14 : decode cX3_isFull 14 = .ok (.ireturn, 1) := by decide +kernel
theorem dX3_counted_0 : decode cX3_counted 0 = .ok (.aload_n 0, 1) := by decide +kernel
theorem dX3_counted_1 : decode cX3_counted 1 = .ok (.getfield 32, 3) := by decide +kernel
theorem dX3_counted_4 : decode cX3_counted 4 = .ok (.iconst (-1), 1) := by decide +kernel
theorem dX3_counted_5 : decode cX3_counted 5 = .ok (.if_icmp .ne 10, 3) := by decide +kernel
theorem dX3_counted_8 : decode cX3_counted 8 = .ok (.aload_n 0, 1) := by decide +kernel
theorem dX3_counted_9 : decode cX3_counted 9 = .ok (.getfield 28, 3) := by decide +kernel
theorem dX3_counted_12 : decode cX3_counted 12 = .ok (.goto 7, 3) := by decide +kernel
theorem dX3_counted_15 : decode cX3_counted 15 = .ok (.aload_n 0, 1) := by decide +kernel
theorem dX3_counted_16 : decode cX3_counted 16 = .ok (.getfield 32, 3) := by decide +kernel
theorem dX3_counted_19 : decode cX3_counted 19 = .ok (.ireturn, 1) := by decide +kernel
theorem dX3_addSight_0 : decode cX3_addSight 0 = .ok (.aload_n 0, 1) := by decide +kernel
theorem dX3_addSight_1 : decode cX3_addSight 1 = .ok (.getfield 11, 3) := by decide +kernel
theorem dX3_addSight_4 : decode cX3_addSight 4 = .ok (.aload_n 0, 1) := by decide +kernel
theorem dX3_addSight_5 : decode cX3_addSight 5 = .ok (.getfield 28, 3) := by decide +kernel
theorem dX3_addSight_8 : decode cX3_addSight 8 = .ok (.iload_n 1, 1) := by decide +kernel
theorem dX3_addSight_9 : decode cX3_addSight 9 = .ok (.iastore, 1) := by decide +kernel
theorem dX3_addSight_10 : decode cX3_addSight 10 = .ok (.aload_n 0, 1) := by decide +kernel
theorem dX3_addSight_11 : decode cX3_addSight 11 = .ok (.getfield 15, 3) := by decide +kernel
theorem dX3_addSight_14 : decode cX3_addSight 14 = .ok (.aload_n 0, 1) := by decide +kernel
theorem dX3_addSight_15 : decode cX3_addSight 15 = .ok (.getfield 28, 3) := by decide +kernel
theorem dX3_addSight_18 : decode cX3_addSight 18 = .ok (.iload_n 2, 1) := by decide +kernel
theorem dX3_addSight_19 : decode cX3_addSight 19 = .ok (.iastore, 1) := by decide +kernel
theorem dX3_addSight_20 : decode cX3_addSight 20 = .ok (.aload_n 0, 1) := by decide +kernel
theorem dX3_addSight_21 : decode cX3_addSight 21 = .ok (.getfield 18, 3) := by decide +kernel
theorem dX3_addSight_24 : decode cX3_addSight 24 = .ok (.aload_n 0, 1) := by decide +kernel
theorem dX3_addSight_25 : decode cX3_addSight 25 = .ok (.getfield 28, 3) := by decide +kernel
theorem dX3_addSight_28 : decode cX3_addSight 28 = .ok (.iload_n 3, 1) := by decide +kernel
theorem dX3_addSight_29 : decode cX3_addSight 29 = .ok (.bastore, 1) := by decide +kernel
theorem dX3_addSight_30 : decode cX3_addSight 30 = .ok (.aload_n 0, 1) := by decide +kernel
theorem dX3_addSight_31 : decode cX3_addSight 31 = .ok (.getfield 22, 3) := by decide +kernel
theorem dX3_addSight_34 : decode cX3_addSight 34 = .ok (.aload_n 0, 1) := by decide +kernel
theorem dX3_addSight_35 : decode cX3_addSight 35 = .ok (.getfield 28, 3) := by decide +kernel
theorem dX3_addSight_38 : decode cX3_addSight 38 = .ok (.iconst (-1), 1) := by decide +kernel
theorem dX3_addSight_39 : decode cX3_addSight 39 = .ok (.iastore, 1) := by decide +kernel
theorem dX3_addSight_40 : decode cX3_addSight 40 = .ok (.aload_n 0, 1) := by decide +kernel
theorem dX3_addSight_41 : decode cX3_addSight 41 = .ok (.dup, 1) := by decide +kernel
theorem dX3_addSight_42 : decode cX3_addSight 42 = .ok (.getfield 28, 3) := by decide +kernel
theorem dX3_addSight_45 : decode cX3_addSight 45 = .ok (.iconst 1, 1) := by decide +kernel
theorem dX3_addSight_46 : decode cX3_addSight 46 = .ok (.iadd, 1) := by decide +kernel
theorem dX3_addSight_47 : decode cX3_addSight 47 = .ok (.putfield 28, 3) := by decide +kernel
theorem dX3_addSight_50 : decode cX3_addSight 50 = .ok (.aload_n 0, 1) := by decide +kernel
theorem dX3_addSight_51 : decode cX3_addSight 51 = .ok (.getfield 28, 3) := by decide +kernel
theorem dX3_addSight_54 : decode cX3_addSight 54 = .ok (.iconst 1, 1) := by decide +kernel
theorem dX3_addSight_55 : decode cX3_addSight 55 = .ok (.isub, 1) := by decide +kernel
theorem dX3_addSight_56 : decode cX3_addSight 56 = .ok (.ireturn, 1) := by decide +kernel
theorem dX3_addStrike_0 : decode cX3_addStrike 0 = .ok (.aload_n 0, 1) := by decide +kernel
theorem dX3_addStrike_1 : decode cX3_addStrike 1 = .ok (.getfield 11, 3) := by decide +kernel
theorem dX3_addStrike_4 : decode cX3_addStrike 4 = .ok (.aload_n 0, 1) := by decide +kernel
theorem dX3_addStrike_5 : decode cX3_addStrike 5 = .ok (.getfield 28, 3) := by decide +kernel
theorem dX3_addStrike_8 : decode cX3_addStrike 8 = .ok (.iconst 0, 1) := by decide +kernel
theorem dX3_addStrike_9 : decode cX3_addStrike 9 = .ok (.iastore, 1) := by decide +kernel
theorem dX3_addStrike_10 : decode cX3_addStrike 10 = .ok (.aload_n 0, 1) := by decide +kernel
theorem dX3_addStrike_11 : decode cX3_addStrike 11 = .ok (.getfield 15, 3) := by decide +kernel
theorem dX3_addStrike_14 : decode cX3_addStrike 14 = .ok (.aload_n 0, 1) := by decide +kernel
theorem dX3_addStrike_15 : decode cX3_addStrike 15 = .ok (.getfield 28, 3) := by decide +kernel
theorem dX3_addStrike_18 : decode cX3_addStrike 18 = .ok (.iconst 0, 1) := by decide +kernel
theorem dX3_addStrike_19 : decode cX3_addStrike 19 = .ok (.iastore, 1) := by decide +kernel
theorem dX3_addStrike_20 : decode cX3_addStrike 20 = .ok (.aload_n 0, 1) := by decide +kernel
theorem dX3_addStrike_21 : decode cX3_addStrike 21 = .ok (.getfield 18, 3) := by decide +kernel
theorem dX3_addStrike_24 : decode cX3_addStrike 24 = .ok (.aload_n 0, 1) := by decide +kernel
theorem dX3_addStrike_25 : decode cX3_addStrike 25 = .ok (.getfield 28, 3) := by decide +kernel
theorem dX3_addStrike_28 : decode cX3_addStrike 28 = .ok (.iconst 0, 1) := by decide +kernel
theorem dX3_addStrike_29 : decode cX3_addStrike 29 = .ok (.bastore, 1) := by decide +kernel
theorem dX3_addStrike_30 : decode cX3_addStrike 30 = .ok (.aload_n 0, 1) := by decide +kernel
theorem dX3_addStrike_31 : decode cX3_addStrike 31 = .ok (.getfield 22, 3) := by decide +kernel
theorem dX3_addStrike_34 : decode cX3_addStrike 34 = .ok (.aload_n 0, 1) := by decide +kernel
theorem dX3_addStrike_35 : decode cX3_addStrike 35 = .ok (.getfield 28, 3) := by decide +kernel
theorem dX3_addStrike_38 : decode cX3_addStrike 38 = .ok (.iload_n 1, 1) := by decide +kernel
theorem dX3_addStrike_39 : decode cX3_addStrike 39 = .ok (.iastore, 1) := by decide +kernel
theorem dX3_addStrike_40 : decode cX3_addStrike 40 = .ok (.aload_n 0, 1) := by decide +kernel
theorem dX3_addStrike_41 : decode cX3_addStrike 41 = .ok (.dup, 1) := by decide +kernel
theorem dX3_addStrike_42 : decode cX3_addStrike 42 = .ok (.getfield 28, 3) := by decide +kernel
theorem dX3_addStrike_45 : decode cX3_addStrike 45 = .ok (.iconst 1, 1) := by decide +kernel
theorem dX3_addStrike_46 : decode cX3_addStrike 46 = .ok (.iadd, 1) := by decide +kernel
theorem dX3_addStrike_47 : decode cX3_addStrike 47 = .ok (.putfield 28, 3) := by decide +kernel
theorem dX3_addStrike_50 : decode cX3_addStrike 50 = .ok (.aload_n 0, 1) := by decide +kernel
theorem dX3_addStrike_51 : decode cX3_addStrike 51 = .ok (.getfield 28, 3) := by decide +kernel
theorem dX3_addStrike_54 : decode cX3_addStrike 54 = .ok (.iconst 1, 1) := by decide +kernel
theorem dX3_addStrike_55 : decode cX3_addStrike 55 = .ok (.isub, 1) := by decide +kernel
theorem dX3_addStrike_56 : decode cX3_addStrike 56 = .ok (.ireturn, 1) := by decide +kernel
theorem dX3_weigh_0 : decode cX3_weigh 0 = .ok (.iconst 0, 1) := by decide +kernel
theorem dX3_weigh_1 : decode cX3_weigh 1 = .ok (.istore_n 1, 1) := by decide +kernel
theorem dX3_weigh_2 : decode cX3_weigh 2 = .ok (.iload_n 1, 1) := by decide +kernel
theorem dX3_weigh_3 : decode cX3_weigh 3 = .ok (.bipush 24, 2) := by decide +kernel
theorem dX3_weigh_5 : decode cX3_weigh 5 = .ok (.if_icmp .ge 16, 3) := by decide +kernel
theorem dX3_weigh_8 : decode cX3_weigh 8 = .ok (.aload_n 0, 1) := by decide +kernel
theorem dX3_weigh_9 : decode cX3_weigh 9 = .ok (.getfield 25, 3) := by decide +kernel
theorem dX3_weigh_12 : decode cX3_weigh 12 = .ok (.iload_n 1, 1) := by decide +kernel
theorem dX3_weigh_13 : decode cX3_weigh 13 = .ok (.iconst 0, 1) := by decide +kernel
theorem dX3_weigh_14 : decode cX3_weigh 14 = .ok (.bastore, 1) := by decide +kernel
theorem dX3_weigh_15 : decode cX3_weigh 15 = .ok (.iinc 1 1, 3) := by decide +kernel
theorem dX3_weigh_18 : decode cX3_weigh 18 = .ok (.goto (-16), 3) := by decide +kernel
theorem dX3_weigh_21 : decode cX3_weigh 21 = .ok (.aload_n 0, 1) := by decide +kernel
theorem dX3_weigh_22 : decode cX3_weigh 22 = .ok (.invokevirtual 35, 3) := by decide +kernel
theorem dX3_weigh_25 : decode cX3_weigh 25 = .ok (.iconst 1, 1) := by decide +kernel
theorem dX3_weigh_26 : decode cX3_weigh 26 = .ok (.isub, 1) := by decide +kernel
theorem dX3_weigh_27 : decode cX3_weigh 27 = .ok (.istore_n 1, 1) := by decide +kernel
theorem dX3_weigh_28 : decode cX3_weigh 28 = .ok (.iload_n 1, 1) := by decide +kernel
theorem dX3_weigh_29 : decode cX3_weigh 29 = .ok (.ifCond .lt 40, 3) := by decide +kernel
theorem dX3_weigh_32 : decode cX3_weigh 32 = .ok (.aload_n 0, 1) := by decide +kernel
theorem dX3_weigh_33 : decode cX3_weigh 33 = .ok (.getfield 25, 3) := by decide +kernel
theorem dX3_weigh_36 : decode cX3_weigh 36 = .ok (.iload_n 1, 1) := by decide +kernel
theorem dX3_weigh_37 : decode cX3_weigh 37 = .ok (.baload, 1) := by decide +kernel
theorem dX3_weigh_38 : decode cX3_weigh 38 = .ok (.ifCond .ne 25, 3) := by decide +kernel
theorem dX3_weigh_41 : decode cX3_weigh 41 = .ok (.aload_n 0, 1) := by decide +kernel
theorem dX3_weigh_42 : decode cX3_weigh 42 = .ok (.getfield 22, 3) := by decide +kernel
theorem dX3_weigh_45 : decode cX3_weigh 45 = .ok (.iload_n 1, 1) := by decide +kernel
theorem dX3_weigh_46 : decode cX3_weigh 46 = .ok (.iaload, 1) := by decide +kernel
theorem dX3_weigh_47 : decode cX3_weigh 47 = .ok (.iconst (-1), 1) := by decide +kernel
theorem dX3_weigh_48 : decode cX3_weigh 48 = .ok (.if_icmp .eq 15, 3) := by decide +kernel
theorem dX3_weigh_51 : decode cX3_weigh 51 = .ok (.aload_n 0, 1) := by decide +kernel
theorem dX3_weigh_52 : decode cX3_weigh 52 = .ok (.getfield 25, 3) := by decide +kernel
theorem dX3_weigh_55 : decode cX3_weigh 55 = .ok (.aload_n 0, 1) := by decide +kernel
theorem dX3_weigh_56 : decode cX3_weigh 56 = .ok (.getfield 22, 3) := by decide +kernel
theorem dX3_weigh_59 : decode cX3_weigh 59 = .ok (.iload_n 1, 1) := by decide +kernel
theorem dX3_weigh_60 : decode cX3_weigh 60 = .ok (.iaload, 1) := by decide +kernel
theorem dX3_weigh_61 : decode cX3_weigh 61 = .ok (.iconst 1, 1) := by decide +kernel
theorem dX3_weigh_62 : decode cX3_weigh 62 = .ok (.bastore, 1) := by decide +kernel
theorem dX3_weigh_63 : decode cX3_weigh 63 = .ok (.iinc 1 (-1), 3) := by decide +kernel
theorem dX3_weigh_66 : decode cX3_weigh 66 = .ok (.goto (-38), 3) := by decide +kernel
theorem dX3_weigh_69 : decode cX3_weigh 69 = .ok (.return_, 1) := by decide +kernel
theorem dX3_agree_0 : decode cX3_agree 0 = .ok (.iconst 0, 1) := by decide +kernel
theorem dX3_agree_1 : decode cX3_agree 1 = .ok (.istore_n 3, 1) := by decide +kernel
theorem dX3_agree_2 : decode cX3_agree 2 = .ok (.iload_n 3, 1) := by decide +kernel
theorem dX3_agree_3 : decode cX3_agree 3 = .ok (.aload_n 0, 1) := by decide +kernel
theorem dX3_agree_4 : decode cX3_agree 4 = .ok (.invokevirtual 35, 3) := by decide +kernel
theorem dX3_agree_7 : decode cX3_agree 7 = .ok (.if_icmp .ge 97, 3) := by decide +kernel
theorem dX3_agree_10 : decode cX3_agree 10 = .ok (.iload_n 2, 1) := by decide +kernel
theorem dX3_agree_11 : decode cX3_agree 11 = .ok (.aload_n 0, 1) := by decide +kernel
theorem dX3_agree_12 : decode cX3_agree 12 = .ok (.getfield 11, 3) := by decide +kernel
theorem dX3_agree_15 : decode cX3_agree 15 = .ok (.iload_n 3, 1) := by decide +kernel
theorem dX3_agree_16 : decode cX3_agree 16 = .ok (.iaload, 1) := by decide +kernel
theorem dX3_agree_17 : decode cX3_agree 17 = .ok (.iadd, 1) := by decide +kernel
theorem dX3_agree_18 : decode cX3_agree 18 = .ok (.iconst 1, 1) := by decide +kernel
theorem dX3_agree_19 : decode cX3_agree 19 = .ok (.isub, 1) := by decide +kernel
theorem dX3_agree_20 : decode cX3_agree 20 = .ok (.istore 4, 2) := by decide +kernel
theorem dX3_agree_22 : decode cX3_agree 22 = .ok (.aload_n 0, 1) := by decide +kernel
theorem dX3_agree_23 : decode cX3_agree 23 = .ok (.getfield 22, 3) := by decide +kernel
theorem dX3_agree_26 : decode cX3_agree 26 = .ok (.iload_n 3, 1) := by decide +kernel
theorem dX3_agree_27 : decode cX3_agree 27 = .ok (.iaload, 1) := by decide +kernel
theorem dX3_agree_28 : decode cX3_agree 28 = .ok (.iconst (-1), 1) := by decide +kernel
theorem dX3_agree_29 : decode cX3_agree 29 = .ok (.if_icmp .ne 16, 3) := by decide +kernel
theorem dX3_agree_32 : decode cX3_agree 32 = .ok (.aload_n 0, 1) := by decide +kernel
theorem dX3_agree_33 : decode cX3_agree 33 = .ok (.getfield 25, 3) := by decide +kernel
theorem dX3_agree_36 : decode cX3_agree 36 = .ok (.iload_n 3, 1) := by decide +kernel
theorem dX3_agree_37 : decode cX3_agree 37 = .ok (.baload, 1) := by decide +kernel
theorem dX3_agree_38 : decode cX3_agree 38 = .ok (.ifCond .ne 7, 3) := by decide +kernel
theorem dX3_agree_41 : decode cX3_agree 41 = .ok (.iconst 1, 1) := by decide +kernel
theorem dX3_agree_42 : decode cX3_agree 42 = .ok (.goto 4, 3) := by decide +kernel
theorem dX3_agree_45 : decode cX3_agree 45 = .ok (.iconst 0, 1) := by decide +kernel
theorem dX3_agree_46 : decode cX3_agree 46 = .ok (.istore 5, 2) := by decide +kernel
theorem dX3_agree_48 : decode cX3_agree 48 = .ok (.iload 5, 2) := by decide +kernel
theorem dX3_agree_50 : decode cX3_agree 50 = .ok (.ifCond .eq 48, 3) := by decide +kernel
theorem dX3_agree_53 : decode cX3_agree 53 = .ok (.iload 4, 2) := by decide +kernel
theorem dX3_agree_55 : decode cX3_agree 55 = .ok (.ifCond .lt 43, 3) := by decide +kernel
theorem dX3_agree_58 : decode cX3_agree 58 = .ok (.iload 4, 2) := by decide +kernel
theorem dX3_agree_60 : decode cX3_agree 60 = .ok (.aload_n 1, 1) := by decide +kernel
theorem dX3_agree_61 : decode cX3_agree 61 = .ok (.arraylength, 1) := by decide +kernel
theorem dX3_agree_62 : decode cX3_agree 62 = .ok (.if_icmp .ge 36, 3) := by decide +kernel
theorem dX3_agree_65 : decode cX3_agree 65 = .ok (.aload_n 1, 1) := by decide +kernel
theorem dX3_agree_66 : decode cX3_agree 66 = .ok (.iload 4, 2) := by decide +kernel
theorem dX3_agree_68 : decode cX3_agree 68 = .ok (.iaload, 1) := by decide +kernel
theorem dX3_agree_69 : decode cX3_agree 69 = .ok (.aload_n 0, 1) := by decide +kernel
theorem dX3_agree_70 : decode cX3_agree 70 = .ok (.getfield 15, 3) := by decide +kernel
theorem dX3_agree_73 : decode cX3_agree 73 = .ok (.iload_n 3, 1) := by decide +kernel
theorem dX3_agree_74 : decode cX3_agree 74 = .ok (.iaload, 1) := by decide +kernel
theorem dX3_agree_75 : decode cX3_agree 75 = .ok (.if_icmp .lt 7, 3) := by decide +kernel
theorem dX3_agree_78 : decode cX3_agree 78 = .ok (.iconst 1, 1) := by decide +kernel
theorem dX3_agree_79 : decode cX3_agree 79 = .ok (.goto 4, 3) := by decide +kernel
theorem dX3_agree_82 : decode cX3_agree 82 = .ok (.iconst 0, 1) := by decide +kernel
theorem dX3_agree_83 : decode cX3_agree 83 = .ok (.istore 6, 2) := by decide +kernel
theorem dX3_agree_85 : decode cX3_agree 85 = .ok (.iload 6, 2) := by decide +kernel
theorem dX3_agree_87 : decode cX3_agree 87 = .ok (.aload_n 0, 1) := by decide +kernel
theorem dX3_agree_88 : decode cX3_agree 88 = .ok (.getfield 18, 3) := by decide +kernel
theorem dX3_agree_91 : decode cX3_agree 91 = .ok (.iload_n 3, 1) := by decide +kernel
theorem dX3_agree_92 : decode cX3_agree 92 = .ok (.baload, 1) := by decide +kernel
theorem dX3_agree_93 : decode cX3_agree 93 = .ok (.if_icmp .eq 5, 3) := by decide +kernel
theorem dX3_agree_96 : decode cX3_agree 96 = .ok (.iconst 0, 1) := by decide +kernel
theorem dX3_agree_97 : decode cX3_agree 97 = .ok (.ireturn, 1) := by decide +kernel
theorem dX3_agree_98 : decode cX3_agree 98 = .ok (.iinc 3 1, 3) := by decide +kernel
theorem dX3_agree_101 : decode cX3_agree 101 = .ok (.goto (-99), 3) := by decide +kernel
theorem dX3_agree_104 : decode cX3_agree 104 = .ok (.iconst 1, 1) := by decide +kernel
theorem dX3_agree_105 : decode cX3_agree 105 = .ok (.ireturn, 1) := by decide +kernel
theorem dX4_begin_0 : decode cX4_begin 0 = .ok (.aload_n 0, 1) := by decide +kernel
theorem dX4_begin_1 : decode cX4_begin 1 = .ok (.iload_n 1, 1) := by decide +kernel
theorem dX4_begin_2 : decode cX4_begin 2 = .ok (.bipush 6, 2) := by decide +kernel
theorem dX4_begin_4 : decode cX4_begin 4 = .ok (.invokestatic 25, 3) := by decide +kernel
theorem dX4_begin_7 : decode cX4_begin 7 = .ok (.putfield 18, 3) := by decide +kernel
theorem dX4_begin_10 : decode cX4_begin 10 = .ok (.aload_n 0, 1) := by decide +kernel
theorem dX4_begin_11 : decode cX4_begin 11 = .ok (.iconst 1, 1) := by decide +kernel
theorem dX4_begin_12 : decode cX4_begin 12 = .ok (.putfield 22, 3) := by decide +kernel
theorem dX4_begin_15 : decode cX4_begin 15 = .ok (.iconst 0, 1) := by decide +kernel
theorem dX4_begin_16 : decode cX4_begin 16 = .ok (.istore_n 2, 1) := by decide +kernel
theorem dX4_begin_17 : decode cX4_begin 17 = .ok (.iload_n 2, 1) := by decide +kernel
theorem dX4_begin_18 : decode cX4_begin 18 = .ok (.aload_n 0, 1) := by decide +kernel
theorem dX4_begin_19 : decode cX4_begin 19 = .ok (.getfield 18, 3) := by decide +kernel
theorem dX4_begin_22 : decode cX4_begin 22 = .ok (.if_icmp .ge 35, 3) := by decide +kernel
theorem dX4_begin_25 : decode cX4_begin 25 = .ok (.aload_n 0, 1) := by decide +kernel
theorem dX4_begin_26 : decode cX4_begin 26 = .ok (.getfield 9, 3) := by decide +kernel
theorem dX4_begin_29 : decode cX4_begin 29 = .ok (.iload_n 2, 1) := by decide +kernel
theorem dX4_begin_30 : decode cX4_begin 30 = .ok (.iload_n 2, 1) := by decide +kernel
theorem dX4_begin_31 : decode cX4_begin 31 = .ok (.iastore, 1) := by decide +kernel
theorem dX4_begin_32 : decode cX4_begin 32 = .ok (.aload_n 0, 1) := by decide +kernel
theorem dX4_begin_33 : decode cX4_begin 33 = .ok (.getfield 15, 3) := by decide +kernel
theorem dX4_begin_36 : decode cX4_begin 36 = .ok (.iload_n 2, 1) := by decide +kernel
theorem dX4_begin_37 : decode cX4_begin 37 = .ok (.iload_n 2, 1) := by decide +kernel
theorem dX4_begin_38 : decode cX4_begin 38 = .ok (.iastore, 1) := by decide +kernel
theorem dX4_begin_39 : decode cX4_begin 39 = .ok (.aload_n 0, 1) := by decide +kernel
theorem dX4_begin_40 : decode cX4_begin 40 = .ok (.dup, 1) := by decide +kernel
theorem dX4_begin_41 : decode cX4_begin 41 = .ok (.getfield 22, 3) := by decide +kernel
theorem dX4_begin_44 : decode cX4_begin 44 = .ok (.iload_n 2, 1) := by decide +kernel
theorem dX4_begin_45 : decode cX4_begin 45 = .ok (.iconst 1, 1) := by decide +kernel
theorem dX4_begin_46 : decode cX4_begin 46 = .ok (.iadd, 1) := by decide +kernel
theorem dX4_begin_47 : decode cX4_begin 47 = .ok (.imul, 1) := by decide +kernel
theorem dX4_begin_48 : decode cX4_begin 48 = .ok (.putfield 22, 3) := by decide +kernel
theorem dX4_begin_51 : decode cX4_begin 51 = .ok (.iinc 2 1, 3) := by decide +kernel
theorem dX4_begin_54 : decode cX4_begin 54 = .ok (.goto (-37), 3) := by decide +kernel
theorem dX4_begin_57 : decode cX4_begin 57 = .ok (.return_, 1) := by decide +kernel
theorem dX4_keepBest_0 : decode cX4_keepBest 0 = .ok (.iconst 0, 1) := by decide +kernel
theorem dX4_keepBest_1 : decode cX4_keepBest 1 = .ok (.istore_n 1, 1) := by decide +kernel
theorem dX4_keepBest_2 : decode cX4_keepBest 2 = .ok (.iload_n 1, 1) := by decide +kernel
theorem dX4_keepBest_3 : decode cX4_keepBest 3 = .ok (.aload_n 0, 1) := by decide +kernel
theorem dX4_keepBest_4 : decode cX4_keepBest 4 = .ok (.getfield 18, 3) := by decide +kernel
theorem dX4_keepBest_7 : decode cX4_keepBest 7 = .ok (.if_icmp .ge 21, 3) := by decide +kernel
theorem dX4_keepBest_10 : decode cX4_keepBest 10 = .ok (.aload_n 0, 1) := by decide +kernel
theorem dX4_keepBest_11 : decode cX4_keepBest 11 = .ok (.getfield 15, 3) := by decide +kernel
theorem dX4_keepBest_14 : decode cX4_keepBest 14 = .ok (.iload_n 1, 1) := by decide +kernel
theorem dX4_keepBest_15 : decode cX4_keepBest 15 = .ok (.aload_n 0, 1) := by decide +kernel
theorem dX4_keepBest_16 : decode cX4_keepBest 16 = .ok (.getfield 9, 3) := by decide +kernel
theorem dX4_keepBest_19 : decode cX4_keepBest 19 = .ok (.iload_n 1, 1) := by decide +kernel
theorem dX4_keepBest_20 : decode cX4_keepBest 20 = .ok (.iaload, 1) := by decide +kernel
theorem dX4_keepBest_21 : decode cX4_keepBest 21 = .ok (.iastore, 1) := by decide +kernel
theorem dX4_keepBest_22 : decode cX4_keepBest 22 = .ok (.iinc 1 1, 3) := by decide +kernel
theorem dX4_keepBest_25 : decode cX4_keepBest 25 = .ok (.goto (-23), 3) := by decide +kernel
theorem dX4_keepBest_28 : decode cX4_keepBest 28 = .ok (.return_, 1) := by decide +kernel
theorem dX4_turnToNext_0 : decode cX4_turnToNext 0 = .ok (.aload_n 0, 1) := by decide +kernel
theorem dX4_turnToNext_1 : decode cX4_turnToNext 1 = .ok (.getfield 18, 3) := by decide +kernel
theorem dX4_turnToNext_4 : decode cX4_turnToNext 4 = .ok (.iconst 2, 1) := by decide +kernel
theorem dX4_turnToNext_5 : decode cX4_turnToNext 5 = .ok (.isub, 1) := by decide +kernel
theorem dX4_turnToNext_6 : decode cX4_turnToNext 6 = .ok (.istore_n 1, 1) := by decide +kernel
theorem dX4_turnToNext_7 : decode cX4_turnToNext 7 = .ok (.iload_n 1, 1) := by decide +kernel
theorem dX4_turnToNext_8 : decode cX4_turnToNext 8 = .ok (.ifCond .lt 26, 3) := by decide +kernel
theorem dX4_turnToNext_11 : decode cX4_turnToNext 11 = .ok (.aload_n 0, 1) := by decide +kernel
theorem dX4_turnToNext_12 : decode cX4_turnToNext 12 = .ok (.getfield 9, 3) := by decide +kernel
theorem dX4_turnToNext_15 : decode cX4_turnToNext 15 = .ok (.iload_n 1, 1) := by decide +kernel
theorem dX4_turnToNext_16 : decode cX4_turnToNext 16 = .ok (.iaload, 1) := by decide +kernel
theorem dX4_turnToNext_17 : decode cX4_turnToNext 17 = .ok (.aload_n 0, 1) := by decide +kernel
theorem dX4_turnToNext_18 : decode cX4_turnToNext 18 = .ok (.getfield 9, 3) := by decide +kernel
theorem dX4_turnToNext_21 : decode cX4_turnToNext 21 = .ok (.iload_n 1, 1) := by decide +kernel
theorem dX4_turnToNext_22 : decode cX4_turnToNext 22 = .ok (.iconst 1, 1) := by decide +kernel
theorem dX4_turnToNext_23 : decode cX4_turnToNext 23 = .ok (.iadd, 1) := by decide +kernel
theorem dX4_turnToNext_24 : decode cX4_turnToNext 24 = .ok (.iaload, 1) := by decide +kernel
theorem dX4_turnToNext_25 : decode cX4_turnToNext 25 = .ok (.if_icmp .le 9, 3) := by decide +kernel
theorem dX4_turnToNext_28 : decode cX4_turnToNext 28 = .ok (.iinc 1 (-1), 3) := by decide +kernel
theorem dX4_turnToNext_31 : decode cX4_turnToNext 31 = .ok (.goto (-24), 3) := by decide +kernel
theorem dX4_turnToNext_34 : decode cX4_turnToNext 34 = .ok (.iload_n 1, 1) := by decide +kernel
theorem dX4_turnToNext_35 : decode cX4_turnToNext 35 = .ok (.ifCond .ge 4, 3) := by decide +kernel
theorem dX4_turnToNext_38 : decode cX4_turnToNext 38 = .ok (.return_, 1) := by decide +kernel
theorem dX4_turnToNext_39 : decode cX4_turnToNext 39 = .ok (.aload_n 0, 1) := by decide +kernel
theorem dX4_turnToNext_40 : decode cX4_turnToNext 40 = .ok (.getfield 18, 3) := by decide +kernel
theorem dX4_turnToNext_43 : decode cX4_turnToNext 43 = .ok (.iconst 1, 1) := by decide +kernel
theorem dX4_turnToNext_44 : decode cX4_turnToNext 44 = .ok (.isub, 1) := by decide +kernel
theorem dX4_turnToNext_45 : decode cX4_turnToNext 45 = .ok (.istore_n 2, 1) := by decide +kernel
theorem dX4_turnToNext_46 : decode cX4_turnToNext 46 = .ok (.iload_n 2, 1) := by decide +kernel
theorem dX4_turnToNext_47 : decode cX4_turnToNext 47 = .ok (.iload_n 1, 1) := by decide +kernel
theorem dX4_turnToNext_48 : decode cX4_turnToNext 48 = .ok (.if_icmp .le 24, 3) := by decide +kernel
theorem dX4_turnToNext_51 : decode cX4_turnToNext 51 = .ok (.aload_n 0, 1) := by decide +kernel
theorem dX4_turnToNext_52 : decode cX4_turnToNext 52 = .ok (.getfield 9, 3) := by decide +kernel
theorem dX4_turnToNext_55 : decode cX4_turnToNext 55 = .ok (.iload_n 2, 1) := by decide +kernel
theorem dX4_turnToNext_56 : decode cX4_turnToNext 56 = .ok (.iaload, 1) := by decide +kernel
theorem dX4_turnToNext_57 : decode cX4_turnToNext 57 = .ok (.aload_n 0, 1) := by decide +kernel
theorem dX4_turnToNext_58 : decode cX4_turnToNext 58 = .ok (.getfield 9, 3) := by decide +kernel
theorem dX4_turnToNext_61 : decode cX4_turnToNext 61 = .ok (.iload_n 1, 1) := by decide +kernel
theorem dX4_turnToNext_62 : decode cX4_turnToNext 62 = .ok (.iaload, 1) := by decide +kernel
theorem dX4_turnToNext_63 : decode cX4_turnToNext 63 = .ok (.if_icmp .ge 9, 3) := by decide +kernel
theorem dX4_turnToNext_66 : decode cX4_turnToNext 66 = .ok (.iinc 2 (-1), 3) := by decide +kernel
theorem dX4_turnToNext_69 : decode cX4_turnToNext 69 = .ok (.goto (-23), 3) := by decide +kernel
theorem dX4_turnToNext_72 : decode cX4_turnToNext 72 = .ok (.aload_n 0, 1) := by decide +kernel
theorem dX4_turnToNext_73 : decode cX4_turnToNext 73 = .ok (.iload_n 1, 1) := by decide +kernel
theorem dX4_turnToNext_74 : decode cX4_turnToNext 74 = .ok (.iload_n 2, 1) := by decide +kernel
theorem dX4_turnToNext_75 : decode cX4_turnToNext 75 = .ok (.invokevirtual 31, 3) := by decide +kernel
theorem dX4_turnToNext_78 : decode cX4_turnToNext 78 = .ok (.iload_n 1, 1) := by decide +kernel
theorem dX4_turnToNext_79 : decode cX4_turnToNext 79 = .ok (.iconst 1, 1) := by decide +kernel
theorem dX4_turnToNext_80 : decode cX4_turnToNext 80 = .ok (.iadd, 1) := by decide +kernel
theorem dX4_turnToNext_81 : decode cX4_turnToNext 81 = .ok (.istore_n 3, 1) := by decide +kernel
theorem dX4_turnToNext_82 : decode cX4_turnToNext 82 = .ok (.aload_n 0, 1) := by decide +kernel
theorem dX4_turnToNext_83 : decode cX4_turnToNext 83 = .ok (.getfield 18, 3) := by decide +kernel
theorem dX4_turnToNext_86 : decode cX4_turnToNext 86 = .ok (.iconst 1, 1) := by decide +kernel
theorem dX4_turnToNext_87 : decode cX4_turnToNext 87 = .ok (.isub, 1) := by decide +kernel
theorem dX4_turnToNext_88 : decode cX4_turnToNext 88 = .ok (.istore 4, 2) := by decide +kernel
theorem dX4_turnToNext_90 : decode cX4_turnToNext 90 = .ok (.iload_n 3, 1) := by decide +kernel
theorem dX4_turnToNext_91 : decode cX4_turnToNext 91 = .ok (.iload 4, 2) := by decide +kernel
theorem dX4_turnToNext_93 : decode cX4_turnToNext 93 = .ok (.if_icmp .ge 19, 3) := by decide +kernel
theorem dX4_turnToNext_96 : decode cX4_turnToNext 96 = .ok (.aload_n 0, 1) := by decide +kernel
theorem dX4_turnToNext_97 : decode cX4_turnToNext 97 = .ok (.iload_n 3, 1) := by decide +kernel
theorem dX4_turnToNext_98 : decode cX4_turnToNext 98 = .ok (.iload 4, 2) := by decide +kernel
theorem dX4_turnToNext_100 : decode cX4_turnToNext 100 = .ok (.invokevirtual 31, 3) := by decide +kernel
theorem dX4_turnToNext_103 : decode cX4_turnToNext 103 = .ok (.iinc 3 1, 3) := by decide +kernel
theorem dX4_turnToNext_106 : decode cX4_turnToNext 106 = .ok (.iinc 4 (-1), 3) := by decide +kernel
theorem dX4_turnToNext_109 : decode cX4_turnToNext 109 = .ok (.goto (-19), 3) := by decide +kernel
theorem dX4_turnToNext_112 : decode cX4_turnToNext 112 = .ok (.return_, 1) := by decide +kernel
theorem dX4_swap_0 : decode cX4_swap 0 = .ok (.aload_n 0, 1) := by decide +kernel
theorem dX4_swap_1 : decode cX4_swap 1 = .ok (.getfield 9, 3) := by decide +kernel
theorem dX4_swap_4 : decode cX4_swap 4 = .ok (.iload_n 1, 1) := by decide +kernel
theorem dX4_swap_5 : decode cX4_swap 5 = .ok (.iaload, 1) := by decide +kernel
theorem dX4_swap_6 : decode cX4_swap 6 = .ok (.istore_n 3, 1) := by decide +kernel
theorem dX4_swap_7 : decode cX4_swap 7 = .ok (.aload_n 0, 1) := by decide +kernel
theorem dX4_swap_8 : decode cX4_swap 8 = .ok (.getfield 9, 3) := by decide +kernel
theorem dX4_swap_11 : decode cX4_swap 11 = .ok (.iload_n 1, 1) := by decide +kernel
theorem dX4_swap_12 : decode cX4_swap 12 = .ok (.aload_n 0, 1) := by decide +kernel
theorem dX4_swap_13 : decode cX4_swap 13 = .ok (.getfield 9, 3) := by decide +kernel
theorem dX4_swap_16 : decode cX4_swap 16 = .ok (.iload_n 2, 1) := by decide +kernel
theorem dX4_swap_17 : decode cX4_swap 17 = .ok (.iaload, 1) := by decide +kernel
theorem dX4_swap_18 : decode cX4_swap 18 = .ok (.iastore, 1) := by decide +kernel
theorem dX4_swap_19 : decode cX4_swap 19 = .ok (.aload_n 0, 1) := by decide +kernel
theorem dX4_swap_20 : decode cX4_swap 20 = .ok (.getfield 9, 3) := by decide +kernel
theorem dX4_swap_23 : decode cX4_swap 23 = .ok (.iload_n 2, 1) := by decide +kernel
theorem dX4_swap_24 : decode cX4_swap 24 = .ok (.iload_n 3, 1) := by decide +kernel
theorem dX4_swap_25 : decode cX4_swap 25 = .ok (.iastore, 1) := by decide +kernel
theorem dX4_swap_26 : decode cX4_swap 26 = .ok (.return_, 1) := by decide +kernel
theorem dX5_readInto_0 : decode cX5_readInto 0 = .ok (.aload_n 0, 1) := by decide +kernel
theorem dX5_readInto_1 : decode cX5_readInto 1 = .ok (.aload_n 1, 1) := by decide +kernel
theorem dX5_readInto_2 : decode cX5_readInto 2 = .ok (.putfield 31, 3) := by decide +kernel
theorem dX5_readInto_5 : decode cX5_readInto 5 = .ok (.aload_n 0, 1) := by decide +kernel
theorem dX5_readInto_6 : decode cX5_readInto 6 = .ok (.iconst 0, 1) := by decide +kernel
theorem dX5_readInto_7 : decode cX5_readInto 7 = .ok (.putfield 15, 3) := by decide +kernel
theorem dX5_readInto_10 : decode cX5_readInto 10 = .ok (.aload_n 0, 1) := by decide +kernel
theorem dX5_readInto_11 : decode cX5_readInto 11 = .ok (.iconst 0, 1) := by decide +kernel
theorem dX5_readInto_12 : decode cX5_readInto 12 = .ok (.putfield 19, 3) := by decide +kernel
theorem dX5_readInto_15 : decode cX5_readInto 15 = .ok (.aload_n 0, 1) := by decide +kernel
theorem dX5_readInto_16 : decode cX5_readInto 16 = .ok (.iconst 0, 1) := by decide +kernel
theorem dX5_readInto_17 : decode cX5_readInto 17 = .ok (.putfield 22, 3) := by decide +kernel
theorem dX5_readInto_20 : decode cX5_readInto 20 = .ok (.aload_n 0, 1) := by decide +kernel
theorem dX5_readInto_21 : decode cX5_readInto 21 = .ok (.iload_n 3, 1) := by decide +kernel
theorem dX5_readInto_22 : decode cX5_readInto 22 = .ok (.putfield 25, 3) := by decide +kernel
theorem dX5_readInto_25 : decode cX5_readInto 25 = .ok (.aload_n 0, 1) := by decide +kernel
theorem dX5_readInto_26 : decode cX5_readInto 26 = .ok (.iconst 0, 1) := by decide +kernel
theorem dX5_readInto_27 : decode cX5_readInto 27 = .ok (.putfield 28, 3) := by decide +kernel
theorem dX5_readInto_30 : decode cX5_readInto 30 = .ok (.iconst 1, 1) := by decide +kernel
theorem dX5_readInto_31 : decode cX5_readInto 31 = .ok (.istore 4, 2) := by decide +kernel
theorem dX5_readInto_33 : decode cX5_readInto 33 = .ok (.iconst 0, 1) := by decide +kernel
theorem dX5_readInto_34 : decode cX5_readInto 34 = .ok (.istore 5, 2) := by decide +kernel
theorem dX5_readInto_36 : decode cX5_readInto 36 = .ok (.iload 5, 2) := by decide +kernel
theorem dX5_readInto_38 : decode cX5_readInto 38 = .ok (.aload_n 2, 1) := by decide +kernel
theorem dX5_readInto_39 : decode cX5_readInto 39 = .ok (.getfield 35, 3) := by decide +kernel
theorem dX5_readInto_42 : decode cX5_readInto 42 = .ok (.if_icmp .gt 69, 3) := by decide +kernel
theorem dX5_readInto_45 : decode cX5_readInto 45 = .ok (.iload 4, 2) := by decide +kernel
theorem dX5_readInto_47 : decode cX5_readInto 47 = .ok (.ifCond .ne 22, 3) := by decide +kernel
theorem dX5_readInto_50 : decode cX5_readInto 50 = .ok (.aload_n 0, 1) := by decide +kernel
theorem dX5_readInto_51 : decode cX5_readInto 51 = .ok (.getfield 19, 3) := by decide +kernel
theorem dX5_readInto_54 : decode cX5_readInto 54 = .ok (.ifCond .ne 15, 3) := by decide +kernel
theorem dX5_readInto_57 : decode cX5_readInto 57 = .ok (.aload_n 2, 1) := by decide +kernel
theorem dX5_readInto_58 : decode cX5_readInto 58 = .ok (.getfield 40, 3) := by decide +kernel
theorem dX5_readInto_61 : decode cX5_readInto 61 = .ok (.bipush 7, 2) := by decide +kernel
theorem dX5_readInto_63 : decode cX5_readInto 63 = .ok (.if_icmp .ne 6, 3) := by decide +kernel
theorem dX5_readInto_66 : decode cX5_readInto 66 = .ok (.goto 45, 3) := by decide +kernel
theorem dX5_readInto_69 : decode cX5_readInto 69 = .ok (.iload 4, 2) := by decide +kernel
theorem dX5_readInto_71 : decode cX5_readInto 71 = .ok (.ifCond .eq 11, 3) := by decide +kernel
theorem dX5_readInto_74 : decode cX5_readInto 74 = .ok (.aload_n 0, 1) := by decide +kernel
theorem dX5_readInto_75 : decode cX5_readInto 75 = .ok (.aload_n 2, 1) := by decide +kernel
theorem dX5_readInto_76 : decode cX5_readInto 76 = .ok (.invokevirtual 43, 3) := by decide +kernel
theorem dX5_readInto_79 : decode cX5_readInto 79 = .ok (.goto 8, 3) := by decide +kernel
theorem dX5_readInto_82 : decode cX5_readInto 82 = .ok (.aload_n 0, 1) := by decide +kernel
theorem dX5_readInto_83 : decode cX5_readInto 83 = .ok (.aload_n 2, 1) := by decide +kernel
theorem dX5_readInto_84 : decode cX5_readInto 84 = .ok (.invokevirtual 47, 3) := by decide +kernel
theorem dX5_readInto_87 : decode cX5_readInto 87 = .ok (.istore 4, 2) := by decide +kernel
theorem dX5_readInto_89 : decode cX5_readInto 89 = .ok (.aload_n 0, 1) := by decide +kernel
theorem dX5_readInto_90 : decode cX5_readInto 90 = .ok (.getfield 28, 3) := by decide +kernel
theorem dX5_readInto_93 : decode cX5_readInto 93 = .ok (.ifCond .eq 8, 3) := by decide +kernel
theorem dX5_readInto_96 : decode cX5_readInto 96 = .ok (.aload_n 0, 1) := by decide +kernel
theorem dX5_readInto_97 : decode cX5_readInto 97 = .ok (.getfield 28, 3) := by decide +kernel
theorem dX5_readInto_100 : decode cX5_readInto 100 = .ok (.ireturn, 1) := by decide +kernel
theorem dX5_readInto_101 : decode cX5_readInto 101 = .ok (.aload_n 2, 1) := by decide +kernel
theorem dX5_readInto_102 : decode cX5_readInto 102 = .ok (.invokevirtual 50, 3) := by decide +kernel
theorem dX5_readInto_105 : decode cX5_readInto 105 = .ok (.iinc 5 1, 3) := by decide +kernel
theorem dX5_readInto_108 : decode cX5_readInto 108 = .ok (.goto (-72), 3) := by decide +kernel
theorem dX5_readInto_111 : decode cX5_readInto 111 = .ok (.aload_n 0, 1) := by decide +kernel
theorem dX5_readInto_112 : decode cX5_readInto 112 = .ok (.iconst 1, 1) := by decide +kernel
theorem dX5_readInto_113 : decode cX5_readInto 113 = .ok (.invokevirtual 53, 3) := by decide +kernel
theorem dX5_readInto_116 : decode cX5_readInto 116 = .ok (.iconst 0, 1) := by decide +kernel
theorem dX5_readInto_117 : decode cX5_readInto 117 = .ok (.ireturn, 1) := by decide +kernel
theorem dX5_takePart_0 : decode cX5_takePart 0 = .ok (.aload_n 1, 1) := by decide +kernel
theorem dX5_takePart_1 : decode cX5_takePart 1 = .ok (.getfield 40, 3) := by decide +kernel
theorem dX5_takePart_4 : decode cX5_takePart 4 = .ok (.tableswitch 84 1 5 #[36, 75, 84, 84, 69], 36) := by decide +kernel
theorem dX5_takePart_40 : decode cX5_takePart 40 = .ok (.aload_n 0, 1) := by decide +kernel
theorem dX5_takePart_41 : decode cX5_takePart 41 = .ok (.aload_n 1, 1) := by decide +kernel
theorem dX5_takePart_42 : decode cX5_takePart 42 = .ok (.getfield 57, 3) := by decide +kernel
theorem dX5_takePart_45 : decode cX5_takePart 45 = .ok (.sipush 9999, 3) := by decide +kernel
theorem dX5_takePart_48 : decode cX5_takePart 48 = .ok (.if_icmp .gt 7, 3) := by decide +kernel
theorem dX5_takePart_51 : decode cX5_takePart 51 = .ok (.iconst 1, 1) := by decide +kernel
theorem dX5_takePart_52 : decode cX5_takePart 52 = .ok (.goto 4, 3) := by decide +kernel
theorem dX5_takePart_55 : decode cX5_takePart 55 = .ok (.iconst 0, 1) := by decide +kernel
theorem dX5_takePart_56 : decode cX5_takePart 56 = .ok (.invokevirtual 60, 3) := by decide +kernel
theorem dX5_takePart_59 : decode cX5_takePart 59 = .ok (.aload_n 0, 1) := by decide +kernel
theorem dX5_takePart_60 : decode cX5_takePart 60 = .ok (.getfield 31, 3) := by decide +kernel
theorem dX5_takePart_63 : decode cX5_takePart 63 = .ok (.iconst 0, 1) := by decide +kernel
theorem dX5_takePart_64 : decode cX5_takePart 64 = .ok (.aload_n 1, 1) := by decide +kernel
theorem dX5_takePart_65 : decode cX5_takePart 65 = .ok (.getfield 57, 3) := by decide +kernel
theorem dX5_takePart_68 : decode cX5_takePart 68 = .ok (.invokevirtual 66, 3) := by decide +kernel
theorem dX5_takePart_71 : decode cX5_takePart 71 = .ok (.iconst 0, 1) := by decide +kernel
theorem dX5_takePart_72 : decode cX5_takePart 72 = .ok (.ireturn, 1) := by decide +kernel
theorem dX5_takePart_73 : decode cX5_takePart 73 = .ok (.aload_n 0, 1) := by decide +kernel
theorem dX5_takePart_74 : decode cX5_takePart 74 = .ok (.invokevirtual 70, 3) := by decide +kernel
theorem dX5_takePart_77 : decode cX5_takePart 77 = .ok (.iconst 1, 1) := by decide +kernel
theorem dX5_takePart_78 : decode cX5_takePart 78 = .ok (.ireturn, 1) := by decide +kernel
theorem dX5_takePart_79 : decode cX5_takePart 79 = .ok (.aload_n 0, 1) := by decide +kernel
theorem dX5_takePart_80 : decode cX5_takePart 80 = .ok (.aload_n 1, 1) := by decide +kernel
theorem dX5_takePart_81 : decode cX5_takePart 81 = .ok (.getfield 57, 3) := by decide +kernel
theorem dX5_takePart_84 : decode cX5_takePart 84 = .ok (.invokevirtual 73, 3) := by decide +kernel
theorem dX5_takePart_87 : decode cX5_takePart 87 = .ok (.ireturn, 1) := by decide +kernel
theorem dX5_takePart_88 : decode cX5_takePart 88 = .ok (.aload_n 0, 1) := by decide +kernel
theorem dX5_takePart_89 : decode cX5_takePart 89 = .ok (.iconst 1, 1) := by decide +kernel
theorem dX5_takePart_90 : decode cX5_takePart 90 = .ok (.putfield 28, 3) := by decide +kernel
theorem dX5_takePart_93 : decode cX5_takePart 93 = .ok (.iconst 1, 1) := by decide +kernel
theorem dX5_takePart_94 : decode cX5_takePart 94 = .ok (.ireturn, 1) := by decide +kernel
theorem dX5_takeWord_0 : decode cX5_takeWord 0 = .ok (.iload_n 1, 1) := by decide +kernel
theorem dX5_takeWord_1 : decode cX5_takeWord 1 = .ok (.bipush 13, 2) := by decide +kernel
theorem dX5_takeWord_3 : decode cX5_takeWord 3 = .ok (.if_icmp .lt 22, 3) := by decide +kernel
theorem dX5_takeWord_6 : decode cX5_takeWord 6 = .ok (.aload_n 0, 1) := by decide +kernel
theorem dX5_takeWord_7 : decode cX5_takeWord 7 = .ok (.iconst 1, 1) := by decide +kernel
theorem dX5_takeWord_8 : decode cX5_takeWord 8 = .ok (.invokevirtual 60, 3) := by decide +kernel
theorem dX5_takeWord_11 : decode cX5_takeWord 11 = .ok (.aload_n 0, 1) := by decide +kernel
theorem dX5_takeWord_12 : decode cX5_takeWord 12 = .ok (.getfield 31, 3) := by decide +kernel
theorem dX5_takeWord_15 : decode cX5_takeWord 15 = .ok (.iconst 1, 1) := by decide +kernel
theorem dX5_takeWord_16 : decode cX5_takeWord 16 = .ok (.iload_n 1, 1) := by decide +kernel
theorem dX5_takeWord_17 : decode cX5_takeWord 17 = .ok (.bipush 13, 2) := by decide +kernel
theorem dX5_takeWord_19 : decode cX5_takeWord 19 = .ok (.isub, 1) := by decide +kernel
theorem dX5_takeWord_20 : decode cX5_takeWord 20 = .ok (.invokevirtual 66, 3) := by decide +kernel
theorem dX5_takeWord_23 : decode cX5_takeWord 23 = .ok (.iconst 0, 1) := by decide +kernel
theorem dX5_takeWord_24 : decode cX5_takeWord 24 = .ok (.ireturn, 1) := by decide +kernel
theorem dX5_takeWord_25 : decode cX5_takeWord 25 = .ok (.iload_n 1, 1) := by decide +kernel
theorem dX5_takeWord_26 : decode cX5_takeWord 26 = .ok (.bipush 12, 2) := by decide +kernel
theorem dX5_takeWord_28 : decode cX5_takeWord 28 = .ok (.if_icmp .ne 24, 3) := by decide +kernel
theorem dX5_takeWord_31 : decode cX5_takeWord 31 = .ok (.aload_n 0, 1) := by decide +kernel
theorem dX5_takeWord_32 : decode cX5_takeWord 32 = .ok (.invokevirtual 79, 3) := by decide +kernel
theorem dX5_takeWord_35 : decode cX5_takeWord 35 = .ok (.iconst 3, 1) := by decide +kernel
theorem dX5_takeWord_36 : decode cX5_takeWord 36 = .ok (.if_icmp .gt 16, 3) := by decide +kernel
theorem dX5_takeWord_39 : decode cX5_takeWord 39 = .ok (.aload_n 0, 1) := by decide +kernel
theorem dX5_takeWord_40 : decode cX5_takeWord 40 = .ok (.iconst 1, 1) := by decide +kernel
theorem dX5_takeWord_41 : decode cX5_takeWord 41 = .ok (.invokevirtual 60, 3) := by decide +kernel
theorem dX5_takeWord_44 : decode cX5_takeWord 44 = .ok (.aload_n 0, 1) := by decide +kernel
theorem dX5_takeWord_45 : decode cX5_takeWord 45 = .ok (.iconst 2, 1) := by decide +kernel
theorem dX5_takeWord_46 : decode cX5_takeWord 46 = .ok (.invokevirtual 83, 3) := by decide +kernel
theorem dX5_takeWord_49 : decode cX5_takeWord 49 = .ok (.goto 8, 3) := by decide +kernel
theorem dX5_takeWord_52 : decode cX5_takeWord 52 = .ok (.aload_n 0, 1) := by decide +kernel
theorem dX5_takeWord_53 : decode cX5_takeWord 53 = .ok (.iconst 1, 1) := by decide +kernel
theorem dX5_takeWord_54 : decode cX5_takeWord 54 = .ok (.putfield 28, 3) := by decide +kernel
theorem dX5_takeWord_57 : decode cX5_takeWord 57 = .ok (.iconst 1, 1) := by decide +kernel
theorem dX5_takeWord_58 : decode cX5_takeWord 58 = .ok (.ireturn, 1) := by decide +kernel
theorem dX5_takeBracket_0 : decode cX5_takeBracket 0 = .ok (.aload_n 0, 1) := by decide +kernel
theorem dX5_takeBracket_1 : decode cX5_takeBracket 1 = .ok (.getfield 19, 3) := by decide +kernel
theorem dX5_takeBracket_4 : decode cX5_takeBracket 4 = .ok (.bipush 8, 2) := by decide +kernel
theorem dX5_takeBracket_6 : decode cX5_takeBracket 6 = .ok (.if_icmp .lt 11, 3) := by decide +kernel
theorem dX5_takeBracket_9 : decode cX5_takeBracket 9 = .ok (.aload_n 0, 1) := by decide +kernel
theorem dX5_takeBracket_10 : decode cX5_takeBracket 10 = .ok (.iconst 2, 1) := by decide +kernel
theorem dX5_takeBracket_11 : decode cX5_takeBracket 11 = .ok (.putfield 28, 3) := by decide +kernel
theorem dX5_takeBracket_14 : decode cX5_takeBracket 14 = .ok (.goto 19, 3) := by decide +kernel
theorem dX5_takeBracket_17 : decode cX5_takeBracket 17 = .ok (.aload_n 0, 1) := by decide +kernel
theorem dX5_takeBracket_18 : decode cX5_takeBracket 18 = .ok (.dup, 1) := by decide +kernel
theorem dX5_takeBracket_19 : decode cX5_takeBracket 19 = .ok (.getfield 19, 3) := by decide +kernel
theorem dX5_takeBracket_22 : decode cX5_takeBracket 22 = .ok (.iconst 1, 1) := by decide +kernel
theorem dX5_takeBracket_23 : decode cX5_takeBracket 23 = .ok (.iadd, 1) := by decide +kernel
theorem dX5_takeBracket_24 : decode cX5_takeBracket 24 = .ok (.putfield 19, 3) := by decide +kernel
theorem dX5_takeBracket_27 : decode cX5_takeBracket 27 = .ok (.aload_n 0, 1) := by decide +kernel
theorem dX5_takeBracket_28 : decode cX5_takeBracket 28 = .ok (.bipush 15, 2) := by decide +kernel
theorem dX5_takeBracket_30 : decode cX5_takeBracket 30 = .ok (.invokevirtual 83, 3) := by decide +kernel
theorem dX5_takeBracket_33 : decode cX5_takeBracket 33 = .ok (.return_, 1) := by decide +kernel
theorem dX5_takeJoint_0 : decode cX5_takeJoint 0 = .ok (.aload_n 1, 1) := by decide +kernel
theorem dX5_takeJoint_1 : decode cX5_takeJoint 1 = .ok (.getfield 40, 3) := by decide +kernel
theorem dX5_takeJoint_4 : decode cX5_takeJoint 4 = .ok (.bipush 6, 2) := by decide +kernel
theorem dX5_takeJoint_6 : decode cX5_takeJoint 6 = .ok (.if_icmp .ne 37, 3) := by decide +kernel
theorem dX5_takeJoint_9 : decode cX5_takeJoint 9 = .ok (.aload_n 0, 1) := by decide +kernel
theorem dX5_takeJoint_10 : decode cX5_takeJoint 10 = .ok (.getfield 19, 3) := by decide +kernel
theorem dX5_takeJoint_13 : decode cX5_takeJoint 13 = .ok (.ifCond .le 30, 3) := by decide +kernel
theorem dX5_takeJoint_16 : decode cX5_takeJoint 16 = .ok (.aload_n 0, 1) := by decide +kernel
theorem dX5_takeJoint_17 : decode cX5_takeJoint 17 = .ok (.iconst 1, 1) := by decide +kernel
theorem dX5_takeJoint_18 : decode cX5_takeJoint 18 = .ok (.invokevirtual 53, 3) := by decide +kernel
theorem dX5_takeJoint_21 : decode cX5_takeJoint 21 = .ok (.aload_n 0, 1) := by decide +kernel
theorem dX5_takeJoint_22 : decode cX5_takeJoint 22 = .ok (.dup, 1) := by decide +kernel
theorem dX5_takeJoint_23 : decode cX5_takeJoint 23 = .ok (.getfield 19, 3) := by decide +kernel
theorem dX5_takeJoint_26 : decode cX5_takeJoint 26 = .ok (.iconst 1, 1) := by decide +kernel
theorem dX5_takeJoint_27 : decode cX5_takeJoint 27 = .ok (.isub, 1) := by decide +kernel
theorem dX5_takeJoint_28 : decode cX5_takeJoint 28 = .ok (.putfield 19, 3) := by decide +kernel
theorem dX5_takeJoint_31 : decode cX5_takeJoint 31 = .ok (.aload_n 0, 1) := by decide +kernel
theorem dX5_takeJoint_32 : decode cX5_takeJoint 32 = .ok (.dup, 1) := by decide +kernel
theorem dX5_takeJoint_33 : decode cX5_takeJoint 33 = .ok (.getfield 15, 3) := by decide +kernel
theorem dX5_takeJoint_36 : decode cX5_takeJoint 36 = .ok (.iconst 1, 1) := by decide +kernel
theorem dX5_takeJoint_37 : decode cX5_takeJoint 37 = .ok (.isub, 1) := by decide +kernel
theorem dX5_takeJoint_38 : decode cX5_takeJoint 38 = .ok (.putfield 15, 3) := by decide +kernel
theorem dX5_takeJoint_41 : decode cX5_takeJoint 41 = .ok (.iconst 0, 1) := by decide +kernel
theorem dX5_takeJoint_42 : decode cX5_takeJoint 42 = .ok (.ireturn, 1) := by decide +kernel
theorem dX5_takeJoint_43 : decode cX5_takeJoint 43 = .ok (.aload_n 1, 1) := by decide +kernel
theorem dX5_takeJoint_44 : decode cX5_takeJoint 44 = .ok (.invokestatic 86, 3) := by decide +kernel
theorem dX5_takeJoint_47 : decode cX5_takeJoint 47 = .ok (.istore_n 2, 1) := by decide +kernel
theorem dX5_takeJoint_48 : decode cX5_takeJoint 48 = .ok (.iload_n 2, 1) := by decide +kernel
theorem dX5_takeJoint_49 : decode cX5_takeJoint 49 = .ok (.iconst (-1), 1) := by decide +kernel
theorem dX5_takeJoint_50 : decode cX5_takeJoint 50 = .ok (.if_icmp .ne 10, 3) := by decide +kernel
theorem dX5_takeJoint_53 : decode cX5_takeJoint 53 = .ok (.aload_n 0, 1) := by decide +kernel
theorem dX5_takeJoint_54 : decode cX5_takeJoint 54 = .ok (.iconst 1, 1) := by decide +kernel
theorem dX5_takeJoint_55 : decode cX5_takeJoint 55 = .ok (.putfield 28, 3) := by decide +kernel
theorem dX5_takeJoint_58 : decode cX5_takeJoint 58 = .ok (.iconst 1, 1) := by decide +kernel
theorem dX5_takeJoint_59 : decode cX5_takeJoint 59 = .ok (.ireturn, 1) := by decide +kernel
theorem dX5_takeJoint_60 : decode cX5_takeJoint 60 = .ok (.getstatic 90, 3) := by decide +kernel
theorem dX5_takeJoint_63 : decode cX5_takeJoint 63 = .ok (.iload_n 2, 1) := by decide +kernel
theorem dX5_takeJoint_64 : decode cX5_takeJoint 64 = .ok (.iaload, 1) := by decide +kernel
theorem dX5_takeJoint_65 : decode cX5_takeJoint 65 = .ok (.istore_n 3, 1) := by decide +kernel
theorem dX5_takeJoint_66 : decode cX5_takeJoint 66 = .ok (.aload_n 0, 1) := by decide +kernel
theorem dX5_takeJoint_67 : decode cX5_takeJoint 67 = .ok (.iload_n 3, 1) := by decide +kernel
theorem dX5_takeJoint_68 : decode cX5_takeJoint 68 = .ok (.iconst 4, 1) := by decide +kernel
theorem dX5_takeJoint_69 : decode cX5_takeJoint 69 = .ok (.if_icmp .ne 9, 3) := by decide +kernel
theorem dX5_takeJoint_72 : decode cX5_takeJoint 72 = .ok (.iload_n 3, 1) := by decide +kernel
theorem dX5_takeJoint_73 : decode cX5_takeJoint 73 = .ok (.iconst 1, 1) := by decide +kernel
theorem dX5_takeJoint_74 : decode cX5_takeJoint 74 = .ok (.iadd, 1) := by decide +kernel
theorem dX5_takeJoint_75 : decode cX5_takeJoint 75 = .ok (.goto 4, 3) := by decide +kernel
theorem dX5_takeJoint_78 : decode cX5_takeJoint 78 = .ok (.iload_n 3, 1) := by decide +kernel
theorem dX5_takeJoint_79 : decode cX5_takeJoint 79 = .ok (.invokevirtual 53, 3) := by decide +kernel
theorem dX5_takeJoint_82 : decode cX5_takeJoint 82 = .ok (.iload_n 3, 1) := by decide +kernel
theorem dX5_takeJoint_83 : decode cX5_takeJoint 83 = .ok (.iconst 4, 1) := by decide +kernel
theorem dX5_takeJoint_84 : decode cX5_takeJoint 84 = .ok (.if_icmp .ne 18, 3) := by decide +kernel
theorem dX5_takeJoint_87 : decode cX5_takeJoint 87 = .ok (.aload_n 0, 1) := by decide +kernel
theorem dX5_takeJoint_88 : decode cX5_takeJoint 88 = .ok (.invokevirtual 79, 3) := by decide +kernel
theorem dX5_takeJoint_91 : decode cX5_takeJoint 91 = .ok (.iconst 4, 1) := by decide +kernel
theorem dX5_takeJoint_92 : decode cX5_takeJoint 92 = .ok (.if_icmp .ne 10, 3) := by decide +kernel
theorem dX5_takeJoint_95 : decode cX5_takeJoint 95 = .ok (.aload_n 0, 1) := by decide +kernel
theorem dX5_takeJoint_96 : decode cX5_takeJoint 96 = .ok (.iconst 1, 1) := by decide +kernel
theorem dX5_takeJoint_97 : decode cX5_takeJoint 97 = .ok (.putfield 28, 3) := by decide +kernel
theorem dX5_takeJoint_100 : decode cX5_takeJoint 100 = .ok (.iconst 1, 1) := by decide +kernel
theorem dX5_takeJoint_101 : decode cX5_takeJoint 101 = .ok (.ireturn, 1) := by decide +kernel
theorem dX5_takeJoint_102 : decode cX5_takeJoint 102 = .ok (.aload_n 0, 1) := by decide +kernel
theorem dX5_takeJoint_103 : decode cX5_takeJoint 103 = .ok (.iconst 1, 1) := by decide +kernel
theorem dX5_takeJoint_104 : decode cX5_takeJoint 104 = .ok (.invokevirtual 60, 3) := by decide +kernel
theorem dX5_takeJoint_107 : decode cX5_takeJoint 107 = .ok (.aload_n 0, 1) := by decide +kernel
theorem dX5_takeJoint_108 : decode cX5_takeJoint 108 = .ok (.iload_n 2, 1) := by decide +kernel
theorem dX5_takeJoint_109 : decode cX5_takeJoint 109 = .ok (.invokevirtual 83, 3) := by decide +kernel
theorem dX5_takeJoint_112 : decode cX5_takeJoint 112 = .ok (.iconst 1, 1) := by decide +kernel
theorem dX5_takeJoint_113 : decode cX5_takeJoint 113 = .ok (.ireturn, 1) := by decide +kernel
theorem dX5_jointOf_0 : decode cX5_jointOf 0 = .ok (.aload_n 0, 1) := by decide +kernel
theorem dX5_jointOf_1 : decode cX5_jointOf 1 = .ok (.getfield 40, 3) := by decide +kernel
theorem dX5_jointOf_4 : decode cX5_jointOf 4 = .ok (.iconst 4, 1) := by decide +kernel
theorem dX5_jointOf_5 : decode cX5_jointOf 5 = .ok (.if_icmp .ne 8, 3) := by decide +kernel
theorem dX5_jointOf_8 : decode cX5_jointOf 8 = .ok (.aload_n 0, 1) := by decide +kernel
theorem dX5_jointOf_9 : decode cX5_jointOf 9 = .ok (.getfield 57, 3) := by decide +kernel
theorem dX5_jointOf_12 : decode cX5_jointOf 12 = .ok (.ireturn, 1) := by decide +kernel
theorem dX5_jointOf_13 : decode cX5_jointOf 13 = .ok (.aload_n 0, 1) := by decide +kernel
theorem dX5_jointOf_14 : decode cX5_jointOf 14 = .ok (.getfield 40, 3) := by decide +kernel
theorem dX5_jointOf_17 : decode cX5_jointOf 17 = .ok (.iconst 2, 1) := by decide +kernel
theorem dX5_jointOf_18 : decode cX5_jointOf 18 = .ok (.if_icmp .ne 14, 3) := by decide +kernel
theorem dX5_jointOf_21 : decode cX5_jointOf 21 = .ok (.aload_n 0, 1) := by decide +kernel
theorem dX5_jointOf_22 : decode cX5_jointOf 22 = .ok (.getfield 57, 3) := by decide +kernel
theorem dX5_jointOf_25 : decode cX5_jointOf 25 = .ok (.bipush 10, 2) := by decide +kernel
theorem dX5_jointOf_27 : decode cX5_jointOf 27 = .ok (.if_icmp .ne 5, 3) := by decide +kernel
theorem dX5_jointOf_30 : decode cX5_jointOf 30 = .ok (.iconst 3, 1) := by decide +kernel
theorem dX5_jointOf_31 : decode cX5_jointOf 31 = .ok (.ireturn, 1) := by decide +kernel
theorem dX5_jointOf_32 : decode cX5_jointOf 32 = .ok (.aload_n 0, 1) := by decide +kernel
theorem dX5_jointOf_33 : decode cX5_jointOf 33 = .ok (.getfield 40, 3) := by decide +kernel
theorem dX5_jointOf_36 : decode cX5_jointOf 36 = .ok (.iconst 2, 1) := by decide +kernel
theorem dX5_jointOf_37 : decode cX5_jointOf 37 = .ok (.if_icmp .ne 16, 3) := by decide +kernel
theorem dX5_jointOf_40 : decode cX5_jointOf 40 = .ok (.aload_n 0, 1) := by decide +kernel
theorem dX5_jointOf_41 : decode cX5_jointOf 41 = .ok (.getfield 57, 3) := by decide +kernel
theorem dX5_jointOf_44 : decode cX5_jointOf 44 = .ok (.bipush 11, 2) := by decide +kernel
theorem dX5_jointOf_46 : decode cX5_jointOf 46 = .ok (.if_icmp .ne 7, 3) := by decide +kernel
theorem dX5_jointOf_49 : decode cX5_jointOf 49 = .ok (.iconst 4, 1) := by decide +kernel
theorem dX5_jointOf_50 : decode cX5_jointOf 50 = .ok (.goto 4, 3) := by decide +kernel
theorem dX5_jointOf_53 : decode cX5_jointOf 53 = .ok (.iconst (-1), 1) := by decide +kernel
theorem dX5_jointOf_54 : decode cX5_jointOf 54 = .ok (.ireturn, 1) := by decide +kernel
theorem dX5_addKnot_0 : decode cX5_addKnot 0 = .ok (.aload_n 0, 1) := by decide +kernel
theorem dX5_addKnot_1 : decode cX5_addKnot 1 = .ok (.dup, 1) := by decide +kernel
theorem dX5_addKnot_2 : decode cX5_addKnot 2 = .ok (.getfield 22, 3) := by decide +kernel
theorem dX5_addKnot_5 : decode cX5_addKnot 5 = .ok (.iconst 1, 1) := by decide +kernel
theorem dX5_addKnot_6 : decode cX5_addKnot 6 = .ok (.iadd, 1) := by decide +kernel
theorem dX5_addKnot_7 : decode cX5_addKnot 7 = .ok (.putfield 22, 3) := by decide +kernel
theorem dX5_addKnot_10 : decode cX5_addKnot 10 = .ok (.aload_n 0, 1) := by decide +kernel
theorem dX5_addKnot_11 : decode cX5_addKnot 11 = .ok (.getfield 22, 3) := by decide +kernel
theorem dX5_addKnot_14 : decode cX5_addKnot 14 = .ok (.aload_n 0, 1) := by decide +kernel
theorem dX5_addKnot_15 : decode cX5_addKnot 15 = .ok (.getfield 25, 3) := by decide +kernel
theorem dX5_addKnot_18 : decode cX5_addKnot 18 = .ok (.if_icmp .gt 7, 3) := by decide +kernel
theorem dX5_addKnot_21 : decode cX5_addKnot 21 = .ok (.iload_n 1, 1) := by decide +kernel
theorem dX5_addKnot_22 : decode cX5_addKnot 22 = .ok (.ifCond .ne 8, 3) := by decide +kernel
theorem dX5_addKnot_25 : decode cX5_addKnot 25 = .ok (.aload_n 0, 1) := by decide +kernel
theorem dX5_addKnot_26 : decode cX5_addKnot 26 = .ok (.iconst 2, 1) := by decide +kernel
theorem dX5_addKnot_27 : decode cX5_addKnot 27 = .ok (.putfield 28, 3) := by decide +kernel
theorem dX5_addKnot_30 : decode cX5_addKnot 30 = .ok (.return_, 1) := by decide +kernel
theorem dX5_hold_0 : decode cX5_hold 0 = .ok (.aload_n 0, 1) := by decide +kernel
theorem dX5_hold_1 : decode cX5_hold 1 = .ok (.getfield 15, 3) := by decide +kernel
theorem dX5_hold_4 : decode cX5_hold 4 = .ok (.aload_n 0, 1) := by decide +kernel
theorem dX5_hold_5 : decode cX5_hold 5 = .ok (.getfield 11, 3) := by decide +kernel
theorem dX5_hold_8 : decode cX5_hold 8 = .ok (.arraylength, 1) := by decide +kernel
theorem dX5_hold_9 : decode cX5_hold 9 = .ok (.if_icmp .ge 23, 3) := by decide +kernel
theorem dX5_hold_12 : decode cX5_hold 12 = .ok (.aload_n 0, 1) := by decide +kernel
theorem dX5_hold_13 : decode cX5_hold 13 = .ok (.getfield 11, 3) := by decide +kernel
theorem dX5_hold_16 : decode cX5_hold 16 = .ok (.aload_n 0, 1) := by decide +kernel
theorem dX5_hold_17 : decode cX5_hold 17 = .ok (.getfield 15, 3) := by decide +kernel
theorem dX5_hold_20 : decode cX5_hold 20 = .ok (.iload_n 1, 1) := by decide +kernel
theorem dX5_hold_21 : decode cX5_hold 21 = .ok (.iastore, 1) := by decide +kernel
theorem dX5_hold_22 : decode cX5_hold 22 = .ok (.aload_n 0, 1) := by decide +kernel
theorem dX5_hold_23 : decode cX5_hold 23 = .ok (.dup, 1) := by decide +kernel
theorem dX5_hold_24 : decode cX5_hold 24 = .ok (.getfield 15, 3) := by decide +kernel
theorem dX5_hold_27 : decode cX5_hold 27 = .ok (.iconst 1, 1) := by decide +kernel
theorem dX5_hold_28 : decode cX5_hold 28 = .ok (.iadd, 1) := by decide +kernel
theorem dX5_hold_29 : decode cX5_hold 29 = .ok (.putfield 15, 3) := by decide +kernel
theorem dX5_hold_32 : decode cX5_hold 32 = .ok (.return_, 1) := by decide +kernel
theorem dX5_topRank_0 : decode cX5_topRank 0 = .ok (.aload_n 0, 1) := by decide +kernel
theorem dX5_topRank_1 : decode cX5_topRank 1 = .ok (.getfield 15, 3) := by decide +kernel
theorem dX5_topRank_4 : decode cX5_topRank 4 = .ok (.ifCond .le 21, 3) := by decide +kernel
theorem dX5_topRank_7 : decode cX5_topRank 7 = .ok (.getstatic 90, 3) := by decide +kernel
theorem dX5_topRank_10 : decode cX5_topRank 10 = .ok (.aload_n 0, 1) := by decide +kernel
theorem dX5_topRank_11 : decode cX5_topRank 11 = .ok (.getfield 11, 3) := by decide +kernel
theorem dX5_topRank_14 : decode cX5_topRank 14 = .ok (.aload_n 0, 1) := by decide +kernel
theorem dX5_topRank_15 : decode cX5_topRank 15 = .ok (.getfield 15, 3) := by decide +kernel
theorem dX5_topRank_18 : decode cX5_topRank 18 = .ok (.iconst 1, 1) := by decide +kernel
theorem dX5_topRank_19 : decode cX5_topRank 19 = .ok (.isub, 1) := by decide +kernel
theorem dX5_topRank_20 : decode cX5_topRank 20 = .ok (.iaload, 1) := by decide +kernel
theorem dX5_topRank_21 : decode cX5_topRank 21 = .ok (.iaload, 1) := by decide +kernel
theorem dX5_topRank_22 : decode cX5_topRank 22 = .ok (.goto 4, 3) := by decide +kernel
theorem dX5_topRank_25 : decode cX5_topRank 25 = .ok (.iconst 0, 1) := by decide +kernel
theorem dX5_topRank_26 : decode cX5_topRank 26 = .ok (.ireturn, 1) := by decide +kernel
theorem dX5_settle_0 : decode cX5_settle 0 = .ok (.aload_n 0, 1) := by decide +kernel
theorem dX5_settle_1 : decode cX5_settle 1 = .ok (.getfield 15, 3) := by decide +kernel
theorem dX5_settle_4 : decode cX5_settle 4 = .ok (.ifCond .le 41, 3) := by decide +kernel
theorem dX5_settle_7 : decode cX5_settle 7 = .ok (.aload_n 0, 1) := by decide +kernel
theorem dX5_settle_8 : decode cX5_settle 8 = .ok (.invokevirtual 79, 3) := by decide +kernel
theorem dX5_settle_11 : decode cX5_settle 11 = .ok (.iload_n 1, 1) := by decide +kernel
theorem dX5_settle_12 : decode cX5_settle 12 = .ok (.if_icmp .lt 33, 3) := by decide +kernel
theorem dX5_settle_15 : decode cX5_settle 15 = .ok (.aload_n 0, 1) := by decide +kernel
theorem dX5_settle_16 : decode cX5_settle 16 = .ok (.dup, 1) := by decide +kernel
theorem dX5_settle_17 : decode cX5_settle 17 = .ok (.getfield 15, 3) := by decide +kernel
theorem dX5_settle_20 : decode cX5_settle 20 = .ok (.iconst 1, 1) := by decide +kernel
theorem dX5_settle_21 : decode cX5_settle 21 = .ok (.isub, 1) := by decide +kernel
theorem dX5_settle_22 : decode cX5_settle 22 = .ok (.putfield 15, 3) := by decide +kernel
theorem dX5_settle_25 : decode cX5_settle 25 = .ok (.aload_n 0, 1) := by decide +kernel
theorem dX5_settle_26 : decode cX5_settle 26 = .ok (.getfield 31, 3) := by decide +kernel
theorem dX5_settle_29 : decode cX5_settle 29 = .ok (.aload_n 0, 1) := by decide +kernel
theorem dX5_settle_30 : decode cX5_settle 30 = .ok (.getfield 11, 3) := by decide +kernel
theorem dX5_settle_33 : decode cX5_settle 33 = .ok (.aload_n 0, 1) := by decide +kernel
theorem dX5_settle_34 : decode cX5_settle 34 = .ok (.getfield 15, 3) := by decide +kernel
theorem dX5_settle_37 : decode cX5_settle 37 = .ok (.iaload, 1) := by decide +kernel
theorem dX5_settle_38 : decode cX5_settle 38 = .ok (.iconst 0, 1) := by decide +kernel
theorem dX5_settle_39 : decode cX5_settle 39 = .ok (.invokevirtual 66, 3) := by decide +kernel
theorem dX5_settle_42 : decode cX5_settle 42 = .ok (.goto (-42), 3) := by decide +kernel
theorem dX5_settle_45 : decode cX5_settle 45 = .ok (.return_, 1) := by decide +kernel
theorem dX6_readAll_0 : decode cX6_readAll 0 = .ok (.aload_n 0, 1) := by decide +kernel
theorem dX6_readAll_1 : decode cX6_readAll 1 = .ok (.aload_n 3, 1) := by decide +kernel
theorem dX6_readAll_2 : decode cX6_readAll 2 = .ok (.putfield 25, 3) := by decide +kernel
theorem dX6_readAll_5 : decode cX6_readAll 5 = .ok (.aload_n 0, 1) := by decide +kernel
theorem dX6_readAll_6 : decode cX6_readAll 6 = .ok (.getfield 25, 3) := by decide +kernel
theorem dX6_readAll_9 : decode cX6_readAll 9 = .ok (.invokevirtual 44, 3) := by decide +kernel
theorem dX6_readAll_12 : decode cX6_readAll 12 = .ok (.aload_n 0, 1) := by decide +kernel
theorem dX6_readAll_13 : decode cX6_readAll 13 = .ok (.iconst 0, 1) := by decide +kernel
theorem dX6_readAll_14 : decode cX6_readAll 14 = .ok (.putfield 18, 3) := by decide +kernel
theorem dX6_readAll_17 : decode cX6_readAll 17 = .ok (.aload_n 0, 1) := by decide +kernel
theorem dX6_readAll_18 : decode cX6_readAll 18 = .ok (.iconst (-1), 1) := by decide +kernel
theorem dX6_readAll_19 : decode cX6_readAll 19 = .ok (.putfield 22, 3) := by decide +kernel
theorem dX6_readAll_22 : decode cX6_readAll 22 = .ok (.aload_n 0, 1) := by decide +kernel
theorem dX6_readAll_23 : decode cX6_readAll 23 = .ok (.getfield 12, 3) := by decide +kernel
theorem dX6_readAll_26 : decode cX6_readAll 26 = .ok (.aload_n 1, 1) := by decide +kernel
theorem dX6_readAll_27 : decode cX6_readAll 27 = .ok (.iload_n 2, 1) := by decide +kernel
theorem dX6_readAll_28 : decode cX6_readAll 28 = .ok (.invokevirtual 47, 3) := by decide +kernel
theorem dX6_readAll_31 : decode cX6_readAll 31 = .ok (.iconst 0, 1) := by decide +kernel
theorem dX6_readAll_32 : decode cX6_readAll 32 = .ok (.istore 4, 2) := by decide +kernel
theorem dX6_readAll_34 : decode cX6_readAll 34 = .ok (.iload 4, 2) := by decide +kernel
theorem dX6_readAll_36 : decode cX6_readAll 36 = .ok (.iload_n 2, 1) := by decide +kernel
theorem dX6_readAll_37 : decode cX6_readAll 37 = .ok (.if_icmp .ge 81, 3) := by decide +kernel
theorem dX6_readAll_40 : decode cX6_readAll 40 = .ok (.aload_n 0, 1) := by decide +kernel
theorem dX6_readAll_41 : decode cX6_readAll 41 = .ok (.getfield 18, 3) := by decide +kernel
theorem dX6_readAll_44 : decode cX6_readAll 44 = .ok (.ifCond .ne 74, 3) := by decide +kernel
theorem dX6_readAll_47 : decode cX6_readAll 47 = .ok (.aload_n 0, 1) := by decide +kernel
theorem dX6_readAll_48 : decode cX6_readAll 48 = .ok (.getfield 12, 3) := by decide +kernel
theorem dX6_readAll_51 : decode cX6_readAll 51 = .ok (.getfield 51, 3) := by decide +kernel
theorem dX6_readAll_54 : decode cX6_readAll 54 = .ok (.ifCond .eq 64, 3) := by decide +kernel
theorem dX6_readAll_57 : decode cX6_readAll 57 = .ok (.aload_n 0, 1) := by decide +kernel
theorem dX6_readAll_58 : decode cX6_readAll 58 = .ok (.invokevirtual 54, 3) := by decide +kernel
theorem dX6_readAll_61 : decode cX6_readAll 61 = .ok (.aload_n 0, 1) := by decide +kernel
theorem dX6_readAll_62 : decode cX6_readAll 62 = .ok (.getfield 18, 3) := by decide +kernel
theorem dX6_readAll_65 : decode cX6_readAll 65 = .ok (.ifCond .ne 47, 3) := by decide +kernel
theorem dX6_readAll_68 : decode cX6_readAll 68 = .ok (.aload_n 0, 1) := by decide +kernel
theorem dX6_readAll_69 : decode cX6_readAll 69 = .ok (.aload_n 0, 1) := by decide +kernel
theorem dX6_readAll_70 : decode cX6_readAll 70 = .ok (.getfield 12, 3) := by decide +kernel
theorem dX6_readAll_73 : decode cX6_readAll 73 = .ok (.getfield 51, 3) := by decide +kernel
theorem dX6_readAll_76 : decode cX6_readAll 76 = .ok (.bipush 7, 2) := by decide +kernel
theorem dX6_readAll_78 : decode cX6_readAll 78 = .ok (.if_icmp .ne 7, 3) := by decide +kernel
theorem dX6_readAll_81 : decode cX6_readAll 81 = .ok (.iconst 1, 1) := by decide +kernel
theorem dX6_readAll_82 : decode cX6_readAll 82 = .ok (.goto 4, 3) := by decide +kernel
theorem dX6_readAll_85 : decode cX6_readAll 85 = .ok (.iconst 0, 1) := by decide +kernel
theorem dX6_readAll_86 : decode cX6_readAll 86 = .ok (.invokevirtual 57, 3) := by decide +kernel
theorem dX6_readAll_89 : decode cX6_readAll 89 = .ok (.ifCond .eq 23, 3) := by decide +kernel
theorem dX6_readAll_92 : decode cX6_readAll 92 = .ok (.aload_n 0, 1) := by decide +kernel
theorem dX6_readAll_93 : decode cX6_readAll 93 = .ok (.getfield 25, 3) := by decide +kernel
theorem dX6_readAll_96 : decode cX6_readAll 96 = .ok (.dup, 1) := by decide +kernel
theorem dX6_readAll_97 : decode cX6_readAll 97 = .ok (.getfield 61, 3) := by decide +kernel
theorem dX6_readAll_100 : decode cX6_readAll 100 = .ok (.iconst 1, 1) := by decide +kernel
theorem dX6_readAll_101 : decode cX6_readAll 101 = .ok (.iadd, 1) := by decide +kernel
theorem dX6_readAll_102 : decode cX6_readAll 102 = .ok (.putfield 61, 3) := by decide +kernel
theorem dX6_readAll_105 : decode cX6_readAll 105 = .ok (.aload_n 0, 1) := by decide +kernel
theorem dX6_readAll_106 : decode cX6_readAll 106 = .ok (.getfield 12, 3) := by decide +kernel
theorem dX6_readAll_109 : decode cX6_readAll 109 = .ok (.invokevirtual 64, 3) := by decide +kernel
theorem dX6_readAll_112 : decode cX6_readAll 112 = .ok (.iinc 4 1, 3) := by decide +kernel
theorem dX6_readAll_115 : decode cX6_readAll 115 = .ok (.goto (-81), 3) := by decide +kernel
theorem dX6_readAll_118 : decode cX6_readAll 118 = .ok (.return_, 1) := by decide +kernel
theorem dX6_blame_0 : decode cX6_blame 0 = .ok (.aload_n 0, 1) := by decide +kernel
theorem dX6_blame_1 : decode cX6_blame 1 = .ok (.getfield 18, 3) := by decide +kernel
theorem dX6_blame_4 : decode cX6_blame 4 = .ok (.ifCond .ne 19, 3) := by decide +kernel
theorem dX6_blame_7 : decode cX6_blame 7 = .ok (.aload_n 0, 1) := by decide +kernel
theorem dX6_blame_8 : decode cX6_blame 8 = .ok (.iload_n 1, 1) := by decide +kernel
theorem dX6_blame_9 : decode cX6_blame 9 = .ok (.putfield 18, 3) := by decide +kernel
theorem dX6_blame_12 : decode cX6_blame 12 = .ok (.aload_n 0, 1) := by decide +kernel
theorem dX6_blame_13 : decode cX6_blame 13 = .ok (.aload_n 0, 1) := by decide +kernel
theorem dX6_blame_14 : decode cX6_blame 14 = .ok (.getfield 12, 3) := by decide +kernel
theorem dX6_blame_17 : decode cX6_blame 17 = .ok (.getfield 67, 3) := by decide +kernel
theorem dX6_blame_20 : decode cX6_blame 20 = .ok (.putfield 22, 3) := by decide +kernel
theorem dX6_blame_23 : decode cX6_blame 23 = .ok (.return_, 1) := by decide +kernel
theorem dX6_isDue_0 : decode cX6_isDue 0 = .ok (.iload_n 1, 1) := by decide +kernel
theorem dX6_isDue_1 : decode cX6_isDue 1 = .ok (.ifCond .ne 8, 3) := by decide +kernel
theorem dX6_isDue_4 : decode cX6_isDue 4 = .ok (.aload_n 0, 1) := by decide +kernel
theorem dX6_isDue_5 : decode cX6_isDue 5 = .ok (.iconst 1, 1) := by decide +kernel
theorem dX6_isDue_6 : decode cX6_isDue 6 = .ok (.invokevirtual 70, 3) := by decide +kernel
theorem dX6_isDue_9 : decode cX6_isDue 9 = .ok (.iload_n 1, 1) := by decide +kernel
theorem dX6_isDue_10 : decode cX6_isDue 10 = .ok (.ireturn, 1) := by decide +kernel
theorem dX6_readLine_0 : decode cX6_readLine 0 = .ok (.aload_n 0, 1) := by decide +kernel
theorem dX6_readLine_1 : decode cX6_readLine 1 = .ok (.aload_n 0, 1) := by decide +kernel
theorem dX6_readLine_2 : decode cX6_readLine 2 = .ok (.getfield 12, 3) := by decide +kernel
theorem dX6_readLine_5 : decode cX6_readLine 5 = .ok (.getfield 51, 3) := by decide +kernel
theorem dX6_readLine_8 : decode cX6_readLine 8 = .ok (.iconst 2, 1) := by decide +kernel
theorem dX6_readLine_9 : decode cX6_readLine 9 = .ok (.if_icmp .ne 19, 3) := by decide +kernel
theorem dX6_readLine_12 : decode cX6_readLine 12 = .ok (.aload_n 0, 1) := by decide +kernel
theorem dX6_readLine_13 : decode cX6_readLine 13 = .ok (.getfield 12, 3) := by decide +kernel
theorem dX6_readLine_16 : decode cX6_readLine 16 = .ok (.getfield 74, 3) := by decide +kernel
theorem dX6_readLine_19 : decode cX6_readLine 19 = .ok (.bipush 7, 2) := by decide +kernel
theorem dX6_readLine_21 : decode cX6_readLine 21 = .ok (.if_icmp .ge 7, 3) := by decide +kernel
theorem dX6_readLine_24 : decode cX6_readLine 24 = .ok (.iconst 1, 1) := by decide +kernel
theorem dX6_readLine_25 : decode cX6_readLine 25 = .ok (.goto 4, 3) := by decide +kernel
theorem dX6_readLine_28 : decode cX6_readLine 28 = .ok (.iconst 0, 1) := by decide +kernel
theorem dX6_readLine_29 : decode cX6_readLine 29 = .ok (.invokevirtual 57, 3) := by decide +kernel
theorem dX6_readLine_32 : decode cX6_readLine 32 = .ok (.ifCond .ne 4, 3) := by decide +kernel
theorem dX6_readLine_35 : decode cX6_readLine 35 = .ok (.return_, 1) := by decide +kernel
theorem dX6_readLine_36 : decode cX6_readLine 36 = .ok (.aload_n 0, 1) := by decide +kernel
theorem dX6_readLine_37 : decode cX6_readLine 37 = .ok (.getfield 12, 3) := by decide +kernel
theorem dX6_readLine_40 : decode cX6_readLine 40 = .ok (.getfield 74, 3) := by decide +kernel
theorem dX6_readLine_43 : decode cX6_readLine 43 = .ok (.tableswitch 107 0 5 #[37, 53, 69, 86, 93, 100], 37) := by decide +kernel
theorem dX6_readLine_80 : decode cX6_readLine 80 = .ok (.aload_n 0, 1) := by decide +kernel
theorem dX6_readLine_81 : decode cX6_readLine 81 = .ok (.aload_n 0, 1) := by decide +kernel
theorem dX6_readLine_82 : decode cX6_readLine 82 = .ok (.getfield 25, 3) := by decide +kernel
theorem dX6_readLine_85 : decode cX6_readLine 85 = .ok (.getfield 77, 3) := by decide +kernel
theorem dX6_readLine_88 : decode cX6_readLine 88 = .ok (.iconst 1, 1) := by decide +kernel
theorem dX6_readLine_89 : decode cX6_readLine 89 = .ok (.iconst (-1), 1) := by decide +kernel
theorem dX6_readLine_90 : decode cX6_readLine 90 = .ok (.invokevirtual 81, 3) := by decide +kernel
theorem dX6_readLine_93 : decode cX6_readLine 93 = .ok (.goto 61, 3) := by decide +kernel
theorem dX6_readLine_96 : decode cX6_readLine 96 = .ok (.aload_n 0, 1) := by decide +kernel
theorem dX6_readLine_97 : decode cX6_readLine 97 = .ok (.aload_n 0, 1) := by decide +kernel
theorem dX6_readLine_98 : decode cX6_readLine 98 = .ok (.getfield 25, 3) := by decide +kernel
theorem dX6_readLine_101 : decode cX6_readLine 101 = .ok (.getfield 85, 3) := by decide +kernel
theorem dX6_readLine_104 : decode cX6_readLine 104 = .ok (.iconst 0, 1) := by decide +kernel
theorem dX6_readLine_105 : decode cX6_readLine 105 = .ok (.iconst (-1), 1) := by decide +kernel
theorem dX6_readLine_106 : decode cX6_readLine 106 = .ok (.invokevirtual 81, 3) := by decide +kernel
theorem dX6_readLine_109 : decode cX6_readLine 109 = .ok (.goto 45, 3) := by decide +kernel
theorem dX6_readLine_112 : decode cX6_readLine 112 = .ok (.aload_n 0, 1) := by decide +kernel
theorem dX6_readLine_113 : decode cX6_readLine 113 = .ok (.aload_n 0, 1) := by decide +kernel
theorem dX6_readLine_114 : decode cX6_readLine 114 = .ok (.getfield 25, 3) := by decide +kernel
theorem dX6_readLine_117 : decode cX6_readLine 117 = .ok (.getfield 88, 3) := by decide +kernel
theorem dX6_readLine_120 : decode cX6_readLine 120 = .ok (.iconst 0, 1) := by decide +kernel
theorem dX6_readLine_121 : decode cX6_readLine 121 = .ok (.bipush 99, 2) := by decide +kernel
theorem dX6_readLine_123 : decode cX6_readLine 123 = .ok (.invokevirtual 81, 3) := by decide +kernel
theorem dX6_readLine_126 : decode cX6_readLine 126 = .ok (.goto 28, 3) := by decide +kernel
theorem dX6_readLine_129 : decode cX6_readLine 129 = .ok (.aload_n 0, 1) := by decide +kernel
theorem dX6_readLine_130 : decode cX6_readLine 130 = .ok (.invokevirtual 91, 3) := by decide +kernel
theorem dX6_readLine_133 : decode cX6_readLine 133 = .ok (.goto 21, 3) := by decide +kernel
theorem dX6_readLine_136 : decode cX6_readLine 136 = .ok (.aload_n 0, 1) := by decide +kernel
theorem dX6_readLine_137 : decode cX6_readLine 137 = .ok (.invokevirtual 94, 3) := by decide +kernel
theorem dX6_readLine_140 : decode cX6_readLine 140 = .ok (.goto 14, 3) := by decide +kernel
theorem dX6_readLine_143 : decode cX6_readLine 143 = .ok (.aload_n 0, 1) := by decide +kernel
theorem dX6_readLine_144 : decode cX6_readLine 144 = .ok (.invokevirtual 97, 3) := by decide +kernel
theorem dX6_readLine_147 : decode cX6_readLine 147 = .ok (.goto 7, 3) := by decide +kernel
theorem dX6_readLine_150 : decode cX6_readLine 150 = .ok (.aload_n 0, 1) := by decide +kernel
theorem dX6_readLine_151 : decode cX6_readLine 151 = .ok (.invokevirtual 100, 3) := by decide +kernel
theorem dX6_readLine_154 : decode cX6_readLine 154 = .ok (.return_, 1) := by decide +kernel
theorem dX6_readThing_0 : decode cX6_readThing 0 = .ok (.aload_n 1, 1) := by decide +kernel
theorem dX6_readThing_1 : decode cX6_readThing 1 = .ok (.invokevirtual 103, 3) := by decide +kernel
theorem dX6_readThing_4 : decode cX6_readThing 4 = .ok (.ifCond .eq 9, 3) := by decide +kernel
theorem dX6_readThing_7 : decode cX6_readThing 7 = .ok (.aload_n 0, 1) := by decide +kernel
theorem dX6_readThing_8 : decode cX6_readThing 8 = .ok (.iconst 2, 1) := by decide +kernel
theorem dX6_readThing_9 : decode cX6_readThing 9 = .ok (.invokevirtual 70, 3) := by decide +kernel
theorem dX6_readThing_12 : decode cX6_readThing 12 = .ok (.return_, 1) := by decide +kernel
theorem dX6_readThing_13 : decode cX6_readThing 13 = .ok (.aload_n 0, 1) := by decide +kernel
theorem dX6_readThing_14 : decode cX6_readThing 14 = .ok (.getfield 12, 3) := by decide +kernel
theorem dX6_readThing_17 : decode cX6_readThing 17 = .ok (.invokevirtual 64, 3) := by decide +kernel
theorem dX6_readThing_20 : decode cX6_readThing 20 = .ok (.aload_n 0, 1) := by decide +kernel
theorem dX6_readThing_21 : decode cX6_readThing 21 = .ok (.invokevirtual 109, 3) := by decide +kernel
theorem dX6_readThing_24 : decode cX6_readThing 24 = .ok (.istore 4, 2) := by decide +kernel
theorem dX6_readThing_26 : decode cX6_readThing 26 = .ok (.aload_n 0, 1) := by decide +kernel
theorem dX6_readThing_27 : decode cX6_readThing 27 = .ok (.getfield 18, 3) := by decide +kernel
theorem dX6_readThing_30 : decode cX6_readThing 30 = .ok (.ifCond .ne 18, 3) := by decide +kernel
theorem dX6_readThing_33 : decode cX6_readThing 33 = .ok (.aload_n 1, 1) := by decide +kernel
theorem dX6_readThing_34 : decode cX6_readThing 34 = .ok (.iload 4, 2) := by decide +kernel
theorem dX6_readThing_36 : decode cX6_readThing 36 = .ok (.invokevirtual 113, 3) := by decide +kernel
theorem dX6_readThing_39 : decode cX6_readThing 39 = .ok (.iconst (-1), 1) := by decide +kernel
theorem dX6_readThing_40 : decode cX6_readThing 40 = .ok (.if_icmp .eq 8, 3) := by decide +kernel
theorem dX6_readThing_43 : decode cX6_readThing 43 = .ok (.aload_n 0, 1) := by decide +kernel
theorem dX6_readThing_44 : decode cX6_readThing 44 = .ok (.iconst 3, 1) := by decide +kernel
theorem dX6_readThing_45 : decode cX6_readThing 45 = .ok (.invokevirtual 70, 3) := by decide +kernel
theorem dX6_readThing_48 : decode cX6_readThing 48 = .ok (.aload_n 0, 1) := by decide +kernel
theorem dX6_readThing_49 : decode cX6_readThing 49 = .ok (.invokevirtual 117, 3) := by decide +kernel
theorem dX6_readThing_52 : decode cX6_readThing 52 = .ok (.iload_n 3, 1) := by decide +kernel
theorem dX6_readThing_53 : decode cX6_readThing 53 = .ok (.iconst (-1), 1) := by decide +kernel
theorem dX6_readThing_54 : decode cX6_readThing 54 = .ok (.if_icmp .ne 8, 3) := by decide +kernel
theorem dX6_readThing_57 : decode cX6_readThing 57 = .ok (.bipush 9, 2) := by decide +kernel
theorem dX6_readThing_59 : decode cX6_readThing 59 = .ok (.goto 4, 3) := by decide +kernel
theorem dX6_readThing_62 : decode cX6_readThing 62 = .ok (.iload_n 3, 1) := by decide +kernel
theorem dX6_readThing_63 : decode cX6_readThing 63 = .ok (.istore 5, 2) := by decide +kernel
theorem dX6_readThing_65 : decode cX6_readThing 65 = .ok (.aload_n 0, 1) := by decide +kernel
theorem dX6_readThing_66 : decode cX6_readThing 66 = .ok (.iconst 0, 1) := by decide +kernel
theorem dX6_readThing_67 : decode cX6_readThing 67 = .ok (.iload 5, 2) := by decide +kernel
theorem dX6_readThing_69 : decode cX6_readThing 69 = .ok (.invokevirtual 120, 3) := by decide +kernel
theorem dX6_readThing_72 : decode cX6_readThing 72 = .ok (.istore 6, 2) := by decide +kernel
theorem dX6_readThing_74 : decode cX6_readThing 74 = .ok (.aload_n 0, 1) := by decide +kernel
theorem dX6_readThing_75 : decode cX6_readThing 75 = .ok (.iload_n 2, 1) := by decide +kernel
theorem dX6_readThing_76 : decode cX6_readThing 76 = .ok (.iload 5, 2) := by decide +kernel
theorem dX6_readThing_78 : decode cX6_readThing 78 = .ok (.invokevirtual 120, 3) := by decide +kernel
theorem dX6_readThing_81 : decode cX6_readThing 81 = .ok (.istore 7, 2) := by decide +kernel
theorem dX6_readThing_83 : decode cX6_readThing 83 = .ok (.iload_n 3, 1) := by decide +kernel
theorem dX6_readThing_84 : decode cX6_readThing 84 = .ok (.iconst (-1), 1) := by decide +kernel
theorem dX6_readThing_85 : decode cX6_readThing 85 = .ok (.if_icmp .ne 7, 3) := by decide +kernel
theorem dX6_readThing_88 : decode cX6_readThing 88 = .ok (.iconst 0, 1) := by decide +kernel
theorem dX6_readThing_89 : decode cX6_readThing 89 = .ok (.goto 9, 3) := by decide +kernel
theorem dX6_readThing_92 : decode cX6_readThing 92 = .ok (.aload_n 0, 1) := by decide +kernel
theorem dX6_readThing_93 : decode cX6_readThing 93 = .ok (.iconst 0, 1) := by decide +kernel
theorem dX6_readThing_94 : decode cX6_readThing 94 = .ok (.iload_n 3, 1) := by decide +kernel
theorem dX6_readThing_95 : decode cX6_readThing 95 = .ok (.invokevirtual 120, 3) := by decide +kernel
theorem dX6_readThing_98 : decode cX6_readThing 98 = .ok (.istore 8, 2) := by decide +kernel
theorem dX6_readThing_100 : decode cX6_readThing 100 = .ok (.aload_n 0, 1) := by decide +kernel
theorem dX6_readThing_101 : decode cX6_readThing 101 = .ok (.getfield 18, 3) := by decide +kernel
theorem dX6_readThing_104 : decode cX6_readThing 104 = .ok (.ifCond .ne 15, 3) := by decide +kernel
theorem dX6_readThing_107 : decode cX6_readThing 107 = .ok (.aload_n 1, 1) := by decide +kernel
theorem dX6_readThing_108 : decode cX6_readThing 108 = .ok (.iload 4, 2) := by decide +kernel
theorem dX6_readThing_110 : decode cX6_readThing 110 = .ok (.iload 6, 2) := by decide +kernel
theorem dX6_readThing_112 : decode cX6_readThing 112 = .ok (.iload 7, 2) := by decide +kernel
theorem dX6_readThing_114 : decode cX6_readThing 114 = .ok (.iload 8, 2) := by decide +kernel
theorem dX6_readThing_116 : decode cX6_readThing 116 = .ok (.invokevirtual 124, 3) := by decide +kernel
theorem dX6_readThing_119 : decode cX6_readThing 119 = .ok (.return_, 1) := by decide +kernel
theorem dX6_readShow_0 : decode cX6_readShow 0 = .ok (.aload_n 0, 1) := by decide +kernel
theorem dX6_readShow_1 : decode cX6_readShow 1 = .ok (.getfield 25, 3) := by decide +kernel
theorem dX6_readShow_4 : decode cX6_readShow 4 = .ok (.getfield 128, 3) := by decide +kernel
theorem dX6_readShow_7 : decode cX6_readShow 7 = .ok (.invokevirtual 103, 3) := by decide +kernel
theorem dX6_readShow_10 : decode cX6_readShow 10 = .ok (.ifCond .eq 9, 3) := by decide +kernel
theorem dX6_readShow_13 : decode cX6_readShow 13 = .ok (.aload_n 0, 1) := by decide +kernel
theorem dX6_readShow_14 : decode cX6_readShow 14 = .ok (.iconst 2, 1) := by decide +kernel
theorem dX6_readShow_15 : decode cX6_readShow 15 = .ok (.invokevirtual 70, 3) := by decide +kernel
theorem dX6_readShow_18 : decode cX6_readShow 18 = .ok (.return_, 1) := by decide +kernel
theorem dX6_readShow_19 : decode cX6_readShow 19 = .ok (.aload_n 0, 1) := by decide +kernel
theorem dX6_readShow_20 : decode cX6_readShow 20 = .ok (.getfield 12, 3) := by decide +kernel
theorem dX6_readShow_23 : decode cX6_readShow 23 = .ok (.invokevirtual 64, 3) := by decide +kernel
theorem dX6_readShow_26 : decode cX6_readShow 26 = .ok (.aload_n 0, 1) := by decide +kernel
theorem dX6_readShow_27 : decode cX6_readShow 27 = .ok (.getfield 25, 3) := by decide +kernel
theorem dX6_readShow_30 : decode cX6_readShow 30 = .ok (.getfield 77, 3) := by decide +kernel
theorem dX6_readShow_33 : decode cX6_readShow 33 = .ok (.aload_n 0, 1) := by decide +kernel
theorem dX6_readShow_34 : decode cX6_readShow 34 = .ok (.invokevirtual 109, 3) := by decide +kernel
theorem dX6_readShow_37 : decode cX6_readShow 37 = .ok (.invokevirtual 113, 3) := by decide +kernel
theorem dX6_readShow_40 : decode cX6_readShow 40 = .ok (.istore_n 1, 1) := by decide +kernel
theorem dX6_readShow_41 : decode cX6_readShow 41 = .ok (.aload_n 0, 1) := by decide +kernel
theorem dX6_readShow_42 : decode cX6_readShow 42 = .ok (.getfield 18, 3) := by decide +kernel
theorem dX6_readShow_45 : decode cX6_readShow 45 = .ok (.ifCond .ne 13, 3) := by decide +kernel
theorem dX6_readShow_48 : decode cX6_readShow 48 = .ok (.iload_n 1, 1) := by decide +kernel
theorem dX6_readShow_49 : decode cX6_readShow 49 = .ok (.iconst (-1), 1) := by decide +kernel
theorem dX6_readShow_50 : decode cX6_readShow 50 = .ok (.if_icmp .ne 8, 3) := by decide +kernel
theorem dX6_readShow_53 : decode cX6_readShow 53 = .ok (.aload_n 0, 1) := by decide +kernel
theorem dX6_readShow_54 : decode cX6_readShow 54 = .ok (.iconst 4, 1) := by decide +kernel
theorem dX6_readShow_55 : decode cX6_readShow 55 = .ok (.invokevirtual 70, 3) := by decide +kernel
theorem dX6_readShow_58 : decode cX6_readShow 58 = .ok (.aload_n 0, 1) := by decide +kernel
theorem dX6_readShow_59 : decode cX6_readShow 59 = .ok (.invokevirtual 117, 3) := by decide +kernel
theorem dX6_readShow_62 : decode cX6_readShow 62 = .ok (.aload_n 0, 1) := by decide +kernel
theorem dX6_readShow_63 : decode cX6_readShow 63 = .ok (.iconst 0, 1) := by decide +kernel
theorem dX6_readShow_64 : decode cX6_readShow 64 = .ok (.bipush 99, 2) := by decide +kernel
theorem dX6_readShow_66 : decode cX6_readShow 66 = .ok (.invokevirtual 120, 3) := by decide +kernel
theorem dX6_readShow_69 : decode cX6_readShow 69 = .ok (.istore_n 2, 1) := by decide +kernel
theorem dX6_readShow_70 : decode cX6_readShow 70 = .ok (.aload_n 0, 1) := by decide +kernel
theorem dX6_readShow_71 : decode cX6_readShow 71 = .ok (.getfield 18, 3) := by decide +kernel
theorem dX6_readShow_74 : decode cX6_readShow 74 = .ok (.ifCond .ne 17, 3) := by decide +kernel
theorem dX6_readShow_77 : decode cX6_readShow 77 = .ok (.aload_n 0, 1) := by decide +kernel
theorem dX6_readShow_78 : decode cX6_readShow 78 = .ok (.getfield 25, 3) := by decide +kernel
theorem dX6_readShow_81 : decode cX6_readShow 81 = .ok (.getfield 128, 3) := by decide +kernel
theorem dX6_readShow_84 : decode cX6_readShow 84 = .ok (.iconst 0, 1) := by decide +kernel
theorem dX6_readShow_85 : decode cX6_readShow 85 = .ok (.iload_n 1, 1) := by decide +kernel
theorem dX6_readShow_86 : decode cX6_readShow 86 = .ok (.iload_n 2, 1) := by decide +kernel
theorem dX6_readShow_87 : decode cX6_readShow 87 = .ok (.iconst 0, 1) := by decide +kernel
theorem dX6_readShow_88 : decode cX6_readShow 88 = .ok (.invokevirtual 124, 3) := by decide +kernel
theorem dX6_readShow_91 : decode cX6_readShow 91 = .ok (.return_, 1) := by decide +kernel
theorem dX6_readCough_0 : decode cX6_readCough 0 = .ok (.aload_n 0, 1) := by decide +kernel
theorem dX6_readCough_1 : decode cX6_readCough 1 = .ok (.getfield 25, 3) := by decide +kernel
theorem dX6_readCough_4 : decode cX6_readCough 4 = .ok (.getfield 131, 3) := by decide +kernel
theorem dX6_readCough_7 : decode cX6_readCough 7 = .ok (.ifCond .eq 9, 3) := by decide +kernel
theorem dX6_readCough_10 : decode cX6_readCough 10 = .ok (.aload_n 0, 1) := by decide +kernel
theorem dX6_readCough_11 : decode cX6_readCough 11 = .ok (.iconst 3, 1) := by decide +kernel
theorem dX6_readCough_12 : decode cX6_readCough 12 = .ok (.invokevirtual 70, 3) := by decide +kernel
theorem dX6_readCough_15 : decode cX6_readCough 15 = .ok (.return_, 1) := by decide +kernel
theorem dX6_readCough_16 : decode cX6_readCough 16 = .ok (.aload_n 0, 1) := by decide +kernel
theorem dX6_readCough_17 : decode cX6_readCough 17 = .ok (.getfield 12, 3) := by decide +kernel
theorem dX6_readCough_20 : decode cX6_readCough 20 = .ok (.invokevirtual 64, 3) := by decide +kernel
theorem dX6_readCough_23 : decode cX6_readCough 23 = .ok (.aload_n 0, 1) := by decide +kernel
theorem dX6_readCough_24 : decode cX6_readCough 24 = .ok (.getfield 25, 3) := by decide +kernel
theorem dX6_readCough_27 : decode cX6_readCough 27 = .ok (.aload_n 0, 1) := by decide +kernel
theorem dX6_readCough_28 : decode cX6_readCough 28 = .ok (.iconst 0, 1) := by decide +kernel
theorem dX6_readCough_29 : decode cX6_readCough 29 = .ok (.bipush 100, 2) := by decide +kernel
theorem dX6_readCough_31 : decode cX6_readCough 31 = .ok (.invokevirtual 120, 3) := by decide +kernel
theorem dX6_readCough_34 : decode cX6_readCough 34 = .ok (.putfield 135, 3) := by decide +kernel
theorem dX6_readCough_37 : decode cX6_readCough 37 = .ok (.aload_n 0, 1) := by decide +kernel
theorem dX6_readCough_38 : decode cX6_readCough 38 = .ok (.getfield 25, 3) := by decide +kernel
theorem dX6_readCough_41 : decode cX6_readCough 41 = .ok (.iconst 1, 1) := by decide +kernel
theorem dX6_readCough_42 : decode cX6_readCough 42 = .ok (.putfield 131, 3) := by decide +kernel
theorem dX6_readCough_45 : decode cX6_readCough 45 = .ok (.return_, 1) := by decide +kernel
theorem dX6_readSeed_0 : decode cX6_readSeed 0 = .ok (.aload_n 0, 1) := by decide +kernel
theorem dX6_readSeed_1 : decode cX6_readSeed 1 = .ok (.getfield 25, 3) := by decide +kernel
theorem dX6_readSeed_4 : decode cX6_readSeed 4 = .ok (.getfield 138, 3) := by decide +kernel
theorem dX6_readSeed_7 : decode cX6_readSeed 7 = .ok (.ifCond .eq 9, 3) := by decide +kernel
theorem dX6_readSeed_10 : decode cX6_readSeed 10 = .ok (.aload_n 0, 1) := by decide +kernel
theorem dX6_readSeed_11 : decode cX6_readSeed 11 = .ok (.iconst 3, 1) := by decide +kernel
theorem dX6_readSeed_12 : decode cX6_readSeed 12 = .ok (.invokevirtual 70, 3) := by decide +kernel
theorem dX6_readSeed_15 : decode cX6_readSeed 15 = .ok (.return_, 1) := by decide +kernel
theorem dX6_readSeed_16 : decode cX6_readSeed 16 = .ok (.aload_n 0, 1) := by decide +kernel
theorem dX6_readSeed_17 : decode cX6_readSeed 17 = .ok (.getfield 12, 3) := by decide +kernel
theorem dX6_readSeed_20 : decode cX6_readSeed 20 = .ok (.invokevirtual 64, 3) := by decide +kernel
theorem dX6_readSeed_23 : decode cX6_readSeed 23 = .ok (.aload_n 0, 1) := by decide +kernel
theorem dX6_readSeed_24 : decode cX6_readSeed 24 = .ok (.getfield 25, 3) := by decide +kernel
theorem dX6_readSeed_27 : decode cX6_readSeed 27 = .ok (.aload_n 0, 1) := by decide +kernel
theorem dX6_readSeed_28 : decode cX6_readSeed 28 = .ok (.iconst 0, 1) := by decide +kernel
theorem dX6_readSeed_29 : decode cX6_readSeed 29 = .ok (.ldc 141, 2) := by decide +kernel
theorem dX6_readSeed_31 : decode cX6_readSeed 31 = .ok (.invokevirtual 120, 3) := by decide +kernel
theorem dX6_readSeed_34 : decode cX6_readSeed 34 = .ok (.putfield 142, 3) := by decide +kernel
theorem dX6_readSeed_37 : decode cX6_readSeed 37 = .ok (.aload_n 0, 1) := by decide +kernel
theorem dX6_readSeed_38 : decode cX6_readSeed 38 = .ok (.getfield 25, 3) := by decide +kernel
theorem dX6_readSeed_41 : decode cX6_readSeed 41 = .ok (.iconst 1, 1) := by decide +kernel
theorem dX6_readSeed_42 : decode cX6_readSeed 42 = .ok (.putfield 138, 3) := by decide +kernel
theorem dX6_readSeed_45 : decode cX6_readSeed 45 = .ok (.return_, 1) := by decide +kernel
theorem dX6_readLaw_0 : decode cX6_readLaw 0 = .ok (.aload_n 0, 1) := by decide +kernel
theorem dX6_readLaw_1 : decode cX6_readLaw 1 = .ok (.getfield 12, 3) := by decide +kernel
theorem dX6_readLaw_4 : decode cX6_readLaw 4 = .ok (.invokevirtual 64, 3) := by decide +kernel
theorem dX6_readLaw_7 : decode cX6_readLaw 7 = .ok (.aload_n 0, 1) := by decide +kernel
theorem dX6_readLaw_8 : decode cX6_readLaw 8 = .ok (.getfield 12, 3) := by decide +kernel
theorem dX6_readLaw_11 : decode cX6_readLaw 11 = .ok (.getfield 74, 3) := by decide +kernel
theorem dX6_readLaw_14 : decode cX6_readLaw 14 = .ok (.bipush 7, 2) := by decide +kernel
theorem dX6_readLaw_16 : decode cX6_readLaw 16 = .ok (.isub, 1) := by decide +kernel
theorem dX6_readLaw_17 : decode cX6_readLaw 17 = .ok (.istore_n 1, 1) := by decide +kernel
theorem dX6_readLaw_18 : decode cX6_readLaw 18 = .ok (.aload_n 0, 1) := by decide +kernel
theorem dX6_readLaw_19 : decode cX6_readLaw 19 = .ok (.aload_n 0, 1) := by decide +kernel
theorem dX6_readLaw_20 : decode cX6_readLaw 20 = .ok (.getfield 12, 3) := by decide +kernel
theorem dX6_readLaw_23 : decode cX6_readLaw 23 = .ok (.getfield 51, 3) := by decide +kernel
theorem dX6_readLaw_26 : decode cX6_readLaw 26 = .ok (.iconst 2, 1) := by decide +kernel
theorem dX6_readLaw_27 : decode cX6_readLaw 27 = .ok (.if_icmp .ne 16, 3) := by decide +kernel
theorem dX6_readLaw_30 : decode cX6_readLaw 30 = .ok (.iload_n 1, 1) := by decide +kernel
theorem dX6_readLaw_31 : decode cX6_readLaw 31 = .ok (.ifCond .lt 12, 3) := by decide +kernel
theorem dX6_readLaw_34 : decode cX6_readLaw 34 = .ok (.iload_n 1, 1) := by decide +kernel
theorem dX6_readLaw_35 : decode cX6_readLaw 35 = .ok (.iconst 2, 1) := by decide +kernel
theorem dX6_readLaw_36 : decode cX6_readLaw 36 = .ok (.if_icmp .gt 7, 3) := by decide +kernel
theorem dX6_readLaw_39 : decode cX6_readLaw 39 = .ok (.iconst 1, 1) := by decide +kernel
theorem dX6_readLaw_40 : decode cX6_readLaw 40 = .ok (.goto 4, 3) := by decide +kernel
theorem dX6_readLaw_43 : decode cX6_readLaw 43 = .ok (.iconst 0, 1) := by decide +kernel
theorem dX6_readLaw_44 : decode cX6_readLaw 44 = .ok (.invokevirtual 57, 3) := by decide +kernel
theorem dX6_readLaw_47 : decode cX6_readLaw 47 = .ok (.ifCond .ne 4, 3) := by decide +kernel
theorem dX6_readLaw_50 : decode cX6_readLaw 50 = .ok (.return_, 1) := by decide +kernel
theorem dX6_readLaw_51 : decode cX6_readLaw 51 = .ok (.aload_n 0, 1) := by decide +kernel
theorem dX6_readLaw_52 : decode cX6_readLaw 52 = .ok (.getfield 25, 3) := by decide +kernel
theorem dX6_readLaw_55 : decode cX6_readLaw 55 = .ok (.getfield 31, 3) := by decide +kernel
theorem dX6_readLaw_58 : decode cX6_readLaw 58 = .ok (.iload_n 1, 1) := by decide +kernel
theorem dX6_readLaw_59 : decode cX6_readLaw 59 = .ok (.aaload, 1) := by decide +kernel
theorem dX6_readLaw_60 : decode cX6_readLaw 60 = .ok (.getfield 145, 3) := by decide +kernel
theorem dX6_readLaw_63 : decode cX6_readLaw 63 = .ok (.ifCond .eq 9, 3) := by decide +kernel
theorem dX6_readLaw_66 : decode cX6_readLaw 66 = .ok (.aload_n 0, 1) := by decide +kernel
theorem dX6_readLaw_67 : decode cX6_readLaw 67 = .ok (.iconst 3, 1) := by decide +kernel
theorem dX6_readLaw_68 : decode cX6_readLaw 68 = .ok (.invokevirtual 70, 3) := by decide +kernel
theorem dX6_readLaw_71 : decode cX6_readLaw 71 = .ok (.return_, 1) := by decide +kernel
theorem dX6_readLaw_72 : decode cX6_readLaw 72 = .ok (.aload_n 0, 1) := by decide +kernel
theorem dX6_readLaw_73 : decode cX6_readLaw 73 = .ok (.getfield 12, 3) := by decide +kernel
theorem dX6_readLaw_76 : decode cX6_readLaw 76 = .ok (.invokevirtual 64, 3) := by decide +kernel
theorem dX6_readLaw_79 : decode cX6_readLaw 79 = .ok (.aload_n 0, 1) := by decide +kernel
theorem dX6_readLaw_80 : decode cX6_readLaw 80 = .ok (.getfield 25, 3) := by decide +kernel
theorem dX6_readLaw_83 : decode cX6_readLaw 83 = .ok (.getfield 31, 3) := by decide +kernel
theorem dX6_readLaw_86 : decode cX6_readLaw 86 = .ok (.iload_n 1, 1) := by decide +kernel
theorem dX6_readLaw_87 : decode cX6_readLaw 87 = .ok (.aaload, 1) := by decide +kernel
theorem dX6_readLaw_88 : decode cX6_readLaw 88 = .ok (.iconst 1, 1) := by decide +kernel
theorem dX6_readLaw_89 : decode cX6_readLaw 89 = .ok (.putfield 145, 3) := by decide +kernel
theorem dX6_readLaw_92 : decode cX6_readLaw 92 = .ok (.aload_n 0, 1) := by decide +kernel
theorem dX6_readLaw_93 : decode cX6_readLaw 93 = .ok (.getfield 40, 3) := by decide +kernel
theorem dX6_readLaw_96 : decode cX6_readLaw 96 = .ok (.aload_n 0, 1) := by decide +kernel
theorem dX6_readLaw_97 : decode cX6_readLaw 97 = .ok (.getfield 25, 3) := by decide +kernel
theorem dX6_readLaw_100 : decode cX6_readLaw 100 = .ok (.getfield 31, 3) := by decide +kernel
theorem dX6_readLaw_103 : decode cX6_readLaw 103 = .ok (.iload_n 1, 1) := by decide +kernel
theorem dX6_readLaw_104 : decode cX6_readLaw 104 = .ok (.aaload, 1) := by decide +kernel
theorem dX6_readLaw_105 : decode cX6_readLaw 105 = .ok (.aload_n 0, 1) := by decide +kernel
theorem dX6_readLaw_106 : decode cX6_readLaw 106 = .ok (.getfield 12, 3) := by decide +kernel
theorem dX6_readLaw_109 : decode cX6_readLaw 109 = .ok (.bipush 64, 2) := by decide +kernel
theorem dX6_readLaw_111 : decode cX6_readLaw 111 = .ok (.aload_n 0, 1) := by decide +kernel
theorem dX6_readLaw_112 : decode cX6_readLaw 112 = .ok (.getfield 25, 3) := by decide +kernel
theorem dX6_readLaw_115 : decode cX6_readLaw 115 = .ok (.getfield 150, 3) := by decide +kernel
theorem dX6_readLaw_118 : decode cX6_readLaw 118 = .ok (.isub, 1) := by decide +kernel
theorem dX6_readLaw_119 : decode cX6_readLaw 119 = .ok (.invokevirtual 153, 3) := by decide +kernel
theorem dX6_readLaw_122 : decode cX6_readLaw 122 = .ok (.istore_n 2, 1) := by decide +kernel
theorem dX6_readLaw_123 : decode cX6_readLaw 123 = .ok (.aload_n 0, 1) := by decide +kernel
theorem dX6_readLaw_124 : decode cX6_readLaw 124 = .ok (.getfield 25, 3) := by decide +kernel
theorem dX6_readLaw_127 : decode cX6_readLaw 127 = .ok (.dup, 1) := by decide +kernel
theorem dX6_readLaw_128 : decode cX6_readLaw 128 = .ok (.getfield 150, 3) := by decide +kernel
theorem dX6_readLaw_131 : decode cX6_readLaw 131 = .ok (.aload_n 0, 1) := by decide +kernel
theorem dX6_readLaw_132 : decode cX6_readLaw 132 = .ok (.getfield 40, 3) := by decide +kernel
theorem dX6_readLaw_135 : decode cX6_readLaw 135 = .ok (.getfield 157, 3) := by decide +kernel
theorem dX6_readLaw_138 : decode cX6_readLaw 138 = .ok (.iadd, 1) := by decide +kernel
theorem dX6_readLaw_139 : decode cX6_readLaw 139 = .ok (.putfield 150, 3) := by decide +kernel
theorem dX6_readLaw_142 : decode cX6_readLaw 142 = .ok (.iload_n 2, 1) := by decide +kernel
theorem dX6_readLaw_143 : decode cX6_readLaw 143 = .ok (.ifCond .eq 8, 3) := by decide +kernel
theorem dX6_readLaw_146 : decode cX6_readLaw 146 = .ok (.aload_n 0, 1) := by decide +kernel
theorem dX6_readLaw_147 : decode cX6_readLaw 147 = .ok (.iload_n 2, 1) := by decide +kernel
theorem dX6_readLaw_148 : decode cX6_readLaw 148 = .ok (.invokevirtual 70, 3) := by decide +kernel
theorem dX6_readLaw_151 : decode cX6_readLaw 151 = .ok (.return_, 1) := by decide +kernel
theorem dX6_readName_0 : decode cX6_readName 0 = .ok (.aload_n 0, 1) := by decide +kernel
theorem dX6_readName_1 : decode cX6_readName 1 = .ok (.aload_n 0, 1) := by decide +kernel
theorem dX6_readName_2 : decode cX6_readName 2 = .ok (.getfield 12, 3) := by decide +kernel
theorem dX6_readName_5 : decode cX6_readName 5 = .ok (.getfield 51, 3) := by decide +kernel
theorem dX6_readName_8 : decode cX6_readName 8 = .ok (.iconst 3, 1) := by decide +kernel
theorem dX6_readName_9 : decode cX6_readName 9 = .ok (.if_icmp .ne 7, 3) := by decide +kernel
theorem dX6_readName_12 : decode cX6_readName 12 = .ok (.iconst 1, 1) := by decide +kernel
theorem dX6_readName_13 : decode cX6_readName 13 = .ok (.goto 4, 3) := by decide +kernel
theorem dX6_readName_16 : decode cX6_readName 16 = .ok (.iconst 0, 1) := by decide +kernel
theorem dX6_readName_17 : decode cX6_readName 17 = .ok (.invokevirtual 57, 3) := by decide +kernel
theorem dX6_readName_20 : decode cX6_readName 20 = .ok (.ifCond .eq 13, 3) := by decide +kernel
theorem dX6_readName_23 : decode cX6_readName 23 = .ok (.aload_n 0, 1) := by decide +kernel
theorem dX6_readName_24 : decode cX6_readName 24 = .ok (.getfield 12, 3) := by decide +kernel
theorem dX6_readName_27 : decode cX6_readName 27 = .ok (.getfield 74, 3) := by decide +kernel
theorem dX6_readName_30 : decode cX6_readName 30 = .ok (.goto 4, 3) := by decide +kernel
theorem dX6_readName_33 : decode cX6_readName 33 = .ok (.iconst 0, 1) := by decide +kernel
theorem dX6_readName_34 : decode cX6_readName 34 = .ok (.ireturn, 1) := by decide +kernel
theorem dX6_passName_0 : decode cX6_passName 0 = .ok (.aload_n 0, 1) := by decide +kernel
theorem dX6_passName_1 : decode cX6_passName 1 = .ok (.getfield 18, 3) := by decide +kernel
theorem dX6_passName_4 : decode cX6_passName 4 = .ok (.ifCond .ne 10, 3) := by decide +kernel
theorem dX6_passName_7 : decode cX6_passName 7 = .ok (.aload_n 0, 1) := by decide +kernel
theorem dX6_passName_8 : decode cX6_passName 8 = .ok (.getfield 12, 3) := by decide +kernel
theorem dX6_passName_11 : decode cX6_passName 11 = .ok (.invokevirtual 64, 3) := by decide +kernel
theorem dX6_passName_14 : decode cX6_passName 14 = .ok (.return_, 1) := by decide +kernel
theorem dX6_readNumber_0 : decode cX6_readNumber 0 = .ok (.aload_n 0, 1) := by decide +kernel
theorem dX6_readNumber_1 : decode cX6_readNumber 1 = .ok (.getfield 18, 3) := by decide +kernel
theorem dX6_readNumber_4 : decode cX6_readNumber 4 = .ok (.ifCond .ne 26, 3) := by decide +kernel
theorem dX6_readNumber_7 : decode cX6_readNumber 7 = .ok (.aload_n 0, 1) := by decide +kernel
theorem dX6_readNumber_8 : decode cX6_readNumber 8 = .ok (.aload_n 0, 1) := by decide +kernel
theorem dX6_readNumber_9 : decode cX6_readNumber 9 = .ok (.getfield 12, 3) := by decide +kernel
theorem dX6_readNumber_12 : decode cX6_readNumber 12 = .ok (.getfield 51, 3) := by decide +kernel
theorem dX6_readNumber_15 : decode cX6_readNumber 15 = .ok (.iconst 1, 1) := by decide +kernel
theorem dX6_readNumber_16 : decode cX6_readNumber 16 = .ok (.if_icmp .ne 7, 3) := by decide +kernel
theorem dX6_readNumber_19 : decode cX6_readNumber 19 = .ok (.iconst 1, 1) := by decide +kernel
theorem dX6_readNumber_20 : decode cX6_readNumber 20 = .ok (.goto 4, 3) := by decide +kernel
theorem dX6_readNumber_23 : decode cX6_readNumber 23 = .ok (.iconst 0, 1) := by decide +kernel
theorem dX6_readNumber_24 : decode cX6_readNumber 24 = .ok (.invokevirtual 57, 3) := by decide +kernel
theorem dX6_readNumber_27 : decode cX6_readNumber 27 = .ok (.ifCond .ne 5, 3) := by decide +kernel
theorem dX6_readNumber_30 : decode cX6_readNumber 30 = .ok (.iconst 0, 1) := by decide +kernel
theorem dX6_readNumber_31 : decode cX6_readNumber 31 = .ok (.ireturn, 1) := by decide +kernel
theorem dX6_readNumber_32 : decode cX6_readNumber 32 = .ok (.aload_n 0, 1) := by decide +kernel
theorem dX6_readNumber_33 : decode cX6_readNumber 33 = .ok (.getfield 12, 3) := by decide +kernel
theorem dX6_readNumber_36 : decode cX6_readNumber 36 = .ok (.getfield 74, 3) := by decide +kernel
theorem dX6_readNumber_39 : decode cX6_readNumber 39 = .ok (.istore_n 3, 1) := by decide +kernel
theorem dX6_readNumber_40 : decode cX6_readNumber 40 = .ok (.iload_n 3, 1) := by decide +kernel
theorem dX6_readNumber_41 : decode cX6_readNumber 41 = .ok (.iload_n 1, 1) := by decide +kernel
theorem dX6_readNumber_42 : decode cX6_readNumber 42 = .ok (.if_icmp .lt 8, 3) := by decide +kernel
theorem dX6_readNumber_45 : decode cX6_readNumber 45 = .ok (.iload_n 3, 1) := by decide +kernel
theorem dX6_readNumber_46 : decode cX6_readNumber 46 = .ok (.iload_n 2, 1) := by decide +kernel
theorem dX6_readNumber_47 : decode cX6_readNumber 47 = .ok (.if_icmp .le 10, 3) := by decide +kernel
theorem dX6_readNumber_50 : decode cX6_readNumber 50 = .ok (.aload_n 0, 1) := by decide +kernel
theorem dX6_readNumber_51 : decode cX6_readNumber 51 = .ok (.iconst 2, 1) := by decide +kernel
theorem dX6_readNumber_52 : decode cX6_readNumber 52 = .ok (.invokevirtual 70, 3) := by decide +kernel
theorem dX6_readNumber_55 : decode cX6_readNumber 55 = .ok (.iconst 0, 1) := by decide +kernel
theorem dX6_readNumber_56 : decode cX6_readNumber 56 = .ok (.ireturn, 1) := by decide +kernel
theorem dX6_readNumber_57 : decode cX6_readNumber 57 = .ok (.aload_n 0, 1) := by decide +kernel
theorem dX6_readNumber_58 : decode cX6_readNumber 58 = .ok (.getfield 12, 3) := by decide +kernel
theorem dX6_readNumber_61 : decode cX6_readNumber 61 = .ok (.invokevirtual 64, 3) := by decide +kernel
theorem dX6_readNumber_64 : decode cX6_readNumber 64 = .ok (.iload_n 3, 1) := by decide +kernel
theorem dX6_readNumber_65 : decode cX6_readNumber 65 = .ok (.ireturn, 1) := by decide +kernel
theorem dX7_isFull_0 : decode cX7_isFull 0 = .ok (.aload_n 0, 1) := by decide +kernel
theorem dX7_isFull_1 : decode cX7_isFull 1 = .ok (.getfield 9, 3) := by decide +kernel
theorem dX7_isFull_4 : decode cX7_isFull 4 = .ok (.aload_n 0, 1) := by decide +kernel
theorem dX7_isFull_5 : decode cX7_isFull 5 = .ok (.getfield 15, 3) := by decide +kernel
theorem dX7_isFull_8 : decode cX7_isFull 8 = .ok (.if_icmp .lt 7, 3) := by decide +kernel
theorem dX7_isFull_11 : decode cX7_isFull 11 = .ok (.iconst 1, 1) := by decide +kernel
theorem dX7_isFull_12 : decode cX7_isFull 12 = .ok (.goto 4, 3) := by decide +kernel
theorem dX7_isFull_15 : decode cX7_isFull 15 = .ok (.iconst 0, 1) := by decide +kernel
theorem dX7_isFull_16 : decode cX7_isFull 16 = .ok (.ireturn, 1) := by decide +kernel
theorem dX7_has_0 : decode cX7_has 0 = .ok (.iload_n 1, 1) := by decide +kernel
theorem dX7_has_1 : decode cX7_has 1 = .ok (.ifCond .lt 15, 3) := by decide +kernel
theorem dX7_has_4 : decode cX7_has 4 = .ok (.iload_n 1, 1) := by decide +kernel
theorem dX7_has_5 : decode cX7_has 5 = .ok (.aload_n 0, 1) := by decide +kernel
theorem dX7_has_6 : decode cX7_has 6 = .ok (.getfield 9, 3) := by decide +kernel
theorem dX7_has_9 : decode cX7_has 9 = .ok (.if_icmp .ge 7, 3) := by decide +kernel
theorem dX7_has_12 : decode cX7_has 12 = .ok (.iconst 1, 1) := by decide +kernel
theorem dX7_has_13 : decode cX7_has 13 = .ok (.goto 4, 3) := by decide +kernel
theorem dX7_has_16 : decode cX7_has 16 = .ok (.iconst 0, 1) := by decide +kernel
theorem dX7_has_17 : decode cX7_has 17 = .ok (.ireturn, 1) := by decide +kernel
theorem dX7_find_0 : decode cX7_find 0 = .ok (.iconst 0, 1) := by decide +kernel
theorem dX7_find_1 : decode cX7_find 1 = .ok (.istore_n 2, 1) := by decide +kernel
theorem dX7_find_2 : decode cX7_find 2 = .ok (.iload_n 2, 1) := by decide +kernel
theorem dX7_find_3 : decode cX7_find 3 = .ok (.aload_n 0, 1) := by decide +kernel
theorem dX7_find_4 : decode cX7_find 4 = .ok (.getfield 9, 3) := by decide +kernel
theorem dX7_find_7 : decode cX7_find 7 = .ok (.if_icmp .ge 21, 3) := by decide +kernel
theorem dX7_find_10 : decode cX7_find 10 = .ok (.aload_n 0, 1) := by decide +kernel
theorem dX7_find_11 : decode cX7_find 11 = .ok (.getfield 18, 3) := by decide +kernel
theorem dX7_find_14 : decode cX7_find 14 = .ok (.iload_n 2, 1) := by decide +kernel
theorem dX7_find_15 : decode cX7_find 15 = .ok (.iaload, 1) := by decide +kernel
theorem dX7_find_16 : decode cX7_find 16 = .ok (.iload_n 1, 1) := by decide +kernel
theorem dX7_find_17 : decode cX7_find 17 = .ok (.if_icmp .ne 5, 3) := by decide +kernel
theorem dX7_find_20 : decode cX7_find 20 = .ok (.iload_n 2, 1) := by decide +kernel
theorem dX7_find_21 : decode cX7_find 21 = .ok (.ireturn, 1) := by decide +kernel
theorem dX7_find_22 : decode cX7_find 22 = .ok (.iinc 2 1, 3) := by decide +kernel
theorem dX7_find_25 : decode cX7_find 25 = .ok (.goto (-23), 3) := by decide +kernel
theorem dX7_find_28 : decode cX7_find 28 = .ok (.iconst (-1), 1) := by decide +kernel
theorem dX7_find_29 : decode cX7_find 29 = .ok (.ireturn, 1) := by decide +kernel
theorem dX7_add_0 : decode cX7_add 0 = .ok (.aload_n 0, 1) := by decide +kernel
theorem dX7_add_1 : decode cX7_add 1 = .ok (.getfield 9, 3) := by decide +kernel
theorem dX7_add_4 : decode cX7_add 4 = .ok (.aload_n 0, 1) := by decide +kernel
theorem dX7_add_5 : decode cX7_add 5 = .ok (.getfield 15, 3) := by decide +kernel
theorem dX7_add_8 : decode cX7_add 8 = .ok (.if_icmp .ge 54, 3) := by decide +kernel
theorem dX7_add_11 : decode cX7_add 11 = .ok (.aload_n 0, 1) := by decide +kernel
theorem dX7_add_12 : decode cX7_add 12 = .ok (.getfield 18, 3) := by decide +kernel
theorem dX7_add_15 : decode cX7_add 15 = .ok (.aload_n 0, 1) := by decide +kernel
theorem dX7_add_16 : decode cX7_add 16 = .ok (.getfield 9, 3) := by decide +kernel
theorem dX7_add_19 : decode cX7_add 19 = .ok (.iload_n 1, 1) := by decide +kernel
theorem dX7_add_20 : decode cX7_add 20 = .ok (.iastore, 1) := by decide +kernel
theorem dX7_add_21 : decode cX7_add 21 = .ok (.aload_n 0, 1) := by decide +kernel
theorem dX7_add_22 : decode cX7_add 22 = .ok (.getfield 22, 3) := by decide +kernel
theorem dX7_add_25 : decode cX7_add 25 = .ok (.aload_n 0, 1) := by decide +kernel
theorem dX7_add_26 : decode cX7_add 26 = .ok (.getfield 9, 3) := by decide +kernel
theorem dX7_add_29 : decode cX7_add 29 = .ok (.iload_n 2, 1) := by decide +kernel
theorem dX7_add_30 : decode cX7_add 30 = .ok (.iastore, 1) := by decide +kernel
theorem dX7_add_31 : decode cX7_add 31 = .ok (.aload_n 0, 1) := by decide +kernel
theorem dX7_add_32 : decode cX7_add 32 = .ok (.getfield 25, 3) := by decide +kernel
theorem dX7_add_35 : decode cX7_add 35 = .ok (.aload_n 0, 1) := by decide +kernel
theorem dX7_add_36 : decode cX7_add 36 = .ok (.getfield 9, 3) := by decide +kernel
theorem dX7_add_39 : decode cX7_add 39 = .ok (.iload_n 3, 1) := by decide +kernel
theorem dX7_add_40 : decode cX7_add 40 = .ok (.iastore, 1) := by decide +kernel
theorem dX7_add_41 : decode cX7_add 41 = .ok (.aload_n 0, 1) := by decide +kernel
theorem dX7_add_42 : decode cX7_add 42 = .ok (.getfield 28, 3) := by decide +kernel
theorem dX7_add_45 : decode cX7_add 45 = .ok (.aload_n 0, 1) := by decide +kernel
theorem dX7_add_46 : decode cX7_add 46 = .ok (.getfield 9, 3) := by decide +kernel
theorem dX7_add_49 : decode cX7_add 49 = .ok (.iload 4, 2) := by decide +kernel
theorem dX7_add_51 : decode cX7_add 51 = .ok (.iastore, 1) := by decide +kernel
theorem dX7_add_52 : decode cX7_add 52 = .ok (.aload_n 0, 1) := by decide +kernel
theorem dX7_add_53 : decode cX7_add 53 = .ok (.dup, 1) := by decide +kernel
theorem dX7_add_54 : decode cX7_add 54 = .ok (.getfield 9, 3) := by decide +kernel
theorem dX7_add_57 : decode cX7_add 57 = .ok (.iconst 1, 1) := by decide +kernel
theorem dX7_add_58 : decode cX7_add 58 = .ok (.iadd, 1) := by decide +kernel
theorem dX7_add_59 : decode cX7_add 59 = .ok (.putfield 9, 3) := by decide +kernel
theorem dX7_add_62 : decode cX7_add 62 = .ok (.return_, 1) := by decide +kernel
theorem dX8_forget_0 : decode cX8_forget 0 = .ok (.aload_n 0, 1) := by decide +kernel
theorem dX8_forget_1 : decode cX8_forget 1 = .ok (.getfield 14, 3) := by decide +kernel
theorem dX8_forget_4 : decode cX8_forget 4 = .ok (.iconst 0, 1) := by decide +kernel
theorem dX8_forget_5 : decode cX8_forget 5 = .ok (.putfield 56, 3) := by decide +kernel
theorem dX8_forget_8 : decode cX8_forget 8 = .ok (.aload_n 0, 1) := by decide +kernel
theorem dX8_forget_9 : decode cX8_forget 9 = .ok (.getfield 20, 3) := by decide +kernel
theorem dX8_forget_12 : decode cX8_forget 12 = .ok (.iconst 0, 1) := by decide +kernel
theorem dX8_forget_13 : decode cX8_forget 13 = .ok (.putfield 56, 3) := by decide +kernel
theorem dX8_forget_16 : decode cX8_forget 16 = .ok (.aload_n 0, 1) := by decide +kernel
theorem dX8_forget_17 : decode cX8_forget 17 = .ok (.getfield 23, 3) := by decide +kernel
theorem dX8_forget_20 : decode cX8_forget 20 = .ok (.iconst 0, 1) := by decide +kernel
theorem dX8_forget_21 : decode cX8_forget 21 = .ok (.putfield 56, 3) := by decide +kernel
theorem dX8_forget_24 : decode cX8_forget 24 = .ok (.aload_n 0, 1) := by decide +kernel
theorem dX8_forget_25 : decode cX8_forget 25 = .ok (.getfield 26, 3) := by decide +kernel
theorem dX8_forget_28 : decode cX8_forget 28 = .ok (.iconst 0, 1) := by decide +kernel
theorem dX8_forget_29 : decode cX8_forget 29 = .ok (.putfield 56, 3) := by decide +kernel
theorem dX8_forget_32 : decode cX8_forget 32 = .ok (.iconst 0, 1) := by decide +kernel
theorem dX8_forget_33 : decode cX8_forget 33 = .ok (.istore_n 1, 1) := by decide +kernel
theorem dX8_forget_34 : decode cX8_forget 34 = .ok (.iload_n 1, 1) := by decide +kernel
theorem dX8_forget_35 : decode cX8_forget 35 = .ok (.aload_n 0, 1) := by decide +kernel
theorem dX8_forget_36 : decode cX8_forget 36 = .ok (.getfield 32, 3) := by decide +kernel
theorem dX8_forget_39 : decode cX8_forget 39 = .ok (.arraylength, 1) := by decide +kernel
theorem dX8_forget_40 : decode cX8_forget 40 = .ok (.if_icmp .ge 18, 3) := by decide +kernel
theorem dX8_forget_43 : decode cX8_forget 43 = .ok (.aload_n 0, 1) := by decide +kernel
theorem dX8_forget_44 : decode cX8_forget 44 = .ok (.getfield 32, 3) := by decide +kernel
theorem dX8_forget_47 : decode cX8_forget 47 = .ok (.iload_n 1, 1) := by decide +kernel
theorem dX8_forget_48 : decode cX8_forget 48 = .ok (.aaload, 1) := by decide +kernel
theorem dX8_forget_49 : decode cX8_forget 49 = .ok (.invokevirtual 59, 3) := by decide +kernel
theorem dX8_forget_52 : decode cX8_forget 52 = .ok (.iinc 1 1, 3) := by decide +kernel
theorem dX8_forget_55 : decode cX8_forget 55 = .ok (.goto (-21), 3) := by decide +kernel
theorem dX8_forget_58 : decode cX8_forget 58 = .ok (.aload_n 0, 1) := by decide +kernel
theorem dX8_forget_59 : decode cX8_forget 59 = .ok (.iconst 0, 1) := by decide +kernel
theorem dX8_forget_60 : decode cX8_forget 60 = .ok (.putfield 36, 3) := by decide +kernel
theorem dX8_forget_63 : decode cX8_forget 63 = .ok (.aload_n 0, 1) := by decide +kernel
theorem dX8_forget_64 : decode cX8_forget 64 = .ok (.iconst 0, 1) := by decide +kernel
theorem dX8_forget_65 : decode cX8_forget 65 = .ok (.putfield 40, 3) := by decide +kernel
theorem dX8_forget_68 : decode cX8_forget 68 = .ok (.aload_n 0, 1) := by decide +kernel
theorem dX8_forget_69 : decode cX8_forget 69 = .ok (.iconst 0, 1) := by decide +kernel
theorem dX8_forget_70 : decode cX8_forget 70 = .ok (.putfield 43, 3) := by decide +kernel
theorem dX8_forget_73 : decode cX8_forget 73 = .ok (.aload_n 0, 1) := by decide +kernel
theorem dX8_forget_74 : decode cX8_forget 74 = .ok (.iconst 0, 1) := by decide +kernel
theorem dX8_forget_75 : decode cX8_forget 75 = .ok (.putfield 47, 3) := by decide +kernel
theorem dX8_forget_78 : decode cX8_forget 78 = .ok (.aload_n 0, 1) := by decide +kernel
theorem dX8_forget_79 : decode cX8_forget 79 = .ok (.iconst 0, 1) := by decide +kernel
theorem dX8_forget_80 : decode cX8_forget 80 = .ok (.putfield 50, 3) := by decide +kernel
theorem dX8_forget_83 : decode cX8_forget 83 = .ok (.aload_n 0, 1) := by decide +kernel
theorem dX8_forget_84 : decode cX8_forget 84 = .ok (.iconst 0, 1) := by decide +kernel
theorem dX8_forget_85 : decode cX8_forget 85 = .ok (.putfield 53, 3) := by decide +kernel
theorem dX8_forget_88 : decode cX8_forget 88 = .ok (.return_, 1) := by decide +kernel
theorem dX8_mood_0 : decode cX8_mood 0 = .ok (.iload_n 1, 1) := by decide +kernel
theorem dX8_mood_1 : decode cX8_mood 1 = .ok (.ifCond .lt 26, 3) := by decide +kernel
theorem dX8_mood_4 : decode cX8_mood 4 = .ok (.iload_n 1, 1) := by decide +kernel
theorem dX8_mood_5 : decode cX8_mood 5 = .ok (.aload_n 0, 1) := by decide +kernel
theorem dX8_mood_6 : decode cX8_mood 6 = .ok (.getfield 14, 3) := by decide +kernel
theorem dX8_mood_9 : decode cX8_mood 9 = .ok (.getfield 56, 3) := by decide +kernel
theorem dX8_mood_12 : decode cX8_mood 12 = .ok (.if_icmp .ge 15, 3) := by decide +kernel
theorem dX8_mood_15 : decode cX8_mood 15 = .ok (.aload_n 0, 1) := by decide +kernel
theorem dX8_mood_16 : decode cX8_mood 16 = .ok (.getfield 14, 3) := by decide +kernel
theorem dX8_mood_19 : decode cX8_mood 19 = .ok (.getfield 62, 3) := by decide +kernel
theorem dX8_mood_22 : decode cX8_mood 22 = .ok (.iload_n 1, 1) := by decide +kernel
theorem dX8_mood_23 : decode cX8_mood 23 = .ok (.iaload, 1) := by decide +kernel
theorem dX8_mood_24 : decode cX8_mood 24 = .ok (.goto 4, 3) := by decide +kernel
theorem dX8_mood_27 : decode cX8_mood 27 = .ok (.iconst 0, 1) := by decide +kernel
theorem dX8_mood_28 : decode cX8_mood 28 = .ok (.ireturn, 1) := by decide +kernel
theorem dX8_minutesOf_0 : decode cX8_minutesOf 0 = .ok (.iload_n 1, 1) := by decide +kernel
theorem dX8_minutesOf_1 : decode cX8_minutesOf 1 = .ok (.ifCond .lt 26, 3) := by decide +kernel
theorem dX8_minutesOf_4 : decode cX8_minutesOf 4 = .ok (.iload_n 1, 1) := by decide +kernel
theorem dX8_minutesOf_5 : decode cX8_minutesOf 5 = .ok (.aload_n 0, 1) := by decide +kernel
theorem dX8_minutesOf_6 : decode cX8_minutesOf 6 = .ok (.getfield 14, 3) := by decide +kernel
theorem dX8_minutesOf_9 : decode cX8_minutesOf 9 = .ok (.getfield 56, 3) := by decide +kernel
theorem dX8_minutesOf_12 : decode cX8_minutesOf 12 = .ok (.if_icmp .ge 15, 3) := by decide +kernel
theorem dX8_minutesOf_15 : decode cX8_minutesOf 15 = .ok (.aload_n 0, 1) := by decide +kernel
theorem dX8_minutesOf_16 : decode cX8_minutesOf 16 = .ok (.getfield 14, 3) := by decide +kernel
theorem dX8_minutesOf_19 : decode cX8_minutesOf 19 = .ok (.getfield 66, 3) := by decide +kernel
theorem dX8_minutesOf_22 : decode cX8_minutesOf 22 = .ok (.iload_n 1, 1) := by decide +kernel
theorem dX8_minutesOf_23 : decode cX8_minutesOf 23 = .ok (.iaload, 1) := by decide +kernel
theorem dX8_minutesOf_24 : decode cX8_minutesOf 24 = .ok (.goto 4, 3) := by decide +kernel
theorem dX8_minutesOf_27 : decode cX8_minutesOf 27 = .ok (.iconst 0, 1) := by decide +kernel
theorem dX8_minutesOf_28 : decode cX8_minutesOf 28 = .ok (.ireturn, 1) := by decide +kernel
theorem dX8_taste_0 : decode cX8_taste 0 = .ok (.iload_n 1, 1) := by decide +kernel
theorem dX8_taste_1 : decode cX8_taste 1 = .ok (.ifCond .lt 26, 3) := by decide +kernel
theorem dX8_taste_4 : decode cX8_taste 4 = .ok (.iload_n 1, 1) := by decide +kernel
theorem dX8_taste_5 : decode cX8_taste 5 = .ok (.aload_n 0, 1) := by decide +kernel
theorem dX8_taste_6 : decode cX8_taste 6 = .ok (.getfield 20, 3) := by decide +kernel
theorem dX8_taste_9 : decode cX8_taste 9 = .ok (.getfield 56, 3) := by decide +kernel
theorem dX8_taste_12 : decode cX8_taste 12 = .ok (.if_icmp .ge 15, 3) := by decide +kernel
theorem dX8_taste_15 : decode cX8_taste 15 = .ok (.aload_n 0, 1) := by decide +kernel
theorem dX8_taste_16 : decode cX8_taste 16 = .ok (.getfield 20, 3) := by decide +kernel
theorem dX8_taste_19 : decode cX8_taste 19 = .ok (.getfield 62, 3) := by decide +kernel
theorem dX8_taste_22 : decode cX8_taste 22 = .ok (.iload_n 1, 1) := by decide +kernel
theorem dX8_taste_23 : decode cX8_taste 23 = .ok (.iaload, 1) := by decide +kernel
theorem dX8_taste_24 : decode cX8_taste 24 = .ok (.goto 4, 3) := by decide +kernel
theorem dX8_taste_27 : decode cX8_taste 27 = .ok (.iconst 0, 1) := by decide +kernel
theorem dX8_taste_28 : decode cX8_taste 28 = .ok (.ireturn, 1) := by decide +kernel
theorem dX8_hunger_0 : decode cX8_hunger 0 = .ok (.iload_n 1, 1) := by decide +kernel
theorem dX8_hunger_1 : decode cX8_hunger 1 = .ok (.ifCond .lt 26, 3) := by decide +kernel
theorem dX8_hunger_4 : decode cX8_hunger 4 = .ok (.iload_n 1, 1) := by decide +kernel
theorem dX8_hunger_5 : decode cX8_hunger 5 = .ok (.aload_n 0, 1) := by decide +kernel
theorem dX8_hunger_6 : decode cX8_hunger 6 = .ok (.getfield 20, 3) := by decide +kernel
theorem dX8_hunger_9 : decode cX8_hunger 9 = .ok (.getfield 56, 3) := by decide +kernel
theorem dX8_hunger_12 : decode cX8_hunger 12 = .ok (.if_icmp .ge 15, 3) := by decide +kernel
theorem dX8_hunger_15 : decode cX8_hunger 15 = .ok (.aload_n 0, 1) := by decide +kernel
theorem dX8_hunger_16 : decode cX8_hunger 16 = .ok (.getfield 20, 3) := by decide +kernel
theorem dX8_hunger_19 : decode cX8_hunger 19 = .ok (.getfield 66, 3) := by decide +kernel
theorem dX8_hunger_22 : decode cX8_hunger 22 = .ok (.iload_n 1, 1) := by decide +kernel
theorem dX8_hunger_23 : decode cX8_hunger 23 = .ok (.iaload, 1) := by decide +kernel
theorem dX8_hunger_24 : decode cX8_hunger 24 = .ok (.goto 4, 3) := by decide +kernel
theorem dX8_hunger_27 : decode cX8_hunger 27 = .ok (.iconst 0, 1) := by decide +kernel
theorem dX8_hunger_28 : decode cX8_hunger 28 = .ok (.ireturn, 1) := by decide +kernel
theorem dX8_without_0 : decode cX8_without 0 = .ok (.iconst 5, 1) := by decide +kernel
theorem dX8_without_1 : decode cX8_without 1 = .ok (.aload_n 0, 1) := by decide +kernel
theorem dX8_without_2 : decode cX8_without 2 = .ok (.iload_n 1, 1) := by decide +kernel
theorem dX8_without_3 : decode cX8_without 3 = .ok (.invokevirtual 69, 3) := by decide +kernel
theorem dX8_without_6 : decode cX8_without 6 = .ok (.iload_n 2, 1) := by decide +kernel
theorem dX8_without_7 : decode cX8_without 7 = .ok (.isub, 1) := by decide +kernel
theorem dX8_without_8 : decode cX8_without 8 = .ok (.invokestatic 73, 3) := by decide +kernel
theorem dX8_without_11 : decode cX8_without 11 = .ok (.isub, 1) := by decide +kernel
theorem dX8_without_12 : decode cX8_without 12 = .ok (.ireturn, 1) := by decide +kernel
theorem dX8_low_0 : decode cX8_low 0 = .ok (.iload_n 1, 1) := by decide +kernel
theorem dX8_low_1 : decode cX8_low 1 = .ok (.ifCond .lt 26, 3) := by decide +kernel
theorem dX8_low_4 : decode cX8_low 4 = .ok (.iload_n 1, 1) := by decide +kernel
theorem dX8_low_5 : decode cX8_low 5 = .ok (.aload_n 0, 1) := by decide +kernel
theorem dX8_low_6 : decode cX8_low 6 = .ok (.getfield 23, 3) := by decide +kernel
theorem dX8_low_9 : decode cX8_low 9 = .ok (.getfield 56, 3) := by decide +kernel
theorem dX8_low_12 : decode cX8_low 12 = .ok (.if_icmp .ge 15, 3) := by decide +kernel
theorem dX8_low_15 : decode cX8_low 15 = .ok (.aload_n 0, 1) := by decide +kernel
theorem dX8_low_16 : decode cX8_low 16 = .ok (.getfield 23, 3) := by decide +kernel
theorem dX8_low_19 : decode cX8_low 19 = .ok (.getfield 62, 3) := by decide +kernel
theorem dX8_low_22 : decode cX8_low 22 = .ok (.iload_n 1, 1) := by decide +kernel
theorem dX8_low_23 : decode cX8_low 23 = .ok (.iaload, 1) := by decide +kernel
theorem dX8_low_24 : decode cX8_low 24 = .ok (.goto 4, 3) := by decide +kernel
theorem dX8_low_27 : decode cX8_low 27 = .ok (.iconst 0, 1) := by decide +kernel
theorem dX8_low_28 : decode cX8_low 28 = .ok (.ireturn, 1) := by decide +kernel
theorem dX8_high_0 : decode cX8_high 0 = .ok (.iload_n 1, 1) := by decide +kernel
theorem dX8_high_1 : decode cX8_high 1 = .ok (.ifCond .lt 26, 3) := by decide +kernel
theorem dX8_high_4 : decode cX8_high 4 = .ok (.iload_n 1, 1) := by decide +kernel
theorem dX8_high_5 : decode cX8_high 5 = .ok (.aload_n 0, 1) := by decide +kernel
theorem dX8_high_6 : decode cX8_high 6 = .ok (.getfield 23, 3) := by decide +kernel
theorem dX8_high_9 : decode cX8_high 9 = .ok (.getfield 56, 3) := by decide +kernel
theorem dX8_high_12 : decode cX8_high 12 = .ok (.if_icmp .ge 15, 3) := by decide +kernel
theorem dX8_high_15 : decode cX8_high 15 = .ok (.aload_n 0, 1) := by decide +kernel
theorem dX8_high_16 : decode cX8_high 16 = .ok (.getfield 23, 3) := by decide +kernel
theorem dX8_high_19 : decode cX8_high 19 = .ok (.getfield 66, 3) := by decide +kernel
theorem dX8_high_22 : decode cX8_high 22 = .ok (.iload_n 1, 1) := by decide +kernel
theorem dX8_high_23 : decode cX8_high 23 = .ok (.iaload, 1) := by decide +kernel
theorem dX8_high_24 : decode cX8_high 24 = .ok (.goto 4, 3) := by decide +kernel
theorem dX8_high_27 : decode cX8_high 27 = .ok (.iconst 0, 1) := by decide +kernel
theorem dX8_high_28 : decode cX8_high 28 = .ok (.ireturn, 1) := by decide +kernel
theorem dX8_sacks_0 : decode cX8_sacks 0 = .ok (.iload_n 1, 1) := by decide +kernel
theorem dX8_sacks_1 : decode cX8_sacks 1 = .ok (.ifCond .lt 26, 3) := by decide +kernel
theorem dX8_sacks_4 : decode cX8_sacks 4 = .ok (.iload_n 1, 1) := by decide +kernel
theorem dX8_sacks_5 : decode cX8_sacks 5 = .ok (.aload_n 0, 1) := by decide +kernel
theorem dX8_sacks_6 : decode cX8_sacks 6 = .ok (.getfield 23, 3) := by decide +kernel
theorem dX8_sacks_9 : decode cX8_sacks 9 = .ok (.getfield 56, 3) := by decide +kernel
theorem dX8_sacks_12 : decode cX8_sacks 12 = .ok (.if_icmp .ge 15, 3) := by decide +kernel
theorem dX8_sacks_15 : decode cX8_sacks 15 = .ok (.aload_n 0, 1) := by decide +kernel
theorem dX8_sacks_16 : decode cX8_sacks 16 = .ok (.getfield 23, 3) := by decide +kernel
theorem dX8_sacks_19 : decode cX8_sacks 19 = .ok (.getfield 78, 3) := by decide +kernel
theorem dX8_sacks_22 : decode cX8_sacks 22 = .ok (.iload_n 1, 1) := by decide +kernel
theorem dX8_sacks_23 : decode cX8_sacks 23 = .ok (.iaload, 1) := by decide +kernel
theorem dX8_sacks_24 : decode cX8_sacks 24 = .ok (.goto 4, 3) := by decide +kernel
theorem dX8_sacks_27 : decode cX8_sacks 27 = .ok (.iconst 0, 1) := by decide +kernel
theorem dX8_sacks_28 : decode cX8_sacks 28 = .ok (.ireturn, 1) := by decide +kernel
theorem dX8_allSacks_0 : decode cX8_allSacks 0 = .ok (.iconst 0, 1) := by decide +kernel
theorem dX8_allSacks_1 : decode cX8_allSacks 1 = .ok (.istore_n 1, 1) := by decide +kernel
theorem dX8_allSacks_2 : decode cX8_allSacks 2 = .ok (.iconst 0, 1) := by decide +kernel
theorem dX8_allSacks_3 : decode cX8_allSacks 3 = .ok (.istore_n 2, 1) := by decide +kernel
theorem dX8_allSacks_4 : decode cX8_allSacks 4 = .ok (.iload_n 2, 1) := by decide +kernel
theorem dX8_allSacks_5 : decode cX8_allSacks 5 = .ok (.aload_n 0, 1) := by decide +kernel
theorem dX8_allSacks_6 : decode cX8_allSacks 6 = .ok (.getfield 23, 3) := by decide +kernel
theorem dX8_allSacks_9 : decode cX8_allSacks 9 = .ok (.getfield 56, 3) := by decide +kernel
theorem dX8_allSacks_12 : decode cX8_allSacks 12 = .ok (.if_icmp .ge 17, 3) := by decide +kernel
theorem dX8_allSacks_15 : decode cX8_allSacks 15 = .ok (.iload_n 1, 1) := by decide +kernel
theorem dX8_allSacks_16 : decode cX8_allSacks 16 = .ok (.aload_n 0, 1) := by decide +kernel
theorem dX8_allSacks_17 : decode cX8_allSacks 17 = .ok (.iload_n 2, 1) := by decide +kernel
theorem dX8_allSacks_18 : decode cX8_allSacks 18 = .ok (.invokevirtual 81, 3) := by decide +kernel
theorem dX8_allSacks_21 : decode cX8_allSacks 21 = .ok (.iadd, 1) := by decide +kernel
theorem dX8_allSacks_22 : decode cX8_allSacks 22 = .ok (.istore_n 1, 1) := by decide +kernel
theorem dX8_allSacks_23 : decode cX8_allSacks 23 = .ok (.iinc 2 1, 3) := by decide +kernel
theorem dX8_allSacks_26 : decode cX8_allSacks 26 = .ok (.goto (-22), 3) := by decide +kernel
theorem dX8_allSacks_29 : decode cX8_allSacks 29 = .ok (.iload_n 1, 1) := by decide +kernel
theorem dX8_allSacks_30 : decode cX8_allSacks 30 = .ok (.ireturn, 1) := by decide +kernel
theorem dX9_clear_0 : decode cX9_clear 0 = .ok (.aload_n 0, 1) := by decide +kernel
theorem dX9_clear_1 : decode cX9_clear 1 = .ok (.iconst 0, 1) := by decide +kernel
theorem dX9_clear_2 : decode cX9_clear 2 = .ok (.putfield 19, 3) := by decide +kernel
theorem dX9_clear_5 : decode cX9_clear 5 = .ok (.return_, 1) := by decide +kernel
theorem dX9_add_0 : decode cX9_add 0 = .ok (.aload_n 0, 1) := by decide +kernel
theorem dX9_add_1 : decode cX9_add 1 = .ok (.getfield 19, 3) := by decide +kernel
theorem dX9_add_4 : decode cX9_add 4 = .ok (.bipush 20, 2) := by decide +kernel
theorem dX9_add_6 : decode cX9_add 6 = .ok (.if_icmp .lt 7, 3) := by decide +kernel
theorem dX9_add_9 : decode cX9_add 9 = .ok (.aload_n 0, 1) := by decide +kernel
theorem dX9_add_10 : decode cX9_add 10 = .ok (.invokevirtual 23, 3) := by decide +kernel
theorem dX9_add_13 : decode cX9_add 13 = .ok (.aload_n 0, 1) := by decide +kernel
theorem dX9_add_14 : decode cX9_add 14 = .ok (.getfield 9, 3) := by decide +kernel
theorem dX9_add_17 : decode cX9_add 17 = .ok (.aload_n 0, 1) := by decide +kernel
theorem dX9_add_18 : decode cX9_add 18 = .ok (.getfield 19, 3) := by decide +kernel
theorem dX9_add_21 : decode cX9_add 21 = .ok (.iload_n 1, 1) := by decide +kernel
theorem dX9_add_22 : decode cX9_add 22 = .ok (.iastore, 1) := by decide +kernel
theorem dX9_add_23 : decode cX9_add 23 = .ok (.aload_n 0, 1) := by decide +kernel
theorem dX9_add_24 : decode cX9_add 24 = .ok (.getfield 13, 3) := by decide +kernel
theorem dX9_add_27 : decode cX9_add 27 = .ok (.aload_n 0, 1) := by decide +kernel
theorem dX9_add_28 : decode cX9_add 28 = .ok (.getfield 19, 3) := by decide +kernel
theorem dX9_add_31 : decode cX9_add 31 = .ok (.iload_n 2, 1) := by decide +kernel
theorem dX9_add_32 : decode cX9_add 32 = .ok (.iastore, 1) := by decide +kernel
theorem dX9_add_33 : decode cX9_add 33 = .ok (.aload_n 0, 1) := by decide +kernel
theorem dX9_add_34 : decode cX9_add 34 = .ok (.getfield 16, 3) := by decide +kernel
theorem dX9_add_37 : decode cX9_add 37 = .ok (.aload_n 0, 1) := by decide +kernel
theorem dX9_add_38 : decode cX9_add 38 = .ok (.getfield 19, 3) := by decide +kernel
theorem dX9_add_41 : decode cX9_add 41 = .ok (.iload_n 3, 1) := by decide +kernel
theorem dX9_add_42 : decode cX9_add 42 = .ok (.iastore, 1) := by decide +kernel
theorem dX9_add_43 : decode cX9_add 43 = .ok (.aload_n 0, 1) := by decide +kernel
theorem dX9_add_44 : decode cX9_add 44 = .ok (.dup, 1) := by decide +kernel
theorem dX9_add_45 : decode cX9_add 45 = .ok (.getfield 19, 3) := by decide +kernel
theorem dX9_add_48 : decode cX9_add 48 = .ok (.iconst 1, 1) := by decide +kernel
theorem dX9_add_49 : decode cX9_add 49 = .ok (.iadd, 1) := by decide +kernel
theorem dX9_add_50 : decode cX9_add 50 = .ok (.putfield 19, 3) := by decide +kernel
theorem dX9_add_53 : decode cX9_add 53 = .ok (.return_, 1) := by decide +kernel
theorem dX9_dropOldest_0 : decode cX9_dropOldest 0 = .ok (.iconst 1, 1) := by decide +kernel
theorem dX9_dropOldest_1 : decode cX9_dropOldest 1 = .ok (.istore_n 1, 1) := by decide +kernel
theorem dX9_dropOldest_2 : decode cX9_dropOldest 2 = .ok (.iload_n 1, 1) := by decide +kernel
theorem dX9_dropOldest_3 : decode cX9_dropOldest 3 = .ok (.bipush 20, 2) := by decide +kernel
theorem dX9_dropOldest_5 : decode cX9_dropOldest 5 = .ok (.if_icmp .ge 51, 3) := by decide +kernel
theorem dX9_dropOldest_8 : decode cX9_dropOldest 8 = .ok (.aload_n 0, 1) := by decide +kernel
theorem dX9_dropOldest_9 : decode cX9_dropOldest 9 = .ok (.getfield 9, 3) := by decide +kernel
theorem dX9_dropOldest_12 : decode cX9_dropOldest 12 = .ok (.iload_n 1, 1) := by decide +kernel
theorem dX9_dropOldest_13 : decode cX9_dropOldest 13 = .ok (.iconst 1, 1) := by decide +kernel
theorem dX9_dropOldest_14 : decode cX9_dropOldest 14 = .ok (.isub, 1) := by decide +kernel
theorem dX9_dropOldest_15 : decode cX9_dropOldest 15 = .ok (.aload_n 0, 1) := by decide +kernel
theorem dX9_dropOldest_16 : decode cX9_dropOldest 16 = .ok (.getfield 9, 3) := by decide +kernel
theorem dX9_dropOldest_19 : decode cX9_dropOldest 19 = .ok (.iload_n 1, 1) := by decide +kernel
theorem dX9_dropOldest_20 : decode cX9_dropOldest 20 = .ok (.iaload, 1) := by decide +kernel
theorem dX9_dropOldest_21 : decode cX9_dropOldest 21 = .ok (.iastore, 1) := by decide +kernel
theorem dX9_dropOldest_22 : decode cX9_dropOldest 22 = .ok (.aload_n 0, 1) := by decide +kernel
theorem dX9_dropOldest_23 : decode cX9_dropOldest 23 = .ok (.getfield 13, 3) := by decide +kernel
theorem dX9_dropOldest_26 : decode cX9_dropOldest 26 = .ok (.iload_n 1, 1) := by decide +kernel
theorem dX9_dropOldest_27 : decode cX9_dropOldest 27 = .ok (.iconst 1, 1) := by decide +kernel
theorem dX9_dropOldest_28 : decode cX9_dropOldest 28 = .ok (.isub, 1) := by decide +kernel
theorem dX9_dropOldest_29 : decode cX9_dropOldest 29 = .ok (.aload_n 0, 1) := by decide +kernel
theorem dX9_dropOldest_30 : decode cX9_dropOldest 30 = .ok (.getfield 13, 3) := by decide +kernel
theorem dX9_dropOldest_33 : decode cX9_dropOldest 33 = .ok (.iload_n 1, 1) := by decide +kernel
theorem dX9_dropOldest_34 : decode cX9_dropOldest 34 = .ok (.iaload, 1) := by decide +kernel
theorem dX9_dropOldest_35 : decode cX9_dropOldest 35 = .ok (.iastore, 1) := by decide +kernel
theorem dX9_dropOldest_36 : decode cX9_dropOldest 36 = .ok (.aload_n 0, 1) := by decide +kernel
theorem dX9_dropOldest_37 : decode cX9_dropOldest 37 = .ok (.getfield 16, 3) := by decide +kernel
theorem dX9_dropOldest_40 : decode cX9_dropOldest 40 = .ok (.iload_n 1, 1) := by decide +kernel
theorem dX9_dropOldest_41 : decode cX9_dropOldest 41 = .ok (.iconst 1, 1) := by decide +kernel
theorem dX9_dropOldest_42 : decode cX9_dropOldest 42 = .ok (.isub, 1) := by decide +kernel
theorem dX9_dropOldest_43 : decode cX9_dropOldest 43 = .ok (.aload_n 0, 1) := by decide +kernel
theorem dX9_dropOldest_44 : decode cX9_dropOldest 44 = .ok (.getfield 16, 3) := by decide +kernel
theorem dX9_dropOldest_47 : decode cX9_dropOldest 47 = .ok (.iload_n 1, 1) := by decide +kernel
theorem dX9_dropOldest_48 : decode cX9_dropOldest 48 = .ok (.iaload, 1) := by decide +kernel
theorem dX9_dropOldest_49 : decode cX9_dropOldest 49 = .ok (.iastore, 1) := by decide +kernel
theorem dX9_dropOldest_50 : decode cX9_dropOldest 50 = .ok (.iinc 1 1, 3) := by decide +kernel
theorem dX9_dropOldest_53 : decode cX9_dropOldest 53 = .ok (.goto (-51), 3) := by decide +kernel
theorem dX9_dropOldest_56 : decode cX9_dropOldest 56 = .ok (.aload_n 0, 1) := by decide +kernel
theorem dX9_dropOldest_57 : decode cX9_dropOldest 57 = .ok (.bipush 19, 2) := by decide +kernel
theorem dX9_dropOldest_59 : decode cX9_dropOldest 59 = .ok (.putfield 19, 3) := by decide +kernel
theorem dX9_dropOldest_62 : decode cX9_dropOldest 62 = .ok (.return_, 1) := by decide +kernel
theorem dX9_takeBack_0 : decode cX9_takeBack 0 = .ok (.aload_n 0, 1) := by decide +kernel
theorem dX9_takeBack_1 : decode cX9_takeBack 1 = .ok (.getfield 19, 3) := by decide +kernel
theorem dX9_takeBack_4 : decode cX9_takeBack 4 = .ok (.ifCond .ne 4, 3) := by decide +kernel
theorem dX9_takeBack_7 : decode cX9_takeBack 7 = .ok (.return_, 1) := by decide +kernel
theorem dX9_takeBack_8 : decode cX9_takeBack 8 = .ok (.aload_n 0, 1) := by decide +kernel
theorem dX9_takeBack_9 : decode cX9_takeBack 9 = .ok (.dup, 1) := by decide +kernel
theorem dX9_takeBack_10 : decode cX9_takeBack 10 = .ok (.getfield 19, 3) := by decide +kernel
theorem dX9_takeBack_13 : decode cX9_takeBack 13 = .ok (.iconst 1, 1) := by decide +kernel
theorem dX9_takeBack_14 : decode cX9_takeBack 14 = .ok (.isub, 1) := by decide +kernel
theorem dX9_takeBack_15 : decode cX9_takeBack 15 = .ok (.putfield 19, 3) := by decide +kernel
theorem dX9_takeBack_18 : decode cX9_takeBack 18 = .ok (.aload_n 0, 1) := by decide +kernel
theorem dX9_takeBack_19 : decode cX9_takeBack 19 = .ok (.getfield 9, 3) := by decide +kernel
theorem dX9_takeBack_22 : decode cX9_takeBack 22 = .ok (.aload_n 0, 1) := by decide +kernel
theorem dX9_takeBack_23 : decode cX9_takeBack 23 = .ok (.getfield 19, 3) := by decide +kernel
theorem dX9_takeBack_26 : decode cX9_takeBack 26 = .ok (.iaload, 1) := by decide +kernel
theorem dX9_takeBack_27 : decode cX9_takeBack 27 = .ok (.lookupswitch 57 #[(0, 25), (1, 32)], 25) := by decide +kernel
theorem dX9_takeBack_52 : decode cX9_takeBack 52 = .ok (.aload_n 1, 1) := by decide +kernel
theorem dX9_takeBack_53 : decode cX9_takeBack 53 = .ok (.invokevirtual 26, 3) := by decide +kernel
theorem dX9_takeBack_56 : decode cX9_takeBack 56 = .ok (.goto 41, 3) := by decide +kernel
theorem dX9_takeBack_59 : decode cX9_takeBack 59 = .ok (.aload_n 1, 1) := by decide +kernel
theorem dX9_takeBack_60 : decode cX9_takeBack 60 = .ok (.aload_n 0, 1) := by decide +kernel
theorem dX9_takeBack_61 : decode cX9_takeBack 61 = .ok (.getfield 13, 3) := by decide +kernel
theorem dX9_takeBack_64 : decode cX9_takeBack 64 = .ok (.aload_n 0, 1) := by decide +kernel
theorem dX9_takeBack_65 : decode cX9_takeBack 65 = .ok (.getfield 19, 3) := by decide +kernel
theorem dX9_takeBack_68 : decode cX9_takeBack 68 = .ok (.iaload, 1) := by decide +kernel
theorem dX9_takeBack_69 : decode cX9_takeBack 69 = .ok (.aload_n 0, 1) := by decide +kernel
theorem dX9_takeBack_70 : decode cX9_takeBack 70 = .ok (.getfield 16, 3) := by decide +kernel
theorem dX9_takeBack_73 : decode cX9_takeBack 73 = .ok (.aload_n 0, 1) := by decide +kernel
theorem dX9_takeBack_74 : decode cX9_takeBack 74 = .ok (.getfield 19, 3) := by decide +kernel
theorem dX9_takeBack_77 : decode cX9_takeBack 77 = .ok (.iaload, 1) := by decide +kernel
theorem dX9_takeBack_78 : decode cX9_takeBack 78 = .ok (.invokevirtual 31, 3) := by decide +kernel
theorem dX9_takeBack_81 : decode cX9_takeBack 81 = .ok (.goto 16, 3) := by decide +kernel
theorem dX9_takeBack_84 : decode cX9_takeBack 84 = .ok (.aload_n 1, 1) := by decide +kernel
theorem dX9_takeBack_85 : decode cX9_takeBack 85 = .ok (.aload_n 0, 1) := by decide +kernel
theorem dX9_takeBack_86 : decode cX9_takeBack 86 = .ok (.getfield 13, 3) := by decide +kernel
theorem dX9_takeBack_89 : decode cX9_takeBack 89 = .ok (.aload_n 0, 1) := by decide +kernel
theorem dX9_takeBack_90 : decode cX9_takeBack 90 = .ok (.getfield 19, 3) := by decide +kernel
theorem dX9_takeBack_93 : decode cX9_takeBack 93 = .ok (.iaload, 1) := by decide +kernel
theorem dX9_takeBack_94 : decode cX9_takeBack 94 = .ok (.putfield 35, 3) := by decide +kernel
theorem dX9_takeBack_97 : decode cX9_takeBack 97 = .ok (.return_, 1) := by decide +kernel
theorem dX10_begin_0 : decode cX10_begin 0 = .ok (.aload_n 0, 1) := by decide +kernel
theorem dX10_begin_1 : decode cX10_begin 1 = .ok (.aload_n 1, 1) := by decide +kernel
theorem dX10_begin_2 : decode cX10_begin 2 = .ok (.putfield 15, 3) := by decide +kernel
theorem dX10_begin_5 : decode cX10_begin 5 = .ok (.aload_n 0, 1) := by decide +kernel
theorem dX10_begin_6 : decode cX10_begin 6 = .ok (.iload_n 2, 1) := by decide +kernel
theorem dX10_begin_7 : decode cX10_begin 7 = .ok (.aload_n 1, 1) := by decide +kernel
theorem dX10_begin_8 : decode cX10_begin 8 = .ok (.arraylength, 1) := by decide +kernel
theorem dX10_begin_9 : decode cX10_begin 9 = .ok (.invokestatic 47, 3) := by decide +kernel
theorem dX10_begin_12 : decode cX10_begin 12 = .ok (.putfield 19, 3) := by decide +kernel
theorem dX10_begin_15 : decode cX10_begin 15 = .ok (.aload_n 0, 1) := by decide +kernel
theorem dX10_begin_16 : decode cX10_begin 16 = .ok (.iconst 0, 1) := by decide +kernel
theorem dX10_begin_17 : decode cX10_begin 17 = .ok (.putfield 23, 3) := by decide +kernel
theorem dX10_begin_20 : decode cX10_begin 20 = .ok (.aload_n 0, 1) := by decide +kernel
theorem dX10_begin_21 : decode cX10_begin 21 = .ok (.invokevirtual 53, 3) := by decide +kernel
theorem dX10_begin_24 : decode cX10_begin 24 = .ok (.return_, 1) := by decide +kernel
theorem dX10_peek_0 : decode cX10_peek 0 = .ok (.aload_n 0, 1) := by decide +kernel
theorem dX10_peek_1 : decode cX10_peek 1 = .ok (.getfield 23, 3) := by decide +kernel
theorem dX10_peek_4 : decode cX10_peek 4 = .ok (.aload_n 0, 1) := by decide +kernel
theorem dX10_peek_5 : decode cX10_peek 5 = .ok (.getfield 19, 3) := by decide +kernel
theorem dX10_peek_8 : decode cX10_peek 8 = .ok (.if_icmp .ge 19, 3) := by decide +kernel
theorem dX10_peek_11 : decode cX10_peek 11 = .ok (.aload_n 0, 1) := by decide +kernel
theorem dX10_peek_12 : decode cX10_peek 12 = .ok (.getfield 15, 3) := by decide +kernel
theorem dX10_peek_15 : decode cX10_peek 15 = .ok (.aload_n 0, 1) := by decide +kernel
theorem dX10_peek_16 : decode cX10_peek 16 = .ok (.getfield 23, 3) := by decide +kernel
theorem dX10_peek_19 : decode cX10_peek 19 = .ok (.baload, 1) := by decide +kernel
theorem dX10_peek_20 : decode cX10_peek 20 = .ok (.sipush 255, 3) := by decide +kernel
theorem dX10_peek_23 : decode cX10_peek 23 = .ok (.iand, 1) := by decide +kernel
theorem dX10_peek_24 : decode cX10_peek 24 = .ok (.goto 4, 3) := by decide +kernel
theorem dX10_peek_27 : decode cX10_peek 27 = .ok (.iconst (-1), 1) := by decide +kernel
theorem dX10_peek_28 : decode cX10_peek 28 = .ok (.ireturn, 1) := by decide +kernel
theorem dX10_next_0 : decode cX10_next 0 = .ok (.aload_n 0, 1) := by decide +kernel
theorem dX10_next_1 : decode cX10_next 1 = .ok (.getfield 23, 3) := by decide +kernel
theorem dX10_next_4 : decode cX10_next 4 = .ok (.aload_n 0, 1) := by decide +kernel
theorem dX10_next_5 : decode cX10_next 5 = .ok (.getfield 19, 3) := by decide +kernel
theorem dX10_next_8 : decode cX10_next 8 = .ok (.if_icmp .ge 34, 3) := by decide +kernel
theorem dX10_next_11 : decode cX10_next 11 = .ok (.aload_n 0, 1) := by decide +kernel
theorem dX10_next_12 : decode cX10_next 12 = .ok (.invokevirtual 56, 3) := by decide +kernel
theorem dX10_next_15 : decode cX10_next 15 = .ok (.bipush 10, 2) := by decide +kernel
theorem dX10_next_17 : decode cX10_next 17 = .ok (.if_icmp .eq 12, 3) := by decide +kernel
theorem dX10_next_20 : decode cX10_next 20 = .ok (.aload_n 0, 1) := by decide +kernel
theorem dX10_next_21 : decode cX10_next 21 = .ok (.invokevirtual 56, 3) := by decide +kernel
theorem dX10_next_24 : decode cX10_next 24 = .ok (.bipush 32, 2) := by decide +kernel
theorem dX10_next_26 : decode cX10_next 26 = .ok (.if_icmp .ne 16, 3) := by decide +kernel
theorem dX10_next_29 : decode cX10_next 29 = .ok (.aload_n 0, 1) := by decide +kernel
theorem dX10_next_30 : decode cX10_next 30 = .ok (.dup, 1) := by decide +kernel
theorem dX10_next_31 : decode cX10_next 31 = .ok (.getfield 23, 3) := by decide +kernel
theorem dX10_next_34 : decode cX10_next 34 = .ok (.iconst 1, 1) := by decide +kernel
theorem dX10_next_35 : decode cX10_next 35 = .ok (.iadd, 1) := by decide +kernel
theorem dX10_next_36 : decode cX10_next 36 = .ok (.putfield 23, 3) := by decide +kernel
theorem dX10_next_39 : decode cX10_next 39 = .ok (.goto (-39), 3) := by decide +kernel
theorem dX10_next_42 : decode cX10_next 42 = .ok (.aload_n 0, 1) := by decide +kernel
theorem dX10_next_43 : decode cX10_next 43 = .ok (.aload_n 0, 1) := by decide +kernel
theorem dX10_next_44 : decode cX10_next 44 = .ok (.getfield 23, 3) := by decide +kernel
theorem dX10_next_47 : decode cX10_next 47 = .ok (.putfield 32, 3) := by decide +kernel
theorem dX10_next_50 : decode cX10_next 50 = .ok (.aload_n 0, 1) := by decide +kernel
theorem dX10_next_51 : decode cX10_next 51 = .ok (.iconst 0, 1) := by decide +kernel
theorem dX10_next_52 : decode cX10_next 52 = .ok (.putfield 29, 3) := by decide +kernel
theorem dX10_next_55 : decode cX10_next 55 = .ok (.aload_n 0, 1) := by decide +kernel
theorem dX10_next_56 : decode cX10_next 56 = .ok (.invokevirtual 56, 3) := by decide +kernel
theorem dX10_next_59 : decode cX10_next 59 = .ok (.istore_n 1, 1) := by decide +kernel
theorem dX10_next_60 : decode cX10_next 60 = .ok (.iload_n 1, 1) := by decide +kernel
theorem dX10_next_61 : decode cX10_next 61 = .ok (.iconst (-1), 1) := by decide +kernel
theorem dX10_next_62 : decode cX10_next 62 = .ok (.if_icmp .ne 11, 3) := by decide +kernel
theorem dX10_next_65 : decode cX10_next 65 = .ok (.aload_n 0, 1) := by decide +kernel
theorem dX10_next_66 : decode cX10_next 66 = .ok (.iconst 0, 1) := by decide +kernel
theorem dX10_next_67 : decode cX10_next 67 = .ok (.putfield 26, 3) := by decide +kernel
theorem dX10_next_70 : decode cX10_next 70 = .ok (.goto 50, 3) := by decide +kernel
theorem dX10_next_73 : decode cX10_next 73 = .ok (.iload_n 1, 1) := by decide +kernel
theorem dX10_next_74 : decode cX10_next 74 = .ok (.invokestatic 59, 3) := by decide +kernel
theorem dX10_next_77 : decode cX10_next 77 = .ok (.ifCond .eq 10, 3) := by decide +kernel
theorem dX10_next_80 : decode cX10_next 80 = .ok (.aload_n 0, 1) := by decide +kernel
theorem dX10_next_81 : decode cX10_next 81 = .ok (.invokevirtual 63, 3) := by decide +kernel
theorem dX10_next_84 : decode cX10_next 84 = .ok (.goto 36, 3) := by decide +kernel
theorem dX10_next_87 : decode cX10_next 87 = .ok (.iload_n 1, 1) := by decide +kernel
theorem dX10_next_88 : decode cX10_next 88 = .ok (.invokestatic 66, 3) := by decide +kernel
theorem dX10_next_91 : decode cX10_next 91 = .ok (.ifCond .eq 10, 3) := by decide +kernel
theorem dX10_next_94 : decode cX10_next 94 = .ok (.aload_n 0, 1) := by decide +kernel
theorem dX10_next_95 : decode cX10_next 95 = .ok (.invokevirtual 69, 3) := by decide +kernel
theorem dX10_next_98 : decode cX10_next 98 = .ok (.goto 22, 3) := by decide +kernel
theorem dX10_next_101 : decode cX10_next 101 = .ok (.aload_n 0, 1) := by decide +kernel
theorem dX10_next_102 : decode cX10_next 102 = .ok (.dup, 1) := by decide +kernel
theorem dX10_next_103 : decode cX10_next 103 = .ok (.getfield 23, 3) := by decide +kernel
theorem dX10_next_106 : decode cX10_next 106 = .ok (.iconst 1, 1) := by decide +kernel
theorem dX10_next_107 : decode cX10_next 107 = .ok (.iadd, 1) := by decide +kernel
theorem dX10_next_108 : decode cX10_next 108 = .ok (.putfield 23, 3) := by decide +kernel
theorem dX10_next_111 : decode cX10_next 111 = .ok (.aload_n 0, 1) := by decide +kernel
theorem dX10_next_112 : decode cX10_next 112 = .ok (.iload_n 1, 1) := by decide +kernel
theorem dX10_next_113 : decode cX10_next 113 = .ok (.aload_n 0, 1) := by decide +kernel
theorem dX10_next_114 : decode cX10_next 114 = .ok (.invokevirtual 56, 3) := by decide +kernel
theorem dX10_next_117 : decode cX10_next 117 = .ok (.invokevirtual 72, 3) := by decide +kernel
theorem dX10_next_120 : decode cX10_next 120 = .ok (.return_, 1) := by decide +kernel
theorem dX10_isDigit_0 : decode cX10_isDigit 0 = .ok (.iload_n 0, 1) := by decide +kernel
theorem dX10_isDigit_1 : decode cX10_isDigit 1 = .ok (.bipush 48, 2) := by decide +kernel
theorem dX10_isDigit_3 : decode cX10_isDigit 3 = .ok (.if_icmp .lt 13, 3) := by decide +kernel
theorem dX10_isDigit_6 : decode cX10_isDigit 6 = .ok (.iload_n 0, 1) := by decide +kernel
theorem dX10_isDigit_7 : decode cX10_isDigit 7 = .ok (.bipush 57, 2) := by decide +kernel
theorem dX10_isDigit_9 : decode cX10_isDigit 9 = .ok (.if_icmp .gt 7, 3) := by decide +kernel
theorem dX10_isDigit_12 : decode cX10_isDigit 12 = .ok (.iconst 1, 1) := by decide +kernel
theorem dX10_isDigit_13 : decode cX10_isDigit 13 = .ok (.goto 4, 3) := by decide +kernel
theorem dX10_isDigit_16 : decode cX10_isDigit 16 = .ok (.iconst 0, 1) := by decide +kernel
theorem dX10_isDigit_17 : decode cX10_isDigit 17 = .ok (.ireturn, 1) := by decide +kernel
theorem dX10_isLetter_0 : decode cX10_isLetter 0 = .ok (.iload_n 0, 1) := by decide +kernel
theorem dX10_isLetter_1 : decode cX10_isLetter 1 = .ok (.bipush 97, 2) := by decide +kernel
theorem dX10_isLetter_3 : decode cX10_isLetter 3 = .ok (.if_icmp .lt 13, 3) := by decide +kernel
theorem dX10_isLetter_6 : decode cX10_isLetter 6 = .ok (.iload_n 0, 1) := by decide +kernel
theorem dX10_isLetter_7 : decode cX10_isLetter 7 = .ok (.bipush 122, 2) := by decide +kernel
theorem dX10_isLetter_9 : decode cX10_isLetter 9 = .ok (.if_icmp .gt 7, 3) := by decide +kernel
theorem dX10_isLetter_12 : decode cX10_isLetter 12 = .ok (.iconst 1, 1) := by decide +kernel
theorem dX10_isLetter_13 : decode cX10_isLetter 13 = .ok (.goto 4, 3) := by decide +kernel
theorem dX10_isLetter_16 : decode cX10_isLetter 16 = .ok (.iconst 0, 1) := by decide +kernel
theorem dX10_isLetter_17 : decode cX10_isLetter 17 = .ok (.ireturn, 1) := by decide +kernel
theorem dX10_takeNumber_0 : decode cX10_takeNumber 0 = .ok (.aload_n 0, 1) := by decide +kernel
theorem dX10_takeNumber_1 : decode cX10_takeNumber 1 = .ok (.iconst 1, 1) := by decide +kernel
theorem dX10_takeNumber_2 : decode cX10_takeNumber 2 = .ok (.putfield 26, 3) := by decide +kernel
theorem dX10_takeNumber_5 : decode cX10_takeNumber 5 = .ok (.aload_n 0, 1) := by decide +kernel
theorem dX10_takeNumber_6 : decode cX10_takeNumber 6 = .ok (.getfield 23, 3) := by decide +kernel
theorem dX10_takeNumber_9 : decode cX10_takeNumber 9 = .ok (.aload_n 0, 1) := by decide +kernel
theorem dX10_takeNumber_10 : decode cX10_takeNumber 10 = .ok (.getfield 19, 3) := by decide +kernel
theorem dX10_takeNumber_13 : decode cX10_takeNumber 13 = .ok (.if_icmp .ge 50, 3) := by decide +kernel
theorem dX10_takeNumber_16 : decode cX10_takeNumber 16 = .ok (.aload_n 0, 1) := by decide +kernel
theorem dX10_takeNumber_17 : decode cX10_takeNumber 17 = .ok (.invokevirtual 56, 3) := by decide +kernel
theorem dX10_takeNumber_20 : decode cX10_takeNumber 20 = .ok (.invokestatic 59, 3) := by decide +kernel
theorem dX10_takeNumber_23 : decode cX10_takeNumber 23 = .ok (.ifCond .eq 40, 3) := by decide +kernel
theorem dX10_takeNumber_26 : decode cX10_takeNumber 26 = .ok (.aload_n 0, 1) := by decide +kernel
theorem dX10_takeNumber_27 : decode cX10_takeNumber 27 = .ok (.aload_n 0, 1) := by decide +kernel
theorem dX10_takeNumber_28 : decode cX10_takeNumber 28 = .ok (.getfield 29, 3) := by decide +kernel
theorem dX10_takeNumber_31 : decode cX10_takeNumber 31 = .ok (.bipush 10, 2) := by decide +kernel
theorem dX10_takeNumber_33 : decode cX10_takeNumber 33 = .ok (.imul, 1) := by decide +kernel
theorem dX10_takeNumber_34 : decode cX10_takeNumber 34 = .ok (.aload_n 0, 1) := by decide +kernel
theorem dX10_takeNumber_35 : decode cX10_takeNumber 35 = .ok (.invokevirtual 56, 3) := by decide +kernel
theorem dX10_takeNumber_38 : decode cX10_takeNumber 38 = .ok (.iadd, 1) := by decide +kernel
theorem dX10_takeNumber_39 : decode cX10_takeNumber 39 = .ok (.bipush 48, 2) := by decide +kernel
theorem dX10_takeNumber_41 : decode cX10_takeNumber 41 = .ok (.isub, 1) := by decide +kernel
theorem dX10_takeNumber_42 : decode cX10_takeNumber 42 = .ok (.ldc 76, 2) := by decide +kernel
theorem dX10_takeNumber_44 : decode cX10_takeNumber 44 = .ok (.invokestatic 47, 3) := by decide +kernel
theorem dX10_takeNumber_47 : decode cX10_takeNumber 47 = .ok (.putfield 29, 3) := by decide +kernel
theorem dX10_takeNumber_50 : decode cX10_takeNumber 50 = .ok (.aload_n 0, 1) := by decide +kernel
theorem dX10_takeNumber_51 : decode cX10_takeNumber 51 = .ok (.dup, 1) := by decide +kernel
theorem dX10_takeNumber_52 : decode cX10_takeNumber 52 = .ok (.getfield 23, 3) := by decide +kernel
theorem dX10_takeNumber_55 : decode cX10_takeNumber 55 = .ok (.iconst 1, 1) := by decide +kernel
theorem dX10_takeNumber_56 : decode cX10_takeNumber 56 = .ok (.iadd, 1) := by decide +kernel
theorem dX10_takeNumber_57 : decode cX10_takeNumber 57 = .ok (.putfield 23, 3) := by decide +kernel
theorem dX10_takeNumber_60 : decode cX10_takeNumber 60 = .ok (.goto (-55), 3) := by decide +kernel
theorem dX10_takeNumber_63 : decode cX10_takeNumber 63 = .ok (.return_, 1) := by decide +kernel
theorem dX10_takeWord_0 : decode cX10_takeWord 0 = .ok (.iconst 0, 1) := by decide +kernel
theorem dX10_takeWord_1 : decode cX10_takeWord 1 = .ok (.istore_n 1, 1) := by decide +kernel
theorem dX10_takeWord_2 : decode cX10_takeWord 2 = .ok (.aload_n 0, 1) := by decide +kernel
theorem dX10_takeWord_3 : decode cX10_takeWord 3 = .ok (.getfield 23, 3) := by decide +kernel
theorem dX10_takeWord_6 : decode cX10_takeWord 6 = .ok (.aload_n 0, 1) := by decide +kernel
theorem dX10_takeWord_7 : decode cX10_takeWord 7 = .ok (.getfield 19, 3) := by decide +kernel
theorem dX10_takeWord_10 : decode cX10_takeWord 10 = .ok (.if_icmp .ge 66, 3) := by decide +kernel
theorem dX10_takeWord_13 : decode cX10_takeWord 13 = .ok (.aload_n 0, 1) := by decide +kernel
theorem dX10_takeWord_14 : decode cX10_takeWord 14 = .ok (.invokevirtual 56, 3) := by decide +kernel
theorem dX10_takeWord_17 : decode cX10_takeWord 17 = .ok (.invokestatic 66, 3) := by decide +kernel
theorem dX10_takeWord_20 : decode cX10_takeWord 20 = .ok (.ifCond .eq 56, 3) := by decide +kernel
theorem dX10_takeWord_23 : decode cX10_takeWord 23 = .ok (.aload_n 0, 1) := by decide +kernel
theorem dX10_takeWord_24 : decode cX10_takeWord 24 = .ok (.getfield 23, 3) := by decide +kernel
theorem dX10_takeWord_27 : decode cX10_takeWord 27 = .ok (.aload_n 0, 1) := by decide +kernel
theorem dX10_takeWord_28 : decode cX10_takeWord 28 = .ok (.getfield 32, 3) := by decide +kernel
theorem dX10_takeWord_31 : decode cX10_takeWord 31 = .ok (.isub, 1) := by decide +kernel
theorem dX10_takeWord_32 : decode cX10_takeWord 32 = .ok (.bipush 6, 2) := by decide +kernel
theorem dX10_takeWord_34 : decode cX10_takeWord 34 = .ok (.if_icmp .ge 29, 3) := by decide +kernel
theorem dX10_takeWord_37 : decode cX10_takeWord 37 = .ok (.iload_n 1, 1) := by decide +kernel
theorem dX10_takeWord_38 : decode cX10_takeWord 38 = .ok (.aload_n 0, 1) := by decide +kernel
theorem dX10_takeWord_39 : decode cX10_takeWord 39 = .ok (.invokevirtual 56, 3) := by decide +kernel
theorem dX10_takeWord_42 : decode cX10_takeWord 42 = .ok (.bipush 97, 2) := by decide +kernel
theorem dX10_takeWord_44 : decode cX10_takeWord 44 = .ok (.isub, 1) := by decide +kernel
theorem dX10_takeWord_45 : decode cX10_takeWord 45 = .ok (.iconst 1, 1) := by decide +kernel
theorem dX10_takeWord_46 : decode cX10_takeWord 46 = .ok (.iadd, 1) := by decide +kernel
theorem dX10_takeWord_47 : decode cX10_takeWord 47 = .ok (.iconst 5, 1) := by decide +kernel
theorem dX10_takeWord_48 : decode cX10_takeWord 48 = .ok (.iconst 5, 1) := by decide +kernel
theorem dX10_takeWord_49 : decode cX10_takeWord 49 = .ok (.aload_n 0, 1) := by decide +kernel
theorem dX10_takeWord_50 : decode cX10_takeWord 50 = .ok (.getfield 23, 3) := by decide +kernel
theorem dX10_takeWord_53 : decode cX10_takeWord 53 = .ok (.aload_n 0, 1) := by decide +kernel
theorem dX10_takeWord_54 : decode cX10_takeWord 54 = .ok (.getfield 32, 3) := by decide +kernel
theorem dX10_takeWord_57 : decode cX10_takeWord 57 = .ok (.isub, 1) := by decide +kernel
theorem dX10_takeWord_58 : decode cX10_takeWord 58 = .ok (.isub, 1) := by decide +kernel
theorem dX10_takeWord_59 : decode cX10_takeWord 59 = .ok (.imul, 1) := by decide +kernel
theorem dX10_takeWord_60 : decode cX10_takeWord 60 = .ok (.ishl, 1) := by decide +kernel
theorem dX10_takeWord_61 : decode cX10_takeWord 61 = .ok (.iadd, 1) := by decide +kernel
theorem dX10_takeWord_62 : decode cX10_takeWord 62 = .ok (.istore_n 1, 1) := by decide +kernel
theorem dX10_takeWord_63 : decode cX10_takeWord 63 = .ok (.aload_n 0, 1) := by decide +kernel
theorem dX10_takeWord_64 : decode cX10_takeWord 64 = .ok (.dup, 1) := by decide +kernel
theorem dX10_takeWord_65 : decode cX10_takeWord 65 = .ok (.getfield 23, 3) := by decide +kernel
theorem dX10_takeWord_68 : decode cX10_takeWord 68 = .ok (.iconst 1, 1) := by decide +kernel
theorem dX10_takeWord_69 : decode cX10_takeWord 69 = .ok (.iadd, 1) := by decide +kernel
theorem dX10_takeWord_70 : decode cX10_takeWord 70 = .ok (.putfield 23, 3) := by decide +kernel
theorem dX10_takeWord_73 : decode cX10_takeWord 73 = .ok (.goto (-71), 3) := by decide +kernel
theorem dX10_takeWord_76 : decode cX10_takeWord 76 = .ok (.aload_n 0, 1) := by decide +kernel
theorem dX10_takeWord_77 : decode cX10_takeWord 77 = .ok (.iload_n 1, 1) := by decide +kernel
theorem dX10_takeWord_78 : decode cX10_takeWord 78 = .ok (.putfield 29, 3) := by decide +kernel
theorem dX10_takeWord_81 : decode cX10_takeWord 81 = .ok (.aload_n 0, 1) := by decide +kernel
theorem dX10_takeWord_82 : decode cX10_takeWord 82 = .ok (.aload_n 0, 1) := by decide +kernel
theorem dX10_takeWord_83 : decode cX10_takeWord 83 = .ok (.getfield 23, 3) := by decide +kernel
theorem dX10_takeWord_86 : decode cX10_takeWord 86 = .ok (.aload_n 0, 1) := by decide +kernel
theorem dX10_takeWord_87 : decode cX10_takeWord 87 = .ok (.getfield 32, 3) := by decide +kernel
theorem dX10_takeWord_90 : decode cX10_takeWord 90 = .ok (.isub, 1) := by decide +kernel
theorem dX10_takeWord_91 : decode cX10_takeWord 91 = .ok (.bipush 6, 2) := by decide +kernel
theorem dX10_takeWord_93 : decode cX10_takeWord 93 = .ok (.if_icmp .le 8, 3) := by decide +kernel
theorem dX10_takeWord_96 : decode cX10_takeWord 96 = .ok (.bipush 8, 2) := by decide +kernel
theorem dX10_takeWord_98 : decode cX10_takeWord 98 = .ok (.goto 4, 3) := by decide +kernel
theorem dX10_takeWord_101 : decode cX10_takeWord 101 = .ok (.iconst 3, 1) := by decide +kernel
theorem dX10_takeWord_102 : decode cX10_takeWord 102 = .ok (.putfield 26, 3) := by decide +kernel
theorem dX10_takeWord_105 : decode cX10_takeWord 105 = .ok (.iconst 0, 1) := by decide +kernel
theorem dX10_takeWord_106 : decode cX10_takeWord 106 = .ok (.istore_n 2, 1) := by decide +kernel
theorem dX10_takeWord_107 : decode cX10_takeWord 107 = .ok (.iload_n 2, 1) := by decide +kernel
theorem dX10_takeWord_108 : decode cX10_takeWord 108 = .ok (.bipush 20, 2) := by decide +kernel
theorem dX10_takeWord_110 : decode cX10_takeWord 110 = .ok (.if_icmp .ge 37, 3) := by decide +kernel
theorem dX10_takeWord_113 : decode cX10_takeWord 113 = .ok (.aload_n 0, 1) := by decide +kernel
theorem dX10_takeWord_114 : decode cX10_takeWord 114 = .ok (.getfield 26, 3) := by decide +kernel
theorem dX10_takeWord_117 : decode cX10_takeWord 117 = .ok (.iconst 3, 1) := by decide +kernel
theorem dX10_takeWord_118 : decode cX10_takeWord 118 = .ok (.if_icmp .ne 29, 3) := by decide +kernel
theorem dX10_takeWord_121 : decode cX10_takeWord 121 = .ok (.aload_n 0, 1) := by decide +kernel
theorem dX10_takeWord_122 : decode cX10_takeWord 122 = .ok (.getfield 11, 3) := by decide +kernel
theorem dX10_takeWord_125 : decode cX10_takeWord 125 = .ok (.iload_n 2, 1) := by decide +kernel
theorem dX10_takeWord_126 : decode cX10_takeWord 126 = .ok (.iaload, 1) := by decide +kernel
theorem dX10_takeWord_127 : decode cX10_takeWord 127 = .ok (.iload_n 1, 1) := by decide +kernel
theorem dX10_takeWord_128 : decode cX10_takeWord 128 = .ok (.if_icmp .ne 13, 3) := by decide +kernel
theorem dX10_takeWord_131 : decode cX10_takeWord 131 = .ok (.aload_n 0, 1) := by decide +kernel
theorem dX10_takeWord_132 : decode cX10_takeWord 132 = .ok (.iconst 2, 1) := by decide +kernel
theorem dX10_takeWord_133 : decode cX10_takeWord 133 = .ok (.putfield 26, 3) := by decide +kernel
theorem dX10_takeWord_136 : decode cX10_takeWord 136 = .ok (.aload_n 0, 1) := by decide +kernel
theorem dX10_takeWord_137 : decode cX10_takeWord 137 = .ok (.iload_n 2, 1) := by decide +kernel
theorem dX10_takeWord_138 : decode cX10_takeWord 138 = .ok (.putfield 29, 3) := by decide +kernel
theorem dX10_takeWord_141 : decode cX10_takeWord 141 = .ok (.iinc 2 1, 3) := by decide +kernel
theorem dX10_takeWord_144 : decode cX10_takeWord 144 = .ok (.goto (-37), 3) := by decide +kernel
theorem dX10_takeWord_147 : decode cX10_takeWord 147 = .ok (.return_, 1) := by decide +kernel
theorem dX10_takeSign_0 : decode cX10_takeSign 0 = .ok (.iload_n 1, 1) := by decide +kernel
theorem dX10_takeSign_1 : decode cX10_takeSign 1 = .ok (.lookupswitch 55 #[(40, 42), (41, 48), (59, 35)], 35) := by decide +kernel
theorem dX10_takeSign_36 : decode cX10_takeSign 36 = .ok (.aload_n 0, 1) := by decide +kernel
theorem dX10_takeSign_37 : decode cX10_takeSign 37 = .ok (.bipush 7, 2) := by decide +kernel
theorem dX10_takeSign_39 : decode cX10_takeSign 39 = .ok (.putfield 26, 3) := by decide +kernel
theorem dX10_takeSign_42 : decode cX10_takeSign 42 = .ok (.return_, 1) := by decide +kernel
theorem dX10_takeSign_43 : decode cX10_takeSign 43 = .ok (.aload_n 0, 1) := by decide +kernel
theorem dX10_takeSign_44 : decode cX10_takeSign 44 = .ok (.iconst 5, 1) := by decide +kernel
theorem dX10_takeSign_45 : decode cX10_takeSign 45 = .ok (.putfield 26, 3) := by decide +kernel
theorem dX10_takeSign_48 : decode cX10_takeSign 48 = .ok (.return_, 1) := by decide +kernel
theorem dX10_takeSign_49 : decode cX10_takeSign 49 = .ok (.aload_n 0, 1) := by decide +kernel
theorem dX10_takeSign_50 : decode cX10_takeSign 50 = .ok (.bipush 6, 2) := by decide +kernel
theorem dX10_takeSign_52 : decode cX10_takeSign 52 = .ok (.putfield 26, 3) := by decide +kernel
theorem dX10_takeSign_55 : decode cX10_takeSign 55 = .ok (.return_, 1) := by decide +kernel
theorem dX10_takeSign_56 : decode cX10_takeSign 56 = .ok (.aload_n 0, 1) := by decide +kernel
theorem dX10_takeSign_57 : decode cX10_takeSign 57 = .ok (.iload_n 1, 1) := by decide +kernel
theorem dX10_takeSign_58 : decode cX10_takeSign 58 = .ok (.iload_n 2, 1) := by decide +kernel
theorem dX10_takeSign_59 : decode cX10_takeSign 59 = .ok (.invokestatic 77, 3) := by decide +kernel
theorem dX10_takeSign_62 : decode cX10_takeSign 62 = .ok (.putfield 29, 3) := by decide +kernel
theorem dX10_takeSign_65 : decode cX10_takeSign 65 = .ok (.aload_n 0, 1) := by decide +kernel
theorem dX10_takeSign_66 : decode cX10_takeSign 66 = .ok (.aload_n 0, 1) := by decide +kernel
theorem dX10_takeSign_67 : decode cX10_takeSign 67 = .ok (.getfield 29, 3) := by decide +kernel
theorem dX10_takeSign_70 : decode cX10_takeSign 70 = .ok (.iconst (-1), 1) := by decide +kernel
theorem dX10_takeSign_71 : decode cX10_takeSign 71 = .ok (.if_icmp .ne 8, 3) := by decide +kernel
theorem dX10_takeSign_74 : decode cX10_takeSign 74 = .ok (.bipush 8, 2) := by decide +kernel
theorem dX10_takeSign_76 : decode cX10_takeSign 76 = .ok (.goto 4, 3) := by decide +kernel
theorem dX10_takeSign_79 : decode cX10_takeSign 79 = .ok (.iconst 4, 1) := by decide +kernel
theorem dX10_takeSign_80 : decode cX10_takeSign 80 = .ok (.putfield 26, 3) := by decide +kernel
theorem dX10_takeSign_83 : decode cX10_takeSign 83 = .ok (.aload_n 0, 1) := by decide +kernel
theorem dX10_takeSign_84 : decode cX10_takeSign 84 = .ok (.getfield 29, 3) := by decide +kernel
theorem dX10_takeSign_87 : decode cX10_takeSign 87 = .ok (.bipush 6, 2) := by decide +kernel
theorem dX10_takeSign_89 : decode cX10_takeSign 89 = .ok (.if_icmp .eq 21, 3) := by decide +kernel
theorem dX10_takeSign_92 : decode cX10_takeSign 92 = .ok (.aload_n 0, 1) := by decide +kernel
theorem dX10_takeSign_93 : decode cX10_takeSign 93 = .ok (.getfield 29, 3) := by decide +kernel
theorem dX10_takeSign_96 : decode cX10_takeSign 96 = .ok (.bipush 8, 2) := by decide +kernel
theorem dX10_takeSign_98 : decode cX10_takeSign 98 = .ok (.if_icmp .eq 12, 3) := by decide +kernel
theorem dX10_takeSign_101 : decode cX10_takeSign 101 = .ok (.aload_n 0, 1) := by decide +kernel
theorem dX10_takeSign_102 : decode cX10_takeSign 102 = .ok (.getfield 29, 3) := by decide +kernel
theorem dX10_takeSign_105 : decode cX10_takeSign 105 = .ok (.bipush 9, 2) := by decide +kernel
theorem dX10_takeSign_107 : decode cX10_takeSign 107 = .ok (.if_icmp .ne 13, 3) := by decide +kernel
theorem dX10_takeSign_110 : decode cX10_takeSign 110 = .ok (.aload_n 0, 1) := by decide +kernel
theorem dX10_takeSign_111 : decode cX10_takeSign 111 = .ok (.dup, 1) := by decide +kernel
theorem dX10_takeSign_112 : decode cX10_takeSign 112 = .ok (.getfield 23, 3) := by decide +kernel
theorem dX10_takeSign_115 : decode cX10_takeSign 115 = .ok (.iconst 1, 1) := by decide +kernel
theorem dX10_takeSign_116 : decode cX10_takeSign 116 = .ok (.iadd, 1) := by decide +kernel
theorem dX10_takeSign_117 : decode cX10_takeSign 117 = .ok (.putfield 23, 3) := by decide +kernel
theorem dX10_takeSign_120 : decode cX10_takeSign 120 = .ok (.return_, 1) := by decide +kernel
theorem dX10_jointOf_0 : decode cX10_jointOf 0 = .ok (.iload_n 0, 1) := by decide +kernel
theorem dX10_jointOf_1 : decode cX10_jointOf 1 = .ok (.tableswitch 150 42 62 #[105, 99, 150, 102, 150, 108, 150, 150, 150, 150, 150, 150, 150, 150, 150, 150, 150, 150, 114, 111, 136], 99) := by decide +kernel
theorem dX10_jointOf_100 : decode cX10_jointOf 100 = .ok (.bipush 11, 2) := by decide +kernel
theorem dX10_jointOf_102 : decode cX10_jointOf 102 = .ok (.ireturn, 1) := by decide +kernel
theorem dX10_jointOf_103 : decode cX10_jointOf 103 = .ok (.bipush 12, 2) := by decide +kernel
theorem dX10_jointOf_105 : decode cX10_jointOf 105 = .ok (.ireturn, 1) := by decide +kernel
theorem dX10_jointOf_106 : decode cX10_jointOf 106 = .ok (.bipush 13, 2) := by decide +kernel
theorem dX10_jointOf_108 : decode cX10_jointOf 108 = .ok (.ireturn, 1) := by decide +kernel
theorem dX10_jointOf_109 : decode cX10_jointOf 109 = .ok (.bipush 14, 2) := by decide +kernel
theorem dX10_jointOf_111 : decode cX10_jointOf 111 = .ok (.ireturn, 1) := by decide +kernel
theorem dX10_jointOf_112 : decode cX10_jointOf 112 = .ok (.bipush 7, 2) := by decide +kernel
theorem dX10_jointOf_114 : decode cX10_jointOf 114 = .ok (.ireturn, 1) := by decide +kernel
theorem dX10_jointOf_115 : decode cX10_jointOf 115 = .ok (.iload_n 1, 1) := by decide +kernel
theorem dX10_jointOf_116 : decode cX10_jointOf 116 = .ok (.bipush 62, 2) := by decide +kernel
theorem dX10_jointOf_118 : decode cX10_jointOf 118 = .ok (.if_icmp .ne 6, 3) := by decide +kernel
theorem dX10_jointOf_121 : decode cX10_jointOf 121 = .ok (.bipush 8, 2) := by decide +kernel
theorem dX10_jointOf_123 : decode cX10_jointOf 123 = .ok (.ireturn, 1) := by decide +kernel
theorem dX10_jointOf_124 : decode cX10_jointOf 124 = .ok (.iload_n 1, 1) := by decide +kernel
theorem dX10_jointOf_125 : decode cX10_jointOf 125 = .ok (.bipush 61, 2) := by decide +kernel
theorem dX10_jointOf_127 : decode cX10_jointOf 127 = .ok (.if_icmp .ne 8, 3) := by decide +kernel
theorem dX10_jointOf_130 : decode cX10_jointOf 130 = .ok (.bipush 6, 2) := by decide +kernel
theorem dX10_jointOf_132 : decode cX10_jointOf 132 = .ok (.goto 4, 3) := by decide +kernel
theorem dX10_jointOf_135 : decode cX10_jointOf 135 = .ok (.iconst 5, 1) := by decide +kernel
theorem dX10_jointOf_136 : decode cX10_jointOf 136 = .ok (.ireturn, 1) := by decide +kernel
theorem dX10_jointOf_137 : decode cX10_jointOf 137 = .ok (.iload_n 1, 1) := by decide +kernel
theorem dX10_jointOf_138 : decode cX10_jointOf 138 = .ok (.bipush 61, 2) := by decide +kernel
theorem dX10_jointOf_140 : decode cX10_jointOf 140 = .ok (.if_icmp .ne 8, 3) := by decide +kernel
theorem dX10_jointOf_143 : decode cX10_jointOf 143 = .ok (.bipush 9, 2) := by decide +kernel
theorem dX10_jointOf_145 : decode cX10_jointOf 145 = .ok (.goto 5, 3) := by decide +kernel
theorem dX10_jointOf_148 : decode cX10_jointOf 148 = .ok (.bipush 10, 2) := by decide +kernel
theorem dX10_jointOf_150 : decode cX10_jointOf 150 = .ok (.ireturn, 1) := by decide +kernel
theorem dX10_jointOf_151 : decode cX10_jointOf 151 = .ok (.iconst (-1), 1) := by decide +kernel
theorem dX10_jointOf_152 : decode cX10_jointOf 152 = .ok (.ireturn, 1) := by decide +kernel
theorem dX11_feed_0 : decode cX11_feed 0 = .ok (.aload_n 0, 1) := by decide +kernel
theorem dX11_feed_1 : decode cX11_feed 1 = .ok (.getfield 17, 3) := by decide +kernel
theorem dX11_feed_4 : decode cX11_feed 4 = .ok (.bipush 20, 2) := by decide +kernel
theorem dX11_feed_6 : decode cX11_feed 6 = .ok (.iadd, 1) := by decide +kernel
theorem dX11_feed_7 : decode cX11_feed 7 = .ok (.sipush 700, 3) := by decide +kernel
theorem dX11_feed_10 : decode cX11_feed 10 = .ok (.if_icmp .le 5, 3) := by decide +kernel
theorem dX11_feed_13 : decode cX11_feed 13 = .ok (.iconst (-1), 1) := by decide +kernel
theorem dX11_feed_14 : decode cX11_feed 14 = .ok (.ireturn, 1) := by decide +kernel
theorem dX11_feed_15 : decode cX11_feed 15 = .ok (.aload_n 0, 1) := by decide +kernel
theorem dX11_feed_16 : decode cX11_feed 16 = .ok (.iload_n 1, 1) := by decide +kernel
theorem dX11_feed_17 : decode cX11_feed 17 = .ok (.invokevirtual 101, 3) := by decide +kernel
theorem dX11_feed_20 : decode cX11_feed 20 = .ok (.aload_n 0, 1) := by decide +kernel
theorem dX11_feed_21 : decode cX11_feed 21 = .ok (.iload_n 2, 1) := by decide +kernel
theorem dX11_feed_22 : decode cX11_feed 22 = .ok (.invokevirtual 101, 3) := by decide +kernel
theorem dX11_feed_25 : decode cX11_feed 25 = .ok (.aload_n 0, 1) := by decide +kernel
theorem dX11_feed_26 : decode cX11_feed 26 = .ok (.iload_n 3, 1) := by decide +kernel
theorem dX11_feed_27 : decode cX11_feed 27 = .ok (.invokevirtual 101, 3) := by decide +kernel
theorem dX11_feed_30 : decode cX11_feed 30 = .ok (.aload_n 0, 1) := by decide +kernel
theorem dX11_feed_31 : decode cX11_feed 31 = .ok (.iload 4, 2) := by decide +kernel
theorem dX11_feed_33 : decode cX11_feed 33 = .ok (.invokevirtual 101, 3) := by decide +kernel
theorem dX11_feed_36 : decode cX11_feed 36 = .ok (.aload_n 0, 1) := by decide +kernel
theorem dX11_feed_37 : decode cX11_feed 37 = .ok (.iload 5, 2) := by decide +kernel
theorem dX11_feed_39 : decode cX11_feed 39 = .ok (.invokevirtual 101, 3) := by decide +kernel
theorem dX11_feed_42 : decode cX11_feed 42 = .ok (.aload_n 0, 1) := by decide +kernel
theorem dX11_feed_43 : decode cX11_feed 43 = .ok (.getfield 17, 3) := by decide +kernel
theorem dX11_feed_46 : decode cX11_feed 46 = .ok (.ireturn, 1) := by decide +kernel
theorem dX11_putBytes_0 : decode cX11_putBytes 0 = .ok (.bipush 24, 2) := by decide +kernel
theorem dX11_putBytes_2 : decode cX11_putBytes 2 = .ok (.istore_n 2, 1) := by decide +kernel
theorem dX11_putBytes_3 : decode cX11_putBytes 3 = .ok (.iload_n 2, 1) := by decide +kernel
theorem dX11_putBytes_4 : decode cX11_putBytes 4 = .ok (.ifCond .lt 42, 3) := by decide +kernel
theorem dX11_putBytes_7 : decode cX11_putBytes 7 = .ok (.aload_n 0, 1) := by decide +kernel
theorem dX11_putBytes_8 : decode cX11_putBytes 8 = .ok (.getfield 17, 3) := by decide +kernel
theorem dX11_putBytes_11 : decode cX11_putBytes 11 = .ok (.sipush 700, 3) := by decide +kernel
theorem dX11_putBytes_14 : decode cX11_putBytes 14 = .ok (.if_icmp .ge 32, 3) := by decide +kernel
theorem dX11_putBytes_17 : decode cX11_putBytes 17 = .ok (.aload_n 0, 1) := by decide +kernel
theorem dX11_putBytes_18 : decode cX11_putBytes 18 = .ok (.getfield 13, 3) := by decide +kernel
theorem dX11_putBytes_21 : decode cX11_putBytes 21 = .ok (.aload_n 0, 1) := by decide +kernel
theorem dX11_putBytes_22 : decode cX11_putBytes 22 = .ok (.getfield 17, 3) := by decide +kernel
theorem dX11_putBytes_25 : decode cX11_putBytes 25 = .ok (.iload_n 1, 1) := by decide +kernel
theorem dX11_putBytes_26 : decode cX11_putBytes 26 = .ok (.iload_n 2, 1) := by decide +kernel
theorem dX11_putBytes_27 : decode cX11_putBytes 27 = .ok (.ishr, 1) := by decide +kernel
theorem dX11_putBytes_28 : decode cX11_putBytes 28 = .ok (.i2b, 1) := by decide +kernel
theorem dX11_putBytes_29 : decode cX11_putBytes 29 = .ok (.bastore, 1) := by decide +kernel
theorem dX11_putBytes_30 : decode cX11_putBytes 30 = .ok (.aload_n 0, 1) := by decide +kernel
theorem dX11_putBytes_31 : decode cX11_putBytes 31 = .ok (.dup, 1) := by decide +kernel
theorem dX11_putBytes_32 : decode cX11_putBytes 32 = .ok (.getfield 17, 3) := by decide +kernel
theorem dX11_putBytes_35 : decode cX11_putBytes 35 = .ok (.iconst 1, 1) := by decide +kernel
theorem dX11_putBytes_36 : decode cX11_putBytes 36 = .ok (.iadd, 1) := by decide +kernel
theorem dX11_putBytes_37 : decode cX11_putBytes 37 = .ok (.putfield 17, 3) := by decide +kernel
theorem dX11_putBytes_40 : decode cX11_putBytes 40 = .ok (.iinc 2 (-8), 3) := by decide +kernel
theorem dX11_putBytes_43 : decode cX11_putBytes 43 = .ok (.goto (-40), 3) := by decide +kernel
theorem dX11_putBytes_46 : decode cX11_putBytes 46 = .ok (.return_, 1) := by decide +kernel
theorem dX11_text_0 : decode cX11_text 0 = .ok (.iload_n 1, 1) := by decide +kernel
theorem dX11_text_1 : decode cX11_text 1 = .ok (.ifCond .lt 11, 3) := by decide +kernel
theorem dX11_text_4 : decode cX11_text 4 = .ok (.iload_n 1, 1) := by decide +kernel
theorem dX11_text_5 : decode cX11_text 5 = .ok (.aload_n 0, 1) := by decide +kernel
theorem dX11_text_6 : decode cX11_text 6 = .ok (.getfield 17, 3) := by decide +kernel
theorem dX11_text_9 : decode cX11_text 9 = .ok (.if_icmp .le 6, 3) := by decide +kernel
theorem dX11_text_12 : decode cX11_text 12 = .ok (.bipush (-2), 2) := by decide +kernel
theorem dX11_text_14 : decode cX11_text 14 = .ok (.ireturn, 1) := by decide +kernel
theorem dX11_text_15 : decode cX11_text 15 = .ok (.aload_n 0, 1) := by decide +kernel
theorem dX11_text_16 : decode cX11_text 16 = .ok (.iconst 0, 1) := by decide +kernel
theorem dX11_text_17 : decode cX11_text 17 = .ok (.putfield 17, 3) := by decide +kernel
theorem dX11_text_20 : decode cX11_text 20 = .ok (.aload_n 0, 1) := by decide +kernel
theorem dX11_text_21 : decode cX11_text 21 = .ok (.getfield 42, 3) := by decide +kernel
theorem dX11_text_24 : decode cX11_text 24 = .ok (.aload_n 0, 1) := by decide +kernel
theorem dX11_text_25 : decode cX11_text 25 = .ok (.getfield 13, 3) := by decide +kernel
theorem dX11_text_28 : decode cX11_text 28 = .ok (.iload_n 1, 1) := by decide +kernel
theorem dX11_text_29 : decode cX11_text 29 = .ok (.aload_n 0, 1) := by decide +kernel
theorem dX11_text_30 : decode cX11_text 30 = .ok (.getfield 34, 3) := by decide +kernel
theorem dX11_text_33 : decode cX11_text 33 = .ok (.invokevirtual 105, 3) := by decide +kernel
theorem dX11_text_36 : decode cX11_text 36 = .ok (.aload_n 0, 1) := by decide +kernel
theorem dX11_text_37 : decode cX11_text 37 = .ok (.aload_n 0, 1) := by decide +kernel
theorem dX11_text_38 : decode cX11_text 38 = .ok (.getfield 42, 3) := by decide +kernel
theorem dX11_text_41 : decode cX11_text 41 = .ok (.getfield 109, 3) := by decide +kernel
theorem dX11_text_44 : decode cX11_text 44 = .ok (.putfield 21, 3) := by decide +kernel
theorem dX11_text_47 : decode cX11_text 47 = .ok (.aload_n 0, 1) := by decide +kernel
theorem dX11_text_48 : decode cX11_text 48 = .ok (.aload_n 0, 1) := by decide +kernel
theorem dX11_text_49 : decode cX11_text 49 = .ok (.getfield 42, 3) := by decide +kernel
theorem dX11_text_52 : decode cX11_text 52 = .ok (.getfield 110, 3) := by decide +kernel
theorem dX11_text_55 : decode cX11_text 55 = .ok (.putfield 24, 3) := by decide +kernel
theorem dX11_text_58 : decode cX11_text 58 = .ok (.aload_n 0, 1) := by decide +kernel
theorem dX11_text_59 : decode cX11_text 59 = .ok (.getfield 21, 3) := by decide +kernel
theorem dX11_text_62 : decode cX11_text 62 = .ok (.ifCond .eq 5, 3) := by decide +kernel
theorem dX11_text_65 : decode cX11_text 65 = .ok (.iconst (-1), 1) := by decide +kernel
theorem dX11_text_66 : decode cX11_text 66 = .ok (.ireturn, 1) := by decide +kernel
theorem dX11_text_67 : decode cX11_text 67 = .ok (.aload_n 0, 1) := by decide +kernel
theorem dX11_text_68 : decode cX11_text 68 = .ok (.getfield 30, 3) := by decide +kernel
theorem dX11_text_71 : decode cX11_text 71 = .ok (.astore_n 2, 1) := by decide +kernel
theorem dX11_text_72 : decode cX11_text 72 = .ok (.aload_n 0, 1) := by decide +kernel
theorem dX11_text_73 : decode cX11_text 73 = .ok (.aload_n 0, 1) := by decide +kernel
theorem dX11_text_74 : decode cX11_text 74 = .ok (.getfield 34, 3) := by decide +kernel
theorem dX11_text_77 : decode cX11_text 77 = .ok (.putfield 30, 3) := by decide +kernel
theorem dX11_text_80 : decode cX11_text 80 = .ok (.aload_n 0, 1) := by decide +kernel
theorem dX11_text_81 : decode cX11_text 81 = .ok (.aload_n 2, 1) := by decide +kernel
theorem dX11_text_82 : decode cX11_text 82 = .ok (.putfield 34, 3) := by decide +kernel
theorem dX11_text_85 : decode cX11_text 85 = .ok (.aload_n 0, 1) := by decide +kernel
theorem dX11_text_86 : decode cX11_text 86 = .ok (.invokevirtual 111, 3) := by decide +kernel
theorem dX11_text_89 : decode cX11_text 89 = .ok (.aload_n 0, 1) := by decide +kernel
theorem dX11_text_90 : decode cX11_text 90 = .ok (.getfield 30, 3) := by decide +kernel
theorem dX11_text_93 : decode cX11_text 93 = .ok (.getfield 114, 3) := by decide +kernel
theorem dX11_text_96 : decode cX11_text 96 = .ok (.ireturn, 1) := by decide +kernel
theorem dX11_beginAnew_0 : decode cX11_beginAnew 0 = .ok (.aload_n 0, 1) := by decide +kernel
theorem dX11_beginAnew_1 : decode cX11_beginAnew 1 = .ok (.getfield 56, 3) := by decide +kernel
theorem dX11_beginAnew_4 : decode cX11_beginAnew 4 = .ok (.aload_n 0, 1) := by decide +kernel
theorem dX11_beginAnew_5 : decode cX11_beginAnew 5 = .ok (.getfield 30, 3) := by decide +kernel
theorem dX11_beginAnew_8 : decode cX11_beginAnew 8 = .ok (.getfield 117, 3) := by decide +kernel
theorem dX11_beginAnew_11 : decode cX11_beginAnew 11 = .ok (.invokevirtual 120, 3) := by decide +kernel
