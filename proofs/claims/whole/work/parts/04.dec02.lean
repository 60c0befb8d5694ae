theorem dX12_text_77 : decode cX12_text 77 = .ok (.aload_n 0, 1) := by decide +kernel
theorem dX12_text_78 : decode cX12_text 78 = .ok (.invokevirtual 154, 3) := by decide +kernel
theorem dX12_text_81 : decode cX12_text 81 = .ok (.iload_n 2, 1) := by decide +kernel
theorem dX12_text_82 : decode cX12_text 82 = .ok (.ireturn, 1) := by decide +kernel
theorem dX12_fault_0 : decode cX12_fault 0 = .ok (.aload_n 0, 1) := by decide +kernel
theorem dX12_fault_1 : decode cX12_fault 1 = .ok (.iconst 0, 1) := by decide +kernel
theorem dX12_fault_2 : decode cX12_fault 2 = .ok (.putfield 157, 3) := by decide +kernel
theorem dX12_fault_5 : decode cX12_fault 5 = .ok (.iload_n 1, 1) := by decide +kernel
theorem dX12_fault_6 : decode cX12_fault 6 = .ok (.ifCond .ne 10, 3) := by decide +kernel
theorem dX12_fault_9 : decode cX12_fault 9 = .ok (.aload_n 0, 1) := by decide +kernel
theorem dX12_fault_10 : decode cX12_fault 10 = .ok (.getfield 163, 3) := by decide +kernel
theorem dX12_fault_13 : decode cX12_fault 13 = .ok (.goto 16, 3) := by decide +kernel
theorem dX12_fault_16 : decode cX12_fault 16 = .ok (.iload_n 1, 1) := by decide +kernel
theorem dX12_fault_17 : decode cX12_fault 17 = .ok (.iconst 1, 1) := by decide +kernel
theorem dX12_fault_18 : decode cX12_fault 18 = .ok (.if_icmp .ne 10, 3) := by decide +kernel
theorem dX12_fault_21 : decode cX12_fault 21 = .ok (.aload_n 0, 1) := by decide +kernel
theorem dX12_fault_22 : decode cX12_fault 22 = .ok (.getfield 16, 3) := by decide +kernel
theorem dX12_fault_25 : decode cX12_fault 25 = .ok (.goto 4, 3) := by decide +kernel
theorem dX12_fault_28 : decode cX12_fault 28 = .ok (.iconst (-1), 1) := by decide +kernel
theorem dX12_fault_29 : decode cX12_fault 29 = .ok (.ireturn, 1) := by decide +kernel
theorem dX12_named_0 : decode cX12_named 0 = .ok (.aload_n 0, 1) := by decide +kernel
theorem dX12_named_1 : decode cX12_named 1 = .ok (.iconst 0, 1) := by decide +kernel
theorem dX12_named_2 : decode cX12_named 2 = .ok (.putfield 157, 3) := by decide +kernel
theorem dX12_named_5 : decode cX12_named 5 = .ok (.iload_n 1, 1) := by decide +kernel
theorem dX12_named_6 : decode cX12_named 6 = .ok (.ifCond .ne 19, 3) := by decide +kernel
theorem dX12_named_9 : decode cX12_named 9 = .ok (.aload_n 0, 1) := by decide +kernel
theorem dX12_named_10 : decode cX12_named 10 = .ok (.getfield 27, 3) := by decide +kernel
theorem dX12_named_13 : decode cX12_named 13 = .ok (.iconst 0, 1) := by decide +kernel
theorem dX12_named_14 : decode cX12_named 14 = .ok (.aload_n 0, 1) := by decide +kernel
theorem dX12_named_15 : decode cX12_named 15 = .ok (.getfield 237, 3) := by decide +kernel
theorem dX12_named_18 : decode cX12_named 18 = .ok (.iload_n 2, 1) := by decide +kernel
theorem dX12_named_19 : decode cX12_named 19 = .ok (.invokestatic 259, 3) := by decide +kernel
theorem dX12_named_22 : decode cX12_named 22 = .ok (.goto 46, 3) := by decide +kernel
theorem dX12_named_25 : decode cX12_named 25 = .ok (.iload_n 1, 1) := by decide +kernel
theorem dX12_named_26 : decode cX12_named 26 = .ok (.iconst 1, 1) := by decide +kernel
theorem dX12_named_27 : decode cX12_named 27 = .ok (.if_icmp .ne 19, 3) := by decide +kernel
theorem dX12_named_30 : decode cX12_named 30 = .ok (.aload_n 0, 1) := by decide +kernel
theorem dX12_named_31 : decode cX12_named 31 = .ok (.getfield 36, 3) := by decide +kernel
theorem dX12_named_34 : decode cX12_named 34 = .ok (.iconst 0, 1) := by decide +kernel
theorem dX12_named_35 : decode cX12_named 35 = .ok (.aload_n 0, 1) := by decide +kernel
theorem dX12_named_36 : decode cX12_named 36 = .ok (.getfield 240, 3) := by decide +kernel
theorem dX12_named_39 : decode cX12_named 39 = .ok (.iload_n 2, 1) := by decide +kernel
theorem dX12_named_40 : decode cX12_named 40 = .ok (.invokestatic 259, 3) := by decide +kernel
theorem dX12_named_43 : decode cX12_named 43 = .ok (.goto 25, 3) := by decide +kernel
theorem dX12_named_46 : decode cX12_named 46 = .ok (.iload_n 1, 1) := by decide +kernel
theorem dX12_named_47 : decode cX12_named 47 = .ok (.iconst 2, 1) := by decide +kernel
theorem dX12_named_48 : decode cX12_named 48 = .ok (.if_icmp .ne 19, 3) := by decide +kernel
theorem dX12_named_51 : decode cX12_named 51 = .ok (.aload_n 0, 1) := by decide +kernel
theorem dX12_named_52 : decode cX12_named 52 = .ok (.getfield 45, 3) := by decide +kernel
theorem dX12_named_55 : decode cX12_named 55 = .ok (.iconst 0, 1) := by decide +kernel
theorem dX12_named_56 : decode cX12_named 56 = .ok (.aload_n 0, 1) := by decide +kernel
theorem dX12_named_57 : decode cX12_named 57 = .ok (.getfield 243, 3) := by decide +kernel
theorem dX12_named_60 : decode cX12_named 60 = .ok (.iload_n 2, 1) := by decide +kernel
theorem dX12_named_61 : decode cX12_named 61 = .ok (.invokestatic 259, 3) := by decide +kernel
theorem dX12_named_64 : decode cX12_named 64 = .ok (.goto 4, 3) := by decide +kernel
theorem dX12_named_67 : decode cX12_named 67 = .ok (.iconst (-1), 1) := by decide +kernel
theorem dX12_named_68 : decode cX12_named 68 = .ok (.ireturn, 1) := by decide +kernel
theorem dX12_standing_0 : decode cX12_standing 0 = .ok (.iload_n 0, 1) := by decide +kernel
theorem dX12_standing_1 : decode cX12_standing 1 = .ok (.bipush 13, 2) := by decide +kernel
theorem dX12_standing_3 : decode cX12_standing 3 = .ok (.if_icmp .lt 8, 3) := by decide +kernel
theorem dX12_standing_6 : decode cX12_standing 6 = .ok (.bipush 6, 2) := by decide +kernel
theorem dX12_standing_8 : decode cX12_standing 8 = .ok (.goto 50, 3) := by decide +kernel
theorem dX12_standing_11 : decode cX12_standing 11 = .ok (.iload_n 0, 1) := by decide +kernel
theorem dX12_standing_12 : decode cX12_standing 12 = .ok (.bipush 11, 2) := by decide +kernel
theorem dX12_standing_14 : decode cX12_standing 14 = .ok (.if_icmp .lt 7, 3) := by decide +kernel
theorem dX12_standing_17 : decode cX12_standing 17 = .ok (.iconst 5, 1) := by decide +kernel
theorem dX12_standing_18 : decode cX12_standing 18 = .ok (.goto 40, 3) := by decide +kernel
theorem dX12_standing_21 : decode cX12_standing 21 = .ok (.iload_n 0, 1) := by decide +kernel
theorem dX12_standing_22 : decode cX12_standing 22 = .ok (.iconst 5, 1) := by decide +kernel
theorem dX12_standing_23 : decode cX12_standing 23 = .ok (.if_icmp .lt 7, 3) := by decide +kernel
theorem dX12_standing_26 : decode cX12_standing 26 = .ok (.iconst 4, 1) := by decide +kernel
theorem dX12_standing_27 : decode cX12_standing 27 = .ok (.goto 31, 3) := by decide +kernel
theorem dX12_standing_30 : decode cX12_standing 30 = .ok (.iload_n 0, 1) := by decide +kernel
theorem dX12_standing_31 : decode cX12_standing 31 = .ok (.iconst 2, 1) := by decide +kernel
theorem dX12_standing_32 : decode cX12_standing 32 = .ok (.if_icmp .ne 7, 3) := by decide +kernel
theorem dX12_standing_35 : decode cX12_standing 35 = .ok (.iconst 3, 1) := by decide +kernel
theorem dX12_standing_36 : decode cX12_standing 36 = .ok (.goto 22, 3) := by decide +kernel
theorem dX12_standing_39 : decode cX12_standing 39 = .ok (.iload_n 0, 1) := by decide +kernel
theorem dX12_standing_40 : decode cX12_standing 40 = .ok (.iconst 3, 1) := by decide +kernel
theorem dX12_standing_41 : decode cX12_standing 41 = .ok (.if_icmp .ne 7, 3) := by decide +kernel
theorem dX12_standing_44 : decode cX12_standing 44 = .ok (.iconst 2, 1) := by decide +kernel
theorem dX12_standing_45 : decode cX12_standing 45 = .ok (.goto 13, 3) := by decide +kernel
theorem dX12_standing_48 : decode cX12_standing 48 = .ok (.iload_n 0, 1) := by decide +kernel
theorem dX12_standing_49 : decode cX12_standing 49 = .ok (.iconst 4, 1) := by decide +kernel
theorem dX12_standing_50 : decode cX12_standing 50 = .ok (.if_icmp .ne 7, 3) := by decide +kernel
theorem dX12_standing_53 : decode cX12_standing 53 = .ok (.iconst 1, 1) := by decide +kernel
theorem dX12_standing_54 : decode cX12_standing 54 = .ok (.goto 4, 3) := by decide +kernel
theorem dX12_standing_57 : decode cX12_standing 57 = .ok (.iconst 0, 1) := by decide +kernel
theorem dX12_standing_58 : decode cX12_standing 58 = .ok (.ireturn, 1) := by decide +kernel
theorem dX12_grown_0 : decode cX12_grown 0 = .ok (.aload_n 0, 1) := by decide +kernel
theorem dX12_grown_1 : decode cX12_grown 1 = .ok (.getfield 72, 3) := by decide +kernel
theorem dX12_grown_4 : decode cX12_grown 4 = .ok (.bipush 64, 2) := by decide +kernel
theorem dX12_grown_6 : decode cX12_grown 6 = .ok (.aload_n 0, 1) := by decide +kernel
theorem dX12_grown_7 : decode cX12_grown 7 = .ok (.getfield 231, 3) := by decide +kernel
theorem dX12_grown_10 : decode cX12_grown 10 = .ok (.iadd, 1) := by decide +kernel
theorem dX12_grown_11 : decode cX12_grown 11 = .ok (.iload_n 1, 1) := by decide +kernel
theorem dX12_grown_12 : decode cX12_grown 12 = .ok (.iastore, 1) := by decide +kernel
theorem dX12_grown_13 : decode cX12_grown 13 = .ok (.aload_n 0, 1) := by decide +kernel
theorem dX12_grown_14 : decode cX12_grown 14 = .ok (.getfield 75, 3) := by decide +kernel
theorem dX12_grown_17 : decode cX12_grown 17 = .ok (.bipush 64, 2) := by decide +kernel
theorem dX12_grown_19 : decode cX12_grown 19 = .ok (.aload_n 0, 1) := by decide +kernel
theorem dX12_grown_20 : decode cX12_grown 20 = .ok (.getfield 231, 3) := by decide +kernel
theorem dX12_grown_23 : decode cX12_grown 23 = .ok (.iadd, 1) := by decide +kernel
theorem dX12_grown_24 : decode cX12_grown 24 = .ok (.iload_n 2, 1) := by decide +kernel
theorem dX12_grown_25 : decode cX12_grown 25 = .ok (.iastore, 1) := by decide +kernel
theorem dX12_grown_26 : decode cX12_grown 26 = .ok (.aload_n 0, 1) := by decide +kernel
theorem dX12_grown_27 : decode cX12_grown 27 = .ok (.getfield 78, 3) := by decide +kernel
theorem dX12_grown_30 : decode cX12_grown 30 = .ok (.bipush 64, 2) := by decide +kernel
theorem dX12_grown_32 : decode cX12_grown 32 = .ok (.aload_n 0, 1) := by decide +kernel
theorem dX12_grown_33 : decode cX12_grown 33 = .ok (.getfield 231, 3) := by decide +kernel
theorem dX12_grown_36 : decode cX12_grown 36 = .ok (.iadd, 1) := by decide +kernel
theorem dX12_grown_37 : decode cX12_grown 37 = .ok (.iload_n 3, 1) := by decide +kernel
theorem dX12_grown_38 : decode cX12_grown 38 = .ok (.iastore, 1) := by decide +kernel
theorem dX12_grown_39 : decode cX12_grown 39 = .ok (.aload_n 0, 1) := by decide +kernel
theorem dX12_grown_40 : decode cX12_grown 40 = .ok (.getfield 84, 3) := by decide +kernel
theorem dX12_grown_43 : decode cX12_grown 43 = .ok (.aload_n 0, 1) := by decide +kernel
theorem dX12_grown_44 : decode cX12_grown 44 = .ok (.getfield 289, 3) := by decide +kernel
theorem dX12_grown_47 : decode cX12_grown 47 = .ok (.aload_n 0, 1) := by decide +kernel
theorem dX12_grown_48 : decode cX12_grown 48 = .ok (.getfield 231, 3) := by decide +kernel
theorem dX12_grown_51 : decode cX12_grown 51 = .ok (.iastore, 1) := by decide +kernel
theorem dX12_grown_52 : decode cX12_grown 52 = .ok (.aload_n 0, 1) := by decide +kernel
theorem dX12_grown_53 : decode cX12_grown 53 = .ok (.dup, 1) := by decide +kernel
theorem dX12_grown_54 : decode cX12_grown 54 = .ok (.getfield 289, 3) := by decide +kernel
theorem dX12_grown_57 : decode cX12_grown 57 = .ok (.iconst 1, 1) := by decide +kernel
theorem dX12_grown_58 : decode cX12_grown 58 = .ok (.iadd, 1) := by decide +kernel
theorem dX12_grown_59 : decode cX12_grown 59 = .ok (.putfield 289, 3) := by decide +kernel
theorem dX12_grown_62 : decode cX12_grown 62 = .ok (.aload_n 0, 1) := by decide +kernel
theorem dX12_grown_63 : decode cX12_grown 63 = .ok (.dup, 1) := by decide +kernel
theorem dX12_grown_64 : decode cX12_grown 64 = .ok (.getfield 231, 3) := by decide +kernel
theorem dX12_grown_67 : decode cX12_grown 67 = .ok (.iconst 1, 1) := by decide +kernel
theorem dX12_grown_68 : decode cX12_grown 68 = .ok (.iadd, 1) := by decide +kernel
theorem dX12_grown_69 : decode cX12_grown 69 = .ok (.putfield 231, 3) := by decide +kernel
theorem dX12_grown_72 : decode cX12_grown 72 = .ok (.return_, 1) := by decide +kernel
theorem dX12_dropHeld_0 : decode cX12_dropHeld 0 = .ok (.aload_n 0, 1) := by decide +kernel
theorem dX12_dropHeld_1 : decode cX12_dropHeld 1 = .ok (.dup, 1) := by decide +kernel
theorem dX12_dropHeld_2 : decode cX12_dropHeld 2 = .ok (.getfield 289, 3) := by decide +kernel
theorem dX12_dropHeld_5 : decode cX12_dropHeld 5 = .ok (.iconst 1, 1) := by decide +kernel
theorem dX12_dropHeld_6 : decode cX12_dropHeld 6 = .ok (.isub, 1) := by decide +kernel
theorem dX12_dropHeld_7 : decode cX12_dropHeld 7 = .ok (.putfield 289, 3) := by decide +kernel
theorem dX12_dropHeld_10 : decode cX12_dropHeld 10 = .ok (.aload_n 0, 1) := by decide +kernel
theorem dX12_dropHeld_11 : decode cX12_dropHeld 11 = .ok (.getfield 84, 3) := by decide +kernel
theorem dX12_dropHeld_14 : decode cX12_dropHeld 14 = .ok (.aload_n 0, 1) := by decide +kernel
theorem dX12_dropHeld_15 : decode cX12_dropHeld 15 = .ok (.getfield 289, 3) := by decide +kernel
theorem dX12_dropHeld_18 : decode cX12_dropHeld 18 = .ok (.iaload, 1) := by decide +kernel
theorem dX12_dropHeld_19 : decode cX12_dropHeld 19 = .ok (.ireturn, 1) := by decide +kernel
theorem dX12_bind_0 : decode cX12_bind 0 = .ok (.aload_n 0, 1) := by decide +kernel
theorem dX12_bind_1 : decode cX12_bind 1 = .ok (.getfield 292, 3) := by decide +kernel
theorem dX12_bind_4 : decode cX12_bind 4 = .ok (.ifCond .le 72, 3) := by decide +kernel
theorem dX12_bind_7 : decode cX12_bind 7 = .ok (.aload_n 0, 1) := by decide +kernel
theorem dX12_bind_8 : decode cX12_bind 8 = .ok (.getfield 81, 3) := by decide +kernel
theorem dX12_bind_11 : decode cX12_bind 11 = .ok (.aload_n 0, 1) := by decide +kernel
theorem dX12_bind_12 : decode cX12_bind 12 = .ok (.getfield 292, 3) := by decide +kernel
theorem dX12_bind_15 : decode cX12_bind 15 = .ok (.iconst 1, 1) := by decide +kernel
theorem dX12_bind_16 : decode cX12_bind 16 = .ok (.isub, 1) := by decide +kernel
theorem dX12_bind_17 : decode cX12_bind 17 = .ok (.iaload, 1) := by decide +kernel
theorem dX12_bind_18 : decode cX12_bind 18 = .ok (.invokestatic 295, 3) := by decide +kernel
theorem dX12_bind_21 : decode cX12_bind 21 = .ok (.iload_n 1, 1) := by decide +kernel
theorem dX12_bind_22 : decode cX12_bind 22 = .ok (.if_icmp .lt 54, 3) := by decide +kernel
theorem dX12_bind_25 : decode cX12_bind 25 = .ok (.aload_n 0, 1) := by decide +kernel
theorem dX12_bind_26 : decode cX12_bind 26 = .ok (.dup, 1) := by decide +kernel
theorem dX12_bind_27 : decode cX12_bind 27 = .ok (.getfield 292, 3) := by decide +kernel
theorem dX12_bind_30 : decode cX12_bind 30 = .ok (.iconst 1, 1) := by decide +kernel
theorem dX12_bind_31 : decode cX12_bind 31 = .ok (.isub, 1) := by decide +kernel
theorem dX12_bind_32 : decode cX12_bind 32 = .ok (.putfield 292, 3) := by decide +kernel
theorem dX12_bind_35 : decode cX12_bind 35 = .ok (.aload_n 0, 1) := by decide +kernel
theorem dX12_bind_36 : decode cX12_bind 36 = .ok (.getfield 81, 3) := by decide +kernel
theorem dX12_bind_39 : decode cX12_bind 39 = .ok (.aload_n 0, 1) := by decide +kernel
theorem dX12_bind_40 : decode cX12_bind 40 = .ok (.getfield 292, 3) := by decide +kernel
theorem dX12_bind_43 : decode cX12_bind 43 = .ok (.iaload, 1) := by decide +kernel
theorem dX12_bind_44 : decode cX12_bind 44 = .ok (.istore_n 2, 1) := by decide +kernel
theorem dX12_bind_45 : decode cX12_bind 45 = .ok (.iload_n 2, 1) := by decide +kernel
theorem dX12_bind_46 : decode cX12_bind 46 = .ok (.iconst 2, 1) := by decide +kernel
theorem dX12_bind_47 : decode cX12_bind 47 = .ok (.if_icmp .ne 7, 3) := by decide +kernel
theorem dX12_bind_50 : decode cX12_bind 50 = .ok (.iconst (-1), 1) := by decide +kernel
theorem dX12_bind_51 : decode cX12_bind 51 = .ok (.goto 7, 3) := by decide +kernel
theorem dX12_bind_54 : decode cX12_bind 54 = .ok (.aload_n 0, 1) := by decide +kernel
theorem dX12_bind_55 : decode cX12_bind 55 = .ok (.invokevirtual 299, 3) := by decide +kernel
theorem dX12_bind_58 : decode cX12_bind 58 = .ok (.istore_n 3, 1) := by decide +kernel
theorem dX12_bind_59 : decode cX12_bind 59 = .ok (.aload_n 0, 1) := by decide +kernel
theorem dX12_bind_60 : decode cX12_bind 60 = .ok (.invokevirtual 299, 3) := by decide +kernel
theorem dX12_bind_63 : decode cX12_bind 63 = .ok (.istore 4, 2) := by decide +kernel
theorem dX12_bind_65 : decode cX12_bind 65 = .ok (.aload_n 0, 1) := by decide +kernel
theorem dX12_bind_66 : decode cX12_bind 66 = .ok (.iload_n 2, 1) := by decide +kernel
theorem dX12_bind_67 : decode cX12_bind 67 = .ok (.iload 4, 2) := by decide +kernel
theorem dX12_bind_69 : decode cX12_bind 69 = .ok (.iload_n 3, 1) := by decide +kernel
theorem dX12_bind_70 : decode cX12_bind 70 = .ok (.invokevirtual 303, 3) := by decide +kernel
theorem dX12_bind_73 : decode cX12_bind 73 = .ok (.goto (-73), 3) := by decide +kernel
theorem dX12_bind_76 : decode cX12_bind 76 = .ok (.return_, 1) := by decide +kernel
theorem dX12_isCounted_0 : decode cX12_isCounted 0 = .ok (.aload_n 0, 1) := by decide +kernel
theorem dX12_isCounted_1 : decode cX12_isCounted 1 = .ok (.getfield 234, 3) := by decide +kernel
theorem dX12_isCounted_4 : decode cX12_isCounted 4 = .ok (.bipush 64, 2) := by decide +kernel
theorem dX12_isCounted_6 : decode cX12_isCounted 6 = .ok (.if_icmp .ne 9, 3) := by decide +kernel
theorem dX12_isCounted_9 : decode cX12_isCounted 9 = .ok (.aload_n 0, 1) := by decide +kernel
theorem dX12_isCounted_10 : decode cX12_isCounted 10 = .ok (.iconst 2, 1) := by decide +kernel
theorem dX12_isCounted_11 : decode cX12_isCounted 11 = .ok (.invokevirtual 199, 3) := by decide +kernel
theorem dX12_isCounted_14 : decode cX12_isCounted 14 = .ok (.ireturn, 1) := by decide +kernel
theorem dX12_isCounted_15 : decode cX12_isCounted 15 = .ok (.aload_n 0, 1) := by decide +kernel
theorem dX12_isCounted_16 : decode cX12_isCounted 16 = .ok (.dup, 1) := by decide +kernel
theorem dX12_isCounted_17 : decode cX12_isCounted 17 = .ok (.getfield 234, 3) := by decide +kernel
theorem dX12_isCounted_20 : decode cX12_isCounted 20 = .ok (.iconst 1, 1) := by decide +kernel
theorem dX12_isCounted_21 : decode cX12_isCounted 21 = .ok (.iadd, 1) := by decide +kernel
theorem dX12_isCounted_22 : decode cX12_isCounted 22 = .ok (.putfield 234, 3) := by decide +kernel
theorem dX12_isCounted_25 : decode cX12_isCounted 25 = .ok (.iconst 1, 1) := by decide +kernel
theorem dX12_isCounted_26 : decode cX12_isCounted 26 = .ok (.ireturn, 1) := by decide +kernel
theorem dX12_waitsFor_0 : decode cX12_waitsFor 0 = .ok (.aload_n 0, 1) := by decide +kernel
theorem dX12_waitsFor_1 : decode cX12_waitsFor 1 = .ok (.getfield 81, 3) := by decide +kernel
theorem dX12_waitsFor_4 : decode cX12_waitsFor 4 = .ok (.aload_n 0, 1) := by decide +kernel
theorem dX12_waitsFor_5 : decode cX12_waitsFor 5 = .ok (.getfield 292, 3) := by decide +kernel
theorem dX12_waitsFor_8 : decode cX12_waitsFor 8 = .ok (.iload_n 1, 1) := by decide +kernel
theorem dX12_waitsFor_9 : decode cX12_waitsFor 9 = .ok (.iastore, 1) := by decide +kernel
theorem dX12_waitsFor_10 : decode cX12_waitsFor 10 = .ok (.aload_n 0, 1) := by decide +kernel
theorem dX12_waitsFor_11 : decode cX12_waitsFor 11 = .ok (.dup, 1) := by decide +kernel
theorem dX12_waitsFor_12 : decode cX12_waitsFor 12 = .ok (.getfield 292, 3) := by decide +kernel
theorem dX12_waitsFor_15 : decode cX12_waitsFor 15 = .ok (.iconst 1, 1) := by decide +kernel
theorem dX12_waitsFor_16 : decode cX12_waitsFor 16 = .ok (.iadd, 1) := by decide +kernel
theorem dX12_waitsFor_17 : decode cX12_waitsFor 17 = .ok (.putfield 292, 3) := by decide +kernel
theorem dX12_waitsFor_20 : decode cX12_waitsFor 20 = .ok (.return_, 1) := by decide +kernel
theorem dX12_nameMet_0 : decode cX12_nameMet 0 = .ok (.aload_n 0, 1) := by decide +kernel
theorem dX12_nameMet_1 : decode cX12_nameMet 1 = .ok (.getfield 175, 3) := by decide +kernel
theorem dX12_nameMet_4 : decode cX12_nameMet 4 = .ok (.iconst 1, 1) := by decide +kernel
theorem dX12_nameMet_5 : decode cX12_nameMet 5 = .ok (.if_icmp .ne 22, 3) := by decide +kernel
theorem dX12_nameMet_8 : decode cX12_nameMet 8 = .ok (.aload_n 0, 1) := by decide +kernel
theorem dX12_nameMet_9 : decode cX12_nameMet 9 = .ok (.getfield 186, 3) := by decide +kernel
theorem dX12_nameMet_12 : decode cX12_nameMet 12 = .ok (.bipush 13, 2) := by decide +kernel
theorem dX12_nameMet_14 : decode cX12_nameMet 14 = .ok (.if_icmp .lt 13, 3) := by decide +kernel
theorem dX12_nameMet_17 : decode cX12_nameMet 17 = .ok (.aload_n 0, 1) := by decide +kernel
theorem dX12_nameMet_18 : decode cX12_nameMet 18 = .ok (.getfield 186, 3) := by decide +kernel
theorem dX12_nameMet_21 : decode cX12_nameMet 21 = .ok (.bipush 13, 2) := by decide +kernel
theorem dX12_nameMet_23 : decode cX12_nameMet 23 = .ok (.isub, 1) := by decide +kernel
theorem dX12_nameMet_24 : decode cX12_nameMet 24 = .ok (.goto 4, 3) := by decide +kernel
theorem dX12_nameMet_27 : decode cX12_nameMet 27 = .ok (.iconst (-1), 1) := by decide +kernel
theorem dX12_nameMet_28 : decode cX12_nameMet 28 = .ok (.ireturn, 1) := by decide +kernel
theorem dX12_leafRead_0 : decode cX12_leafRead 0 = .ok (.aload_n 0, 1) := by decide +kernel
theorem dX12_leafRead_1 : decode cX12_leafRead 1 = .ok (.bipush 40, 2) := by decide +kernel
theorem dX12_leafRead_3 : decode cX12_leafRead 3 = .ok (.invokevirtual 212, 3) := by decide +kernel
theorem dX12_leafRead_6 : decode cX12_leafRead 6 = .ok (.ifCond .eq 44, 3) := by decide +kernel
theorem dX12_leafRead_9 : decode cX12_leafRead 9 = .ok (.aload_n 0, 1) := by decide +kernel
theorem dX12_leafRead_10 : decode cX12_leafRead 10 = .ok (.getfield 307, 3) := by decide +kernel
theorem dX12_leafRead_13 : decode cX12_leafRead 13 = .ok (.bipush 8, 2) := by decide +kernel
theorem dX12_leafRead_15 : decode cX12_leafRead 15 = .ok (.if_icmp .ne 9, 3) := by decide +kernel
theorem dX12_leafRead_18 : decode cX12_leafRead 18 = .ok (.aload_n 0, 1) := by decide +kernel
theorem dX12_leafRead_19 : decode cX12_leafRead 19 = .ok (.iconst 2, 1) := by decide +kernel
theorem dX12_leafRead_20 : decode cX12_leafRead 20 = .ok (.invokevirtual 199, 3) := by decide +kernel
theorem dX12_leafRead_23 : decode cX12_leafRead 23 = .ok (.ireturn, 1) := by decide +kernel
theorem dX12_leafRead_24 : decode cX12_leafRead 24 = .ok (.aload_n 0, 1) := by decide +kernel
theorem dX12_leafRead_25 : decode cX12_leafRead 25 = .ok (.dup, 1) := by decide +kernel
theorem dX12_leafRead_26 : decode cX12_leafRead 26 = .ok (.getfield 307, 3) := by decide +kernel
theorem dX12_leafRead_29 : decode cX12_leafRead 29 = .ok (.iconst 1, 1) := by decide +kernel
theorem dX12_leafRead_30 : decode cX12_leafRead 30 = .ok (.iadd, 1) := by decide +kernel
theorem dX12_leafRead_31 : decode cX12_leafRead 31 = .ok (.putfield 307, 3) := by decide +kernel
theorem dX12_leafRead_34 : decode cX12_leafRead 34 = .ok (.aload_n 0, 1) := by decide +kernel
theorem dX12_leafRead_35 : decode cX12_leafRead 35 = .ok (.iconst 0, 1) := by decide +kernel
theorem dX12_leafRead_36 : decode cX12_leafRead 36 = .ok (.invokevirtual 310, 3) := by decide +kernel
theorem dX12_leafRead_39 : decode cX12_leafRead 39 = .ok (.aload_n 0, 1) := by decide +kernel
theorem dX12_leafRead_40 : decode cX12_leafRead 40 = .ok (.iconst 1, 1) := by decide +kernel
theorem dX12_leafRead_41 : decode cX12_leafRead 41 = .ok (.putfield 314, 3) := by decide +kernel
theorem dX12_leafRead_44 : decode cX12_leafRead 44 = .ok (.aload_n 0, 1) := by decide +kernel
theorem dX12_leafRead_45 : decode cX12_leafRead 45 = .ok (.invokevirtual 209, 3) := by decide +kernel
theorem dX12_leafRead_48 : decode cX12_leafRead 48 = .ok (.iconst 1, 1) := by decide +kernel
theorem dX12_leafRead_49 : decode cX12_leafRead 49 = .ok (.ireturn, 1) := by decide +kernel
theorem dX12_leafRead_50 : decode cX12_leafRead 50 = .ok (.aload_n 0, 1) := by decide +kernel
theorem dX12_leafRead_51 : decode cX12_leafRead 51 = .ok (.bipush 12, 2) := by decide +kernel
theorem dX12_leafRead_53 : decode cX12_leafRead 53 = .ok (.invokevirtual 318, 3) := by decide +kernel
theorem dX12_leafRead_56 : decode cX12_leafRead 56 = .ok (.ifCond .eq 30, 3) := by decide +kernel
theorem dX12_leafRead_59 : decode cX12_leafRead 59 = .ok (.aload_n 0, 1) := by decide +kernel
theorem dX12_leafRead_60 : decode cX12_leafRead 60 = .ok (.getfield 314, 3) := by decide +kernel
theorem dX12_leafRead_63 : decode cX12_leafRead 63 = .ok (.ifCond .eq 23, 3) := by decide +kernel
theorem dX12_leafRead_66 : decode cX12_leafRead 66 = .ok (.aload_n 0, 1) := by decide +kernel
theorem dX12_leafRead_67 : decode cX12_leafRead 67 = .ok (.invokevirtual 321, 3) := by decide +kernel
theorem dX12_leafRead_70 : decode cX12_leafRead 70 = .ok (.ifCond .ne 5, 3) := by decide +kernel
theorem dX12_leafRead_73 : decode cX12_leafRead 73 = .ok (.iconst 0, 1) := by decide +kernel
theorem dX12_leafRead_74 : decode cX12_leafRead 74 = .ok (.ireturn, 1) := by decide +kernel
theorem dX12_leafRead_75 : decode cX12_leafRead 75 = .ok (.aload_n 0, 1) := by decide +kernel
theorem dX12_leafRead_76 : decode cX12_leafRead 76 = .ok (.iconst 2, 1) := by decide +kernel
theorem dX12_leafRead_77 : decode cX12_leafRead 77 = .ok (.invokevirtual 310, 3) := by decide +kernel
theorem dX12_leafRead_80 : decode cX12_leafRead 80 = .ok (.aload_n 0, 1) := by decide +kernel
theorem dX12_leafRead_81 : decode cX12_leafRead 81 = .ok (.invokevirtual 209, 3) := by decide +kernel
theorem dX12_leafRead_84 : decode cX12_leafRead 84 = .ok (.iconst 1, 1) := by decide +kernel
theorem dX12_leafRead_85 : decode cX12_leafRead 85 = .ok (.ireturn, 1) := by decide +kernel
theorem dX12_leafRead_86 : decode cX12_leafRead 86 = .ok (.aload_n 0, 1) := by decide +kernel
theorem dX12_leafRead_87 : decode cX12_leafRead 87 = .ok (.invokevirtual 324, 3) := by decide +kernel
theorem dX12_leafRead_90 : decode cX12_leafRead 90 = .ok (.istore_n 1, 1) := by decide +kernel
theorem dX12_leafRead_91 : decode cX12_leafRead 91 = .ok (.iload_n 1, 1) := by decide +kernel
theorem dX12_leafRead_92 : decode cX12_leafRead 92 = .ok (.ifCond .ge 17, 3) := by decide +kernel
theorem dX12_leafRead_95 : decode cX12_leafRead 95 = .ok (.aload_n 0, 1) := by decide +kernel
theorem dX12_leafRead_96 : decode cX12_leafRead 96 = .ok (.getfield 175, 3) := by decide +kernel
theorem dX12_leafRead_99 : decode cX12_leafRead 99 = .ok (.iconst 3, 1) := by decide +kernel
theorem dX12_leafRead_100 : decode cX12_leafRead 100 = .ok (.if_icmp .eq 9, 3) := by decide +kernel
theorem dX12_leafRead_103 : decode cX12_leafRead 103 = .ok (.aload_n 0, 1) := by decide +kernel
theorem dX12_leafRead_104 : decode cX12_leafRead 104 = .ok (.iconst 1, 1) := by decide +kernel
theorem dX12_leafRead_105 : decode cX12_leafRead 105 = .ok (.invokevirtual 199, 3) := by decide +kernel
theorem dX12_leafRead_108 : decode cX12_leafRead 108 = .ok (.ireturn, 1) := by decide +kernel
theorem dX12_leafRead_109 : decode cX12_leafRead 109 = .ok (.iload_n 1, 1) := by decide +kernel
theorem dX12_leafRead_110 : decode cX12_leafRead 110 = .ok (.ifCond .ge 19, 3) := by decide +kernel
theorem dX12_leafRead_113 : decode cX12_leafRead 113 = .ok (.aload_n 0, 1) := by decide +kernel
theorem dX12_leafRead_114 : decode cX12_leafRead 114 = .ok (.getfield 186, 3) := by decide +kernel
theorem dX12_leafRead_117 : decode cX12_leafRead 117 = .ok (.sipush 9999, 3) := by decide +kernel
theorem dX12_leafRead_120 : decode cX12_leafRead 120 = .ok (.if_icmp .le 9, 3) := by decide +kernel
theorem dX12_leafRead_123 : decode cX12_leafRead 123 = .ok (.aload_n 0, 1) := by decide +kernel
theorem dX12_leafRead_124 : decode cX12_leafRead 124 = .ok (.iconst 2, 1) := by decide +kernel
theorem dX12_leafRead_125 : decode cX12_leafRead 125 = .ok (.invokevirtual 199, 3) := by decide +kernel
theorem dX12_leafRead_128 : decode cX12_leafRead 128 = .ok (.ireturn, 1) := by decide +kernel
theorem dX12_leafRead_129 : decode cX12_leafRead 129 = .ok (.aload_n 0, 1) := by decide +kernel
theorem dX12_leafRead_130 : decode cX12_leafRead 130 = .ok (.invokevirtual 321, 3) := by decide +kernel
theorem dX12_leafRead_133 : decode cX12_leafRead 133 = .ok (.ifCond .ne 5, 3) := by decide +kernel
theorem dX12_leafRead_136 : decode cX12_leafRead 136 = .ok (.iconst 0, 1) := by decide +kernel
theorem dX12_leafRead_137 : decode cX12_leafRead 137 = .ok (.ireturn, 1) := by decide +kernel
theorem dX12_leafRead_138 : decode cX12_leafRead 138 = .ok (.aload_n 0, 1) := by decide +kernel
theorem dX12_leafRead_139 : decode cX12_leafRead 139 = .ok (.iload_n 1, 1) := by decide +kernel
theorem dX12_leafRead_140 : decode cX12_leafRead 140 = .ok (.ifCond .lt 7, 3) := by decide +kernel
theorem dX12_leafRead_143 : decode cX12_leafRead 143 = .ok (.iconst 1, 1) := by decide +kernel
theorem dX12_leafRead_144 : decode cX12_leafRead 144 = .ok (.goto 4, 3) := by decide +kernel
theorem dX12_leafRead_147 : decode cX12_leafRead 147 = .ok (.iconst 0, 1) := by decide +kernel
theorem dX12_leafRead_148 : decode cX12_leafRead 148 = .ok (.iload_n 1, 1) := by decide +kernel
theorem dX12_leafRead_149 : decode cX12_leafRead 149 = .ok (.ifCond .lt 7, 3) := by decide +kernel
theorem dX12_leafRead_152 : decode cX12_leafRead 152 = .ok (.iload_n 1, 1) := by decide +kernel
theorem dX12_leafRead_153 : decode cX12_leafRead 153 = .ok (.goto 7, 3) := by decide +kernel
theorem dX12_leafRead_156 : decode cX12_leafRead 156 = .ok (.aload_n 0, 1) := by decide +kernel
theorem dX12_leafRead_157 : decode cX12_leafRead 157 = .ok (.getfield 186, 3) := by decide +kernel
theorem dX12_leafRead_160 : decode cX12_leafRead 160 = .ok (.iconst 0, 1) := by decide +kernel
theorem dX12_leafRead_161 : decode cX12_leafRead 161 = .ok (.invokevirtual 303, 3) := by decide +kernel
theorem dX12_leafRead_164 : decode cX12_leafRead 164 = .ok (.aload_n 0, 1) := by decide +kernel
theorem dX12_leafRead_165 : decode cX12_leafRead 165 = .ok (.iconst 0, 1) := by decide +kernel
theorem dX12_leafRead_166 : decode cX12_leafRead 166 = .ok (.putfield 327, 3) := by decide +kernel
theorem dX12_leafRead_169 : decode cX12_leafRead 169 = .ok (.aload_n 0, 1) := by decide +kernel
theorem dX12_leafRead_170 : decode cX12_leafRead 170 = .ok (.invokevirtual 209, 3) := by decide +kernel
theorem dX12_leafRead_173 : decode cX12_leafRead 173 = .ok (.iconst 1, 1) := by decide +kernel
theorem dX12_leafRead_174 : decode cX12_leafRead 174 = .ok (.ireturn, 1) := by decide +kernel
theorem dX12_signs_0 : decode cX12_signs 0 = .ok (.aload_n 0, 1) := by decide +kernel
theorem dX12_signs_1 : decode cX12_signs 1 = .ok (.bipush 41, 2) := by decide +kernel
theorem dX12_signs_3 : decode cX12_signs 3 = .ok (.invokevirtual 212, 3) := by decide +kernel
theorem dX12_signs_6 : decode cX12_signs 6 = .ok (.ifCond .eq 41, 3) := by decide +kernel
theorem dX12_signs_9 : decode cX12_signs 9 = .ok (.aload_n 0, 1) := by decide +kernel
theorem dX12_signs_10 : decode cX12_signs 10 = .ok (.getfield 307, 3) := by decide +kernel
theorem dX12_signs_13 : decode cX12_signs 13 = .ok (.ifCond .le 34, 3) := by decide +kernel
theorem dX12_signs_16 : decode cX12_signs 16 = .ok (.aload_n 0, 1) := by decide +kernel
theorem dX12_signs_17 : decode cX12_signs 17 = .ok (.iconst 1, 1) := by decide +kernel
theorem dX12_signs_18 : decode cX12_signs 18 = .ok (.invokevirtual 330, 3) := by decide +kernel
theorem dX12_signs_21 : decode cX12_signs 21 = .ok (.aload_n 0, 1) := by decide +kernel
theorem dX12_signs_22 : decode cX12_signs 22 = .ok (.dup, 1) := by decide +kernel
theorem dX12_signs_23 : decode cX12_signs 23 = .ok (.getfield 292, 3) := by decide +kernel
theorem dX12_signs_26 : decode cX12_signs 26 = .ok (.iconst 1, 1) := by decide +kernel
theorem dX12_signs_27 : decode cX12_signs 27 = .ok (.isub, 1) := by decide +kernel
theorem dX12_signs_28 : decode cX12_signs 28 = .ok (.putfield 292, 3) := by decide +kernel
theorem dX12_signs_31 : decode cX12_signs 31 = .ok (.aload_n 0, 1) := by decide +kernel
theorem dX12_signs_32 : decode cX12_signs 32 = .ok (.dup, 1) := by decide +kernel
theorem dX12_signs_33 : decode cX12_signs 33 = .ok (.getfield 307, 3) := by decide +kernel
theorem dX12_signs_36 : decode cX12_signs 36 = .ok (.iconst 1, 1) := by decide +kernel
theorem dX12_signs_37 : decode cX12_signs 37 = .ok (.isub, 1) := by decide +kernel
theorem dX12_signs_38 : decode cX12_signs 38 = .ok (.putfield 307, 3) := by decide +kernel
theorem dX12_signs_41 : decode cX12_signs 41 = .ok (.aload_n 0, 1) := by decide +kernel
theorem dX12_signs_42 : decode cX12_signs 42 = .ok (.invokevirtual 209, 3) := by decide +kernel
theorem dX12_signs_45 : decode cX12_signs 45 = .ok (.iconst 1, 1) := by decide +kernel
theorem dX12_signs_46 : decode cX12_signs 46 = .ok (.ireturn, 1) := by decide +kernel
theorem dX12_signs_47 : decode cX12_signs 47 = .ok (.aload_n 0, 1) := by decide +kernel
theorem dX12_signs_48 : decode cX12_signs 48 = .ok (.bipush 10, 2) := by decide +kernel
theorem dX12_signs_50 : decode cX12_signs 50 = .ok (.invokevirtual 318, 3) := by decide +kernel
theorem dX12_signs_53 : decode cX12_signs 53 = .ok (.ifCond .eq 7, 3) := by decide +kernel
theorem dX12_signs_56 : decode cX12_signs 56 = .ok (.iconst 3, 1) := by decide +kernel
theorem dX12_signs_57 : decode cX12_signs 57 = .ok (.goto 90, 3) := by decide +kernel
theorem dX12_signs_60 : decode cX12_signs 60 = .ok (.aload_n 0, 1) := by decide +kernel
theorem dX12_signs_61 : decode cX12_signs 61 = .ok (.bipush 11, 2) := by decide +kernel
theorem dX12_signs_63 : decode cX12_signs 63 = .ok (.invokevirtual 318, 3) := by decide +kernel
theorem dX12_signs_66 : decode cX12_signs 66 = .ok (.ifCond .eq 7, 3) := by decide +kernel
theorem dX12_signs_69 : decode cX12_signs 69 = .ok (.iconst 4, 1) := by decide +kernel
theorem dX12_signs_70 : decode cX12_signs 70 = .ok (.goto 77, 3) := by decide +kernel
theorem dX12_signs_73 : decode cX12_signs 73 = .ok (.aload_n 0, 1) := by decide +kernel
theorem dX12_signs_74 : decode cX12_signs 74 = .ok (.getfield 175, 3) := by decide +kernel
theorem dX12_signs_77 : decode cX12_signs 77 = .ok (.iconst 5, 1) := by decide +kernel
theorem dX12_signs_78 : decode cX12_signs 78 = .ok (.if_icmp .ne 12, 3) := by decide +kernel
theorem dX12_signs_81 : decode cX12_signs 81 = .ok (.iconst 5, 1) := by decide +kernel
theorem dX12_signs_82 : decode cX12_signs 82 = .ok (.aload_n 0, 1) := by decide +kernel
theorem dX12_signs_83 : decode cX12_signs 83 = .ok (.getfield 186, 3) := by decide +kernel
theorem dX12_signs_86 : decode cX12_signs 86 = .ok (.iadd, 1) := by decide +kernel
theorem dX12_signs_87 : decode cX12_signs 87 = .ok (.goto 60, 3) := by decide +kernel
theorem dX12_signs_90 : decode cX12_signs 90 = .ok (.aload_n 0, 1) := by decide +kernel
theorem dX12_signs_91 : decode cX12_signs 91 = .ok (.bipush 43, 2) := by decide +kernel
theorem dX12_signs_93 : decode cX12_signs 93 = .ok (.invokevirtual 212, 3) := by decide +kernel
theorem dX12_signs_96 : decode cX12_signs 96 = .ok (.ifCond .eq 8, 3) := by decide +kernel
theorem dX12_signs_99 : decode cX12_signs 99 = .ok (.bipush 11, 2) := by decide +kernel
theorem dX12_signs_101 : decode cX12_signs 101 = .ok (.goto 46, 3) := by decide +kernel
theorem dX12_signs_104 : decode cX12_signs 104 = .ok (.aload_n 0, 1) := by decide +kernel
theorem dX12_signs_105 : decode cX12_signs 105 = .ok (.bipush 45, 2) := by decide +kernel
theorem dX12_signs_107 : decode cX12_signs 107 = .ok (.invokevirtual 212, 3) := by decide +kernel
theorem dX12_signs_110 : decode cX12_signs 110 = .ok (.ifCond .eq 8, 3) := by decide +kernel
theorem dX12_signs_113 : decode cX12_signs 113 = .ok (.bipush 12, 2) := by decide +kernel
theorem dX12_signs_115 : decode cX12_signs 115 = .ok (.goto 32, 3) := by decide +kernel
theorem dX12_signs_118 : decode cX12_signs 118 = .ok (.aload_n 0, 1) := by decide +kernel
theorem dX12_signs_119 : decode cX12_signs 119 = .ok (.bipush 42, 2) := by decide +kernel
theorem dX12_signs_121 : decode cX12_signs 121 = .ok (.invokevirtual 212, 3) := by decide +kernel
theorem dX12_signs_124 : decode cX12_signs 124 = .ok (.ifCond .eq 8, 3) := by decide +kernel
theorem dX12_signs_127 : decode cX12_signs 127 = .ok (.bipush 13, 2) := by decide +kernel
theorem dX12_signs_129 : decode cX12_signs 129 = .ok (.goto 18, 3) := by decide +kernel
theorem dX12_signs_132 : decode cX12_signs 132 = .ok (.aload_n 0, 1) := by decide +kernel
theorem dX12_signs_133 : decode cX12_signs 133 = .ok (.bipush 47, 2) := by decide +kernel
theorem dX12_signs_135 : decode cX12_signs 135 = .ok (.invokevirtual 212, 3) := by decide +kernel
theorem dX12_signs_138 : decode cX12_signs 138 = .ok (.ifCond .eq 8, 3) := by decide +kernel
theorem dX12_signs_141 : decode cX12_signs 141 = .ok (.bipush 14, 2) := by decide +kernel
theorem dX12_signs_143 : decode cX12_signs 143 = .ok (.goto 4, 3) := by decide +kernel
theorem dX12_signs_146 : decode cX12_signs 146 = .ok (.iconst 0, 1) := by decide +kernel
theorem dX12_signs_147 : decode cX12_signs 147 = .ok (.istore_n 1, 1) := by decide +kernel
theorem dX12_signs_148 : decode cX12_signs 148 = .ok (.iload_n 1, 1) := by decide +kernel
theorem dX12_signs_149 : decode cX12_signs 149 = .ok (.ifCond .ne 9, 3) := by decide +kernel
theorem dX12_signs_152 : decode cX12_signs 152 = .ok (.aload_n 0, 1) := by decide +kernel
theorem dX12_signs_153 : decode cX12_signs 153 = .ok (.iconst 1, 1) := by decide +kernel
theorem dX12_signs_154 : decode cX12_signs 154 = .ok (.invokevirtual 199, 3) := by decide +kernel
theorem dX12_signs_157 : decode cX12_signs 157 = .ok (.ireturn, 1) := by decide +kernel
theorem dX12_signs_158 : decode cX12_signs 158 = .ok (.aload_n 0, 1) := by decide +kernel
theorem dX12_signs_159 : decode cX12_signs 159 = .ok (.iload_n 1, 1) := by decide +kernel
theorem dX12_signs_160 : decode cX12_signs 160 = .ok (.invokestatic 295, 3) := by decide +kernel
theorem dX12_signs_163 : decode cX12_signs 163 = .ok (.iconst 4, 1) := by decide +kernel
theorem dX12_signs_164 : decode cX12_signs 164 = .ok (.if_icmp .ne 7, 3) := by decide +kernel
theorem dX12_signs_167 : decode cX12_signs 167 = .ok (.iconst 5, 1) := by decide +kernel
theorem dX12_signs_168 : decode cX12_signs 168 = .ok (.goto 7, 3) := by decide +kernel
theorem dX12_signs_171 : decode cX12_signs 171 = .ok (.iload_n 1, 1) := by decide +kernel
theorem dX12_signs_172 : decode cX12_signs 172 = .ok (.invokestatic 295, 3) := by decide +kernel
theorem dX12_signs_175 : decode cX12_signs 175 = .ok (.invokevirtual 330, 3) := by decide +kernel
theorem dX12_signs_178 : decode cX12_signs 178 = .ok (.iload_n 1, 1) := by decide +kernel
theorem dX12_signs_179 : decode cX12_signs 179 = .ok (.invokestatic 295, 3) := by decide +kernel
theorem dX12_signs_182 : decode cX12_signs 182 = .ok (.iconst 4, 1) := by decide +kernel
theorem dX12_signs_183 : decode cX12_signs 183 = .ok (.if_icmp .ne 34, 3) := by decide +kernel
theorem dX12_signs_186 : decode cX12_signs 186 = .ok (.aload_n 0, 1) := by decide +kernel
theorem dX12_signs_187 : decode cX12_signs 187 = .ok (.getfield 292, 3) := by decide +kernel
theorem dX12_signs_190 : decode cX12_signs 190 = .ok (.ifCond .le 27, 3) := by decide +kernel
theorem dX12_signs_193 : decode cX12_signs 193 = .ok (.aload_n 0, 1) := by decide +kernel
theorem dX12_signs_194 : decode cX12_signs 194 = .ok (.getfield 81, 3) := by decide +kernel
theorem dX12_signs_197 : decode cX12_signs 197 = .ok (.aload_n 0, 1) := by decide +kernel
theorem dX12_signs_198 : decode cX12_signs 198 = .ok (.getfield 292, 3) := by decide +kernel
theorem dX12_signs_201 : decode cX12_signs 201 = .ok (.iconst 1, 1) := by decide +kernel
theorem dX12_signs_202 : decode cX12_signs 202 = .ok (.isub, 1) := by decide +kernel
theorem dX12_signs_203 : decode cX12_signs 203 = .ok (.iaload, 1) := by decide +kernel
theorem dX12_signs_204 : decode cX12_signs 204 = .ok (.invokestatic 295, 3) := by decide +kernel
theorem dX12_signs_207 : decode cX12_signs 207 = .ok (.iconst 4, 1) := by decide +kernel
theorem dX12_signs_208 : decode cX12_signs 208 = .ok (.if_icmp .ne 9, 3) := by decide +kernel
theorem dX12_signs_211 : decode cX12_signs 211 = .ok (.aload_n 0, 1) := by decide +kernel
theorem dX12_signs_212 : decode cX12_signs 212 = .ok (.iconst 1, 1) := by decide +kernel
theorem dX12_signs_213 : decode cX12_signs 213 = .ok (.invokevirtual 199, 3) := by decide +kernel
theorem dX12_signs_216 : decode cX12_signs 216 = .ok (.ireturn, 1) := by decide +kernel
theorem dX12_signs_217 : decode cX12_signs 217 = .ok (.aload_n 0, 1) := by decide +kernel
theorem dX12_signs_218 : decode cX12_signs 218 = .ok (.invokevirtual 321, 3) := by decide +kernel
theorem dX12_signs_221 : decode cX12_signs 221 = .ok (.ifCond .ne 5, 3) := by decide +kernel
theorem dX12_signs_224 : decode cX12_signs 224 = .ok (.iconst 0, 1) := by decide +kernel
theorem dX12_signs_225 : decode cX12_signs 225 = .ok (.ireturn, 1) := by decide +kernel
theorem dX12_signs_226 : decode cX12_signs 226 = .ok (.aload_n 0, 1) := by decide +kernel
theorem dX12_signs_227 : decode cX12_signs 227 = .ok (.iload_n 1, 1) := by decide +kernel
theorem dX12_signs_228 : decode cX12_signs 228 = .ok (.invokevirtual 310, 3) := by decide +kernel
theorem dX12_signs_231 : decode cX12_signs 231 = .ok (.aload_n 0, 1) := by decide +kernel
theorem dX12_signs_232 : decode cX12_signs 232 = .ok (.iconst 1, 1) := by decide +kernel
theorem dX12_signs_233 : decode cX12_signs 233 = .ok (.putfield 327, 3) := by decide +kernel
theorem dX12_signs_236 : decode cX12_signs 236 = .ok (.aload_n 0, 1) := by decide +kernel
theorem dX12_signs_237 : decode cX12_signs 237 = .ok (.iload_n 1, 1) := by decide +kernel
theorem dX12_signs_238 : decode cX12_signs 238 = .ok (.invokestatic 295, 3) := by decide +kernel
theorem dX12_signs_241 : decode cX12_signs 241 = .ok (.iconst 3, 1) := by decide +kernel
theorem dX12_signs_242 : decode cX12_signs 242 = .ok (.if_icmp .ge 7, 3) := by decide +kernel
theorem dX12_signs_245 : decode cX12_signs 245 = .ok (.iconst 1, 1) := by decide +kernel
theorem dX12_signs_246 : decode cX12_signs 246 = .ok (.goto 4, 3) := by decide +kernel
theorem dX12_signs_249 : decode cX12_signs 249 = .ok (.iconst 0, 1) := by decide +kernel
theorem dX12_signs_250 : decode cX12_signs 250 = .ok (.putfield 314, 3) := by decide +kernel
theorem dX12_signs_253 : decode cX12_signs 253 = .ok (.aload_n 0, 1) := by decide +kernel
theorem dX12_signs_254 : decode cX12_signs 254 = .ok (.invokevirtual 209, 3) := by decide +kernel
theorem dX12_signs_257 : decode cX12_signs 257 = .ok (.iconst 1, 1) := by decide +kernel
theorem dX12_signs_258 : decode cX12_signs 258 = .ok (.ireturn, 1) := by decide +kernel
theorem dX12_sumRead_0 : decode cX12_sumRead 0 = .ok (.aload_n 0, 1) := by decide +kernel
theorem dX12_sumRead_1 : decode cX12_sumRead 1 = .ok (.iconst 0, 1) := by decide +kernel
theorem dX12_sumRead_2 : decode cX12_sumRead 2 = .ok (.putfield 292, 3) := by decide +kernel
theorem dX12_sumRead_5 : decode cX12_sumRead 5 = .ok (.aload_n 0, 1) := by decide +kernel
theorem dX12_sumRead_6 : decode cX12_sumRead 6 = .ok (.iconst 0, 1) := by decide +kernel
theorem dX12_sumRead_7 : decode cX12_sumRead 7 = .ok (.putfield 289, 3) := by decide +kernel
theorem dX12_sumRead_10 : decode cX12_sumRead 10 = .ok (.aload_n 0, 1) := by decide +kernel
theorem dX12_sumRead_11 : decode cX12_sumRead 11 = .ok (.iconst 0, 1) := by decide +kernel
theorem dX12_sumRead_12 : decode cX12_sumRead 12 = .ok (.putfield 307, 3) := by decide +kernel
theorem dX12_sumRead_15 : decode cX12_sumRead 15 = .ok (.aload_n 0, 1) := by decide +kernel
theorem dX12_sumRead_16 : decode cX12_sumRead 16 = .ok (.iconst 1, 1) := by decide +kernel
theorem dX12_sumRead_17 : decode cX12_sumRead 17 = .ok (.putfield 327, 3) := by decide +kernel
theorem dX12_sumRead_20 : decode cX12_sumRead 20 = .ok (.aload_n 0, 1) := by decide +kernel
theorem dX12_sumRead_21 : decode cX12_sumRead 21 = .ok (.iconst 1, 1) := by decide +kernel
theorem dX12_sumRead_22 : decode cX12_sumRead 22 = .ok (.putfield 314, 3) := by decide +kernel
theorem dX12_sumRead_25 : decode cX12_sumRead 25 = .ok (.aload_n 0, 1) := by decide +kernel
theorem dX12_sumRead_26 : decode cX12_sumRead 26 = .ok (.bipush 59, 2) := by decide +kernel
theorem dX12_sumRead_28 : decode cX12_sumRead 28 = .ok (.invokevirtual 212, 3) := by decide +kernel
theorem dX12_sumRead_31 : decode cX12_sumRead 31 = .ok (.ifCond .eq 17, 3) := by decide +kernel
theorem dX12_sumRead_34 : decode cX12_sumRead 34 = .ok (.aload_n 0, 1) := by decide +kernel
theorem dX12_sumRead_35 : decode cX12_sumRead 35 = .ok (.getfield 327, 3) := by decide +kernel
theorem dX12_sumRead_38 : decode cX12_sumRead 38 = .ok (.ifCond .ne 10, 3) := by decide +kernel
theorem dX12_sumRead_41 : decode cX12_sumRead 41 = .ok (.aload_n 0, 1) := by decide +kernel
theorem dX12_sumRead_42 : decode cX12_sumRead 42 = .ok (.getfield 307, 3) := by decide +kernel
theorem dX12_sumRead_45 : decode cX12_sumRead 45 = .ok (.ifCond .le 29, 3) := by decide +kernel
theorem dX12_sumRead_48 : decode cX12_sumRead 48 = .ok (.aload_n 0, 1) := by decide +kernel
theorem dX12_sumRead_49 : decode cX12_sumRead 49 = .ok (.getfield 327, 3) := by decide +kernel
theorem dX12_sumRead_52 : decode cX12_sumRead 52 = .ok (.ifCond .eq 13, 3) := by decide +kernel
theorem dX12_sumRead_55 : decode cX12_sumRead 55 = .ok (.aload_n 0, 1) := by decide +kernel
theorem dX12_sumRead_56 : decode cX12_sumRead 56 = .ok (.invokevirtual 333, 3) := by decide +kernel
theorem dX12_sumRead_59 : decode cX12_sumRead 59 = .ok (.ifCond .eq 13, 3) := by decide +kernel
theorem dX12_sumRead_62 : decode cX12_sumRead 62 = .ok (.goto (-37), 3) := by decide +kernel
theorem dX12_sumRead_65 : decode cX12_sumRead 65 = .ok (.aload_n 0, 1) := by decide +kernel
theorem dX12_sumRead_66 : decode cX12_sumRead 66 = .ok (.invokevirtual 336, 3) := by decide +kernel
theorem dX12_sumRead_69 : decode cX12_sumRead 69 = .ok (.ifCond .ne (-44), 3) := by decide +kernel
theorem dX12_sumRead_72 : decode cX12_sumRead 72 = .ok (.iconst 0, 1) := by decide +kernel
theorem dX12_sumRead_73 : decode cX12_sumRead 73 = .ok (.ireturn, 1) := by decide +kernel
theorem dX12_sumRead_74 : decode cX12_sumRead 74 = .ok (.aload_n 0, 1) := by decide +kernel
theorem dX12_sumRead_75 : decode cX12_sumRead 75 = .ok (.iconst 1, 1) := by decide +kernel
theorem dX12_sumRead_76 : decode cX12_sumRead 76 = .ok (.invokevirtual 330, 3) := by decide +kernel
theorem dX12_sumRead_79 : decode cX12_sumRead 79 = .ok (.iconst 1, 1) := by decide +kernel
theorem dX12_sumRead_80 : decode cX12_sumRead 80 = .ok (.ireturn, 1) := by decide +kernel
theorem dX12_bounded_0 : decode cX12_bounded 0 = .ok (.aload_n 0, 1) := by decide +kernel
theorem dX12_bounded_1 : decode cX12_bounded 1 = .ok (.aload_n 0, 1) := by decide +kernel
theorem dX12_bounded_2 : decode cX12_bounded 2 = .ok (.getfield 339, 3) := by decide +kernel
theorem dX12_bounded_5 : decode cX12_bounded 5 = .ok (.ifCond .ne 19, 3) := by decide +kernel
theorem dX12_bounded_8 : decode cX12_bounded 8 = .ok (.lload_n 1, 1) := by decide +kernel
theorem dX12_bounded_9 : decode cX12_bounded 9 = .ok (.ldc2_w 342, 3) := by decide +kernel
theorem dX12_bounded_12 : decode cX12_bounded 12 = .ok (.lcmp, 1) := by decide +kernel
theorem dX12_bounded_13 : decode cX12_bounded 13 = .ok (.ifCond .gt 11, 3) := by decide +kernel
theorem dX12_bounded_16 : decode cX12_bounded 16 = .ok (.lload_n 1, 1) := by decide +kernel
theorem dX12_bounded_17 : decode cX12_bounded 17 = .ok (.ldc2_w 344, 3) := by decide +kernel
theorem dX12_bounded_20 : decode cX12_bounded 20 = .ok (.lcmp, 1) := by decide +kernel
theorem dX12_bounded_21 : decode cX12_bounded 21 = .ok (.ifCond .ge 7, 3) := by decide +kernel
theorem dX12_bounded_24 : decode cX12_bounded 24 = .ok (.iconst 1, 1) := by decide +kernel
theorem dX12_bounded_25 : decode cX12_bounded 25 = .ok (.goto 4, 3) := by decide +kernel
theorem dX12_bounded_28 : decode cX12_bounded 28 = .ok (.iconst 0, 1) := by decide +kernel
theorem dX12_bounded_29 : decode cX12_bounded 29 = .ok (.putfield 339, 3) := by decide +kernel
theorem dX12_bounded_32 : decode cX12_bounded 32 = .ok (.aload_n 0, 1) := by decide +kernel
theorem dX12_bounded_33 : decode cX12_bounded 33 = .ok (.getfield 339, 3) := by decide +kernel
theorem dX12_bounded_36 : decode cX12_bounded 36 = .ok (.ifCond .eq 7, 3) := by decide +kernel
theorem dX12_bounded_39 : decode cX12_bounded 39 = .ok (.lconst 0, 1) := by decide +kernel
theorem dX12_bounded_40 : decode cX12_bounded 40 = .ok (.goto 4, 3) := by decide +kernel
theorem dX12_bounded_43 : decode cX12_bounded 43 = .ok (.lload_n 1, 1) := by decide +kernel
theorem dX12_bounded_44 : decode cX12_bounded 44 = .ok (.lreturn, 1) := by decide +kernel
theorem dX12_compares_0 : decode cX12_compares 0 = .ok (.iload_n 0, 1) := by decide +kernel
theorem dX12_compares_1 : decode cX12_compares 1 = .ok (.tableswitch 95 5 9 #[35, 47, 59, 71, 83], 35) := by decide +kernel
theorem dX12_compares_36 : decode cX12_compares 36 = .ok (.lload_n 1, 1) := by decide +kernel
theorem dX12_compares_37 : decode cX12_compares 37 = .ok (.lload_n 3, 1) := by decide +kernel
theorem dX12_compares_38 : decode cX12_compares 38 = .ok (.lcmp, 1) := by decide +kernel
theorem dX12_compares_39 : decode cX12_compares 39 = .ok (.ifCond .ge 7, 3) := by decide +kernel
theorem dX12_compares_42 : decode cX12_compares 42 = .ok (.iconst 1, 1) := by decide +kernel
theorem dX12_compares_43 : decode cX12_compares 43 = .ok (.goto 4, 3) := by decide +kernel
theorem dX12_compares_46 : decode cX12_compares 46 = .ok (.iconst 0, 1) := by decide +kernel
theorem dX12_compares_47 : decode cX12_compares 47 = .ok (.ireturn, 1) := by decide +kernel
theorem dX12_compares_48 : decode cX12_compares 48 = .ok (.lload_n 1, 1) := by decide +kernel
theorem dX12_compares_49 : decode cX12_compares 49 = .ok (.lload_n 3, 1) := by decide +kernel
theorem dX12_compares_50 : decode cX12_compares 50 = .ok (.lcmp, 1) := by decide +kernel
theorem dX12_compares_51 : decode cX12_compares 51 = .ok (.ifCond .gt 7, 3) := by decide +kernel
theorem dX12_compares_54 : decode cX12_compares 54 = .ok (.iconst 1, 1) := by decide +kernel
theorem dX12_compares_55 : decode cX12_compares 55 = .ok (.goto 4, 3) := by decide +kernel
theorem dX12_compares_58 : decode cX12_compares 58 = .ok (.iconst 0, 1) := by decide +kernel
theorem dX12_compares_59 : decode cX12_compares 59 = .ok (.ireturn, 1) := by decide +kernel
theorem dX12_compares_60 : decode cX12_compares 60 = .ok (.lload_n 1, 1) := by decide +kernel
theorem dX12_compares_61 : decode cX12_compares 61 = .ok (.lload_n 3, 1) := by decide +kernel
theorem dX12_compares_62 : decode cX12_compares 62 = .ok (.lcmp, 1) := by decide +kernel
theorem dX12_compares_63 : decode cX12_compares 63 = .ok (.ifCond .ne 7, 3) := by decide +kernel
theorem dX12_compares_66 : decode cX12_compares 66 = .ok (.iconst 1, 1) := by decide +kernel
theorem dX12_compares_67 : decode cX12_compares 67 = .ok (.goto 4, 3) := by decide +kernel
theorem dX12_compares_70 : decode cX12_compares 70 = .ok (.iconst 0, 1) := by decide +kernel
theorem dX12_compares_71 : decode cX12_compares 71 = .ok (.ireturn, 1) := by decide +kernel
theorem dX12_compares_72 : decode cX12_compares 72 = .ok (.lload_n 1, 1) := by decide +kernel
theorem dX12_compares_73 : decode cX12_compares 73 = .ok (.lload_n 3, 1) := by decide +kernel
theorem dX12_compares_74 : decode cX12_compares 74 = .ok (.lcmp, 1) := by decide +kernel
theorem dX12_compares_75 : decode cX12_compares 75 = .ok (.ifCond .eq 7, 3) := by decide +kernel
theorem dX12_compares_78 : decode cX12_compares 78 = .ok (.iconst 1, 1) := by decide +kernel
theorem dX12_compares_79 : decode cX12_compares 79 = .ok (.goto 4, 3) := by decide +kernel
theorem dX12_compares_82 : decode cX12_compares 82 = .ok (.iconst 0, 1) := by decide +kernel
theorem dX12_compares_83 : decode cX12_compares 83 = .ok (.ireturn, 1) := by decide +kernel
theorem dX12_compares_84 : decode cX12_compares 84 = .ok (.lload_n 1, 1) := by decide +kernel
theorem dX12_compares_85 : decode cX12_compares 85 = .ok (.lload_n 3, 1) := by decide +kernel
theorem dX12_compares_86 : decode cX12_compares 86 = .ok (.lcmp, 1) := by decide +kernel
theorem dX12_compares_87 : decode cX12_compares 87 = .ok (.ifCond .lt 7, 3) := by decide +kernel
theorem dX12_compares_90 : decode cX12_compares 90 = .ok (.iconst 1, 1) := by decide +kernel
theorem dX12_compares_91 : decode cX12_compares 91 = .ok (.goto 4, 3) := by decide +kernel
theorem dX12_compares_94 : decode cX12_compares 94 = .ok (.iconst 0, 1) := by decide +kernel
theorem dX12_compares_95 : decode cX12_compares 95 = .ok (.ireturn, 1) := by decide +kernel
theorem dX12_compares_96 : decode cX12_compares 96 = .ok (.lload_n 1, 1) := by decide +kernel
theorem dX12_compares_97 : decode cX12_compares 97 = .ok (.lload_n 3, 1) := by decide +kernel
theorem dX12_compares_98 : decode cX12_compares 98 = .ok (.lcmp, 1) := by decide +kernel
theorem dX12_compares_99 : decode cX12_compares 99 = .ok (.ifCond .le 7, 3) := by decide +kernel
theorem dX12_compares_102 : decode cX12_compares 102 = .ok (.iconst 1, 1) := by decide +kernel
theorem dX12_compares_103 : decode cX12_compares 103 = .ok (.goto 4, 3) := by decide +kernel
theorem dX12_compares_106 : decode cX12_compares 106 = .ok (.iconst 0, 1) := by decide +kernel
theorem dX12_compares_107 : decode cX12_compares 107 = .ok (.ireturn, 1) := by decide +kernel
theorem dX12_times_0 : decode cX12_times 0 = .ok (.lload_n 1, 1) := by decide +kernel
theorem dX12_times_1 : decode cX12_times 1 = .ok (.lconst 0, 1) := by decide +kernel
theorem dX12_times_2 : decode cX12_times 2 = .ok (.lcmp, 1) := by decide +kernel
theorem dX12_times_3 : decode cX12_times 3 = .ok (.ifCond .eq 45, 3) := by decide +kernel
theorem dX12_times_6 : decode cX12_times 6 = .ok (.lload_n 3, 1) := by decide +kernel
theorem dX12_times_7 : decode cX12_times 7 = .ok (.lconst 0, 1) := by decide +kernel
theorem dX12_times_8 : decode cX12_times 8 = .ok (.lcmp, 1) := by decide +kernel
theorem dX12_times_9 : decode cX12_times 9 = .ok (.ifCond .eq 39, 3) := by decide +kernel
theorem dX12_times_12 : decode cX12_times 12 = .ok (.lload_n 3, 1) := by decide +kernel
theorem dX12_times_13 : decode cX12_times 13 = .ok (.lconst 0, 1) := by decide +kernel
theorem dX12_times_14 : decode cX12_times 14 = .ok (.lcmp, 1) := by decide +kernel
theorem dX12_times_15 : decode cX12_times 15 = .ok (.ifCond .ge 8, 3) := by decide +kernel
theorem dX12_times_18 : decode cX12_times 18 = .ok (.lload_n 3, 1) := by decide +kernel
theorem dX12_times_19 : decode cX12_times 19 = .ok (.lneg, 1) := by decide +kernel
theorem dX12_times_20 : decode cX12_times 20 = .ok (.goto 4, 3) := by decide +kernel
theorem dX12_times_23 : decode cX12_times 23 = .ok (.lload_n 3, 1) := by decide +kernel
theorem dX12_times_24 : decode cX12_times 24 = .ok (.ldc2_w 342, 3) := by decide +kernel
theorem dX12_times_27 : decode cX12_times 27 = .ok (.lload_n 1, 1) := by decide +kernel
theorem dX12_times_28 : decode cX12_times 28 = .ok (.lconst 0, 1) := by decide +kernel
theorem dX12_times_29 : decode cX12_times 29 = .ok (.lcmp, 1) := by decide +kernel
theorem dX12_times_30 : decode cX12_times 30 = .ok (.ifCond .ge 8, 3) := by decide +kernel
theorem dX12_times_33 : decode cX12_times 33 = .ok (.lload_n 1, 1) := by decide +kernel
theorem dX12_times_34 : decode cX12_times 34 = .ok (.lneg, 1) := by decide +kernel
theorem dX12_times_35 : decode cX12_times 35 = .ok (.goto 4, 3) := by decide +kernel
theorem dX12_times_38 : decode cX12_times 38 = .ok (.lload_n 1, 1) := by decide +kernel
theorem dX12_times_39 : decode cX12_times 39 = .ok (.ldiv, 1) := by decide +kernel
theorem dX12_times_40 : decode cX12_times 40 = .ok (.lcmp, 1) := by decide +kernel
theorem dX12_times_41 : decode cX12_times 41 = .ok (.ifCond .le 7, 3) := by decide +kernel
theorem dX12_times_44 : decode cX12_times 44 = .ok (.iconst 1, 1) := by decide +kernel
theorem dX12_times_45 : decode cX12_times 45 = .ok (.goto 4, 3) := by decide +kernel
theorem dX12_times_48 : decode cX12_times 48 = .ok (.iconst 0, 1) := by decide +kernel
theorem dX12_times_49 : decode cX12_times 49 = .ok (.istore 5, 2) := by decide +kernel
theorem dX12_times_51 : decode cX12_times 51 = .ok (.aload_n 0, 1) := by decide +kernel
theorem dX12_times_52 : decode cX12_times 52 = .ok (.aload_n 0, 1) := by decide +kernel
theorem dX12_times_53 : decode cX12_times 53 = .ok (.getfield 339, 3) := by decide +kernel
theorem dX12_times_56 : decode cX12_times 56 = .ok (.ifCond .ne 8, 3) := by decide +kernel
theorem dX12_times_59 : decode cX12_times 59 = .ok (.iload 5, 2) := by decide +kernel
theorem dX12_times_61 : decode cX12_times 61 = .ok (.ifCond .eq 7, 3) := by decide +kernel
theorem dX12_times_64 : decode cX12_times 64 = .ok (.iconst 1, 1) := by decide +kernel
theorem dX12_times_65 : decode cX12_times 65 = .ok (.goto 4, 3) := by decide +kernel
theorem dX12_times_68 : decode cX12_times 68 = .ok (.iconst 0, 1) := by decide +kernel
theorem dX12_times_69 : decode cX12_times 69 = .ok (.putfield 339, 3) := by decide +kernel
theorem dX12_times_72 : decode cX12_times 72 = .ok (.aload_n 0, 1) := by decide +kernel
theorem dX12_times_73 : decode cX12_times 73 = .ok (.getfield 339, 3) := by decide +kernel
theorem dX12_times_76 : decode cX12_times 76 = .ok (.ifCond .eq 7, 3) := by decide +kernel
theorem dX12_times_79 : decode cX12_times 79 = .ok (.lconst 0, 1) := by decide +kernel
theorem dX12_times_80 : decode cX12_times 80 = .ok (.goto 6, 3) := by decide +kernel
theorem dX12_times_83 : decode cX12_times 83 = .ok (.lload_n 1, 1) := by decide +kernel
theorem dX12_times_84 : decode cX12_times 84 = .ok (.lload_n 3, 1) := by decide +kernel
theorem dX12_times_85 : decode cX12_times 85 = .ok (.lmul, 1) := by decide +kernel
theorem dX12_times_86 : decode cX12_times 86 = .ok (.lreturn, 1) := by decide +kernel
theorem dX12_valueOf_0 : decode cX12_valueOf 0 = .ok (.aload_n 0, 1) := by decide +kernel
theorem dX12_valueOf_1 : decode cX12_valueOf 1 = .ok (.getfield 72, 3) := by decide +kernel
theorem dX12_valueOf_4 : decode cX12_valueOf 4 = .ok (.iload_n 1, 1) := by decide +kernel
theorem dX12_valueOf_5 : decode cX12_valueOf 5 = .ok (.iaload, 1) := by decide +kernel
theorem dX12_valueOf_6 : decode cX12_valueOf 6 = .ok (.ifCond .ne 11, 3) := by decide +kernel
theorem dX12_valueOf_9 : decode cX12_valueOf 9 = .ok (.aload_n 0, 1) := by decide +kernel
theorem dX12_valueOf_10 : decode cX12_valueOf 10 = .ok (.getfield 75, 3) := by decide +kernel
theorem dX12_valueOf_13 : decode cX12_valueOf 13 = .ok (.iload_n 1, 1) := by decide +kernel
theorem dX12_valueOf_14 : decode cX12_valueOf 14 = .ok (.iaload, 1) := by decide +kernel
theorem dX12_valueOf_15 : decode cX12_valueOf 15 = .ok (.i2l, 1) := by decide +kernel
theorem dX12_valueOf_16 : decode cX12_valueOf 16 = .ok (.lreturn, 1) := by decide +kernel
theorem dX12_valueOf_17 : decode cX12_valueOf 17 = .ok (.aload_n 0, 1) := by decide +kernel
theorem dX12_valueOf_18 : decode cX12_valueOf 18 = .ok (.getfield 72, 3) := by decide +kernel
theorem dX12_valueOf_21 : decode cX12_valueOf 21 = .ok (.iload_n 1, 1) := by decide +kernel
theorem dX12_valueOf_22 : decode cX12_valueOf 22 = .ok (.iaload, 1) := by decide +kernel
theorem dX12_valueOf_23 : decode cX12_valueOf 23 = .ok (.iconst 1, 1) := by decide +kernel
theorem dX12_valueOf_24 : decode cX12_valueOf 24 = .ok (.if_icmp .ne 15, 3) := by decide +kernel
theorem dX12_valueOf_27 : decode cX12_valueOf 27 = .ok (.aload_n 0, 1) := by decide +kernel
theorem dX12_valueOf_28 : decode cX12_valueOf 28 = .ok (.getfield 87, 3) := by decide +kernel
theorem dX12_valueOf_31 : decode cX12_valueOf 31 = .ok (.aload_n 0, 1) := by decide +kernel
theorem dX12_valueOf_32 : decode cX12_valueOf 32 = .ok (.getfield 75, 3) := by decide +kernel
theorem dX12_valueOf_35 : decode cX12_valueOf 35 = .ok (.iload_n 1, 1) := by decide +kernel
theorem dX12_valueOf_36 : decode cX12_valueOf 36 = .ok (.iaload, 1) := by decide +kernel
theorem dX12_valueOf_37 : decode cX12_valueOf 37 = .ok (.laload, 1) := by decide +kernel
theorem dX12_valueOf_38 : decode cX12_valueOf 38 = .ok (.lreturn, 1) := by decide +kernel
theorem dX12_valueOf_39 : decode cX12_valueOf 39 = .ok (.aload_n 0, 1) := by decide +kernel
theorem dX12_valueOf_40 : decode cX12_valueOf 40 = .ok (.getfield 91, 3) := by decide +kernel
theorem dX12_valueOf_43 : decode cX12_valueOf 43 = .ok (.aload_n 0, 1) := by decide +kernel
theorem dX12_valueOf_44 : decode cX12_valueOf 44 = .ok (.getfield 75, 3) := by decide +kernel
theorem dX12_valueOf_47 : decode cX12_valueOf 47 = .ok (.iload_n 1, 1) := by decide +kernel
theorem dX12_valueOf_48 : decode cX12_valueOf 48 = .ok (.iaload, 1) := by decide +kernel
theorem dX12_valueOf_49 : decode cX12_valueOf 49 = .ok (.laload, 1) := by decide +kernel
theorem dX12_valueOf_50 : decode cX12_valueOf 50 = .ok (.lstore_n 2, 1) := by decide +kernel
theorem dX12_valueOf_51 : decode cX12_valueOf 51 = .ok (.aload_n 0, 1) := by decide +kernel
theorem dX12_valueOf_52 : decode cX12_valueOf 52 = .ok (.getfield 72, 3) := by decide +kernel
theorem dX12_valueOf_55 : decode cX12_valueOf 55 = .ok (.iload_n 1, 1) := by decide +kernel
theorem dX12_valueOf_56 : decode cX12_valueOf 56 = .ok (.iaload, 1) := by decide +kernel
theorem dX12_valueOf_57 : decode cX12_valueOf 57 = .ok (.iconst 2, 1) := by decide +kernel
theorem dX12_valueOf_58 : decode cX12_valueOf 58 = .ok (.if_icmp .ne 15, 3) := by decide +kernel
theorem dX12_valueOf_61 : decode cX12_valueOf 61 = .ok (.lload_n 2, 1) := by decide +kernel
theorem dX12_valueOf_62 : decode cX12_valueOf 62 = .ok (.lconst 0, 1) := by decide +kernel
theorem dX12_valueOf_63 : decode cX12_valueOf 63 = .ok (.lcmp, 1) := by decide +kernel
theorem dX12_valueOf_64 : decode cX12_valueOf 64 = .ok (.ifCond .ne 7, 3) := by decide +kernel
theorem dX12_valueOf_67 : decode cX12_valueOf 67 = .ok (.lconst 1, 1) := by decide +kernel
theorem dX12_valueOf_68 : decode cX12_valueOf 68 = .ok (.goto 4, 3) := by decide +kernel
theorem dX12_valueOf_71 : decode cX12_valueOf 71 = .ok (.lconst 0, 1) := by decide +kernel
theorem dX12_valueOf_72 : decode cX12_valueOf 72 = .ok (.lreturn, 1) := by decide +kernel
theorem dX12_valueOf_73 : decode cX12_valueOf 73 = .ok (.aload_n 0, 1) := by decide +kernel
theorem dX12_valueOf_74 : decode cX12_valueOf 74 = .ok (.getfield 91, 3) := by decide +kernel
theorem dX12_valueOf_77 : decode cX12_valueOf 77 = .ok (.aload_n 0, 1) := by decide +kernel
theorem dX12_valueOf_78 : decode cX12_valueOf 78 = .ok (.getfield 78, 3) := by decide +kernel
theorem dX12_valueOf_81 : decode cX12_valueOf 81 = .ok (.iload_n 1, 1) := by decide +kernel
theorem dX12_valueOf_82 : decode cX12_valueOf 82 = .ok (.iaload, 1) := by decide +kernel
theorem dX12_valueOf_83 : decode cX12_valueOf 83 = .ok (.laload, 1) := by decide +kernel
theorem dX12_valueOf_84 : decode cX12_valueOf 84 = .ok (.lstore 4, 2) := by decide +kernel
theorem dX12_valueOf_86 : decode cX12_valueOf 86 = .ok (.aload_n 0, 1) := by decide +kernel
theorem dX12_valueOf_87 : decode cX12_valueOf 87 = .ok (.getfield 72, 3) := by decide +kernel
theorem dX12_valueOf_90 : decode cX12_valueOf 90 = .ok (.iload_n 1, 1) := by decide +kernel
theorem dX12_valueOf_91 : decode cX12_valueOf 91 = .ok (.iaload, 1) := by decide +kernel
theorem dX12_valueOf_92 : decode cX12_valueOf 92 = .ok (.tableswitch 167 3 14 #[64, 83, 167, 167, 167, 167, 167, 167, 102, 111, 120, 128], 64) := by decide +kernel
theorem dX12_valueOf_156 : decode cX12_valueOf 156 = .ok (.lload_n 2, 1) := by decide +kernel
theorem dX12_valueOf_157 : decode cX12_valueOf 157 = .ok (.lconst 0, 1) := by decide +kernel
theorem dX12_valueOf_158 : decode cX12_valueOf 158 = .ok (.lcmp, 1) := by decide +kernel
theorem dX12_valueOf_159 : decode cX12_valueOf 159 = .ok (.ifCond .eq 14, 3) := by decide +kernel
theorem dX12_valueOf_162 : decode cX12_valueOf 162 = .ok (.lload 4, 2) := by decide +kernel
theorem dX12_valueOf_164 : decode cX12_valueOf 164 = .ok (.lconst 0, 1) := by decide +kernel
theorem dX12_valueOf_165 : decode cX12_valueOf 165 = .ok (.lcmp, 1) := by decide +kernel
theorem dX12_valueOf_166 : decode cX12_valueOf 166 = .ok (.ifCond .eq 7, 3) := by decide +kernel
theorem dX12_valueOf_169 : decode cX12_valueOf 169 = .ok (.lconst 1, 1) := by decide +kernel
theorem dX12_valueOf_170 : decode cX12_valueOf 170 = .ok (.goto 4, 3) := by decide +kernel
theorem dX12_valueOf_173 : decode cX12_valueOf 173 = .ok (.lconst 0, 1) := by decide +kernel
theorem dX12_valueOf_174 : decode cX12_valueOf 174 = .ok (.lreturn, 1) := by decide +kernel
theorem dX12_valueOf_175 : decode cX12_valueOf 175 = .ok (.lload_n 2, 1) := by decide +kernel
theorem dX12_valueOf_176 : decode cX12_valueOf 176 = .ok (.lconst 0, 1) := by decide +kernel
theorem dX12_valueOf_177 : decode cX12_valueOf 177 = .ok (.lcmp, 1) := by decide +kernel
theorem dX12_valueOf_178 : decode cX12_valueOf 178 = .ok (.ifCond .ne 10, 3) := by decide +kernel
theorem dX12_valueOf_181 : decode cX12_valueOf 181 = .ok (.lload 4, 2) := by decide +kernel
theorem dX12_valueOf_183 : decode cX12_valueOf 183 = .ok (.lconst 0, 1) := by decide +kernel
theorem dX12_valueOf_184 : decode cX12_valueOf 184 = .ok (.lcmp, 1) := by decide +kernel
theorem dX12_valueOf_185 : decode cX12_valueOf 185 = .ok (.ifCond .eq 7, 3) := by decide +kernel
theorem dX12_valueOf_188 : decode cX12_valueOf 188 = .ok (.lconst 1, 1) := by decide +kernel
theorem dX12_valueOf_189 : decode cX12_valueOf 189 = .ok (.goto 4, 3) := by decide +kernel
theorem dX12_valueOf_192 : decode cX12_valueOf 192 = .ok (.lconst 0, 1) := by decide +kernel
theorem dX12_valueOf_193 : decode cX12_valueOf 193 = .ok (.lreturn, 1) := by decide +kernel
theorem dX12_valueOf_194 : decode cX12_valueOf 194 = .ok (.aload_n 0, 1) := by decide +kernel
theorem dX12_valueOf_195 : decode cX12_valueOf 195 = .ok (.lload_n 2, 1) := by decide +kernel
theorem dX12_valueOf_196 : decode cX12_valueOf 196 = .ok (.lload 4, 2) := by decide +kernel
theorem dX12_valueOf_198 : decode cX12_valueOf 198 = .ok (.ladd, 1) := by decide +kernel
theorem dX12_valueOf_199 : decode cX12_valueOf 199 = .ok (.invokevirtual 346, 3) := by decide +kernel
theorem dX12_valueOf_202 : decode cX12_valueOf 202 = .ok (.lreturn, 1) := by decide +kernel
theorem dX12_valueOf_203 : decode cX12_valueOf 203 = .ok (.aload_n 0, 1) := by decide +kernel
theorem dX12_valueOf_204 : decode cX12_valueOf 204 = .ok (.lload_n 2, 1) := by decide +kernel
theorem dX12_valueOf_205 : decode cX12_valueOf 205 = .ok (.lload 4, 2) := by decide +kernel
theorem dX12_valueOf_207 : decode cX12_valueOf 207 = .ok (.lsub, 1) := by decide +kernel
theorem dX12_valueOf_208 : decode cX12_valueOf 208 = .ok (.invokevirtual 346, 3) := by decide +kernel
theorem dX12_valueOf_211 : decode cX12_valueOf 211 = .ok (.lreturn, 1) := by decide +kernel
theorem dX12_valueOf_212 : decode cX12_valueOf 212 = .ok (.aload_n 0, 1) := by decide +kernel
theorem dX12_valueOf_213 : decode cX12_valueOf 213 = .ok (.lload_n 2, 1) := by decide +kernel
theorem dX12_valueOf_214 : decode cX12_valueOf 214 = .ok (.lload 4, 2) := by decide +kernel
theorem dX12_valueOf_216 : decode cX12_valueOf 216 = .ok (.invokevirtual 350, 3) := by decide +kernel
theorem dX12_valueOf_219 : decode cX12_valueOf 219 = .ok (.lreturn, 1) := by decide +kernel
theorem dX12_valueOf_220 : decode cX12_valueOf 220 = .ok (.aload_n 0, 1) := by decide +kernel
theorem dX12_valueOf_221 : decode cX12_valueOf 221 = .ok (.aload_n 0, 1) := by decide +kernel
theorem dX12_valueOf_222 : decode cX12_valueOf 222 = .ok (.getfield 339, 3) := by decide +kernel
theorem dX12_valueOf_225 : decode cX12_valueOf 225 = .ok (.ifCond .ne 10, 3) := by decide +kernel
theorem dX12_valueOf_228 : decode cX12_valueOf 228 = .ok (.lload 4, 2) := by decide +kernel
theorem dX12_valueOf_230 : decode cX12_valueOf 230 = .ok (.lconst 0, 1) := by decide +kernel
theorem dX12_valueOf_231 : decode cX12_valueOf 231 = .ok (.lcmp, 1) := by decide +kernel
theorem dX12_valueOf_232 : decode cX12_valueOf 232 = .ok (.ifCond .ne 7, 3) := by decide +kernel
theorem dX12_valueOf_235 : decode cX12_valueOf 235 = .ok (.iconst 1, 1) := by decide +kernel
theorem dX12_valueOf_236 : decode cX12_valueOf 236 = .ok (.goto 4, 3) := by decide +kernel
theorem dX12_valueOf_239 : decode cX12_valueOf 239 = .ok (.iconst 0, 1) := by decide +kernel
theorem dX12_valueOf_240 : decode cX12_valueOf 240 = .ok (.putfield 339, 3) := by decide +kernel
theorem dX12_valueOf_243 : decode cX12_valueOf 243 = .ok (.aload_n 0, 1) := by decide +kernel
theorem dX12_valueOf_244 : decode cX12_valueOf 244 = .ok (.getfield 339, 3) := by decide +kernel
theorem dX12_valueOf_247 : decode cX12_valueOf 247 = .ok (.ifCond .eq 7, 3) := by decide +kernel
theorem dX12_valueOf_250 : decode cX12_valueOf 250 = .ok (.lconst 0, 1) := by decide +kernel
theorem dX12_valueOf_251 : decode cX12_valueOf 251 = .ok (.goto 7, 3) := by decide +kernel
theorem dX12_valueOf_254 : decode cX12_valueOf 254 = .ok (.lload_n 2, 1) := by decide +kernel
theorem dX12_valueOf_255 : decode cX12_valueOf 255 = .ok (.lload 4, 2) := by decide +kernel
theorem dX12_valueOf_257 : decode cX12_valueOf 257 = .ok (.ldiv, 1) := by decide +kernel
theorem dX12_valueOf_258 : decode cX12_valueOf 258 = .ok (.lreturn, 1) := by decide +kernel
theorem dX12_valueOf_259 : decode cX12_valueOf 259 = .ok (.aload_n 0, 1) := by decide +kernel
theorem dX12_valueOf_260 : decode cX12_valueOf 260 = .ok (.getfield 72, 3) := by decide +kernel
theorem dX12_valueOf_263 : decode cX12_valueOf 263 = .ok (.iload_n 1, 1) := by decide +kernel
theorem dX12_valueOf_264 : decode cX12_valueOf 264 = .ok (.iaload, 1) := by decide +kernel
theorem dX12_valueOf_265 : decode cX12_valueOf 265 = .ok (.lload_n 2, 1) := by decide +kernel
theorem dX12_valueOf_266 : decode cX12_valueOf 266 = .ok (.lload 4, 2) := by decide +kernel
theorem dX12_valueOf_268 : decode cX12_valueOf 268 = .ok (.invokestatic 354, 3) := by decide +kernel
theorem dX12_valueOf_271 : decode cX12_valueOf 271 = .ok (.ifCond .eq 7, 3) := by decide +kernel
theorem dX12_valueOf_274 : decode cX12_valueOf 274 = .ok (.lconst 1, 1) := by decide +kernel
theorem dX12_valueOf_275 : decode cX12_valueOf 275 = .ok (.goto 4, 3) := by decide +kernel
theorem dX12_valueOf_278 : decode cX12_valueOf 278 = .ok (.lconst 0, 1) := by decide +kernel
theorem dX12_valueOf_279 : decode cX12_valueOf 279 = .ok (.lreturn, 1) := by decide +kernel
theorem dX12_begin_0 : decode cX12_begin 0 = .ok (.aload_n 0, 1) := by decide +kernel
theorem dX12_begin_1 : decode cX12_begin 1 = .ok (.iconst 0, 1) := by decide +kernel
theorem dX12_begin_2 : decode cX12_begin 2 = .ok (.invokevirtual 358, 3) := by decide +kernel
theorem dX12_begin_5 : decode cX12_begin 5 = .ok (.aload_n 0, 1) := by decide +kernel
theorem dX12_begin_6 : decode cX12_begin 6 = .ok (.aload_n 0, 1) := by decide +kernel
theorem dX12_begin_7 : decode cX12_begin 7 = .ok (.getfield 24, 3) := by decide +kernel
theorem dX12_begin_10 : decode cX12_begin 10 = .ok (.iconst 1, 1) := by decide +kernel
theorem dX12_begin_11 : decode cX12_begin 11 = .ok (.iaload, 1) := by decide +kernel
theorem dX12_begin_12 : decode cX12_begin 12 = .ok (.i2l, 1) := by decide +kernel
theorem dX12_begin_13 : decode cX12_begin 13 = .ok (.putfield 361, 3) := by decide +kernel
theorem dX12_begin_16 : decode cX12_begin 16 = .ok (.aload_n 0, 1) := by decide +kernel
theorem dX12_begin_17 : decode cX12_begin 17 = .ok (.invokevirtual 365, 3) := by decide +kernel
theorem dX12_begin_20 : decode cX12_begin 20 = .ok (.aload_n 0, 1) := by decide +kernel
theorem dX12_begin_21 : decode cX12_begin 21 = .ok (.iconst 0, 1) := by decide +kernel
theorem dX12_begin_22 : decode cX12_begin 22 = .ok (.putfield 368, 3) := by decide +kernel
theorem dX12_begin_25 : decode cX12_begin 25 = .ok (.aload_n 0, 1) := by decide +kernel
theorem dX12_begin_26 : decode cX12_begin 26 = .ok (.iconst (-1), 1) := by decide +kernel
theorem dX12_begin_27 : decode cX12_begin 27 = .ok (.putfield 130, 3) := by decide +kernel
theorem dX12_begin_30 : decode cX12_begin 30 = .ok (.aload_n 0, 1) := by decide +kernel
theorem dX12_begin_31 : decode cX12_begin 31 = .ok (.iconst 0, 1) := by decide +kernel
theorem dX12_begin_32 : decode cX12_begin 32 = .ok (.putfield 371, 3) := by decide +kernel
theorem dX12_begin_35 : decode cX12_begin 35 = .ok (.aload_n 0, 1) := by decide +kernel
theorem dX12_begin_36 : decode cX12_begin 36 = .ok (.iconst 0, 1) := by decide +kernel
theorem dX12_begin_37 : decode cX12_begin 37 = .ok (.putfield 374, 3) := by decide +kernel
theorem dX12_begin_40 : decode cX12_begin 40 = .ok (.return_, 1) := by decide +kernel
theorem dX12_atFirst_0 : decode cX12_atFirst 0 = .ok (.aload_n 0, 1) := by decide +kernel
theorem dX12_atFirst_1 : decode cX12_atFirst 1 = .ok (.getfield 94, 3) := by decide +kernel
theorem dX12_atFirst_4 : decode cX12_atFirst 4 = .ok (.iload_n 1, 1) := by decide +kernel
theorem dX12_atFirst_5 : decode cX12_atFirst 5 = .ok (.iconst (-1), 1) := by decide +kernel
theorem dX12_atFirst_6 : decode cX12_atFirst 6 = .ok (.iastore, 1) := by decide +kernel
theorem dX12_atFirst_7 : decode cX12_atFirst 7 = .ok (.aload_n 0, 1) := by decide +kernel
theorem dX12_atFirst_8 : decode cX12_atFirst 8 = .ok (.getfield 97, 3) := by decide +kernel
theorem dX12_atFirst_11 : decode cX12_atFirst 11 = .ok (.iload_n 1, 1) := by decide +kernel
theorem dX12_atFirst_12 : decode cX12_atFirst 12 = .ok (.iconst 0, 1) := by decide +kernel
theorem dX12_atFirst_13 : decode cX12_atFirst 13 = .ok (.iastore, 1) := by decide +kernel
theorem dX12_atFirst_14 : decode cX12_atFirst 14 = .ok (.aload_n 0, 1) := by decide +kernel
theorem dX12_atFirst_15 : decode cX12_atFirst 15 = .ok (.getfield 100, 3) := by decide +kernel
theorem dX12_atFirst_18 : decode cX12_atFirst 18 = .ok (.iload_n 1, 1) := by decide +kernel
theorem dX12_atFirst_19 : decode cX12_atFirst 19 = .ok (.iconst 0, 1) := by decide +kernel
theorem dX12_atFirst_20 : decode cX12_atFirst 20 = .ok (.iastore, 1) := by decide +kernel
theorem dX12_atFirst_21 : decode cX12_atFirst 21 = .ok (.aload_n 0, 1) := by decide +kernel
theorem dX12_atFirst_22 : decode cX12_atFirst 22 = .ok (.getfield 103, 3) := by decide +kernel
theorem dX12_atFirst_25 : decode cX12_atFirst 25 = .ok (.iload_n 1, 1) := by decide +kernel
theorem dX12_atFirst_26 : decode cX12_atFirst 26 = .ok (.iconst (-1), 1) := by decide +kernel
theorem dX12_atFirst_27 : decode cX12_atFirst 27 = .ok (.iastore, 1) := by decide +kernel
theorem dX12_atFirst_28 : decode cX12_atFirst 28 = .ok (.aload_n 0, 1) := by decide +kernel
theorem dX12_atFirst_29 : decode cX12_atFirst 29 = .ok (.getfield 106, 3) := by decide +kernel
theorem dX12_atFirst_32 : decode cX12_atFirst 32 = .ok (.iload_n 1, 1) := by decide +kernel
theorem dX12_atFirst_33 : decode cX12_atFirst 33 = .ok (.iconst 0, 1) := by decide +kernel
theorem dX12_atFirst_34 : decode cX12_atFirst 34 = .ok (.iastore, 1) := by decide +kernel
theorem dX12_atFirst_35 : decode cX12_atFirst 35 = .ok (.aload_n 0, 1) := by decide +kernel
theorem dX12_atFirst_36 : decode cX12_atFirst 36 = .ok (.getfield 109, 3) := by decide +kernel
theorem dX12_atFirst_39 : decode cX12_atFirst 39 = .ok (.iload_n 1, 1) := by decide +kernel
theorem dX12_atFirst_40 : decode cX12_atFirst 40 = .ok (.iconst 0, 1) := by decide +kernel
theorem dX12_atFirst_41 : decode cX12_atFirst 41 = .ok (.iastore, 1) := by decide +kernel
theorem dX12_atFirst_42 : decode cX12_atFirst 42 = .ok (.aload_n 0, 1) := by decide +kernel
theorem dX12_atFirst_43 : decode cX12_atFirst 43 = .ok (.getfield 112, 3) := by decide +kernel
theorem dX12_atFirst_46 : decode cX12_atFirst 46 = .ok (.iload_n 1, 1) := by decide +kernel
theorem dX12_atFirst_47 : decode cX12_atFirst 47 = .ok (.iconst 0, 1) := by decide +kernel
theorem dX12_atFirst_48 : decode cX12_atFirst 48 = .ok (.iastore, 1) := by decide +kernel
theorem dX12_atFirst_49 : decode cX12_atFirst 49 = .ok (.iconst 0, 1) := by decide +kernel
theorem dX12_atFirst_50 : decode cX12_atFirst 50 = .ok (.istore_n 2, 1) := by decide +kernel
theorem dX12_atFirst_51 : decode cX12_atFirst 51 = .ok (.iload_n 2, 1) := by decide +kernel
theorem dX12_atFirst_52 : decode cX12_atFirst 52 = .ok (.bipush 6, 2) := by decide +kernel
theorem dX12_atFirst_54 : decode cX12_atFirst 54 = .ok (.if_icmp .ge 45, 3) := by decide +kernel
theorem dX12_atFirst_57 : decode cX12_atFirst 57 = .ok (.aload_n 0, 1) := by decide +kernel
theorem dX12_atFirst_58 : decode cX12_atFirst 58 = .ok (.getfield 115, 3) := by decide +kernel
theorem dX12_atFirst_61 : decode cX12_atFirst 61 = .ok (.bipush 6, 2) := by decide +kernel
theorem dX12_atFirst_63 : decode cX12_atFirst 63 = .ok (.iload_n 1, 1) := by decide +kernel
theorem dX12_atFirst_64 : decode cX12_atFirst 64 = .ok (.imul, 1) := by decide +kernel
theorem dX12_atFirst_65 : decode cX12_atFirst 65 = .ok (.iload_n 2, 1) := by decide +kernel
theorem dX12_atFirst_66 : decode cX12_atFirst 66 = .ok (.iadd, 1) := by decide +kernel
theorem dX12_atFirst_67 : decode cX12_atFirst 67 = .ok (.iload_n 2, 1) := by decide +kernel
theorem dX12_atFirst_68 : decode cX12_atFirst 68 = .ok (.iastore, 1) := by decide +kernel
theorem dX12_atFirst_69 : decode cX12_atFirst 69 = .ok (.aload_n 0, 1) := by decide +kernel
theorem dX12_atFirst_70 : decode cX12_atFirst 70 = .ok (.getfield 118, 3) := by decide +kernel
theorem dX12_atFirst_73 : decode cX12_atFirst 73 = .ok (.bipush 6, 2) := by decide +kernel
theorem dX12_atFirst_75 : decode cX12_atFirst 75 = .ok (.iload_n 1, 1) := by decide +kernel
theorem dX12_atFirst_76 : decode cX12_atFirst 76 = .ok (.imul, 1) := by decide +kernel
theorem dX12_atFirst_77 : decode cX12_atFirst 77 = .ok (.iload_n 2, 1) := by decide +kernel
theorem dX12_atFirst_78 : decode cX12_atFirst 78 = .ok (.iadd, 1) := by decide +kernel
theorem dX12_atFirst_79 : decode cX12_atFirst 79 = .ok (.iconst 0, 1) := by decide +kernel
theorem dX12_atFirst_80 : decode cX12_atFirst 80 = .ok (.iastore, 1) := by decide +kernel
theorem dX12_atFirst_81 : decode cX12_atFirst 81 = .ok (.aload_n 0, 1) := by decide +kernel
theorem dX12_atFirst_82 : decode cX12_atFirst 82 = .ok (.getfield 121, 3) := by decide +kernel
theorem dX12_atFirst_85 : decode cX12_atFirst 85 = .ok (.bipush 6, 2) := by decide +kernel
theorem dX12_atFirst_87 : decode cX12_atFirst 87 = .ok (.iload_n 1, 1) := by decide +kernel
theorem dX12_atFirst_88 : decode cX12_atFirst 88 = .ok (.imul, 1) := by decide +kernel
theorem dX12_atFirst_89 : decode cX12_atFirst 89 = .ok (.iload_n 2, 1) := by decide +kernel
theorem dX12_atFirst_90 : decode cX12_atFirst 90 = .ok (.iadd, 1) := by decide +kernel
theorem dX12_atFirst_91 : decode cX12_atFirst 91 = .ok (.iconst 0, 1) := by decide +kernel
theorem dX12_atFirst_92 : decode cX12_atFirst 92 = .ok (.iastore, 1) := by decide +kernel
theorem dX12_atFirst_93 : decode cX12_atFirst 93 = .ok (.iinc 2 1, 3) := by decide +kernel
theorem dX12_atFirst_96 : decode cX12_atFirst 96 = .ok (.goto (-45), 3) := by decide +kernel
theorem dX12_atFirst_99 : decode cX12_atFirst 99 = .ok (.iconst 0, 1) := by decide +kernel
theorem dX12_atFirst_100 : decode cX12_atFirst 100 = .ok (.istore_n 2, 1) := by decide +kernel
theorem dX12_atFirst_101 : decode cX12_atFirst 101 = .ok (.iload_n 2, 1) := by decide +kernel
theorem dX12_atFirst_102 : decode cX12_atFirst 102 = .ok (.iconst 4, 1) := by decide +kernel
theorem dX12_atFirst_103 : decode cX12_atFirst 103 = .ok (.if_icmp .ge 20, 3) := by decide +kernel
theorem dX12_atFirst_106 : decode cX12_atFirst 106 = .ok (.aload_n 0, 1) := by decide +kernel
theorem dX12_atFirst_107 : decode cX12_atFirst 107 = .ok (.getfield 124, 3) := by decide +kernel
theorem dX12_atFirst_110 : decode cX12_atFirst 110 = .ok (.iconst 4, 1) := by decide +kernel
theorem dX12_atFirst_111 : decode cX12_atFirst 111 = .ok (.iload_n 1, 1) := by decide +kernel
theorem dX12_atFirst_112 : decode cX12_atFirst 112 = .ok (.imul, 1) := by decide +kernel
theorem dX12_atFirst_113 : decode cX12_atFirst 113 = .ok (.iload_n 2, 1) := by decide +kernel
theorem dX12_atFirst_114 : decode cX12_atFirst 114 = .ok (.iadd, 1) := by decide +kernel
theorem dX12_atFirst_115 : decode cX12_atFirst 115 = .ok (.iconst 0, 1) := by decide +kernel
theorem dX12_atFirst_116 : decode cX12_atFirst 116 = .ok (.iastore, 1) := by decide +kernel
theorem dX12_atFirst_117 : decode cX12_atFirst 117 = .ok (.iinc 2 1, 3) := by decide +kernel
theorem dX12_atFirst_120 : decode cX12_atFirst 120 = .ok (.goto (-19), 3) := by decide +kernel
theorem dX12_atFirst_123 : decode cX12_atFirst 123 = .ok (.return_, 1) := by decide +kernel
theorem dX12_plainTried_0 : decode cX12_plainTried 0 = .ok (.aload_n 0, 1) := by decide +kernel
theorem dX12_plainTried_1 : decode cX12_plainTried 1 = .ok (.iconst 0, 1) := by decide +kernel
theorem dX12_plainTried_2 : decode cX12_plainTried 2 = .ok (.putfield 377, 3) := by decide +kernel
theorem dX12_plainTried_5 : decode cX12_plainTried 5 = .ok (.aload_n 0, 1) := by decide +kernel
theorem dX12_plainTried_6 : decode cX12_plainTried 6 = .ok (.iconst 0, 1) := by decide +kernel
theorem dX12_plainTried_7 : decode cX12_plainTried 7 = .ok (.putfield 380, 3) := by decide +kernel
theorem dX12_plainTried_10 : decode cX12_plainTried 10 = .ok (.aload_n 0, 1) := by decide +kernel
theorem dX12_plainTried_11 : decode cX12_plainTried 11 = .ok (.iconst 0, 1) := by decide +kernel
theorem dX12_plainTried_12 : decode cX12_plainTried 12 = .ok (.putfield 383, 3) := by decide +kernel
theorem dX12_plainTried_15 : decode cX12_plainTried 15 = .ok (.aload_n 0, 1) := by decide +kernel
theorem dX12_plainTried_16 : decode cX12_plainTried 16 = .ok (.iconst 0, 1) := by decide +kernel
theorem dX12_plainTried_17 : decode cX12_plainTried 17 = .ok (.putfield 386, 3) := by decide +kernel
theorem dX12_plainTried_20 : decode cX12_plainTried 20 = .ok (.aload_n 0, 1) := by decide +kernel
theorem dX12_plainTried_21 : decode cX12_plainTried 21 = .ok (.iconst 0, 1) := by decide +kernel
theorem dX12_plainTried_22 : decode cX12_plainTried 22 = .ok (.putfield 389, 3) := by decide +kernel
theorem dX12_plainTried_25 : decode cX12_plainTried 25 = .ok (.aload_n 0, 1) := by decide +kernel
theorem dX12_plainTried_26 : decode cX12_plainTried 26 = .ok (.iconst 0, 1) := by decide +kernel
theorem dX12_plainTried_27 : decode cX12_plainTried 27 = .ok (.putfield 392, 3) := by decide +kernel
theorem dX12_plainTried_30 : decode cX12_plainTried 30 = .ok (.aload_n 0, 1) := by decide +kernel
theorem dX12_plainTried_31 : decode cX12_plainTried 31 = .ok (.iconst (-1), 1) := by decide +kernel
theorem dX12_plainTried_32 : decode cX12_plainTried 32 = .ok (.putfield 395, 3) := by decide +kernel
theorem dX12_plainTried_35 : decode cX12_plainTried 35 = .ok (.aload_n 0, 1) := by decide +kernel
theorem dX12_plainTried_36 : decode cX12_plainTried 36 = .ok (.iconst (-1), 1) := by decide +kernel
theorem dX12_plainTried_37 : decode cX12_plainTried 37 = .ok (.putfield 398, 3) := by decide +kernel
theorem dX12_plainTried_40 : decode cX12_plainTried 40 = .ok (.aload_n 0, 1) := by decide +kernel
theorem dX12_plainTried_41 : decode cX12_plainTried 41 = .ok (.iconst 0, 1) := by decide +kernel
theorem dX12_plainTried_42 : decode cX12_plainTried 42 = .ok (.putfield 401, 3) := by decide +kernel
theorem dX12_plainTried_45 : decode cX12_plainTried 45 = .ok (.return_, 1) := by decide +kernel
theorem dX12_layTried_0 : decode cX12_layTried 0 = .ok (.aload_n 0, 1) := by decide +kernel
theorem dX12_layTried_1 : decode cX12_layTried 1 = .ok (.getfield 94, 3) := by decide +kernel
theorem dX12_layTried_4 : decode cX12_layTried 4 = .ok (.iconst 1, 1) := by decide +kernel
theorem dX12_layTried_5 : decode cX12_layTried 5 = .ok (.aload_n 0, 1) := by decide +kernel
theorem dX12_layTried_6 : decode cX12_layTried 6 = .ok (.getfield 94, 3) := by decide +kernel
theorem dX12_layTried_9 : decode cX12_layTried 9 = .ok (.iconst 0, 1) := by decide +kernel
theorem dX12_layTried_10 : decode cX12_layTried 10 = .ok (.iaload, 1) := by decide +kernel
theorem dX12_layTried_11 : decode cX12_layTried 11 = .ok (.iastore, 1) := by decide +kernel
theorem dX12_layTried_12 : decode cX12_layTried 12 = .ok (.aload_n 0, 1) := by decide +kernel
theorem dX12_layTried_13 : decode cX12_layTried 13 = .ok (.getfield 97, 3) := by decide +kernel
theorem dX12_layTried_16 : decode cX12_layTried 16 = .ok (.iconst 1, 1) := by decide +kernel
theorem dX12_layTried_17 : decode cX12_layTried 17 = .ok (.aload_n 0, 1) := by decide +kernel
theorem dX12_layTried_18 : decode cX12_layTried 18 = .ok (.getfield 97, 3) := by decide +kernel
theorem dX12_layTried_21 : decode cX12_layTried 21 = .ok (.iconst 0, 1) := by decide +kernel
theorem dX12_layTried_22 : decode cX12_layTried 22 = .ok (.iaload, 1) := by decide +kernel
theorem dX12_layTried_23 : decode cX12_layTried 23 = .ok (.iastore, 1) := by decide +kernel
theorem dX12_layTried_24 : decode cX12_layTried 24 = .ok (.aload_n 0, 1) := by decide +kernel
theorem dX12_layTried_25 : decode cX12_layTried 25 = .ok (.getfield 100, 3) := by decide +kernel
theorem dX12_layTried_28 : decode cX12_layTried 28 = .ok (.iconst 1, 1) := by decide +kernel
theorem dX12_layTried_29 : decode cX12_layTried 29 = .ok (.aload_n 0, 1) := by decide +kernel
theorem dX12_layTried_30 : decode cX12_layTried 30 = .ok (.getfield 100, 3) := by decide +kernel
theorem dX12_layTried_33 : decode cX12_layTried 33 = .ok (.iconst 0, 1) := by decide +kernel
theorem dX12_layTried_34 : decode cX12_layTried 34 = .ok (.iaload, 1) := by decide +kernel
theorem dX12_layTried_35 : decode cX12_layTried 35 = .ok (.iastore, 1) := by decide +kernel
theorem dX12_layTried_36 : decode cX12_layTried 36 = .ok (.aload_n 0, 1) := by decide +kernel
theorem dX12_layTried_37 : decode cX12_layTried 37 = .ok (.getfield 103, 3) := by decide +kernel
theorem dX12_layTried_40 : decode cX12_layTried 40 = .ok (.iconst 1, 1) := by decide +kernel
theorem dX12_layTried_41 : decode cX12_layTried 41 = .ok (.aload_n 0, 1) := by decide +kernel
theorem dX12_layTried_42 : decode cX12_layTried 42 = .ok (.getfield 103, 3) := by decide +kernel
theorem dX12_layTried_45 : decode cX12_layTried 45 = .ok (.iconst 0, 1) := by decide +kernel
theorem dX12_layTried_46 : decode cX12_layTried 46 = .ok (.iaload, 1) := by decide +kernel
theorem dX12_layTried_47 : decode cX12_layTried 47 = .ok (.iastore, 1) := by decide +kernel
theorem dX12_layTried_48 : decode cX12_layTried 48 = .ok (.aload_n 0, 1) := by decide +kernel
theorem dX12_layTried_49 : decode cX12_layTried 49 = .ok (.getfield 106, 3) := by decide +kernel
theorem dX12_layTried_52 : decode cX12_layTried 52 = .ok (.iconst 1, 1) := by decide +kernel
theorem dX12_layTried_53 : decode cX12_layTried 53 = .ok (.aload_n 0, 1) := by decide +kernel
theorem dX12_layTried_54 : decode cX12_layTried 54 = .ok (.getfield 106, 3) := by decide +kernel
theorem dX12_layTried_57 : decode cX12_layTried 57 = .ok (.iconst 0, 1) := by decide +kernel
theorem dX12_layTried_58 : decode cX12_layTried 58 = .ok (.iaload, 1) := by decide +kernel
theorem dX12_layTried_59 : decode cX12_layTried 59 = .ok (.iastore, 1) := by decide +kernel
theorem dX12_layTried_60 : decode cX12_layTried 60 = .ok (.aload_n 0, 1) := by decide +kernel
theorem dX12_layTried_61 : decode cX12_layTried 61 = .ok (.getfield 109, 3) := by decide +kernel
theorem dX12_layTried_64 : decode cX12_layTried 64 = .ok (.iconst 1, 1) := by decide +kernel
theorem dX12_layTried_65 : decode cX12_layTried 65 = .ok (.aload_n 0, 1) := by decide +kernel
theorem dX12_layTried_66 : decode cX12_layTried 66 = .ok (.getfield 109, 3) := by decide +kernel
theorem dX12_layTried_69 : decode cX12_layTried 69 = .ok (.iconst 0, 1) := by decide +kernel
theorem dX12_layTried_70 : decode cX12_layTried 70 = .ok (.iaload, 1) := by decide +kernel
theorem dX12_layTried_71 : decode cX12_layTried 71 = .ok (.iastore, 1) := by decide +kernel
theorem dX12_layTried_72 : decode cX12_layTried 72 = .ok (.aload_n 0, 1) := by decide +kernel
theorem dX12_layTried_73 : decode cX12_layTried 73 = .ok (.getfield 112, 3) := by decide +kernel
theorem dX12_layTried_76 : decode cX12_layTried 76 = .ok (.iconst 1, 1) := by decide +kernel
theorem dX12_layTried_77 : decode cX12_layTried 77 = .ok (.aload_n 0, 1) := by decide +kernel
theorem dX12_layTried_78 : decode cX12_layTried 78 = .ok (.getfield 112, 3) := by decide +kernel
theorem dX12_layTried_81 : decode cX12_layTried 81 = .ok (.iconst 0, 1) := by decide +kernel
theorem dX12_layTried_82 : decode cX12_layTried 82 = .ok (.iaload, 1) := by decide +kernel
theorem dX12_layTried_83 : decode cX12_layTried 83 = .ok (.iastore, 1) := by decide +kernel
theorem dX12_layTried_84 : decode cX12_layTried 84 = .ok (.iconst 0, 1) := by decide +kernel
theorem dX12_layTried_85 : decode cX12_layTried 85 = .ok (.istore_n 1, 1) := by decide +kernel
theorem dX12_layTried_86 : decode cX12_layTried 86 = .ok (.iload_n 1, 1) := by decide +kernel
theorem dX12_layTried_87 : decode cX12_layTried 87 = .ok (.bipush 6, 2) := by decide +kernel
theorem dX12_layTried_89 : decode cX12_layTried 89 = .ok (.if_icmp .ge 54, 3) := by decide +kernel
theorem dX12_layTried_92 : decode cX12_layTried 92 = .ok (.aload_n 0, 1) := by decide +kernel
theorem dX12_layTried_93 : decode cX12_layTried 93 = .ok (.getfield 115, 3) := by decide +kernel
theorem dX12_layTried_96 : decode cX12_layTried 96 = .ok (.bipush 6, 2) := by decide +kernel
theorem dX12_layTried_98 : decode cX12_layTried 98 = .ok (.iload_n 1, 1) := by decide +kernel
theorem dX12_layTried_99 : decode cX12_layTried 99 = .ok (.iadd, 1) := by decide +kernel
theorem dX12_layTried_100 : decode cX12_layTried 100 = .ok (.aload_n 0, 1) := by decide +kernel
theorem dX12_layTried_101 : decode cX12_layTried 101 = .ok (.getfield 115, 3) := by decide +kernel
theorem dX12_layTried_104 : decode cX12_layTried 104 = .ok (.iload_n 1, 1) := by decide +kernel
theorem dX12_layTried_105 : decode cX12_layTried 105 = .ok (.iaload, 1) := by decide +kernel
theorem dX12_layTried_106 : decode cX12_layTried 106 = .ok (.iastore, 1) := by decide +kernel
theorem dX12_layTried_107 : decode cX12_layTried 107 = .ok (.aload_n 0, 1) := by decide +kernel
theorem dX12_layTried_108 : decode cX12_layTried 108 = .ok (.getfield 118, 3) := by decide +kernel
theorem dX12_layTried_111 : decode cX12_layTried 111 = .ok (.bipush 6, 2) := by decide +kernel
theorem dX12_layTried_113 : decode cX12_layTried 113 = .ok (.iload_n 1, 1) := by decide +kernel
theorem dX12_layTried_114 : decode cX12_layTried 114 = .ok (.iadd, 1) := by decide +kernel
theorem dX12_layTried_115 : decode cX12_layTried 115 = .ok (.aload_n 0, 1) := by decide +kernel
theorem dX12_layTried_116 : decode cX12_layTried 116 = .ok (.getfield 118, 3) := by decide +kernel
theorem dX12_layTried_119 : decode cX12_layTried 119 = .ok (.iload_n 1, 1) := by decide +kernel
theorem dX12_layTried_120 : decode cX12_layTried 120 = .ok (.iaload, 1) := by decide +kernel
theorem dX12_layTried_121 : decode cX12_layTried 121 = .ok (.iastore, 1) := by decide +kernel
theorem dX12_layTried_122 : decode cX12_layTried 122 = .ok (.aload_n 0, 1) := by decide +kernel
theorem dX12_layTried_123 : decode cX12_layTried 123 = .ok (.getfield 121, 3) := by decide +kernel
theorem dX12_layTried_126 : decode cX12_layTried 126 = .ok (.bipush 6, 2) := by decide +kernel
theorem dX12_layTried_128 : decode cX12_layTried 128 = .ok (.iload_n 1, 1) := by decide +kernel
theorem dX12_layTried_129 : decode cX12_layTried 129 = .ok (.iadd, 1) := by decide +kernel
theorem dX12_layTried_130 : decode cX12_layTried 130 = .ok (.aload_n 0, 1) := by decide +kernel
theorem dX12_layTried_131 : decode cX12_layTried 131 = .ok (.getfield 121, 3) := by decide +kernel
theorem dX12_layTried_134 : decode cX12_layTried 134 = .ok (.iload_n 1, 1) := by decide +kernel
theorem dX12_layTried_135 : decode cX12_layTried 135 = .ok (.iaload, 1) := by decide +kernel
theorem dX12_layTried_136 : decode cX12_layTried 136 = .ok (.iastore, 1) := by decide +kernel
theorem dX12_layTried_137 : decode cX12_layTried 137 = .ok (.iinc 1 1, 3) := by decide +kernel
theorem dX12_layTried_140 : decode cX12_layTried 140 = .ok (.goto (-54), 3) := by decide +kernel
theorem dX12_layTried_143 : decode cX12_layTried 143 = .ok (.iconst 0, 1) := by decide +kernel
theorem dX12_layTried_144 : decode cX12_layTried 144 = .ok (.istore_n 1, 1) := by decide +kernel
theorem dX12_layTried_145 : decode cX12_layTried 145 = .ok (.iload_n 1, 1) := by decide +kernel
theorem dX12_layTried_146 : decode cX12_layTried 146 = .ok (.iconst 4, 1) := by decide +kernel
theorem dX12_layTried_147 : decode cX12_layTried 147 = .ok (.if_icmp .ge 23, 3) := by decide +kernel
theorem dX12_layTried_150 : decode cX12_layTried 150 = .ok (.aload_n 0, 1) := by decide +kernel
theorem dX12_layTried_151 : decode cX12_layTried 151 = .ok (.getfield 124, 3) := by decide +kernel
theorem dX12_layTried_154 : decode cX12_layTried 154 = .ok (.iconst 4, 1) := by decide +kernel
theorem dX12_layTried_155 : decode cX12_layTried 155 = .ok (.iload_n 1, 1) := by decide +kernel
theorem dX12_layTried_156 : decode cX12_layTried 156 = .ok (.iadd, 1) := by decide +kernel
theorem dX12_layTried_157 : decode cX12_layTried 157 = .ok (.aload_n 0, 1) := by decide +kernel
theorem dX12_layTried_158 : decode cX12_layTried 158 = .ok (.getfield 124, 3) := by decide +kernel
theorem dX12_layTried_161 : decode cX12_layTried 161 = .ok (.iload_n 1, 1) := by decide +kernel
theorem dX12_layTried_162 : decode cX12_layTried 162 = .ok (.iaload, 1) := by decide +kernel
theorem dX12_layTried_163 : decode cX12_layTried 163 = .ok (.iastore, 1) := by decide +kernel
theorem dX12_layTried_164 : decode cX12_layTried 164 = .ok (.iinc 1 1, 3) := by decide +kernel
theorem dX12_layTried_167 : decode cX12_layTried 167 = .ok (.goto (-22), 3) := by decide +kernel
theorem dX12_layTried_170 : decode cX12_layTried 170 = .ok (.aload_n 0, 1) := by decide +kernel
theorem dX12_layTried_171 : decode cX12_layTried 171 = .ok (.invokevirtual 365, 3) := by decide +kernel
theorem dX12_layTried_174 : decode cX12_layTried 174 = .ok (.return_, 1) := by decide +kernel
theorem dX12_isAct_0 : decode cX12_isAct 0 = .ok (.iload_n 1, 1) := by decide +kernel
theorem dX12_isAct_1 : decode cX12_isAct 1 = .ok (.ifCond .lt 15, 3) := by decide +kernel
theorem dX12_isAct_4 : decode cX12_isAct 4 = .ok (.iload_n 1, 1) := by decide +kernel
theorem dX12_isAct_5 : decode cX12_isAct 5 = .ok (.aload_n 0, 1) := by decide +kernel
theorem dX12_isAct_6 : decode cX12_isAct 6 = .ok (.getfield 237, 3) := by decide +kernel
theorem dX12_isAct_9 : decode cX12_isAct 9 = .ok (.if_icmp .ge 7, 3) := by decide +kernel
theorem dX12_isAct_12 : decode cX12_isAct 12 = .ok (.iconst 1, 1) := by decide +kernel
theorem dX12_isAct_13 : decode cX12_isAct 13 = .ok (.goto 4, 3) := by decide +kernel
theorem dX12_isAct_16 : decode cX12_isAct 16 = .ok (.iconst 0, 1) := by decide +kernel
theorem dX12_isAct_17 : decode cX12_isAct 17 = .ok (.ireturn, 1) := by decide +kernel
theorem dX12_isGuest_0 : decode cX12_isGuest 0 = .ok (.iload_n 1, 1) := by decide +kernel
theorem dX12_isGuest_1 : decode cX12_isGuest 1 = .ok (.ifCond .lt 15, 3) := by decide +kernel
theorem dX12_isGuest_4 : decode cX12_isGuest 4 = .ok (.iload_n 1, 1) := by decide +kernel
theorem dX12_isGuest_5 : decode cX12_isGuest 5 = .ok (.aload_n 0, 1) := by decide +kernel
theorem dX12_isGuest_6 : decode cX12_isGuest 6 = .ok (.getfield 240, 3) := by decide +kernel
theorem dX12_isGuest_9 : decode cX12_isGuest 9 = .ok (.if_icmp .ge 7, 3) := by decide +kernel
theorem dX12_isGuest_12 : decode cX12_isGuest 12 = .ok (.iconst 1, 1) := by decide +kernel
theorem dX12_isGuest_13 : decode cX12_isGuest 13 = .ok (.goto 4, 3) := by decide +kernel
theorem dX12_isGuest_16 : decode cX12_isGuest 16 = .ok (.iconst 0, 1) := by decide +kernel
theorem dX12_isGuest_17 : decode cX12_isGuest 17 = .ok (.ireturn, 1) := by decide +kernel
theorem dX12_isGrain_0 : decode cX12_isGrain 0 = .ok (.iload_n 1, 1) := by decide +kernel
theorem dX12_isGrain_1 : decode cX12_isGrain 1 = .ok (.ifCond .lt 15, 3) := by decide +kernel
theorem dX12_isGrain_4 : decode cX12_isGrain 4 = .ok (.iload_n 1, 1) := by decide +kernel
theorem dX12_isGrain_5 : decode cX12_isGrain 5 = .ok (.aload_n 0, 1) := by decide +kernel
theorem dX12_isGrain_6 : decode cX12_isGrain 6 = .ok (.getfield 243, 3) := by decide +kernel
theorem dX12_isGrain_9 : decode cX12_isGrain 9 = .ok (.if_icmp .ge 7, 3) := by decide +kernel
theorem dX12_isGrain_12 : decode cX12_isGrain 12 = .ok (.iconst 1, 1) := by decide +kernel
theorem dX12_isGrain_13 : decode cX12_isGrain 13 = .ok (.goto 4, 3) := by decide +kernel
theorem dX12_isGrain_16 : decode cX12_isGrain 16 = .ok (.iconst 0, 1) := by decide +kernel
theorem dX12_isGrain_17 : decode cX12_isGrain 17 = .ok (.ireturn, 1) := by decide +kernel
theorem dX12_moodNow_0 : decode cX12_moodNow 0 = .ok (.iload_n 1, 1) := by decide +kernel
theorem dX12_moodNow_1 : decode cX12_moodNow 1 = .ok (.ifCond .ge 7, 3) := by decide +kernel
theorem dX12_moodNow_4 : decode cX12_moodNow 4 = .ok (.iconst 0, 1) := by decide +kernel
theorem dX12_moodNow_5 : decode cX12_moodNow 5 = .ok (.goto 24, 3) := by decide +kernel
theorem dX12_moodNow_8 : decode cX12_moodNow 8 = .ok (.iload_n 1, 1) := by decide +kernel
theorem dX12_moodNow_9 : decode cX12_moodNow 9 = .ok (.aload_n 0, 1) := by decide +kernel
theorem dX12_moodNow_10 : decode cX12_moodNow 10 = .ok (.getfield 398, 3) := by decide +kernel
theorem dX12_moodNow_13 : decode cX12_moodNow 13 = .ok (.if_icmp .ne 10, 3) := by decide +kernel
theorem dX12_moodNow_16 : decode cX12_moodNow 16 = .ok (.aload_n 0, 1) := by decide +kernel
theorem dX12_moodNow_17 : decode cX12_moodNow 17 = .ok (.getfield 401, 3) := by decide +kernel
theorem dX12_moodNow_20 : decode cX12_moodNow 20 = .ok (.goto 9, 3) := by decide +kernel
theorem dX12_moodNow_23 : decode cX12_moodNow 23 = .ok (.aload_n 0, 1) := by decide +kernel
theorem dX12_moodNow_24 : decode cX12_moodNow 24 = .ok (.getfield 30, 3) := by decide +kernel
theorem dX12_moodNow_27 : decode cX12_moodNow 27 = .ok (.iload_n 1, 1) := by decide +kernel
theorem dX12_moodNow_28 : decode cX12_moodNow 28 = .ok (.iaload, 1) := by decide +kernel
theorem dX12_moodNow_29 : decode cX12_moodNow 29 = .ok (.ireturn, 1) := by decide +kernel
theorem dX12_hungerOf_0 : decode cX12_hungerOf 0 = .ok (.aload_n 0, 1) := by decide +kernel
theorem dX12_hungerOf_1 : decode cX12_hungerOf 1 = .ok (.getfield 389, 3) := by decide +kernel
theorem dX12_hungerOf_4 : decode cX12_hungerOf 4 = .ok (.ifCond .eq 8, 3) := by decide +kernel
theorem dX12_hungerOf_7 : decode cX12_hungerOf 7 = .ok (.bipush 9, 2) := by decide +kernel
theorem dX12_hungerOf_9 : decode cX12_hungerOf 9 = .ok (.goto 9, 3) := by decide +kernel
theorem dX12_hungerOf_12 : decode cX12_hungerOf 12 = .ok (.aload_n 0, 1) := by decide +kernel
theorem dX12_hungerOf_13 : decode cX12_hungerOf 13 = .ok (.getfield 42, 3) := by decide +kernel
theorem dX12_hungerOf_16 : decode cX12_hungerOf 16 = .ok (.iload_n 1, 1) := by decide +kernel
theorem dX12_hungerOf_17 : decode cX12_hungerOf 17 = .ok (.iaload, 1) := by decide +kernel
theorem dX12_hungerOf_18 : decode cX12_hungerOf 18 = .ok (.ireturn, 1) := by decide +kernel
theorem dX12_groundAll_0 : decode cX12_groundAll 0 = .ok (.aload_n 0, 1) := by decide +kernel
theorem dX12_groundAll_1 : decode cX12_groundAll 1 = .ok (.getfield 124, 3) := by decide +kernel
theorem dX12_groundAll_4 : decode cX12_groundAll 4 = .ok (.iconst 4, 1) := by decide +kernel
theorem dX12_groundAll_5 : decode cX12_groundAll 5 = .ok (.iload_n 1, 1) := by decide +kernel
theorem dX12_groundAll_6 : decode cX12_groundAll 6 = .ok (.imul, 1) := by decide +kernel
theorem dX12_groundAll_7 : decode cX12_groundAll 7 = .ok (.iaload, 1) := by decide +kernel
theorem dX12_groundAll_8 : decode cX12_groundAll 8 = .ok (.aload_n 0, 1) := by decide +kernel
theorem dX12_groundAll_9 : decode cX12_groundAll 9 = .ok (.getfield 124, 3) := by decide +kernel
theorem dX12_groundAll_12 : decode cX12_groundAll 12 = .ok (.iconst 4, 1) := by decide +kernel
theorem dX12_groundAll_13 : decode cX12_groundAll 13 = .ok (.iload_n 1, 1) := by decide +kernel
theorem dX12_groundAll_14 : decode cX12_groundAll 14 = .ok (.imul, 1) := by decide +kernel
theorem dX12_groundAll_15 : decode cX12_groundAll 15 = .ok (.iconst 1, 1) := by decide +kernel
theorem dX12_groundAll_16 : decode cX12_groundAll 16 = .ok (.iadd, 1) := by decide +kernel
theorem dX12_groundAll_17 : decode cX12_groundAll 17 = .ok (.iaload, 1) := by decide +kernel
theorem dX12_groundAll_18 : decode cX12_groundAll 18 = .ok (.iadd, 1) := by decide +kernel
theorem dX12_groundAll_19 : decode cX12_groundAll 19 = .ok (.aload_n 0, 1) := by decide +kernel
theorem dX12_groundAll_20 : decode cX12_groundAll 20 = .ok (.getfield 124, 3) := by decide +kernel
theorem dX12_groundAll_23 : decode cX12_groundAll 23 = .ok (.iconst 4, 1) := by decide +kernel
theorem dX12_groundAll_24 : decode cX12_groundAll 24 = .ok (.iload_n 1, 1) := by decide +kernel
theorem dX12_groundAll_25 : decode cX12_groundAll 25 = .ok (.imul, 1) := by decide +kernel
theorem dX12_groundAll_26 : decode cX12_groundAll 26 = .ok (.iconst 2, 1) := by decide +kernel
theorem dX12_groundAll_27 : decode cX12_groundAll 27 = .ok (.iadd, 1) := by decide +kernel
theorem dX12_groundAll_28 : decode cX12_groundAll 28 = .ok (.iaload, 1) := by decide +kernel
theorem dX12_groundAll_29 : decode cX12_groundAll 29 = .ok (.iadd, 1) := by decide +kernel
theorem dX12_groundAll_30 : decode cX12_groundAll 30 = .ok (.aload_n 0, 1) := by decide +kernel
theorem dX12_groundAll_31 : decode cX12_groundAll 31 = .ok (.getfield 124, 3) := by decide +kernel
theorem dX12_groundAll_34 : decode cX12_groundAll 34 = .ok (.iconst 4, 1) := by decide +kernel
theorem dX12_groundAll_35 : decode cX12_groundAll 35 = .ok (.iload_n 1, 1) := by decide +kernel
theorem dX12_groundAll_36 : decode cX12_groundAll 36 = .ok (.imul, 1) := by decide +kernel
theorem dX12_groundAll_37 : decode cX12_groundAll 37 = .ok (.iconst 3, 1) := by decide +kernel
theorem dX12_groundAll_38 : decode cX12_groundAll 38 = .ok (.iadd, 1) := by decide +kernel
theorem dX12_groundAll_39 : decode cX12_groundAll 39 = .ok (.iaload, 1) := by decide +kernel
theorem dX12_groundAll_40 : decode cX12_groundAll 40 = .ok (.iadd, 1) := by decide +kernel
theorem dX12_groundAll_41 : decode cX12_groundAll 41 = .ok (.ireturn, 1) := by decide +kernel
theorem dX12_tiredAll_0 : decode cX12_tiredAll 0 = .ok (.iconst 0, 1) := by decide +kernel
theorem dX12_tiredAll_1 : decode cX12_tiredAll 1 = .ok (.istore_n 2, 1) := by decide +kernel
theorem dX12_tiredAll_2 : decode cX12_tiredAll 2 = .ok (.iconst 0, 1) := by decide +kernel
theorem dX12_tiredAll_3 : decode cX12_tiredAll 3 = .ok (.istore_n 3, 1) := by decide +kernel
theorem dX12_tiredAll_4 : decode cX12_tiredAll 4 = .ok (.iload_n 3, 1) := by decide +kernel
theorem dX12_tiredAll_5 : decode cX12_tiredAll 5 = .ok (.aload_n 0, 1) := by decide +kernel
theorem dX12_tiredAll_6 : decode cX12_tiredAll 6 = .ok (.getfield 240, 3) := by decide +kernel
theorem dX12_tiredAll_9 : decode cX12_tiredAll 9 = .ok (.if_icmp .ge 23, 3) := by decide +kernel
theorem dX12_tiredAll_12 : decode cX12_tiredAll 12 = .ok (.iload_n 2, 1) := by decide +kernel
theorem dX12_tiredAll_13 : decode cX12_tiredAll 13 = .ok (.aload_n 0, 1) := by decide +kernel
theorem dX12_tiredAll_14 : decode cX12_tiredAll 14 = .ok (.getfield 118, 3) := by decide +kernel
theorem dX12_tiredAll_17 : decode cX12_tiredAll 17 = .ok (.bipush 6, 2) := by decide +kernel
theorem dX12_tiredAll_19 : decode cX12_tiredAll 19 = .ok (.iload_n 1, 1) := by decide +kernel
theorem dX12_tiredAll_20 : decode cX12_tiredAll 20 = .ok (.imul, 1) := by decide +kernel
theorem dX12_tiredAll_21 : decode cX12_tiredAll 21 = .ok (.iload_n 3, 1) := by decide +kernel
theorem dX12_tiredAll_22 : decode cX12_tiredAll 22 = .ok (.iadd, 1) := by decide +kernel
theorem dX12_tiredAll_23 : decode cX12_tiredAll 23 = .ok (.iaload, 1) := by decide +kernel
theorem dX12_tiredAll_24 : decode cX12_tiredAll 24 = .ok (.iadd, 1) := by decide +kernel
theorem dX12_tiredAll_25 : decode cX12_tiredAll 25 = .ok (.istore_n 2, 1) := by decide +kernel
theorem dX12_tiredAll_26 : decode cX12_tiredAll 26 = .ok (.iinc 3 1, 3) := by decide +kernel
theorem dX12_tiredAll_29 : decode cX12_tiredAll 29 = .ok (.goto (-25), 3) := by decide +kernel
theorem dX12_tiredAll_32 : decode cX12_tiredAll 32 = .ok (.iload_n 2, 1) := by decide +kernel
theorem dX12_tiredAll_33 : decode cX12_tiredAll 33 = .ok (.ireturn, 1) := by decide +kernel
theorem dX12_leftOf_0 : decode cX12_leftOf 0 = .ok (.aload_n 0, 1) := by decide +kernel
theorem dX12_leftOf_1 : decode cX12_leftOf 1 = .ok (.getfield 54, 3) := by decide +kernel
theorem dX12_leftOf_4 : decode cX12_leftOf 4 = .ok (.iload_n 2, 1) := by decide +kernel
theorem dX12_leftOf_5 : decode cX12_leftOf 5 = .ok (.iaload, 1) := by decide +kernel
theorem dX12_leftOf_6 : decode cX12_leftOf 6 = .ok (.aload_n 0, 1) := by decide +kernel
theorem dX12_leftOf_7 : decode cX12_leftOf 7 = .ok (.getfield 124, 3) := by decide +kernel
theorem dX12_leftOf_10 : decode cX12_leftOf 10 = .ok (.iconst 4, 1) := by decide +kernel
theorem dX12_leftOf_11 : decode cX12_leftOf 11 = .ok (.iload_n 1, 1) := by decide +kernel
theorem dX12_leftOf_12 : decode cX12_leftOf 12 = .ok (.imul, 1) := by decide +kernel
theorem dX12_leftOf_13 : decode cX12_leftOf 13 = .ok (.iload_n 2, 1) := by decide +kernel
theorem dX12_leftOf_14 : decode cX12_leftOf 14 = .ok (.iadd, 1) := by decide +kernel
theorem dX12_leftOf_15 : decode cX12_leftOf 15 = .ok (.iaload, 1) := by decide +kernel
theorem dX12_leftOf_16 : decode cX12_leftOf 16 = .ok (.isub, 1) := by decide +kernel
theorem dX12_leftOf_17 : decode cX12_leftOf 17 = .ok (.ireturn, 1) := by decide +kernel
theorem dX12_layGuest_0 : decode cX12_layGuest 0 = .ok (.aload_n 0, 1) := by decide +kernel
theorem dX12_layGuest_1 : decode cX12_layGuest 1 = .ok (.getfield 87, 3) := by decide +kernel
theorem dX12_layGuest_4 : decode cX12_layGuest 4 = .ok (.iconst 0, 1) := by decide +kernel
theorem dX12_layGuest_5 : decode cX12_layGuest 5 = .ok (.aload_n 0, 1) := by decide +kernel
theorem dX12_layGuest_6 : decode cX12_layGuest 6 = .ok (.iload_n 3, 1) := by decide +kernel
theorem dX12_layGuest_7 : decode cX12_layGuest 7 = .ok (.invokevirtual 404, 3) := by decide +kernel
theorem dX12_layGuest_10 : decode cX12_layGuest 10 = .ok (.i2l, 1) := by decide +kernel
theorem dX12_layGuest_11 : decode cX12_layGuest 11 = .ok (.lastore, 1) := by decide +kernel
theorem dX12_layGuest_12 : decode cX12_layGuest 12 = .ok (.aload_n 0, 1) := by decide +kernel
theorem dX12_layGuest_13 : decode cX12_layGuest 13 = .ok (.getfield 87, 3) := by decide +kernel
theorem dX12_layGuest_16 : decode cX12_layGuest 16 = .ok (.iconst 1, 1) := by decide +kernel
theorem dX12_layGuest_17 : decode cX12_layGuest 17 = .ok (.aload_n 0, 1) := by decide +kernel
theorem dX12_layGuest_18 : decode cX12_layGuest 18 = .ok (.getfield 39, 3) := by decide +kernel
theorem dX12_layGuest_21 : decode cX12_layGuest 21 = .ok (.iload_n 2, 1) := by decide +kernel
theorem dX12_layGuest_22 : decode cX12_layGuest 22 = .ok (.iaload, 1) := by decide +kernel
theorem dX12_layGuest_23 : decode cX12_layGuest 23 = .ok (.i2l, 1) := by decide +kernel
theorem dX12_layGuest_24 : decode cX12_layGuest 24 = .ok (.lastore, 1) := by decide +kernel
theorem dX12_layGuest_25 : decode cX12_layGuest 25 = .ok (.aload_n 0, 1) := by decide +kernel
theorem dX12_layGuest_26 : decode cX12_layGuest 26 = .ok (.getfield 87, 3) := by decide +kernel
theorem dX12_layGuest_29 : decode cX12_layGuest 29 = .ok (.iconst 2, 1) := by decide +kernel
theorem dX12_layGuest_30 : decode cX12_layGuest 30 = .ok (.aload_n 0, 1) := by decide +kernel
theorem dX12_layGuest_31 : decode cX12_layGuest 31 = .ok (.iload_n 2, 1) := by decide +kernel
theorem dX12_layGuest_32 : decode cX12_layGuest 32 = .ok (.invokevirtual 407, 3) := by decide +kernel
theorem dX12_layGuest_35 : decode cX12_layGuest 35 = .ok (.i2l, 1) := by decide +kernel
theorem dX12_layGuest_36 : decode cX12_layGuest 36 = .ok (.lastore, 1) := by decide +kernel
theorem dX12_layGuest_37 : decode cX12_layGuest 37 = .ok (.aload_n 0, 1) := by decide +kernel
theorem dX12_layGuest_38 : decode cX12_layGuest 38 = .ok (.getfield 87, 3) := by decide +kernel
theorem dX12_layGuest_41 : decode cX12_layGuest 41 = .ok (.iconst 3, 1) := by decide +kernel
theorem dX12_layGuest_42 : decode cX12_layGuest 42 = .ok (.iload 4, 2) := by decide +kernel
theorem dX12_layGuest_44 : decode cX12_layGuest 44 = .ok (.i2l, 1) := by decide +kernel
theorem dX12_layGuest_45 : decode cX12_layGuest 45 = .ok (.lastore, 1) := by decide +kernel
theorem dX12_layGuest_46 : decode cX12_layGuest 46 = .ok (.aload_n 0, 1) := by decide +kernel
theorem dX12_layGuest_47 : decode cX12_layGuest 47 = .ok (.getfield 87, 3) := by decide +kernel
theorem dX12_layGuest_50 : decode cX12_layGuest 50 = .ok (.iconst 4, 1) := by decide +kernel
theorem dX12_layGuest_51 : decode cX12_layGuest 51 = .ok (.aload_n 0, 1) := by decide +kernel
theorem dX12_layGuest_52 : decode cX12_layGuest 52 = .ok (.getfield 100, 3) := by decide +kernel
theorem dX12_layGuest_55 : decode cX12_layGuest 55 = .ok (.iload_n 1, 1) := by decide +kernel
theorem dX12_layGuest_56 : decode cX12_layGuest 56 = .ok (.iaload, 1) := by decide +kernel
theorem dX12_layGuest_57 : decode cX12_layGuest 57 = .ok (.i2l, 1) := by decide +kernel
theorem dX12_layGuest_58 : decode cX12_layGuest 58 = .ok (.lastore, 1) := by decide +kernel
theorem dX12_layGuest_59 : decode cX12_layGuest 59 = .ok (.aload_n 0, 1) := by decide +kernel
theorem dX12_layGuest_60 : decode cX12_layGuest 60 = .ok (.getfield 87, 3) := by decide +kernel
theorem dX12_layGuest_63 : decode cX12_layGuest 63 = .ok (.iconst 5, 1) := by decide +kernel
theorem dX12_layGuest_64 : decode cX12_layGuest 64 = .ok (.aload_n 0, 1) := by decide +kernel
theorem dX12_layGuest_65 : decode cX12_layGuest 65 = .ok (.getfield 118, 3) := by decide +kernel
theorem dX12_layGuest_68 : decode cX12_layGuest 68 = .ok (.bipush 6, 2) := by decide +kernel
theorem dX12_layGuest_70 : decode cX12_layGuest 70 = .ok (.iload_n 1, 1) := by decide +kernel
theorem dX12_layGuest_71 : decode cX12_layGuest 71 = .ok (.imul, 1) := by decide +kernel
theorem dX12_layGuest_72 : decode cX12_layGuest 72 = .ok (.iload_n 2, 1) := by decide +kernel
theorem dX12_layGuest_73 : decode cX12_layGuest 73 = .ok (.iadd, 1) := by decide +kernel
theorem dX12_layGuest_74 : decode cX12_layGuest 74 = .ok (.iaload, 1) := by decide +kernel
theorem dX12_layGuest_75 : decode cX12_layGuest 75 = .ok (.i2l, 1) := by decide +kernel
theorem dX12_layGuest_76 : decode cX12_layGuest 76 = .ok (.lastore, 1) := by decide +kernel
theorem dX12_layGuest_77 : decode cX12_layGuest 77 = .ok (.aload_n 0, 1) := by decide +kernel
theorem dX12_layGuest_78 : decode cX12_layGuest 78 = .ok (.getfield 87, 3) := by decide +kernel
theorem dX12_layGuest_81 : decode cX12_layGuest 81 = .ok (.bipush 6, 2) := by decide +kernel
theorem dX12_layGuest_83 : decode cX12_layGuest 83 = .ok (.aload_n 0, 1) := by decide +kernel
theorem dX12_layGuest_84 : decode cX12_layGuest 84 = .ok (.getfield 112, 3) := by decide +kernel
theorem dX12_layGuest_87 : decode cX12_layGuest 87 = .ok (.iload_n 1, 1) := by decide +kernel
theorem dX12_layGuest_88 : decode cX12_layGuest 88 = .ok (.iaload, 1) := by decide +kernel
theorem dX12_layGuest_89 : decode cX12_layGuest 89 = .ok (.i2l, 1) := by decide +kernel
theorem dX12_layGuest_90 : decode cX12_layGuest 90 = .ok (.lastore, 1) := by decide +kernel
theorem dX12_layGuest_91 : decode cX12_layGuest 91 = .ok (.return_, 1) := by decide +kernel
theorem dX12_layMill_0 : decode cX12_layMill 0 = .ok (.aload_n 0, 1) := by decide +kernel
theorem dX12_layMill_1 : decode cX12_layMill 1 = .ok (.getfield 87, 3) := by decide +kernel
theorem dX12_layMill_4 : decode cX12_layMill 4 = .ok (.iconst 0, 1) := by decide +kernel
theorem dX12_layMill_5 : decode cX12_layMill 5 = .ok (.aload_n 0, 1) := by decide +kernel
theorem dX12_layMill_6 : decode cX12_layMill 6 = .ok (.aload_n 0, 1) := by decide +kernel
theorem dX12_layMill_7 : decode cX12_layMill 7 = .ok (.getfield 94, 3) := by decide +kernel
theorem dX12_layMill_10 : decode cX12_layMill 10 = .ok (.iload_n 1, 1) := by decide +kernel
theorem dX12_layMill_11 : decode cX12_layMill 11 = .ok (.iaload, 1) := by decide +kernel
theorem dX12_layMill_12 : decode cX12_layMill 12 = .ok (.invokevirtual 404, 3) := by decide +kernel
theorem dX12_layMill_15 : decode cX12_layMill 15 = .ok (.i2l, 1) := by decide +kernel
theorem dX12_layMill_16 : decode cX12_layMill 16 = .ok (.lastore, 1) := by decide +kernel
theorem dX12_layMill_17 : decode cX12_layMill 17 = .ok (.aload_n 0, 1) := by decide +kernel
theorem dX12_layMill_18 : decode cX12_layMill 18 = .ok (.getfield 87, 3) := by decide +kernel
theorem dX12_layMill_21 : decode cX12_layMill 21 = .ok (.iconst 1, 1) := by decide +kernel
theorem dX12_layMill_22 : decode cX12_layMill 22 = .ok (.lconst 0, 1) := by decide +kernel
theorem dX12_layMill_23 : decode cX12_layMill 23 = .ok (.lastore, 1) := by decide +kernel
theorem dX12_layMill_24 : decode cX12_layMill 24 = .ok (.aload_n 0, 1) := by decide +kernel
theorem dX12_layMill_25 : decode cX12_layMill 25 = .ok (.getfield 87, 3) := by decide +kernel
theorem dX12_layMill_28 : decode cX12_layMill 28 = .ok (.iconst 2, 1) := by decide +kernel
theorem dX12_layMill_29 : decode cX12_layMill 29 = .ok (.lconst 0, 1) := by decide +kernel
theorem dX12_layMill_30 : decode cX12_layMill 30 = .ok (.lastore, 1) := by decide +kernel
theorem dX12_layMill_31 : decode cX12_layMill 31 = .ok (.aload_n 0, 1) := by decide +kernel
theorem dX12_layMill_32 : decode cX12_layMill 32 = .ok (.getfield 87, 3) := by decide +kernel
theorem dX12_layMill_35 : decode cX12_layMill 35 = .ok (.iconst 3, 1) := by decide +kernel
theorem dX12_layMill_36 : decode cX12_layMill 36 = .ok (.iload_n 2, 1) := by decide +kernel
theorem dX12_layMill_37 : decode cX12_layMill 37 = .ok (.i2l, 1) := by decide +kernel
theorem dX12_layMill_38 : decode cX12_layMill 38 = .ok (.lastore, 1) := by decide +kernel
theorem dX12_layMill_39 : decode cX12_layMill 39 = .ok (.aload_n 0, 1) := by decide +kernel
theorem dX12_layMill_40 : decode cX12_layMill 40 = .ok (.getfield 87, 3) := by decide +kernel
theorem dX12_layMill_43 : decode cX12_layMill 43 = .ok (.iconst 4, 1) := by decide +kernel
theorem dX12_layMill_44 : decode cX12_layMill 44 = .ok (.aload_n 0, 1) := by decide +kernel
theorem dX12_layMill_45 : decode cX12_layMill 45 = .ok (.getfield 100, 3) := by decide +kernel
theorem dX12_layMill_48 : decode cX12_layMill 48 = .ok (.iload_n 1, 1) := by decide +kernel
theorem dX12_layMill_49 : decode cX12_layMill 49 = .ok (.iaload, 1) := by decide +kernel
theorem dX12_layMill_50 : decode cX12_layMill 50 = .ok (.i2l, 1) := by decide +kernel
theorem dX12_layMill_51 : decode cX12_layMill 51 = .ok (.lastore, 1) := by decide +kernel
theorem dX12_layMill_52 : decode cX12_layMill 52 = .ok (.aload_n 0, 1) := by decide +kernel
theorem dX12_layMill_53 : decode cX12_layMill 53 = .ok (.getfield 87, 3) := by decide +kernel
theorem dX12_layMill_56 : decode cX12_layMill 56 = .ok (.iconst 5, 1) := by decide +kernel
theorem dX12_layMill_57 : decode cX12_layMill 57 = .ok (.aload_n 0, 1) := by decide +kernel
theorem dX12_layMill_58 : decode cX12_layMill 58 = .ok (.iload_n 1, 1) := by decide +kernel
theorem dX12_layMill_59 : decode cX12_layMill 59 = .ok (.invokevirtual 410, 3) := by decide +kernel
theorem dX12_layMill_62 : decode cX12_layMill 62 = .ok (.i2l, 1) := by decide +kernel
theorem dX12_layMill_63 : decode cX12_layMill 63 = .ok (.lastore, 1) := by decide +kernel
theorem dX12_layMill_64 : decode cX12_layMill 64 = .ok (.aload_n 0, 1) := by decide +kernel
theorem dX12_layMill_65 : decode cX12_layMill 65 = .ok (.getfield 87, 3) := by decide +kernel
theorem dX12_layMill_68 : decode cX12_layMill 68 = .ok (.bipush 6, 2) := by decide +kernel
theorem dX12_layMill_70 : decode cX12_layMill 70 = .ok (.aload_n 0, 1) := by decide +kernel
theorem dX12_layMill_71 : decode cX12_layMill 71 = .ok (.getfield 112, 3) := by decide +kernel
theorem dX12_layMill_74 : decode cX12_layMill 74 = .ok (.iload_n 1, 1) := by decide +kernel
theorem dX12_layMill_75 : decode cX12_layMill 75 = .ok (.iaload, 1) := by decide +kernel
theorem dX12_layMill_76 : decode cX12_layMill 76 = .ok (.i2l, 1) := by decide +kernel
theorem dX12_layMill_77 : decode cX12_layMill 77 = .ok (.lastore, 1) := by decide +kernel
theorem dX12_layMill_78 : decode cX12_layMill 78 = .ok (.return_, 1) := by decide +kernel
theorem dX12_lawOf_0 : decode cX12_lawOf 0 = .ok (.aload_n 0, 1) := by decide +kernel
theorem dX12_lawOf_1 : decode cX12_lawOf 1 = .ok (.iconst 0, 1) := by decide +kernel
theorem dX12_lawOf_2 : decode cX12_lawOf 2 = .ok (.putfield 339, 3) := by decide +kernel
theorem dX12_lawOf_5 : decode cX12_lawOf 5 = .ok (.aload_n 0, 1) := by decide +kernel
theorem dX12_lawOf_6 : decode cX12_lawOf 6 = .ok (.getfield 66, 3) := by decide +kernel
theorem dX12_lawOf_9 : decode cX12_lawOf 9 = .ok (.iload_n 1, 1) := by decide +kernel
theorem dX12_lawOf_10 : decode cX12_lawOf 10 = .ok (.iaload, 1) := by decide +kernel
theorem dX12_lawOf_11 : decode cX12_lawOf 11 = .ok (.istore_n 2, 1) := by decide +kernel
theorem dX12_lawOf_12 : decode cX12_lawOf 12 = .ok (.iload_n 2, 1) := by decide +kernel
theorem dX12_lawOf_13 : decode cX12_lawOf 13 = .ok (.aload_n 0, 1) := by decide +kernel
theorem dX12_lawOf_14 : decode cX12_lawOf 14 = .ok (.getfield 69, 3) := by decide +kernel
theorem dX12_lawOf_17 : decode cX12_lawOf 17 = .ok (.iload_n 1, 1) := by decide +kernel
theorem dX12_lawOf_18 : decode cX12_lawOf 18 = .ok (.iaload, 1) := by decide +kernel
theorem dX12_lawOf_19 : decode cX12_lawOf 19 = .ok (.if_icmp .ge 20, 3) := by decide +kernel
theorem dX12_lawOf_22 : decode cX12_lawOf 22 = .ok (.aload_n 0, 1) := by decide +kernel
theorem dX12_lawOf_23 : decode cX12_lawOf 23 = .ok (.getfield 91, 3) := by decide +kernel
theorem dX12_lawOf_26 : decode cX12_lawOf 26 = .ok (.iload_n 2, 1) := by decide +kernel
theorem dX12_lawOf_27 : decode cX12_lawOf 27 = .ok (.aload_n 0, 1) := by decide +kernel
theorem dX12_lawOf_28 : decode cX12_lawOf 28 = .ok (.iload_n 2, 1) := by decide +kernel
theorem dX12_lawOf_29 : decode cX12_lawOf 29 = .ok (.invokevirtual 413, 3) := by decide +kernel
theorem dX12_lawOf_32 : decode cX12_lawOf 32 = .ok (.lastore, 1) := by decide +kernel
theorem dX12_lawOf_33 : decode cX12_lawOf 33 = .ok (.iinc 2 1, 3) := by decide +kernel
theorem dX12_lawOf_36 : decode cX12_lawOf 36 = .ok (.goto (-24), 3) := by decide +kernel
theorem dX12_lawOf_39 : decode cX12_lawOf 39 = .ok (.aload_n 0, 1) := by decide +kernel
theorem dX12_lawOf_40 : decode cX12_lawOf 40 = .ok (.getfield 339, 3) := by decide +kernel
theorem dX12_lawOf_43 : decode cX12_lawOf 43 = .ok (.ifCond .eq 7, 3) := by decide +kernel
theorem dX12_lawOf_46 : decode cX12_lawOf 46 = .ok (.lconst 0, 1) := by decide +kernel
theorem dX12_lawOf_47 : decode cX12_lawOf 47 = .ok (.goto 16, 3) := by decide +kernel
theorem dX12_lawOf_50 : decode cX12_lawOf 50 = .ok (.aload_n 0, 1) := by decide +kernel
theorem dX12_lawOf_51 : decode cX12_lawOf 51 = .ok (.getfield 91, 3) := by decide +kernel
theorem dX12_lawOf_54 : decode cX12_lawOf 54 = .ok (.aload_n 0, 1) := by decide +kernel
theorem dX12_lawOf_55 : decode cX12_lawOf 55 = .ok (.getfield 69, 3) := by decide +kernel
theorem dX12_lawOf_58 : decode cX12_lawOf 58 = .ok (.iload_n 1, 1) := by decide +kernel
theorem dX12_lawOf_59 : decode cX12_lawOf 59 = .ok (.iaload, 1) := by decide +kernel
theorem dX12_lawOf_60 : decode cX12_lawOf 60 = .ok (.iconst 1, 1) := by decide +kernel
theorem dX12_lawOf_61 : decode cX12_lawOf 61 = .ok (.isub, 1) := by decide +kernel
theorem dX12_lawOf_62 : decode cX12_lawOf 62 = .ok (.laload, 1) := by decide +kernel
theorem dX12_lawOf_63 : decode cX12_lawOf 63 = .ok (.lreturn, 1) := by decide +kernel
theorem dX12_bounded__0 : decode cX12_bounded_ 0 = .ok (.iload_n 0, 1) := by decide +kernel
theorem dX12_bounded__1 : decode cX12_bounded_ 1 = .ok (.iload_n 1, 1) := by decide +kernel
theorem dX12_bounded__2 : decode cX12_bounded_ 2 = .ok (.if_icmp .ge 7, 3) := by decide +kernel
theorem dX12_bounded__5 : decode cX12_bounded_ 5 = .ok (.iload_n 1, 1) := by decide +kernel
theorem dX12_bounded__6 : decode cX12_bounded_ 6 = .ok (.goto 13, 3) := by decide +kernel
theorem dX12_bounded__9 : decode cX12_bounded_ 9 = .ok (.iload_n 0, 1) := by decide +kernel
theorem dX12_bounded__10 : decode cX12_bounded_ 10 = .ok (.iload_n 2, 1) := by decide +kernel
theorem dX12_bounded__11 : decode cX12_bounded_ 11 = .ok (.if_icmp .le 7, 3) := by decide +kernel
theorem dX12_bounded__14 : decode cX12_bounded_ 14 = .ok (.iload_n 2, 1) := by decide +kernel
theorem dX12_bounded__15 : decode cX12_bounded_ 15 = .ok (.goto 4, 3) := by decide +kernel
theorem dX12_bounded__18 : decode cX12_bounded_ 18 = .ok (.iload_n 0, 1) := by decide +kernel
theorem dX12_bounded__19 : decode cX12_bounded_ 19 = .ok (.ireturn, 1) := by decide +kernel
theorem dX12_boundLaw_0 : decode cX12_boundLaw 0 = .ok (.aload_n 0, 1) := by decide +kernel
theorem dX12_boundLaw_1 : decode cX12_boundLaw 1 = .ok (.getfield 63, 3) := by decide +kernel
theorem dX12_boundLaw_4 : decode cX12_boundLaw 4 = .ok (.iload_n 1, 1) := by decide +kernel
theorem dX12_boundLaw_5 : decode cX12_boundLaw 5 = .ok (.baload, 1) := by decide +kernel
theorem dX12_boundLaw_6 : decode cX12_boundLaw 6 = .ok (.ifCond .ne 5, 3) := by decide +kernel
theorem dX12_boundLaw_9 : decode cX12_boundLaw 9 = .ok (.iload_n 2, 1) := by decide +kernel
theorem dX12_boundLaw_10 : decode cX12_boundLaw 10 = .ok (.ireturn, 1) := by decide +kernel
theorem dX12_boundLaw_11 : decode cX12_boundLaw 11 = .ok (.aload_n 0, 1) := by decide +kernel
theorem dX12_boundLaw_12 : decode cX12_boundLaw 12 = .ok (.iload_n 1, 1) := by decide +kernel
theorem dX12_boundLaw_13 : decode cX12_boundLaw 13 = .ok (.invokevirtual 417, 3) := by decide +kernel
theorem dX12_boundLaw_16 : decode cX12_boundLaw 16 = .ok (.lstore 5, 2) := by decide +kernel
theorem dX12_boundLaw_18 : decode cX12_boundLaw 18 = .ok (.aload_n 0, 1) := by decide +kernel
theorem dX12_boundLaw_19 : decode cX12_boundLaw 19 = .ok (.getfield 339, 3) := by decide +kernel
theorem dX12_boundLaw_22 : decode cX12_boundLaw 22 = .ok (.ifCond .eq 5, 3) := by decide +kernel
theorem dX12_boundLaw_25 : decode cX12_boundLaw 25 = .ok (.iload_n 2, 1) := by decide +kernel
theorem dX12_boundLaw_26 : decode cX12_boundLaw 26 = .ok (.ireturn, 1) := by decide +kernel
theorem dX12_boundLaw_27 : decode cX12_boundLaw 27 = .ok (.lload 5, 2) := by decide +kernel
theorem dX12_boundLaw_29 : decode cX12_boundLaw 29 = .ok (.iload_n 3, 1) := by decide +kernel
theorem dX12_boundLaw_30 : decode cX12_boundLaw 30 = .ok (.i2l, 1) := by decide +kernel
theorem dX12_boundLaw_31 : decode cX12_boundLaw 31 = .ok (.lcmp, 1) := by decide +kernel
theorem dX12_boundLaw_32 : decode cX12_boundLaw 32 = .ok (.ifCond .ge 7, 3) := by decide +kernel
theorem dX12_boundLaw_35 : decode cX12_boundLaw 35 = .ok (.iload_n 3, 1) := by decide +kernel
theorem dX12_boundLaw_36 : decode cX12_boundLaw 36 = .ok (.goto 20, 3) := by decide +kernel
theorem dX12_boundLaw_39 : decode cX12_boundLaw 39 = .ok (.lload 5, 2) := by decide +kernel
theorem dX12_boundLaw_41 : decode cX12_boundLaw 41 = .ok (.iload 4, 2) := by decide +kernel
theorem dX12_boundLaw_43 : decode cX12_boundLaw 43 = .ok (.i2l, 1) := by decide +kernel
theorem dX12_boundLaw_44 : decode cX12_boundLaw 44 = .ok (.lcmp, 1) := by decide +kernel
theorem dX12_boundLaw_45 : decode cX12_boundLaw 45 = .ok (.ifCond .le 8, 3) := by decide +kernel
theorem dX12_boundLaw_48 : decode cX12_boundLaw 48 = .ok (.iload 4, 2) := by decide +kernel
theorem dX12_boundLaw_50 : decode cX12_boundLaw 50 = .ok (.goto 6, 3) := by decide +kernel
theorem dX12_boundLaw_53 : decode cX12_boundLaw 53 = .ok (.lload 5, 2) := by decide +kernel
theorem dX12_boundLaw_55 : decode cX12_boundLaw 55 = .ok (.l2i, 1) := by decide +kernel
theorem dX12_boundLaw_56 : decode cX12_boundLaw 56 = .ok (.ireturn, 1) := by decide +kernel
theorem dX12_less_0 : decode cX12_less 0 = .ok (.iload_n 0, 1) := by decide +kernel
theorem dX12_less_1 : decode cX12_less 1 = .ok (.iload_n 1, 1) := by decide +kernel
theorem dX12_less_2 : decode cX12_less 2 = .ok (.if_icmp .ge 9, 3) := by decide +kernel
theorem dX12_less_5 : decode cX12_less 5 = .ok (.iload_n 1, 1) := by decide +kernel
theorem dX12_less_6 : decode cX12_less 6 = .ok (.iload_n 0, 1) := by decide +kernel
theorem dX12_less_7 : decode cX12_less 7 = .ok (.isub, 1) := by decide +kernel
theorem dX12_less_8 : decode cX12_less 8 = .ok (.goto 6, 3) := by decide +kernel
theorem dX12_less_11 : decode cX12_less 11 = .ok (.iload_n 0, 1) := by decide +kernel
theorem dX12_less_12 : decode cX12_less 12 = .ok (.iload_n 1, 1) := by decide +kernel
theorem dX12_less_13 : decode cX12_less 13 = .ok (.isub, 1) := by decide +kernel
theorem dX12_less_14 : decode cX12_less 14 = .ok (.ireturn, 1) := by decide +kernel
theorem dX12_without_0 : decode cX12_without 0 = .ok (.iconst 5, 1) := by decide +kernel
theorem dX12_without_1 : decode cX12_without 1 = .ok (.aload_n 0, 1) := by decide +kernel
theorem dX12_without_2 : decode cX12_without 2 = .ok (.getfield 39, 3) := by decide +kernel
theorem dX12_without_5 : decode cX12_without 5 = .ok (.iload_n 1, 1) := by decide +kernel
theorem dX12_without_6 : decode cX12_without 6 = .ok (.iaload, 1) := by decide +kernel
theorem dX12_without_7 : decode cX12_without 7 = .ok (.aload_n 0, 1) := by decide +kernel
theorem dX12_without_8 : decode cX12_without 8 = .ok (.iload_n 2, 1) := by decide +kernel
theorem dX12_without_9 : decode cX12_without 9 = .ok (.invokevirtual 404, 3) := by decide +kernel
theorem dX12_without_12 : decode cX12_without 12 = .ok (.invokestatic 420, 3) := by decide +kernel
theorem dX12_without_15 : decode cX12_without 15 = .ok (.isub, 1) := by decide +kernel
theorem dX12_without_16 : decode cX12_without 16 = .ok (.ireturn, 1) := by decide +kernel
theorem dX12_clapOf_0 : decode cX12_clapOf 0 = .ok (.iload_n 2, 1) := by decide +kernel
theorem dX12_clapOf_1 : decode cX12_clapOf 1 = .ok (.aload_n 0, 1) := by decide +kernel
theorem dX12_clapOf_2 : decode cX12_clapOf 2 = .ok (.getfield 395, 3) := by decide +kernel
theorem dX12_clapOf_5 : decode cX12_clapOf 5 = .ok (.if_icmp .ne 5, 3) := by decide +kernel
theorem dX12_clapOf_8 : decode cX12_clapOf 8 = .ok (.iconst 0, 1) := by decide +kernel
theorem dX12_clapOf_9 : decode cX12_clapOf 9 = .ok (.ireturn, 1) := by decide +kernel
theorem dX12_clapOf_10 : decode cX12_clapOf 10 = .ok (.aload_n 0, 1) := by decide +kernel
theorem dX12_clapOf_11 : decode cX12_clapOf 11 = .ok (.iload_n 1, 1) := by decide +kernel
theorem dX12_clapOf_12 : decode cX12_clapOf 12 = .ok (.iload_n 2, 1) := by decide +kernel
theorem dX12_clapOf_13 : decode cX12_clapOf 13 = .ok (.iload_n 3, 1) := by decide +kernel
theorem dX12_clapOf_14 : decode cX12_clapOf 14 = .ok (.iload 4, 2) := by decide +kernel
theorem dX12_clapOf_16 : decode cX12_clapOf 16 = .ok (.invokevirtual 423, 3) := by decide +kernel
theorem dX12_clapOf_19 : decode cX12_clapOf 19 = .ok (.aload_n 0, 1) := by decide +kernel
theorem dX12_clapOf_20 : decode cX12_clapOf 20 = .ok (.iconst 0, 1) := by decide +kernel
theorem dX12_clapOf_21 : decode cX12_clapOf 21 = .ok (.aload_n 0, 1) := by decide +kernel
theorem dX12_clapOf_22 : decode cX12_clapOf 22 = .ok (.iload_n 2, 1) := by decide +kernel
theorem dX12_clapOf_23 : decode cX12_clapOf 23 = .ok (.iload_n 3, 1) := by decide +kernel
theorem dX12_clapOf_24 : decode cX12_clapOf 24 = .ok (.invokevirtual 427, 3) := by decide +kernel
theorem dX12_clapOf_27 : decode cX12_clapOf 27 = .ok (.bipush (-9), 2) := by decide +kernel
theorem dX12_clapOf_29 : decode cX12_clapOf 29 = .ok (.bipush 9, 2) := by decide +kernel
theorem dX12_clapOf_31 : decode cX12_clapOf 31 = .ok (.invokevirtual 430, 3) := by decide +kernel
theorem dX12_clapOf_34 : decode cX12_clapOf 34 = .ok (.ireturn, 1) := by decide +kernel
theorem dX12_number1_0 : decode cX12_number1 0 = .ok (.aload_n 0, 1) := by decide +kernel
theorem dX12_number1_1 : decode cX12_number1 1 = .ok (.aload_n 0, 1) := by decide +kernel
theorem dX12_number1_2 : decode cX12_number1 2 = .ok (.getfield 361, 3) := by decide +kernel
theorem dX12_number1_5 : decode cX12_number1 5 = .ok (.ldc2_w 434, 3) := by decide +kernel
theorem dX12_number1_8 : decode cX12_number1 8 = .ok (.lmul, 1) := by decide +kernel
theorem dX12_number1_9 : decode cX12_number1 9 = .ok (.ldc2_w 436, 3) := by decide +kernel
theorem dX12_number1_12 : decode cX12_number1 12 = .ok (.ladd, 1) := by decide +kernel
theorem dX12_number1_13 : decode cX12_number1 13 = .ok (.ldc2_w 438, 3) := by decide +kernel
theorem dX12_number1_16 : decode cX12_number1 16 = .ok (.land, 1) := by decide +kernel
theorem dX12_number1_17 : decode cX12_number1 17 = .ok (.putfield 361, 3) := by decide +kernel
theorem dX12_number1_20 : decode cX12_number1 20 = .ok (.aload_n 0, 1) := by decide +kernel
theorem dX12_number1_21 : decode cX12_number1 21 = .ok (.getfield 361, 3) := by decide +kernel
theorem dX12_number1_24 : decode cX12_number1 24 = .ok (.ldc2_w 440, 3) := by decide +kernel
theorem dX12_number1_27 : decode cX12_number1 27 = .ok (.ldiv, 1) := by decide +kernel
theorem dX12_number1_28 : decode cX12_number1 28 = .ok (.iload_n 1, 1) := by decide +kernel
theorem dX12_number1_29 : decode cX12_number1 29 = .ok (.i2l, 1) := by decide +kernel
theorem dX12_number1_30 : decode cX12_number1 30 = .ok (.lrem, 1) := by decide +kernel
theorem dX12_number1_31 : decode cX12_number1 31 = .ok (.l2i, 1) := by decide +kernel
theorem dX12_number1_32 : decode cX12_number1 32 = .ok (.ireturn, 1) := by decide +kernel
theorem dX12_isCoughed_0 : decode cX12_isCoughed 0 = .ok (.aload_n 0, 1) := by decide +kernel
theorem dX12_isCoughed_1 : decode cX12_isCoughed 1 = .ok (.getfield 380, 3) := by decide +kernel
theorem dX12_isCoughed_4 : decode cX12_isCoughed 4 = .ok (.ifCond .ne 10, 3) := by decide +kernel
theorem dX12_isCoughed_7 : decode cX12_isCoughed 7 = .ok (.aload_n 0, 1) := by decide +kernel
theorem dX12_isCoughed_8 : decode cX12_isCoughed 8 = .ok (.getfield 383, 3) := by decide +kernel
theorem dX12_isCoughed_11 : decode cX12_isCoughed 11 = .ok (.ifCond .eq 8, 3) := by decide +kernel
theorem dX12_isCoughed_14 : decode cX12_isCoughed 14 = .ok (.aload_n 0, 1) := by decide +kernel
theorem dX12_isCoughed_15 : decode cX12_isCoughed 15 = .ok (.getfield 383, 3) := by decide +kernel
theorem dX12_isCoughed_18 : decode cX12_isCoughed 18 = .ok (.ireturn, 1) := by decide +kernel
theorem dX12_isCoughed_19 : decode cX12_isCoughed 19 = .ok (.aload_n 0, 1) := by decide +kernel
theorem dX12_isCoughed_20 : decode cX12_isCoughed 20 = .ok (.getfield 24, 3) := by decide +kernel
theorem dX12_isCoughed_23 : decode cX12_isCoughed 23 = .ok (.iconst 0, 1) := by decide +kernel
theorem dX12_isCoughed_24 : decode cX12_isCoughed 24 = .ok (.iaload, 1) := by decide +kernel
theorem dX12_isCoughed_25 : decode cX12_isCoughed 25 = .ok (.istore_n 1, 1) := by decide +kernel
theorem dX12_isCoughed_26 : decode cX12_isCoughed 26 = .ok (.iload_n 1, 1) := by decide +kernel
theorem dX12_isCoughed_27 : decode cX12_isCoughed 27 = .ok (.bipush 100, 2) := by decide +kernel
theorem dX12_isCoughed_29 : decode cX12_isCoughed 29 = .ok (.if_icmp .eq 33, 3) := by decide +kernel
theorem dX12_isCoughed_32 : decode cX12_isCoughed 32 = .ok (.iload_n 1, 1) := by decide +kernel
theorem dX12_isCoughed_33 : decode cX12_isCoughed 33 = .ok (.ifCond .le 33, 3) := by decide +kernel
theorem dX12_isCoughed_36 : decode cX12_isCoughed 36 = .ok (.aload_n 0, 1) := by decide +kernel
theorem dX12_isCoughed_37 : decode cX12_isCoughed 37 = .ok (.getfield 377, 3) := by decide +kernel
theorem dX12_isCoughed_40 : decode cX12_isCoughed 40 = .ok (.ifCond .eq 16, 3) := by decide +kernel
theorem dX12_isCoughed_43 : decode cX12_isCoughed 43 = .ok (.aload_n 0, 1) := by decide +kernel
theorem dX12_isCoughed_44 : decode cX12_isCoughed 44 = .ok (.bipush 100, 2) := by decide +kernel
theorem dX12_isCoughed_46 : decode cX12_isCoughed 46 = .ok (.invokevirtual 442, 3) := by decide +kernel
theorem dX12_isCoughed_49 : decode cX12_isCoughed 49 = .ok (.iload_n 1, 1) := by decide +kernel
theorem dX12_isCoughed_50 : decode cX12_isCoughed 50 = .ok (.if_icmp .ge 16, 3) := by decide +kernel
theorem dX12_isCoughed_53 : decode cX12_isCoughed 53 = .ok (.goto 9, 3) := by decide +kernel
theorem dX12_isCoughed_56 : decode cX12_isCoughed 56 = .ok (.iload_n 1, 1) := by decide +kernel
theorem dX12_isCoughed_57 : decode cX12_isCoughed 57 = .ok (.bipush 50, 2) := by decide +kernel
theorem dX12_isCoughed_59 : decode cX12_isCoughed 59 = .ok (.if_icmp .lt 7, 3) := by decide +kernel
theorem dX12_isCoughed_62 : decode cX12_isCoughed 62 = .ok (.iconst 1, 1) := by decide +kernel
theorem dX12_isCoughed_63 : decode cX12_isCoughed 63 = .ok (.goto 4, 3) := by decide +kernel
theorem dX12_isCoughed_66 : decode cX12_isCoughed 66 = .ok (.iconst 0, 1) := by decide +kernel
theorem dX12_isCoughed_67 : decode cX12_isCoughed 67 = .ok (.ireturn, 1) := by decide +kernel
theorem dX12_shown_0 : decode cX12_shown 0 = .ok (.iconst 0, 1) := by decide +kernel
theorem dX12_shown_1 : decode cX12_shown 1 = .ok (.istore_n 2, 1) := by decide +kernel
theorem dX12_shown_2 : decode cX12_shown 2 = .ok (.iload_n 2, 1) := by decide +kernel
theorem dX12_shown_3 : decode cX12_shown 3 = .ok (.aload_n 0, 1) := by decide +kernel
theorem dX12_shown_4 : decode cX12_shown 4 = .ok (.getfield 246, 3) := by decide +kernel
theorem dX12_shown_7 : decode cX12_shown 7 = .ok (.if_icmp .ge 85, 3) := by decide +kernel
theorem dX12_shown_10 : decode cX12_shown 10 = .ok (.aload_n 0, 1) := by decide +kernel
theorem dX12_shown_11 : decode cX12_shown 11 = .ok (.getfield 392, 3) := by decide +kernel
theorem dX12_shown_14 : decode cX12_shown 14 = .ok (.ifCond .ne 78, 3) := by decide +kernel
theorem dX12_shown_17 : decode cX12_shown 17 = .ok (.aload_n 0, 1) := by decide +kernel
theorem dX12_shown_18 : decode cX12_shown 18 = .ok (.getfield 60, 3) := by decide +kernel
theorem dX12_shown_21 : decode cX12_shown 21 = .ok (.iload_n 2, 1) := by decide +kernel
theorem dX12_shown_22 : decode cX12_shown 22 = .ok (.iaload, 1) := by decide +kernel
theorem dX12_shown_23 : decode cX12_shown 23 = .ok (.aload_n 0, 1) := by decide +kernel
theorem dX12_shown_24 : decode cX12_shown 24 = .ok (.getfield 112, 3) := by decide +kernel
theorem dX12_shown_27 : decode cX12_shown 27 = .ok (.iload_n 1, 1) := by decide +kernel
theorem dX12_shown_28 : decode cX12_shown 28 = .ok (.iaload, 1) := by decide +kernel
theorem dX12_shown_29 : decode cX12_shown 29 = .ok (.if_icmp .eq 6, 3) := by decide +kernel
theorem dX12_shown_32 : decode cX12_shown 32 = .ok (.goto 54, 3) := by decide +kernel
theorem dX12_shown_35 : decode cX12_shown 35 = .ok (.aload_n 0, 1) := by decide +kernel
theorem dX12_shown_36 : decode cX12_shown 36 = .ok (.getfield 94, 3) := by decide +kernel
theorem dX12_shown_39 : decode cX12_shown 39 = .ok (.iload_n 1, 1) := by decide +kernel
theorem dX12_shown_40 : decode cX12_shown 40 = .ok (.iaload, 1) := by decide +kernel
theorem dX12_shown_41 : decode cX12_shown 41 = .ok (.ifCond .lt 16, 3) := by decide +kernel
theorem dX12_shown_44 : decode cX12_shown 44 = .ok (.aload_n 0, 1) := by decide +kernel
theorem dX12_shown_45 : decode cX12_shown 45 = .ok (.getfield 106, 3) := by decide +kernel
theorem dX12_shown_48 : decode cX12_shown 48 = .ok (.iload_n 1, 1) := by decide +kernel
theorem dX12_shown_49 : decode cX12_shown 49 = .ok (.dup2, 1) := by decide +kernel
theorem dX12_shown_50 : decode cX12_shown 50 = .ok (.iaload, 1) := by decide +kernel
theorem dX12_shown_51 : decode cX12_shown 51 = .ok (.iconst 1, 1) := by decide +kernel
theorem dX12_shown_52 : decode cX12_shown 52 = .ok (.iadd, 1) := by decide +kernel
theorem dX12_shown_53 : decode cX12_shown 53 = .ok (.iastore, 1) := by decide +kernel
theorem dX12_shown_54 : decode cX12_shown 54 = .ok (.goto 32, 3) := by decide +kernel
theorem dX12_shown_57 : decode cX12_shown 57 = .ok (.aload_n 0, 1) := by decide +kernel
theorem dX12_shown_58 : decode cX12_shown 58 = .ok (.getfield 94, 3) := by decide +kernel
theorem dX12_shown_61 : decode cX12_shown 61 = .ok (.iload_n 1, 1) := by decide +kernel
theorem dX12_shown_62 : decode cX12_shown 62 = .ok (.aload_n 0, 1) := by decide +kernel
theorem dX12_shown_63 : decode cX12_shown 63 = .ok (.getfield 57, 3) := by decide +kernel
theorem dX12_shown_66 : decode cX12_shown 66 = .ok (.iload_n 2, 1) := by decide +kernel
theorem dX12_shown_67 : decode cX12_shown 67 = .ok (.iaload, 1) := by decide +kernel
theorem dX12_shown_68 : decode cX12_shown 68 = .ok (.iastore, 1) := by decide +kernel
theorem dX12_shown_69 : decode cX12_shown 69 = .ok (.aload_n 0, 1) := by decide +kernel
theorem dX12_shown_70 : decode cX12_shown 70 = .ok (.getfield 97, 3) := by decide +kernel
theorem dX12_shown_73 : decode cX12_shown 73 = .ok (.iload_n 1, 1) := by decide +kernel
theorem dX12_shown_74 : decode cX12_shown 74 = .ok (.aload_n 0, 1) := by decide +kernel
theorem dX12_shown_75 : decode cX12_shown 75 = .ok (.getfield 33, 3) := by decide +kernel
theorem dX12_shown_78 : decode cX12_shown 78 = .ok (.aload_n 0, 1) := by decide +kernel
theorem dX12_shown_79 : decode cX12_shown 79 = .ok (.getfield 57, 3) := by decide +kernel
theorem dX12_shown_82 : decode cX12_shown 82 = .ok (.iload_n 2, 1) := by decide +kernel
theorem dX12_shown_83 : decode cX12_shown 83 = .ok (.iaload, 1) := by decide +kernel
theorem dX12_shown_84 : decode cX12_shown 84 = .ok (.iaload, 1) := by decide +kernel
theorem dX12_shown_85 : decode cX12_shown 85 = .ok (.iastore, 1) := by decide +kernel
theorem dX12_shown_86 : decode cX12_shown 86 = .ok (.iinc 2 1, 3) := by decide +kernel
theorem dX12_shown_89 : decode cX12_shown 89 = .ok (.goto (-87), 3) := by decide +kernel
theorem dX12_shown_92 : decode cX12_shown 92 = .ok (.return_, 1) := by decide +kernel
theorem dX12_claps_0 : decode cX12_claps 0 = .ok (.iconst 0, 1) := by decide +kernel
theorem dX12_claps_1 : decode cX12_claps 1 = .ok (.istore_n 2, 1) := by decide +kernel
theorem dX12_claps_2 : decode cX12_claps 2 = .ok (.iconst 0, 1) := by decide +kernel
theorem dX12_claps_3 : decode cX12_claps 3 = .ok (.istore_n 3, 1) := by decide +kernel
theorem dX12_claps_4 : decode cX12_claps 4 = .ok (.iconst 0, 1) := by decide +kernel
theorem dX12_claps_5 : decode cX12_claps 5 = .ok (.istore 4, 2) := by decide +kernel
theorem dX12_claps_7 : decode cX12_claps 7 = .ok (.iload 4, 2) := by decide +kernel
theorem dX12_claps_9 : decode cX12_claps 9 = .ok (.aload_n 0, 1) := by decide +kernel
theorem dX12_claps_10 : decode cX12_claps 10 = .ok (.getfield 240, 3) := by decide +kernel
theorem dX12_claps_13 : decode cX12_claps 13 = .ok (.if_icmp .ge 122, 3) := by decide +kernel
theorem dX12_claps_16 : decode cX12_claps 16 = .ok (.aload_n 0, 1) := by decide +kernel
theorem dX12_claps_17 : decode cX12_claps 17 = .ok (.getfield 115, 3) := by decide +kernel
theorem dX12_claps_20 : decode cX12_claps 20 = .ok (.bipush 6, 2) := by decide +kernel
theorem dX12_claps_22 : decode cX12_claps 22 = .ok (.iload_n 1, 1) := by decide +kernel
theorem dX12_claps_23 : decode cX12_claps 23 = .ok (.imul, 1) := by decide +kernel
theorem dX12_claps_24 : decode cX12_claps 24 = .ok (.iload 4, 2) := by decide +kernel
theorem dX12_claps_26 : decode cX12_claps 26 = .ok (.iadd, 1) := by decide +kernel
theorem dX12_claps_27 : decode cX12_claps 27 = .ok (.iaload, 1) := by decide +kernel
theorem dX12_claps_28 : decode cX12_claps 28 = .ok (.istore 5, 2) := by decide +kernel
theorem dX12_claps_30 : decode cX12_claps 30 = .ok (.bipush 6, 2) := by decide +kernel
theorem dX12_claps_32 : decode cX12_claps 32 = .ok (.iload_n 1, 1) := by decide +kernel
theorem dX12_claps_33 : decode cX12_claps 33 = .ok (.imul, 1) := by decide +kernel
theorem dX12_claps_34 : decode cX12_claps 34 = .ok (.iload 5, 2) := by decide +kernel
theorem dX12_claps_36 : decode cX12_claps 36 = .ok (.iadd, 1) := by decide +kernel
theorem dX12_claps_37 : decode cX12_claps 37 = .ok (.istore 6, 2) := by decide +kernel
theorem dX12_claps_39 : decode cX12_claps 39 = .ok (.aload_n 0, 1) := by decide +kernel
theorem dX12_claps_40 : decode cX12_claps 40 = .ok (.getfield 94, 3) := by decide +kernel
theorem dX12_claps_43 : decode cX12_claps 43 = .ok (.iload_n 1, 1) := by decide +kernel
theorem dX12_claps_44 : decode cX12_claps 44 = .ok (.iaload, 1) := by decide +kernel
theorem dX12_claps_45 : decode cX12_claps 45 = .ok (.ifCond .ge 7, 3) := by decide +kernel
theorem dX12_claps_48 : decode cX12_claps 48 = .ok (.iconst 0, 1) := by decide +kernel
theorem dX12_claps_49 : decode cX12_claps 49 = .ok (.goto 17, 3) := by decide +kernel
theorem dX12_claps_52 : decode cX12_claps 52 = .ok (.aload_n 0, 1) := by decide +kernel
theorem dX12_claps_53 : decode cX12_claps 53 = .ok (.iload_n 1, 1) := by decide +kernel
theorem dX12_claps_54 : decode cX12_claps 54 = .ok (.iload 5, 2) := by decide +kernel
theorem dX12_claps_56 : decode cX12_claps 56 = .ok (.aload_n 0, 1) := by decide +kernel
theorem dX12_claps_57 : decode cX12_claps 57 = .ok (.getfield 94, 3) := by decide +kernel
theorem dX12_claps_60 : decode cX12_claps 60 = .ok (.iload_n 1, 1) := by decide +kernel
theorem dX12_claps_61 : decode cX12_claps 61 = .ok (.iaload, 1) := by decide +kernel
theorem dX12_claps_62 : decode cX12_claps 62 = .ok (.iload_n 3, 1) := by decide +kernel
theorem dX12_claps_63 : decode cX12_claps 63 = .ok (.invokevirtual 445, 3) := by decide +kernel
theorem dX12_claps_66 : decode cX12_claps 66 = .ok (.istore 7, 2) := by decide +kernel
theorem dX12_claps_68 : decode cX12_claps 68 = .ok (.aload_n 0, 1) := by decide +kernel
theorem dX12_claps_69 : decode cX12_claps 69 = .ok (.getfield 121, 3) := by decide +kernel
theorem dX12_claps_72 : decode cX12_claps 72 = .ok (.iload 6, 2) := by decide +kernel
theorem dX12_claps_74 : decode cX12_claps 74 = .ok (.iload 7, 2) := by decide +kernel
theorem dX12_claps_76 : decode cX12_claps 76 = .ok (.iastore, 1) := by decide +kernel
theorem dX12_claps_77 : decode cX12_claps 77 = .ok (.aload_n 0, 1) := by decide +kernel
theorem dX12_claps_78 : decode cX12_claps 78 = .ok (.getfield 118, 3) := by decide +kernel
theorem dX12_claps_81 : decode cX12_claps 81 = .ok (.iload 6, 2) := by decide +kernel
theorem dX12_claps_83 : decode cX12_claps 83 = .ok (.iload 7, 2) := by decide +kernel
theorem dX12_claps_85 : decode cX12_claps 85 = .ok (.ifCond .le 28, 3) := by decide +kernel
theorem dX12_claps_88 : decode cX12_claps 88 = .ok (.aload_n 0, 1) := by decide +kernel
theorem dX12_claps_89 : decode cX12_claps 89 = .ok (.getfield 118, 3) := by decide +kernel
theorem dX12_claps_92 : decode cX12_claps 92 = .ok (.iload 6, 2) := by decide +kernel
theorem dX12_claps_94 : decode cX12_claps 94 = .ok (.iaload, 1) := by decide +kernel
theorem dX12_claps_95 : decode cX12_claps 95 = .ok (.sipush 9999, 3) := by decide +kernel
theorem dX12_claps_98 : decode cX12_claps 98 = .ok (.if_icmp .ge 15, 3) := by decide +kernel
theorem dX12_claps_101 : decode cX12_claps 101 = .ok (.aload_n 0, 1) := by decide +kernel
theorem dX12_claps_102 : decode cX12_claps 102 = .ok (.getfield 118, 3) := by decide +kernel
theorem dX12_claps_105 : decode cX12_claps 105 = .ok (.iload 6, 2) := by decide +kernel
theorem dX12_claps_107 : decode cX12_claps 107 = .ok (.iaload, 1) := by decide +kernel
theorem dX12_claps_108 : decode cX12_claps 108 = .ok (.iconst 1, 1) := by decide +kernel
theorem dX12_claps_109 : decode cX12_claps 109 = .ok (.iadd, 1) := by decide +kernel
theorem dX12_claps_110 : decode cX12_claps 110 = .ok (.goto 10, 3) := by decide +kernel
theorem dX12_claps_113 : decode cX12_claps 113 = .ok (.aload_n 0, 1) := by decide +kernel
theorem dX12_claps_114 : decode cX12_claps 114 = .ok (.getfield 118, 3) := by decide +kernel
theorem dX12_claps_117 : decode cX12_claps 117 = .ok (.iload 6, 2) := by decide +kernel
theorem dX12_claps_119 : decode cX12_claps 119 = .ok (.iaload, 1) := by decide +kernel
theorem dX12_claps_120 : decode cX12_claps 120 = .ok (.iastore, 1) := by decide +kernel
theorem dX12_claps_121 : decode cX12_claps 121 = .ok (.iload 7, 2) := by decide +kernel
theorem dX12_claps_123 : decode cX12_claps 123 = .ok (.istore_n 3, 1) := by decide +kernel
theorem dX12_claps_124 : decode cX12_claps 124 = .ok (.iload_n 2, 1) := by decide +kernel
theorem dX12_claps_125 : decode cX12_claps 125 = .ok (.iload 7, 2) := by decide +kernel
theorem dX12_claps_127 : decode cX12_claps 127 = .ok (.iadd, 1) := by decide +kernel
theorem dX12_claps_128 : decode cX12_claps 128 = .ok (.istore_n 2, 1) := by decide +kernel
theorem dX12_claps_129 : decode cX12_claps 129 = .ok (.iinc 4 1, 3) := by decide +kernel
theorem dX12_claps_132 : decode cX12_claps 132 = .ok (.goto (-125), 3) := by decide +kernel
theorem dX12_claps_135 : decode cX12_claps 135 = .ok (.iload_n 2, 1) := by decide +kernel
theorem dX12_claps_136 : decode cX12_claps 136 = .ok (.ireturn, 1) := by decide +kernel
theorem dX12_grainAt_0 : decode cX12_grainAt 0 = .ok (.iconst 0, 1) := by decide +kernel
theorem dX12_grainAt_1 : decode cX12_grainAt 1 = .ok (.istore_n 3, 1) := by decide +kernel
theorem dX12_grainAt_2 : decode cX12_grainAt 2 = .ok (.iload_n 3, 1) := by decide +kernel
theorem dX12_grainAt_3 : decode cX12_grainAt 3 = .ok (.aload_n 0, 1) := by decide +kernel
theorem dX12_grainAt_4 : decode cX12_grainAt 4 = .ok (.getfield 243, 3) := by decide +kernel
theorem dX12_grainAt_7 : decode cX12_grainAt 7 = .ok (.if_icmp .ge 39, 3) := by decide +kernel
theorem dX12_grainAt_10 : decode cX12_grainAt 10 = .ok (.aload_n 0, 1) := by decide +kernel
theorem dX12_grainAt_11 : decode cX12_grainAt 11 = .ok (.iload_n 1, 1) := by decide +kernel
theorem dX12_grainAt_12 : decode cX12_grainAt 12 = .ok (.iload_n 3, 1) := by decide +kernel
theorem dX12_grainAt_13 : decode cX12_grainAt 13 = .ok (.invokevirtual 448, 3) := by decide +kernel
theorem dX12_grainAt_16 : decode cX12_grainAt 16 = .ok (.ifCond .le 24, 3) := by decide +kernel
theorem dX12_grainAt_19 : decode cX12_grainAt 19 = .ok (.iload_n 2, 1) := by decide +kernel
theorem dX12_grainAt_20 : decode cX12_grainAt 20 = .ok (.aload_n 0, 1) := by decide +kernel
theorem dX12_grainAt_21 : decode cX12_grainAt 21 = .ok (.getfield 48, 3) := by decide +kernel
theorem dX12_grainAt_24 : decode cX12_grainAt 24 = .ok (.iload_n 3, 1) := by decide +kernel
theorem dX12_grainAt_25 : decode cX12_grainAt 25 = .ok (.iaload, 1) := by decide +kernel
theorem dX12_grainAt_26 : decode cX12_grainAt 26 = .ok (.aload_n 0, 1) := by decide +kernel
theorem dX12_grainAt_27 : decode cX12_grainAt 27 = .ok (.getfield 51, 3) := by decide +kernel
theorem dX12_grainAt_30 : decode cX12_grainAt 30 = .ok (.iload_n 3, 1) := by decide +kernel
theorem dX12_grainAt_31 : decode cX12_grainAt 31 = .ok (.iaload, 1) := by decide +kernel
theorem dX12_grainAt_32 : decode cX12_grainAt 32 = .ok (.invokestatic 202, 3) := by decide +kernel
theorem dX12_grainAt_35 : decode cX12_grainAt 35 = .ok (.ifCond .eq 5, 3) := by decide +kernel
theorem dX12_grainAt_38 : decode cX12_grainAt 38 = .ok (.iload_n 3, 1) := by decide +kernel
theorem dX12_grainAt_39 : decode cX12_grainAt 39 = .ok (.ireturn, 1) := by decide +kernel
theorem dX12_grainAt_40 : decode cX12_grainAt 40 = .ok (.iinc 3 1, 3) := by decide +kernel
theorem dX12_grainAt_43 : decode cX12_grainAt 43 = .ok (.goto (-41), 3) := by decide +kernel
theorem dX12_grainAt_46 : decode cX12_grainAt 46 = .ok (.iconst (-1), 1) := by decide +kernel
theorem dX12_grainAt_47 : decode cX12_grainAt 47 = .ok (.ireturn, 1) := by decide +kernel
theorem dX12_grinds_0 : decode cX12_grinds 0 = .ok (.aload_n 0, 1) := by decide +kernel
theorem dX12_grinds_1 : decode cX12_grinds 1 = .ok (.getfield 100, 3) := by decide +kernel
theorem dX12_grinds_4 : decode cX12_grinds 4 = .ok (.iload_n 1, 1) := by decide +kernel
theorem dX12_grinds_5 : decode cX12_grinds 5 = .ok (.iaload, 1) := by decide +kernel
theorem dX12_grinds_6 : decode cX12_grinds 6 = .ok (.ifCond .le 17, 3) := by decide +kernel
theorem dX12_grinds_9 : decode cX12_grinds 9 = .ok (.aload_n 0, 1) := by decide +kernel
theorem dX12_grinds_10 : decode cX12_grinds 10 = .ok (.iload_n 1, 1) := by decide +kernel
theorem dX12_grinds_11 : decode cX12_grinds 11 = .ok (.aload_n 0, 1) := by decide +kernel
theorem dX12_grinds_12 : decode cX12_grinds 12 = .ok (.getfield 100, 3) := by decide +kernel
theorem dX12_grinds_15 : decode cX12_grinds 15 = .ok (.iload_n 1, 1) := by decide +kernel
theorem dX12_grinds_16 : decode cX12_grinds 16 = .ok (.iaload, 1) := by decide +kernel
theorem dX12_grinds_17 : decode cX12_grinds 17 = .ok (.invokevirtual 451, 3) := by decide +kernel
theorem dX12_grinds_20 : decode cX12_grinds 20 = .ok (.goto 4, 3) := by decide +kernel
theorem dX12_grinds_23 : decode cX12_grinds 23 = .ok (.iconst (-1), 1) := by decide +kernel
theorem dX12_grinds_24 : decode cX12_grinds 24 = .ok (.istore_n 3, 1) := by decide +kernel
theorem dX12_grinds_25 : decode cX12_grinds 25 = .ok (.iload_n 3, 1) := by decide +kernel
theorem dX12_grinds_26 : decode cX12_grinds 26 = .ok (.ifCond .lt 66, 3) := by decide +kernel
theorem dX12_grinds_29 : decode cX12_grinds 29 = .ok (.aload_n 0, 1) := by decide +kernel
theorem dX12_grinds_30 : decode cX12_grinds 30 = .ok (.iload_n 1, 1) := by decide +kernel
theorem dX12_grinds_31 : decode cX12_grinds 31 = .ok (.iload_n 2, 1) := by decide +kernel
theorem dX12_grinds_32 : decode cX12_grinds 32 = .ok (.invokevirtual 454, 3) := by decide +kernel
theorem dX12_grinds_35 : decode cX12_grinds 35 = .ok (.aload_n 0, 1) := by decide +kernel
theorem dX12_grinds_36 : decode cX12_grinds 36 = .ok (.iconst 2, 1) := by decide +kernel
theorem dX12_grinds_37 : decode cX12_grinds 37 = .ok (.iconst 1, 1) := by decide +kernel
theorem dX12_grinds_38 : decode cX12_grinds 38 = .ok (.iconst 0, 1) := by decide +kernel
theorem dX12_grinds_39 : decode cX12_grinds 39 = .ok (.bipush 9, 2) := by decide +kernel
theorem dX12_grinds_41 : decode cX12_grinds 41 = .ok (.invokevirtual 430, 3) := by decide +kernel
theorem dX12_grinds_44 : decode cX12_grinds 44 = .ok (.iconst 0, 1) := by decide +kernel
theorem dX12_grinds_45 : decode cX12_grinds 45 = .ok (.aload_n 0, 1) := by decide +kernel
theorem dX12_grinds_46 : decode cX12_grinds 46 = .ok (.iload_n 1, 1) := by decide +kernel
theorem dX12_grinds_47 : decode cX12_grinds 47 = .ok (.iload_n 3, 1) := by decide +kernel
theorem dX12_grinds_48 : decode cX12_grinds 48 = .ok (.invokevirtual 448, 3) := by decide +kernel
theorem dX12_grinds_51 : decode cX12_grinds 51 = .ok (.invokestatic 458, 3) := by decide +kernel
theorem dX12_grinds_54 : decode cX12_grinds 54 = .ok (.istore 4, 2) := by decide +kernel
theorem dX12_grinds_56 : decode cX12_grinds 56 = .ok (.aload_n 0, 1) := by decide +kernel
theorem dX12_grinds_57 : decode cX12_grinds 57 = .ok (.getfield 124, 3) := by decide +kernel
theorem dX12_grinds_60 : decode cX12_grinds 60 = .ok (.iconst 4, 1) := by decide +kernel
theorem dX12_grinds_61 : decode cX12_grinds 61 = .ok (.iload_n 1, 1) := by decide +kernel
theorem dX12_grinds_62 : decode cX12_grinds 62 = .ok (.imul, 1) := by decide +kernel
theorem dX12_grinds_63 : decode cX12_grinds 63 = .ok (.iload_n 3, 1) := by decide +kernel
theorem dX12_grinds_64 : decode cX12_grinds 64 = .ok (.iadd, 1) := by decide +kernel
theorem dX12_grinds_65 : decode cX12_grinds 65 = .ok (.dup2, 1) := by decide +kernel
theorem dX12_grinds_66 : decode cX12_grinds 66 = .ok (.iaload, 1) := by decide +kernel
theorem dX12_grinds_67 : decode cX12_grinds 67 = .ok (.iload 4, 2) := by decide +kernel
theorem dX12_grinds_69 : decode cX12_grinds 69 = .ok (.iadd, 1) := by decide +kernel
theorem dX12_grinds_70 : decode cX12_grinds 70 = .ok (.iastore, 1) := by decide +kernel
theorem dX12_grinds_71 : decode cX12_grinds 71 = .ok (.aload_n 0, 1) := by decide +kernel
theorem dX12_grinds_72 : decode cX12_grinds 72 = .ok (.getfield 103, 3) := by decide +kernel
theorem dX12_grinds_75 : decode cX12_grinds 75 = .ok (.iload_n 1, 1) := by decide +kernel
theorem dX12_grinds_76 : decode cX12_grinds 76 = .ok (.iload 4, 2) := by decide +kernel
theorem dX12_grinds_78 : decode cX12_grinds 78 = .ok (.ifCond .le 7, 3) := by decide +kernel
theorem dX12_grinds_81 : decode cX12_grinds 81 = .ok (.iload_n 3, 1) := by decide +kernel
theorem dX12_grinds_82 : decode cX12_grinds 82 = .ok (.goto 9, 3) := by decide +kernel
theorem dX12_grinds_85 : decode cX12_grinds 85 = .ok (.aload_n 0, 1) := by decide +kernel
theorem dX12_grinds_86 : decode cX12_grinds 86 = .ok (.getfield 103, 3) := by decide +kernel
theorem dX12_grinds_89 : decode cX12_grinds 89 = .ok (.iload_n 1, 1) := by decide +kernel
theorem dX12_grinds_90 : decode cX12_grinds 90 = .ok (.iaload, 1) := by decide +kernel
theorem dX12_grinds_91 : decode cX12_grinds 91 = .ok (.iastore, 1) := by decide +kernel
theorem dX12_grinds_92 : decode cX12_grinds 92 = .ok (.aload_n 0, 1) := by decide +kernel
theorem dX12_grinds_93 : decode cX12_grinds 93 = .ok (.getfield 100, 3) := by decide +kernel
theorem dX12_grinds_96 : decode cX12_grinds 96 = .ok (.iload_n 1, 1) := by decide +kernel
theorem dX12_grinds_97 : decode cX12_grinds 97 = .ok (.iaload, 1) := by decide +kernel
theorem dX12_grinds_98 : decode cX12_grinds 98 = .ok (.ifCond .ge 56, 3) := by decide +kernel
theorem dX12_grinds_101 : decode cX12_grinds 101 = .ok (.aload_n 0, 1) := by decide +kernel
theorem dX12_grinds_102 : decode cX12_grinds 102 = .ok (.getfield 103, 3) := by decide +kernel
theorem dX12_grinds_105 : decode cX12_grinds 105 = .ok (.iload_n 1, 1) := by decide +kernel
theorem dX12_grinds_106 : decode cX12_grinds 106 = .ok (.iaload, 1) := by decide +kernel
theorem dX12_grinds_107 : decode cX12_grinds 107 = .ok (.ifCond .lt 47, 3) := by decide +kernel
theorem dX12_grinds_110 : decode cX12_grinds 110 = .ok (.aload_n 0, 1) := by decide +kernel
theorem dX12_grinds_111 : decode cX12_grinds 111 = .ok (.getfield 386, 3) := by decide +kernel
theorem dX12_grinds_114 : decode cX12_grinds 114 = .ok (.ifCond .ne 40, 3) := by decide +kernel
theorem dX12_grinds_117 : decode cX12_grinds 117 = .ok (.aload_n 0, 1) := by decide +kernel
theorem dX12_grinds_118 : decode cX12_grinds 118 = .ok (.getfield 124, 3) := by decide +kernel
theorem dX12_grinds_121 : decode cX12_grinds 121 = .ok (.iconst 4, 1) := by decide +kernel
theorem dX12_grinds_122 : decode cX12_grinds 122 = .ok (.iload_n 1, 1) := by decide +kernel
theorem dX12_grinds_123 : decode cX12_grinds 123 = .ok (.imul, 1) := by decide +kernel
theorem dX12_grinds_124 : decode cX12_grinds 124 = .ok (.aload_n 0, 1) := by decide +kernel
theorem dX12_grinds_125 : decode cX12_grinds 125 = .ok (.getfield 103, 3) := by decide +kernel
theorem dX12_grinds_128 : decode cX12_grinds 128 = .ok (.iload_n 1, 1) := by decide +kernel
theorem dX12_grinds_129 : decode cX12_grinds 129 = .ok (.iaload, 1) := by decide +kernel
theorem dX12_grinds_130 : decode cX12_grinds 130 = .ok (.iadd, 1) := by decide +kernel
theorem dX12_grinds_131 : decode cX12_grinds 131 = .ok (.iaload, 1) := by decide +kernel
theorem dX12_grinds_132 : decode cX12_grinds 132 = .ok (.ifCond .le 22, 3) := by decide +kernel
theorem dX12_grinds_135 : decode cX12_grinds 135 = .ok (.aload_n 0, 1) := by decide +kernel
theorem dX12_grinds_136 : decode cX12_grinds 136 = .ok (.getfield 124, 3) := by decide +kernel
theorem dX12_grinds_139 : decode cX12_grinds 139 = .ok (.iconst 4, 1) := by decide +kernel
theorem dX12_grinds_140 : decode cX12_grinds 140 = .ok (.iload_n 1, 1) := by decide +kernel
theorem dX12_grinds_141 : decode cX12_grinds 141 = .ok (.imul, 1) := by decide +kernel
theorem dX12_grinds_142 : decode cX12_grinds 142 = .ok (.aload_n 0, 1) := by decide +kernel
theorem dX12_grinds_143 : decode cX12_grinds 143 = .ok (.getfield 103, 3) := by decide +kernel
theorem dX12_grinds_146 : decode cX12_grinds 146 = .ok (.iload_n 1, 1) := by decide +kernel
theorem dX12_grinds_147 : decode cX12_grinds 147 = .ok (.iaload, 1) := by decide +kernel
theorem dX12_grinds_148 : decode cX12_grinds 148 = .ok (.iadd, 1) := by decide +kernel
theorem dX12_grinds_149 : decode cX12_grinds 149 = .ok (.dup2, 1) := by decide +kernel
theorem dX12_grinds_150 : decode cX12_grinds 150 = .ok (.iaload, 1) := by decide +kernel
theorem dX12_grinds_151 : decode cX12_grinds 151 = .ok (.iconst 1, 1) := by decide +kernel
theorem dX12_grinds_152 : decode cX12_grinds 152 = .ok (.isub, 1) := by decide +kernel
theorem dX12_grinds_153 : decode cX12_grinds 153 = .ok (.iastore, 1) := by decide +kernel
theorem dX12_grinds_154 : decode cX12_grinds 154 = .ok (.return_, 1) := by decide +kernel
theorem dX12_minuteGoes_0 : decode cX12_minuteGoes 0 = .ok (.aload_n 0, 1) := by decide +kernel
theorem dX12_minuteGoes_1 : decode cX12_minuteGoes 1 = .ok (.iload_n 1, 1) := by decide +kernel
theorem dX12_minuteGoes_2 : decode cX12_minuteGoes 2 = .ok (.invokevirtual 461, 3) := by decide +kernel
theorem dX12_minuteGoes_5 : decode cX12_minuteGoes 5 = .ok (.aload_n 0, 1) := by decide +kernel
theorem dX12_minuteGoes_6 : decode cX12_minuteGoes 6 = .ok (.iload_n 1, 1) := by decide +kernel
theorem dX12_minuteGoes_7 : decode cX12_minuteGoes 7 = .ok (.invokevirtual 464, 3) := by decide +kernel
theorem dX12_minuteGoes_10 : decode cX12_minuteGoes 10 = .ok (.istore_n 2, 1) := by decide +kernel
theorem dX12_minuteGoes_11 : decode cX12_minuteGoes 11 = .ok (.aload_n 0, 1) := by decide +kernel
theorem dX12_minuteGoes_12 : decode cX12_minuteGoes 12 = .ok (.getfield 94, 3) := by decide +kernel
theorem dX12_minuteGoes_15 : decode cX12_minuteGoes 15 = .ok (.iload_n 1, 1) := by decide +kernel
theorem dX12_minuteGoes_16 : decode cX12_minuteGoes 16 = .ok (.iaload, 1) := by decide +kernel
theorem dX12_minuteGoes_17 : decode cX12_minuteGoes 17 = .ok (.ifCond .lt 22, 3) := by decide +kernel
theorem dX12_minuteGoes_20 : decode cX12_minuteGoes 20 = .ok (.aload_n 0, 1) := by decide +kernel
theorem dX12_minuteGoes_21 : decode cX12_minuteGoes 21 = .ok (.invokevirtual 467, 3) := by decide +kernel
theorem dX12_minuteGoes_24 : decode cX12_minuteGoes 24 = .ok (.ifCond .eq 15, 3) := by decide +kernel
theorem dX12_minuteGoes_27 : decode cX12_minuteGoes 27 = .ok (.aload_n 0, 1) := by decide +kernel
theorem dX12_minuteGoes_28 : decode cX12_minuteGoes 28 = .ok (.getfield 109, 3) := by decide +kernel
theorem dX12_minuteGoes_31 : decode cX12_minuteGoes 31 = .ok (.iload_n 1, 1) := by decide +kernel
theorem dX12_minuteGoes_32 : decode cX12_minuteGoes 32 = .ok (.dup2, 1) := by decide +kernel
theorem dX12_minuteGoes_33 : decode cX12_minuteGoes 33 = .ok (.iaload, 1) := by decide +kernel
theorem dX12_minuteGoes_34 : decode cX12_minuteGoes 34 = .ok (.iconst 1, 1) := by decide +kernel
theorem dX12_minuteGoes_35 : decode cX12_minuteGoes 35 = .ok (.iadd, 1) := by decide +kernel
theorem dX12_minuteGoes_36 : decode cX12_minuteGoes 36 = .ok (.iastore, 1) := by decide +kernel
theorem dX12_minuteGoes_37 : decode cX12_minuteGoes 37 = .ok (.iconst 0, 1) := by decide +kernel
theorem dX12_minuteGoes_38 : decode cX12_minuteGoes 38 = .ok (.istore_n 2, 1) := by decide +kernel
theorem dX12_minuteGoes_39 : decode cX12_minuteGoes 39 = .ok (.aload_n 0, 1) := by decide +kernel
theorem dX12_minuteGoes_40 : decode cX12_minuteGoes 40 = .ok (.iload_n 1, 1) := by decide +kernel
theorem dX12_minuteGoes_41 : decode cX12_minuteGoes 41 = .ok (.iload_n 2, 1) := by decide +kernel
theorem dX12_minuteGoes_42 : decode cX12_minuteGoes 42 = .ok (.invokevirtual 454, 3) := by decide +kernel
theorem dX12_minuteGoes_45 : decode cX12_minuteGoes 45 = .ok (.aload_n 0, 1) := by decide +kernel
theorem dX12_minuteGoes_46 : decode cX12_minuteGoes 46 = .ok (.getfield 100, 3) := by decide +kernel
theorem dX12_minuteGoes_49 : decode cX12_minuteGoes 49 = .ok (.iload_n 1, 1) := by decide +kernel
theorem dX12_minuteGoes_50 : decode cX12_minuteGoes 50 = .ok (.aload_n 0, 1) := by decide +kernel
theorem dX12_minuteGoes_51 : decode cX12_minuteGoes 51 = .ok (.iconst 1, 1) := by decide +kernel
theorem dX12_minuteGoes_52 : decode cX12_minuteGoes 52 = .ok (.aload_n 0, 1) := by decide +kernel
theorem dX12_minuteGoes_53 : decode cX12_minuteGoes 53 = .ok (.getfield 100, 3) := by decide +kernel
theorem dX12_minuteGoes_56 : decode cX12_minuteGoes 56 = .ok (.iload_n 1, 1) := by decide +kernel
theorem dX12_minuteGoes_57 : decode cX12_minuteGoes 57 = .ok (.iaload, 1) := by decide +kernel
theorem dX12_minuteGoes_58 : decode cX12_minuteGoes 58 = .ok (.iload_n 2, 1) := by decide +kernel
theorem dX12_minuteGoes_59 : decode cX12_minuteGoes 59 = .ok (.iadd, 1) := by decide +kernel
theorem dX12_minuteGoes_60 : decode cX12_minuteGoes 60 = .ok (.iconst 2, 1) := by decide +kernel
theorem dX12_minuteGoes_61 : decode cX12_minuteGoes 61 = .ok (.idiv, 1) := by decide +kernel
theorem dX12_minuteGoes_62 : decode cX12_minuteGoes 62 = .ok (.bipush (-99), 2) := by decide +kernel
theorem dX12_minuteGoes_64 : decode cX12_minuteGoes 64 = .ok (.bipush 99, 2) := by decide +kernel
theorem dX12_minuteGoes_66 : decode cX12_minuteGoes 66 = .ok (.invokevirtual 430, 3) := by decide +kernel
theorem dX12_minuteGoes_69 : decode cX12_minuteGoes 69 = .ok (.bipush (-99), 2) := by decide +kernel
theorem dX12_minuteGoes_71 : decode cX12_minuteGoes 71 = .ok (.bipush 99, 2) := by decide +kernel
theorem dX12_minuteGoes_73 : decode cX12_minuteGoes 73 = .ok (.invokestatic 458, 3) := by decide +kernel
theorem dX12_minuteGoes_76 : decode cX12_minuteGoes 76 = .ok (.iastore, 1) := by decide +kernel
theorem dX12_minuteGoes_77 : decode cX12_minuteGoes 77 = .ok (.aload_n 0, 1) := by decide +kernel
theorem dX12_minuteGoes_78 : decode cX12_minuteGoes 78 = .ok (.iload_n 1, 1) := by decide +kernel
theorem dX12_minuteGoes_79 : decode cX12_minuteGoes 79 = .ok (.iload_n 2, 1) := by decide +kernel
theorem dX12_minuteGoes_80 : decode cX12_minuteGoes 80 = .ok (.invokevirtual 470, 3) := by decide +kernel
theorem dX12_minuteGoes_83 : decode cX12_minuteGoes 83 = .ok (.aload_n 0, 1) := by decide +kernel
theorem dX12_minuteGoes_84 : decode cX12_minuteGoes 84 = .ok (.getfield 94, 3) := by decide +kernel
theorem dX12_minuteGoes_87 : decode cX12_minuteGoes 87 = .ok (.iload_n 1, 1) := by decide +kernel
theorem dX12_minuteGoes_88 : decode cX12_minuteGoes 88 = .ok (.iaload, 1) := by decide +kernel
theorem dX12_minuteGoes_89 : decode cX12_minuteGoes 89 = .ok (.ifCond .lt 38, 3) := by decide +kernel
theorem dX12_minuteGoes_92 : decode cX12_minuteGoes 92 = .ok (.aload_n 0, 1) := by decide +kernel
theorem dX12_minuteGoes_93 : decode cX12_minuteGoes 93 = .ok (.getfield 97, 3) := by decide +kernel
theorem dX12_minuteGoes_96 : decode cX12_minuteGoes 96 = .ok (.iload_n 1, 1) := by decide +kernel
theorem dX12_minuteGoes_97 : decode cX12_minuteGoes 97 = .ok (.dup2, 1) := by decide +kernel
theorem dX12_minuteGoes_98 : decode cX12_minuteGoes 98 = .ok (.iaload, 1) := by decide +kernel
theorem dX12_minuteGoes_99 : decode cX12_minuteGoes 99 = .ok (.iconst 1, 1) := by decide +kernel
theorem dX12_minuteGoes_100 : decode cX12_minuteGoes 100 = .ok (.isub, 1) := by decide +kernel
theorem dX12_minuteGoes_101 : decode cX12_minuteGoes 101 = .ok (.iastore, 1) := by decide +kernel
theorem dX12_minuteGoes_102 : decode cX12_minuteGoes 102 = .ok (.aload_n 0, 1) := by decide +kernel
theorem dX12_minuteGoes_103 : decode cX12_minuteGoes 103 = .ok (.getfield 94, 3) := by decide +kernel
theorem dX12_minuteGoes_106 : decode cX12_minuteGoes 106 = .ok (.iload_n 1, 1) := by decide +kernel
theorem dX12_minuteGoes_107 : decode cX12_minuteGoes 107 = .ok (.aload_n 0, 1) := by decide +kernel
theorem dX12_minuteGoes_108 : decode cX12_minuteGoes 108 = .ok (.getfield 97, 3) := by decide +kernel
theorem dX12_minuteGoes_111 : decode cX12_minuteGoes 111 = .ok (.iload_n 1, 1) := by decide +kernel
theorem dX12_minuteGoes_112 : decode cX12_minuteGoes 112 = .ok (.iaload, 1) := by decide +kernel
theorem dX12_minuteGoes_113 : decode cX12_minuteGoes 113 = .ok (.ifCond .ne 7, 3) := by decide +kernel
theorem dX12_minuteGoes_116 : decode cX12_minuteGoes 116 = .ok (.iconst (-1), 1) := by decide +kernel
theorem dX12_minuteGoes_117 : decode cX12_minuteGoes 117 = .ok (.goto 9, 3) := by decide +kernel
theorem dX12_minuteGoes_120 : decode cX12_minuteGoes 120 = .ok (.aload_n 0, 1) := by decide +kernel
theorem dX12_minuteGoes_121 : decode cX12_minuteGoes 121 = .ok (.getfield 94, 3) := by decide +kernel
theorem dX12_minuteGoes_124 : decode cX12_minuteGoes 124 = .ok (.iload_n 1, 1) := by decide +kernel
theorem dX12_minuteGoes_125 : decode cX12_minuteGoes 125 = .ok (.iaload, 1) := by decide +kernel
theorem dX12_minuteGoes_126 : decode cX12_minuteGoes 126 = .ok (.iastore, 1) := by decide +kernel
theorem dX12_minuteGoes_127 : decode cX12_minuteGoes 127 = .ok (.aload_n 0, 1) := by decide +kernel
theorem dX12_minuteGoes_128 : decode cX12_minuteGoes 128 = .ok (.getfield 112, 3) := by decide +kernel
theorem dX12_minuteGoes_131 : decode cX12_minuteGoes 131 = .ok (.iload_n 1, 1) := by decide +kernel
theorem dX12_minuteGoes_132 : decode cX12_minuteGoes 132 = .ok (.dup2, 1) := by decide +kernel
theorem dX12_minuteGoes_133 : decode cX12_minuteGoes 133 = .ok (.iaload, 1) := by decide +kernel
theorem dX12_minuteGoes_134 : decode cX12_minuteGoes 134 = .ok (.iconst 1, 1) := by decide +kernel
theorem dX12_minuteGoes_135 : decode cX12_minuteGoes 135 = .ok (.iadd, 1) := by decide +kernel
theorem dX12_minuteGoes_136 : decode cX12_minuteGoes 136 = .ok (.iastore, 1) := by decide +kernel
theorem dX12_minuteGoes_137 : decode cX12_minuteGoes 137 = .ok (.return_, 1) := by decide +kernel
theorem dX12_goMany_0 : decode cX12_goMany 0 = .ok (.iconst 0, 1) := by decide +kernel
theorem dX12_goMany_1 : decode cX12_goMany 1 = .ok (.istore_n 2, 1) := by decide +kernel
theorem dX12_goMany_2 : decode cX12_goMany 2 = .ok (.iload_n 2, 1) := by decide +kernel
theorem dX12_goMany_3 : decode cX12_goMany 3 = .ok (.iload_n 1, 1) := by decide +kernel
theorem dX12_goMany_4 : decode cX12_goMany 4 = .ok (.if_icmp .ge 14, 3) := by decide +kernel
theorem dX12_goMany_7 : decode cX12_goMany 7 = .ok (.aload_n 0, 1) := by decide +kernel
theorem dX12_goMany_8 : decode cX12_goMany 8 = .ok (.iconst 1, 1) := by decide +kernel
theorem dX12_goMany_9 : decode cX12_goMany 9 = .ok (.invokevirtual 473, 3) := by decide +kernel
theorem dX12_goMany_12 : decode cX12_goMany 12 = .ok (.iinc 2 1, 3) := by decide +kernel
theorem dX12_goMany_15 : decode cX12_goMany 15 = .ok (.goto (-13), 3) := by decide +kernel
theorem dX12_goMany_18 : decode cX12_goMany 18 = .ok (.return_, 1) := by decide +kernel
theorem dX12_fails_0 : decode cX12_fails 0 = .ok (.aload_n 0, 1) := by decide +kernel
theorem dX12_fails_1 : decode cX12_fails 1 = .ok (.iload_n 1, 1) := by decide +kernel
theorem dX12_fails_2 : decode cX12_fails 2 = .ok (.putfield 157, 3) := by decide +kernel
theorem dX12_fails_5 : decode cX12_fails 5 = .ok (.iconst 0, 1) := by decide +kernel
theorem dX12_fails_6 : decode cX12_fails 6 = .ok (.ireturn, 1) := by decide +kernel
theorem dX12_seatOf_0 : decode cX12_seatOf 0 = .ok (.iconst 0, 1) := by decide +kernel
theorem dX12_seatOf_1 : decode cX12_seatOf 1 = .ok (.istore_n 2, 1) := by decide +kernel
theorem dX12_seatOf_2 : decode cX12_seatOf 2 = .ok (.aload_n 0, 1) := by decide +kernel
theorem dX12_seatOf_3 : decode cX12_seatOf 3 = .ok (.getfield 115, 3) := by decide +kernel
theorem dX12_seatOf_6 : decode cX12_seatOf 6 = .ok (.iload_n 2, 1) := by decide +kernel
theorem dX12_seatOf_7 : decode cX12_seatOf 7 = .ok (.iaload, 1) := by decide +kernel
theorem dX12_seatOf_8 : decode cX12_seatOf 8 = .ok (.iload_n 1, 1) := by decide +kernel
theorem dX12_seatOf_9 : decode cX12_seatOf 9 = .ok (.if_icmp .eq 9, 3) := by decide +kernel
theorem dX12_seatOf_12 : decode cX12_seatOf 12 = .ok (.iinc 2 1, 3) := by decide +kernel
theorem dX12_seatOf_15 : decode cX12_seatOf 15 = .ok (.goto (-13), 3) := by decide +kernel
theorem dX12_seatOf_18 : decode cX12_seatOf 18 = .ok (.iload_n 2, 1) := by decide +kernel
theorem dX12_seatOf_19 : decode cX12_seatOf 19 = .ok (.ireturn, 1) := by decide +kernel
theorem dX12_guest_0 : decode cX12_guest 0 = .ok (.aload_n 0, 1) := by decide +kernel
theorem dX12_guest_1 : decode cX12_guest 1 = .ok (.iconst 0, 1) := by decide +kernel
theorem dX12_guest_2 : decode cX12_guest 2 = .ok (.putfield 157, 3) := by decide +kernel
theorem dX12_guest_5 : decode cX12_guest 5 = .ok (.aload_n 0, 1) := by decide +kernel
theorem dX12_guest_6 : decode cX12_guest 6 = .ok (.iload_n 1, 1) := by decide +kernel
theorem dX12_guest_7 : decode cX12_guest 7 = .ok (.invokevirtual 476, 3) := by decide +kernel
theorem dX12_guest_10 : decode cX12_guest 10 = .ok (.ifCond .ne 9, 3) := by decide +kernel
theorem dX12_guest_13 : decode cX12_guest 13 = .ok (.aload_n 0, 1) := by decide +kernel
theorem dX12_guest_14 : decode cX12_guest 14 = .ok (.iconst 1, 1) := by decide +kernel
theorem dX12_guest_15 : decode cX12_guest 15 = .ok (.invokevirtual 479, 3) := by decide +kernel
theorem dX12_guest_18 : decode cX12_guest 18 = .ok (.ireturn, 1) := by decide +kernel
theorem dX12_guest_19 : decode cX12_guest 19 = .ok (.iload_n 2, 1) := by decide +kernel
theorem dX12_guest_20 : decode cX12_guest 20 = .ok (.tableswitch 70 0 4 #[36, 43, 50, 56, 63], 36) := by decide +kernel
theorem dX12_guest_56 : decode cX12_guest 56 = .ok (.aload_n 0, 1) := by decide +kernel
theorem dX12_guest_57 : decode cX12_guest 57 = .ok (.getfield 39, 3) := by decide +kernel
theorem dX12_guest_60 : decode cX12_guest 60 = .ok (.iload_n 1, 1) := by decide +kernel
theorem dX12_guest_61 : decode cX12_guest 61 = .ok (.iaload, 1) := by decide +kernel
theorem dX12_guest_62 : decode cX12_guest 62 = .ok (.ireturn, 1) := by decide +kernel
theorem dX12_guest_63 : decode cX12_guest 63 = .ok (.aload_n 0, 1) := by decide +kernel
theorem dX12_guest_64 : decode cX12_guest 64 = .ok (.getfield 42, 3) := by decide +kernel
theorem dX12_guest_67 : decode cX12_guest 67 = .ok (.iload_n 1, 1) := by decide +kernel
theorem dX12_guest_68 : decode cX12_guest 68 = .ok (.iaload, 1) := by decide +kernel
theorem dX12_guest_69 : decode cX12_guest 69 = .ok (.ireturn, 1) := by decide +kernel
theorem dX12_guest_70 : decode cX12_guest 70 = .ok (.aload_n 0, 1) := by decide +kernel
theorem dX12_guest_71 : decode cX12_guest 71 = .ok (.iload_n 1, 1) := by decide +kernel
theorem dX12_guest_72 : decode cX12_guest 72 = .ok (.invokevirtual 482, 3) := by decide +kernel
theorem dX12_guest_75 : decode cX12_guest 75 = .ok (.ireturn, 1) := by decide +kernel
theorem dX12_guest_76 : decode cX12_guest 76 = .ok (.aload_n 0, 1) := by decide +kernel
theorem dX12_guest_77 : decode cX12_guest 77 = .ok (.getfield 118, 3) := by decide +kernel
theorem dX12_guest_80 : decode cX12_guest 80 = .ok (.iload_n 1, 1) := by decide +kernel
theorem dX12_guest_81 : decode cX12_guest 81 = .ok (.iaload, 1) := by decide +kernel
theorem dX12_guest_82 : decode cX12_guest 82 = .ok (.ireturn, 1) := by decide +kernel
theorem dX12_guest_83 : decode cX12_guest 83 = .ok (.aload_n 0, 1) := by decide +kernel
theorem dX12_guest_84 : decode cX12_guest 84 = .ok (.getfield 121, 3) := by decide +kernel
theorem dX12_guest_87 : decode cX12_guest 87 = .ok (.iload_n 1, 1) := by decide +kernel
theorem dX12_guest_88 : decode cX12_guest 88 = .ok (.iaload, 1) := by decide +kernel
theorem dX12_guest_89 : decode cX12_guest 89 = .ok (.ireturn, 1) := by decide +kernel
theorem dX12_guest_90 : decode cX12_guest 90 = .ok (.aload_n 0, 1) := by decide +kernel
theorem dX12_guest_91 : decode cX12_guest 91 = .ok (.iconst 2, 1) := by decide +kernel
theorem dX12_guest_92 : decode cX12_guest 92 = .ok (.invokevirtual 479, 3) := by decide +kernel
theorem dX12_guest_95 : decode cX12_guest 95 = .ok (.ireturn, 1) := by decide +kernel
theorem dX12_act_0 : decode cX12_act 0 = .ok (.aload_n 0, 1) := by decide +kernel
theorem dX12_act_1 : decode cX12_act 1 = .ok (.iconst 0, 1) := by decide +kernel
theorem dX12_act_2 : decode cX12_act 2 = .ok (.putfield 157, 3) := by decide +kernel
theorem dX12_act_5 : decode cX12_act 5 = .ok (.aload_n 0, 1) := by decide +kernel
theorem dX12_act_6 : decode cX12_act 6 = .ok (.iload_n 1, 1) := by decide +kernel
theorem dX12_act_7 : decode cX12_act 7 = .ok (.invokevirtual 485, 3) := by decide +kernel
theorem dX12_act_10 : decode cX12_act 10 = .ok (.ifCond .ne 5, 3) := by decide +kernel
theorem dX12_act_13 : decode cX12_act 13 = .ok (.iconst (-1), 1) := by decide +kernel
theorem dX12_act_14 : decode cX12_act 14 = .ok (.ireturn, 1) := by decide +kernel
theorem dX12_act_15 : decode cX12_act 15 = .ok (.iload_n 2, 1) := by decide +kernel
theorem dX12_act_16 : decode cX12_act 16 = .ok (.ifCond .ne 12, 3) := by decide +kernel
theorem dX12_act_19 : decode cX12_act 19 = .ok (.aload_n 0, 1) := by decide +kernel
theorem dX12_act_20 : decode cX12_act 20 = .ok (.getfield 30, 3) := by decide +kernel
theorem dX12_act_23 : decode cX12_act 23 = .ok (.iload_n 1, 1) := by decide +kernel
theorem dX12_act_24 : decode cX12_act 24 = .ok (.iaload, 1) := by decide +kernel
theorem dX12_act_25 : decode cX12_act 25 = .ok (.goto 46, 3) := by decide +kernel
theorem dX12_act_28 : decode cX12_act 28 = .ok (.iload_n 2, 1) := by decide +kernel
theorem dX12_act_29 : decode cX12_act 29 = .ok (.iconst 1, 1) := by decide +kernel
theorem dX12_act_30 : decode cX12_act 30 = .ok (.if_icmp .ne 12, 3) := by decide +kernel
theorem dX12_act_33 : decode cX12_act 33 = .ok (.aload_n 0, 1) := by decide +kernel
theorem dX12_act_34 : decode cX12_act 34 = .ok (.getfield 33, 3) := by decide +kernel
theorem dX12_act_37 : decode cX12_act 37 = .ok (.iload_n 1, 1) := by decide +kernel
theorem dX12_act_38 : decode cX12_act 38 = .ok (.iaload, 1) := by decide +kernel
theorem dX12_act_39 : decode cX12_act 39 = .ok (.goto 32, 3) := by decide +kernel
theorem dX12_act_42 : decode cX12_act 42 = .ok (.iload_n 2, 1) := by decide +kernel
theorem dX12_act_43 : decode cX12_act 43 = .ok (.iconst 2, 1) := by decide +kernel
theorem dX12_act_44 : decode cX12_act 44 = .ok (.if_icmp .ne 26, 3) := by decide +kernel
theorem dX12_act_47 : decode cX12_act 47 = .ok (.aload_n 0, 1) := by decide +kernel
theorem dX12_act_48 : decode cX12_act 48 = .ok (.getfield 94, 3) := by decide +kernel
theorem dX12_act_51 : decode cX12_act 51 = .ok (.iconst 0, 1) := by decide +kernel
theorem dX12_act_52 : decode cX12_act 52 = .ok (.iaload, 1) := by decide +kernel
theorem dX12_act_53 : decode cX12_act 53 = .ok (.iload_n 1, 1) := by decide +kernel
theorem dX12_act_54 : decode cX12_act 54 = .ok (.if_icmp .ne 12, 3) := by decide +kernel
theorem dX12_act_57 : decode cX12_act 57 = .ok (.aload_n 0, 1) := by decide +kernel
theorem dX12_act_58 : decode cX12_act 58 = .ok (.getfield 97, 3) := by decide +kernel
theorem dX12_act_61 : decode cX12_act 61 = .ok (.iconst 0, 1) := by decide +kernel
theorem dX12_act_62 : decode cX12_act 62 = .ok (.iaload, 1) := by decide +kernel
theorem dX12_act_63 : decode cX12_act 63 = .ok (.goto 8, 3) := by decide +kernel
theorem dX12_act_66 : decode cX12_act 66 = .ok (.iconst 0, 1) := by decide +kernel
theorem dX12_act_67 : decode cX12_act 67 = .ok (.goto 4, 3) := by decide +kernel
theorem dX12_act_70 : decode cX12_act 70 = .ok (.iconst (-1), 1) := by decide +kernel
theorem dX12_act_71 : decode cX12_act 71 = .ok (.ireturn, 1) := by decide +kernel
theorem dX12_grain_0 : decode cX12_grain 0 = .ok (.aload_n 0, 1) := by decide +kernel
theorem dX12_grain_1 : decode cX12_grain 1 = .ok (.iconst 0, 1) := by decide +kernel
theorem dX12_grain_2 : decode cX12_grain 2 = .ok (.putfield 157, 3) := by decide +kernel
theorem dX12_grain_5 : decode cX12_grain 5 = .ok (.aload_n 0, 1) := by decide +kernel
theorem dX12_grain_6 : decode cX12_grain 6 = .ok (.iload_n 1, 1) := by decide +kernel
theorem dX12_grain_7 : decode cX12_grain 7 = .ok (.invokevirtual 488, 3) := by decide +kernel
theorem dX12_grain_10 : decode cX12_grain 10 = .ok (.ifCond .ne 5, 3) := by decide +kernel
theorem dX12_grain_13 : decode cX12_grain 13 = .ok (.iconst (-1), 1) := by decide +kernel
theorem dX12_grain_14 : decode cX12_grain 14 = .ok (.ireturn, 1) := by decide +kernel
theorem dX12_grain_15 : decode cX12_grain 15 = .ok (.iload_n 2, 1) := by decide +kernel
theorem dX12_grain_16 : decode cX12_grain 16 = .ok (.tableswitch 60 0 3 #[32, 39, 46, 53], 32) := by decide +kernel
theorem dX12_grain_48 : decode cX12_grain 48 = .ok (.aload_n 0, 1) := by decide +kernel
theorem dX12_grain_49 : decode cX12_grain 49 = .ok (.getfield 48, 3) := by decide +kernel
theorem dX12_grain_52 : decode cX12_grain 52 = .ok (.iload_n 1, 1) := by decide +kernel
theorem dX12_grain_53 : decode cX12_grain 53 = .ok (.iaload, 1) := by decide +kernel
theorem dX12_grain_54 : decode cX12_grain 54 = .ok (.ireturn, 1) := by decide +kernel
theorem dX12_grain_55 : decode cX12_grain 55 = .ok (.aload_n 0, 1) := by decide +kernel
theorem dX12_grain_56 : decode cX12_grain 56 = .ok (.getfield 51, 3) := by decide +kernel
theorem dX12_grain_59 : decode cX12_grain 59 = .ok (.iload_n 1, 1) := by decide +kernel
theorem dX12_grain_60 : decode cX12_grain 60 = .ok (.iaload, 1) := by decide +kernel
theorem dX12_grain_61 : decode cX12_grain 61 = .ok (.ireturn, 1) := by decide +kernel
theorem dX12_grain_62 : decode cX12_grain 62 = .ok (.aload_n 0, 1) := by decide +kernel
theorem dX12_grain_63 : decode cX12_grain 63 = .ok (.iconst 0, 1) := by decide +kernel
theorem dX12_grain_64 : decode cX12_grain 64 = .ok (.iload_n 1, 1) := by decide +kernel
theorem dX12_grain_65 : decode cX12_grain 65 = .ok (.invokevirtual 448, 3) := by decide +kernel
theorem dX12_grain_68 : decode cX12_grain 68 = .ok (.ireturn, 1) := by decide +kernel
theorem dX12_grain_69 : decode cX12_grain 69 = .ok (.aload_n 0, 1) := by decide +kernel
theorem dX12_grain_70 : decode cX12_grain 70 = .ok (.getfield 124, 3) := by decide +kernel
theorem dX12_grain_73 : decode cX12_grain 73 = .ok (.iload_n 1, 1) := by decide +kernel
theorem dX12_grain_74 : decode cX12_grain 74 = .ok (.iaload, 1) := by decide +kernel
theorem dX12_grain_75 : decode cX12_grain 75 = .ok (.ireturn, 1) := by decide +kernel
theorem dX12_grain_76 : decode cX12_grain 76 = .ok (.iconst (-1), 1) := by decide +kernel
theorem dX12_grain_77 : decode cX12_grain 77 = .ok (.ireturn, 1) := by decide +kernel
theorem dX12_law_0 : decode cX12_law 0 = .ok (.aload_n 0, 1) := by decide +kernel
theorem dX12_law_1 : decode cX12_law 1 = .ok (.iconst 0, 1) := by decide +kernel
theorem dX12_law_2 : decode cX12_law 2 = .ok (.putfield 157, 3) := by decide +kernel
theorem dX12_law_5 : decode cX12_law 5 = .ok (.iload_n 1, 1) := by decide +kernel
theorem dX12_law_6 : decode cX12_law 6 = .ok (.iconst 0, 1) := by decide +kernel
theorem dX12_law_7 : decode cX12_law 7 = .ok (.iconst 2, 1) := by decide +kernel
theorem dX12_law_8 : decode cX12_law 8 = .ok (.invokestatic 202, 3) := by decide +kernel
theorem dX12_law_11 : decode cX12_law 11 = .ok (.ifCond .eq 24, 3) := by decide +kernel
theorem dX12_law_14 : decode cX12_law 14 = .ok (.aload_n 0, 1) := by decide +kernel
theorem dX12_law_15 : decode cX12_law 15 = .ok (.getfield 63, 3) := by decide +kernel
theorem dX12_law_18 : decode cX12_law 18 = .ok (.iload_n 1, 1) := by decide +kernel
theorem dX12_law_19 : decode cX12_law 19 = .ok (.baload, 1) := by decide +kernel
theorem dX12_law_20 : decode cX12_law 20 = .ok (.ifCond .eq 15, 3) := by decide +kernel
theorem dX12_law_23 : decode cX12_law 23 = .ok (.iload_n 1, 1) := by decide +kernel
theorem dX12_law_24 : decode cX12_law 24 = .ok (.ifCond .ne 15, 3) := by decide +kernel
theorem dX12_law_27 : decode cX12_law 27 = .ok (.aload_n 0, 1) := by decide +kernel
theorem dX12_law_28 : decode cX12_law 28 = .ok (.iload_n 2, 1) := by decide +kernel
theorem dX12_law_29 : decode cX12_law 29 = .ok (.invokevirtual 476, 3) := by decide +kernel
theorem dX12_law_32 : decode cX12_law 32 = .ok (.ifCond .ne 7, 3) := by decide +kernel
theorem dX12_law_35 : decode cX12_law 35 = .ok (.ldc2_w 491, 3) := by decide +kernel
theorem dX12_law_38 : decode cX12_law 38 = .ok (.lreturn, 1) := by decide +kernel
theorem dX12_law_39 : decode cX12_law 39 = .ok (.aload_n 0, 1) := by decide +kernel
theorem dX12_law_40 : decode cX12_law 40 = .ok (.invokevirtual 365, 3) := by decide +kernel
theorem dX12_law_43 : decode cX12_law 43 = .ok (.iload_n 1, 1) := by decide +kernel
theorem dX12_law_44 : decode cX12_law 44 = .ok (.ifCond .ne 19, 3) := by decide +kernel
theorem dX12_law_47 : decode cX12_law 47 = .ok (.aload_n 0, 1) := by decide +kernel
theorem dX12_law_48 : decode cX12_law 48 = .ok (.iconst 0, 1) := by decide +kernel
theorem dX12_law_49 : decode cX12_law 49 = .ok (.iload_n 2, 1) := by decide +kernel
theorem dX12_law_50 : decode cX12_law 50 = .ok (.aload_n 0, 1) := by decide +kernel
theorem dX12_law_51 : decode cX12_law 51 = .ok (.getfield 94, 3) := by decide +kernel
theorem dX12_law_54 : decode cX12_law 54 = .ok (.iconst 0, 1) := by decide +kernel
theorem dX12_law_55 : decode cX12_law 55 = .ok (.iaload, 1) := by decide +kernel
theorem dX12_law_56 : decode cX12_law 56 = .ok (.iconst 0, 1) := by decide +kernel
theorem dX12_law_57 : decode cX12_law 57 = .ok (.invokevirtual 423, 3) := by decide +kernel
theorem dX12_law_60 : decode cX12_law 60 = .ok (.goto 9, 3) := by decide +kernel
theorem dX12_law_63 : decode cX12_law 63 = .ok (.aload_n 0, 1) := by decide +kernel
theorem dX12_law_64 : decode cX12_law 64 = .ok (.iconst 0, 1) := by decide +kernel
theorem dX12_law_65 : decode cX12_law 65 = .ok (.iconst 0, 1) := by decide +kernel
theorem dX12_law_66 : decode cX12_law 66 = .ok (.invokevirtual 454, 3) := by decide +kernel
theorem dX12_law_69 : decode cX12_law 69 = .ok (.aload_n 0, 1) := by decide +kernel
theorem dX12_law_70 : decode cX12_law 70 = .ok (.iload_n 1, 1) := by decide +kernel
theorem dX12_law_71 : decode cX12_law 71 = .ok (.invokevirtual 417, 3) := by decide +kernel
theorem dX12_law_74 : decode cX12_law 74 = .ok (.lstore_n 3, 1) := by decide +kernel
theorem dX12_law_75 : decode cX12_law 75 = .ok (.aload_n 0, 1) := by decide +kernel
theorem dX12_law_76 : decode cX12_law 76 = .ok (.getfield 339, 3) := by decide +kernel
theorem dX12_law_79 : decode cX12_law 79 = .ok (.ifCond .eq 9, 3) := by decide +kernel
theorem dX12_law_82 : decode cX12_law 82 = .ok (.ldc2_w 491, 3) := by decide +kernel
theorem dX12_law_85 : decode cX12_law 85 = .ok (.goto 4, 3) := by decide +kernel
theorem dX12_law_88 : decode cX12_law 88 = .ok (.lload_n 3, 1) := by decide +kernel
theorem dX12_law_89 : decode cX12_law 89 = .ok (.lreturn, 1) := by decide +kernel
theorem dX12_stage_0 : decode cX12_stage 0 = .ok (.aload_n 0, 1) := by decide +kernel
theorem dX12_stage_1 : decode cX12_stage 1 = .ok (.iconst 0, 1) := by decide +kernel
theorem dX12_stage_2 : decode cX12_stage 2 = .ok (.putfield 157, 3) := by decide +kernel
theorem dX12_stage_5 : decode cX12_stage 5 = .ok (.aload_n 0, 1) := by decide +kernel
theorem dX12_stage_6 : decode cX12_stage 6 = .ok (.iload_n 1, 1) := by decide +kernel
theorem dX12_stage_7 : decode cX12_stage 7 = .ok (.invokevirtual 485, 3) := by decide +kernel
theorem dX12_stage_10 : decode cX12_stage 10 = .ok (.ifCond .ne 5, 3) := by decide +kernel
theorem dX12_stage_13 : decode cX12_stage 13 = .ok (.iconst (-1), 1) := by decide +kernel
theorem dX12_stage_14 : decode cX12_stage 14 = .ok (.ireturn, 1) := by decide +kernel
theorem dX12_stage_15 : decode cX12_stage 15 = .ok (.aload_n 0, 1) := by decide +kernel
theorem dX12_stage_16 : decode cX12_stage 16 = .ok (.getfield 94, 3) := by decide +kernel
theorem dX12_stage_19 : decode cX12_stage 19 = .ok (.iconst 0, 1) := by decide +kernel
theorem dX12_stage_20 : decode cX12_stage 20 = .ok (.iaload, 1) := by decide +kernel
theorem dX12_stage_21 : decode cX12_stage 21 = .ok (.ifCond .lt 6, 3) := by decide +kernel
theorem dX12_stage_24 : decode cX12_stage 24 = .ok (.bipush (-2), 2) := by decide +kernel
theorem dX12_stage_26 : decode cX12_stage 26 = .ok (.ireturn, 1) := by decide +kernel
theorem dX12_stage_27 : decode cX12_stage 27 = .ok (.aload_n 0, 1) := by decide +kernel
theorem dX12_stage_28 : decode cX12_stage 28 = .ok (.invokevirtual 493, 3) := by decide +kernel
theorem dX12_stage_31 : decode cX12_stage 31 = .ok (.aload_n 0, 1) := by decide +kernel
theorem dX12_stage_32 : decode cX12_stage 32 = .ok (.getfield 94, 3) := by decide +kernel
theorem dX12_stage_35 : decode cX12_stage 35 = .ok (.iconst 0, 1) := by decide +kernel
theorem dX12_stage_36 : decode cX12_stage 36 = .ok (.iload_n 1, 1) := by decide +kernel
theorem dX12_stage_37 : decode cX12_stage 37 = .ok (.iastore, 1) := by decide +kernel
theorem dX12_stage_38 : decode cX12_stage 38 = .ok (.aload_n 0, 1) := by decide +kernel
theorem dX12_stage_39 : decode cX12_stage 39 = .ok (.getfield 97, 3) := by decide +kernel
theorem dX12_stage_42 : decode cX12_stage 42 = .ok (.iconst 0, 1) := by decide +kernel
theorem dX12_stage_43 : decode cX12_stage 43 = .ok (.aload_n 0, 1) := by decide +kernel
theorem dX12_stage_44 : decode cX12_stage 44 = .ok (.getfield 33, 3) := by decide +kernel
theorem dX12_stage_47 : decode cX12_stage 47 = .ok (.iload_n 1, 1) := by decide +kernel
theorem dX12_stage_48 : decode cX12_stage 48 = .ok (.iaload, 1) := by decide +kernel
theorem dX12_stage_49 : decode cX12_stage 49 = .ok (.iastore, 1) := by decide +kernel
theorem dX12_stage_50 : decode cX12_stage 50 = .ok (.aload_n 0, 1) := by decide +kernel
theorem dX12_stage_51 : decode cX12_stage 51 = .ok (.getfield 97, 3) := by decide +kernel
theorem dX12_stage_54 : decode cX12_stage 54 = .ok (.iconst 0, 1) := by decide +kernel
theorem dX12_stage_55 : decode cX12_stage 55 = .ok (.iaload, 1) := by decide +kernel
theorem dX12_stage_56 : decode cX12_stage 56 = .ok (.ireturn, 1) := by decide +kernel
theorem dX12_change_0 : decode cX12_change 0 = .ok (.aload_n 0, 1) := by decide +kernel
theorem dX12_change_1 : decode cX12_change 1 = .ok (.iconst 0, 1) := by decide +kernel
theorem dX12_change_2 : decode cX12_change 2 = .ok (.putfield 157, 3) := by decide +kernel
theorem dX12_change_5 : decode cX12_change 5 = .ok (.aload_n 0, 1) := by decide +kernel
theorem dX12_change_6 : decode cX12_change 6 = .ok (.iload_n 1, 1) := by decide +kernel
theorem dX12_change_7 : decode cX12_change 7 = .ok (.invokevirtual 476, 3) := by decide +kernel
theorem dX12_change_10 : decode cX12_change 10 = .ok (.ifCond .eq 16, 3) := by decide +kernel
theorem dX12_change_13 : decode cX12_change 13 = .ok (.aload_n 0, 1) := by decide +kernel
theorem dX12_change_14 : decode cX12_change 14 = .ok (.iload_n 2, 1) := by decide +kernel
theorem dX12_change_15 : decode cX12_change 15 = .ok (.invokevirtual 476, 3) := by decide +kernel
theorem dX12_change_18 : decode cX12_change 18 = .ok (.ifCond .eq 8, 3) := by decide +kernel
theorem dX12_change_21 : decode cX12_change 21 = .ok (.iload_n 1, 1) := by decide +kernel
theorem dX12_change_22 : decode cX12_change 22 = .ok (.iload_n 2, 1) := by decide +kernel
theorem dX12_change_23 : decode cX12_change 23 = .ok (.if_icmp .ne 5, 3) := by decide +kernel
theorem dX12_change_26 : decode cX12_change 26 = .ok (.iconst (-1), 1) := by decide +kernel
theorem dX12_change_27 : decode cX12_change 27 = .ok (.ireturn, 1) := by decide +kernel
theorem dX12_change_28 : decode cX12_change 28 = .ok (.aload_n 0, 1) := by decide +kernel
theorem dX12_change_29 : decode cX12_change 29 = .ok (.invokevirtual 493, 3) := by decide +kernel
theorem dX12_change_32 : decode cX12_change 32 = .ok (.aload_n 0, 1) := by decide +kernel
theorem dX12_change_33 : decode cX12_change 33 = .ok (.iload_n 1, 1) := by decide +kernel
theorem dX12_change_34 : decode cX12_change 34 = .ok (.invokevirtual 482, 3) := by decide +kernel
theorem dX12_change_37 : decode cX12_change 37 = .ok (.istore_n 3, 1) := by decide +kernel
theorem dX12_change_38 : decode cX12_change 38 = .ok (.aload_n 0, 1) := by decide +kernel
theorem dX12_change_39 : decode cX12_change 39 = .ok (.iload_n 2, 1) := by decide +kernel
theorem dX12_change_40 : decode cX12_change 40 = .ok (.invokevirtual 482, 3) := by decide +kernel
theorem dX12_change_43 : decode cX12_change 43 = .ok (.istore 4, 2) := by decide +kernel
theorem dX12_change_45 : decode cX12_change 45 = .ok (.aload_n 0, 1) := by decide +kernel
theorem dX12_change_46 : decode cX12_change 46 = .ok (.getfield 115, 3) := by decide +kernel
theorem dX12_change_49 : decode cX12_change 49 = .ok (.iload_n 3, 1) := by decide +kernel
theorem dX12_change_50 : decode cX12_change 50 = .ok (.iload_n 2, 1) := by decide +kernel
theorem dX12_change_51 : decode cX12_change 51 = .ok (.iastore, 1) := by decide +kernel
theorem dX12_change_52 : decode cX12_change 52 = .ok (.aload_n 0, 1) := by decide +kernel
theorem dX12_change_53 : decode cX12_change 53 = .ok (.getfield 115, 3) := by decide +kernel
theorem dX12_change_56 : decode cX12_change 56 = .ok (.iload 4, 2) := by decide +kernel
theorem dX12_change_58 : decode cX12_change 58 = .ok (.iload_n 1, 1) := by decide +kernel
theorem dX12_change_59 : decode cX12_change 59 = .ok (.iastore, 1) := by decide +kernel
theorem dX12_change_60 : decode cX12_change 60 = .ok (.iload 4, 2) := by decide +kernel
theorem dX12_change_62 : decode cX12_change 62 = .ok (.ireturn, 1) := by decide +kernel
theorem dX12_push_0 : decode cX12_push 0 = .ok (.aload_n 0, 1) := by decide +kernel
theorem dX12_push_1 : decode cX12_push 1 = .ok (.iconst 0, 1) := by decide +kernel
theorem dX12_push_2 : decode cX12_push 2 = .ok (.putfield 157, 3) := by decide +kernel
theorem dX12_push_5 : decode cX12_push 5 = .ok (.iload_n 1, 1) := by decide +kernel
theorem dX12_push_6 : decode cX12_push 6 = .ok (.ifCond .eq 14, 3) := by decide +kernel
theorem dX12_push_9 : decode cX12_push 9 = .ok (.iload_n 1, 1) := by decide +kernel
theorem dX12_push_10 : decode cX12_push 10 = .ok (.bipush (-99), 2) := by decide +kernel
theorem dX12_push_12 : decode cX12_push 12 = .ok (.bipush 99, 2) := by decide +kernel
theorem dX12_push_14 : decode cX12_push 14 = .ok (.invokestatic 202, 3) := by decide +kernel
theorem dX12_push_17 : decode cX12_push 17 = .ok (.ifCond .ne 7, 3) := by decide +kernel
theorem dX12_push_20 : decode cX12_push 20 = .ok (.ldc_w 496, 3) := by decide +kernel
theorem dX12_push_23 : decode cX12_push 23 = .ok (.ireturn, 1) := by decide +kernel
theorem dX12_push_24 : decode cX12_push 24 = .ok (.aload_n 0, 1) := by decide +kernel
theorem dX12_push_25 : decode cX12_push 25 = .ok (.invokevirtual 493, 3) := by decide +kernel
theorem dX12_push_28 : decode cX12_push 28 = .ok (.aload_n 0, 1) := by decide +kernel
theorem dX12_push_29 : decode cX12_push 29 = .ok (.getfield 100, 3) := by decide +kernel
theorem dX12_push_32 : decode cX12_push 32 = .ok (.iconst 0, 1) := by decide +kernel
theorem dX12_push_33 : decode cX12_push 33 = .ok (.aload_n 0, 1) := by decide +kernel
theorem dX12_push_34 : decode cX12_push 34 = .ok (.getfield 100, 3) := by decide +kernel
theorem dX12_push_37 : decode cX12_push 37 = .ok (.iconst 0, 1) := by decide +kernel
theorem dX12_push_38 : decode cX12_push 38 = .ok (.iaload, 1) := by decide +kernel
theorem dX12_push_39 : decode cX12_push 39 = .ok (.iload_n 1, 1) := by decide +kernel
theorem dX12_push_40 : decode cX12_push 40 = .ok (.iadd, 1) := by decide +kernel
theorem dX12_push_41 : decode cX12_push 41 = .ok (.bipush (-99), 2) := by decide +kernel
theorem dX12_push_43 : decode cX12_push 43 = .ok (.bipush 99, 2) := by decide +kernel
theorem dX12_push_45 : decode cX12_push 45 = .ok (.invokestatic 458, 3) := by decide +kernel
theorem dX12_push_48 : decode cX12_push 48 = .ok (.iastore, 1) := by decide +kernel
theorem dX12_push_49 : decode cX12_push 49 = .ok (.aload_n 0, 1) := by decide +kernel
theorem dX12_push_50 : decode cX12_push 50 = .ok (.getfield 100, 3) := by decide +kernel
theorem dX12_push_53 : decode cX12_push 53 = .ok (.iconst 0, 1) := by decide +kernel
theorem dX12_push_54 : decode cX12_push 54 = .ok (.iaload, 1) := by decide +kernel
theorem dX12_push_55 : decode cX12_push 55 = .ok (.ireturn, 1) := by decide +kernel
theorem dX12_go_0 : decode cX12_go 0 = .ok (.aload_n 0, 1) := by decide +kernel
theorem dX12_go_1 : decode cX12_go 1 = .ok (.iconst 0, 1) := by decide +kernel
theorem dX12_go_2 : decode cX12_go 2 = .ok (.putfield 157, 3) := by decide +kernel
theorem dX12_go_5 : decode cX12_go 5 = .ok (.iload_n 1, 1) := by decide +kernel
theorem dX12_go_6 : decode cX12_go 6 = .ok (.iconst 0, 1) := by decide +kernel
theorem dX12_go_7 : decode cX12_go 7 = .ok (.sipush 200, 3) := by decide +kernel
theorem dX12_go_10 : decode cX12_go 10 = .ok (.invokestatic 202, 3) := by decide +kernel
theorem dX12_go_13 : decode cX12_go 13 = .ok (.ifCond .eq 17, 3) := by decide +kernel
theorem dX12_go_16 : decode cX12_go 16 = .ok (.aload_n 0, 1) := by decide +kernel
theorem dX12_go_17 : decode cX12_go 17 = .ok (.getfield 112, 3) := by decide +kernel
theorem dX12_go_20 : decode cX12_go 20 = .ok (.iconst 0, 1) := by decide +kernel
theorem dX12_go_21 : decode cX12_go 21 = .ok (.iaload, 1) := by decide +kernel
theorem dX12_go_22 : decode cX12_go 22 = .ok (.iload_n 1, 1) := by decide +kernel
theorem dX12_go_23 : decode cX12_go 23 = .ok (.iadd, 1) := by decide +kernel
theorem dX12_go_24 : decode cX12_go 24 = .ok (.sipush 9000, 3) := by decide +kernel
theorem dX12_go_27 : decode cX12_go 27 = .ok (.if_icmp .le 5, 3) := by decide +kernel
theorem dX12_go_30 : decode cX12_go 30 = .ok (.iconst (-1), 1) := by decide +kernel
theorem dX12_go_31 : decode cX12_go 31 = .ok (.ireturn, 1) := by decide +kernel
theorem dX12_go_32 : decode cX12_go 32 = .ok (.aload_n 0, 1) := by decide +kernel
theorem dX12_go_33 : decode cX12_go 33 = .ok (.invokevirtual 365, 3) := by decide +kernel
theorem dX12_go_36 : decode cX12_go 36 = .ok (.aload_n 0, 1) := by decide +kernel
theorem dX12_go_37 : decode cX12_go 37 = .ok (.iconst 1, 1) := by decide +kernel
theorem dX12_go_38 : decode cX12_go 38 = .ok (.putfield 377, 3) := by decide +kernel
theorem dX12_go_41 : decode cX12_go 41 = .ok (.iconst 0, 1) := by decide +kernel
theorem dX12_go_42 : decode cX12_go 42 = .ok (.istore_n 2, 1) := by decide +kernel
theorem dX12_go_43 : decode cX12_go 43 = .ok (.iload_n 2, 1) := by decide +kernel
theorem dX12_go_44 : decode cX12_go 44 = .ok (.iload_n 1, 1) := by decide +kernel
theorem dX12_go_45 : decode cX12_go 45 = .ok (.if_icmp .ge 14, 3) := by decide +kernel
theorem dX12_go_48 : decode cX12_go 48 = .ok (.aload_n 0, 1) := by decide +kernel
theorem dX12_go_49 : decode cX12_go 49 = .ok (.iconst 0, 1) := by decide +kernel
theorem dX12_go_50 : decode cX12_go 50 = .ok (.invokevirtual 473, 3) := by decide +kernel
theorem dX12_go_53 : decode cX12_go 53 = .ok (.iinc 2 1, 3) := by decide +kernel
theorem dX12_go_56 : decode cX12_go 56 = .ok (.goto (-13), 3) := by decide +kernel
theorem dX12_go_59 : decode cX12_go 59 = .ok (.aload_n 0, 1) := by decide +kernel
theorem dX12_go_60 : decode cX12_go 60 = .ok (.iconst 0, 1) := by decide +kernel
theorem dX12_go_61 : decode cX12_go 61 = .ok (.putfield 377, 3) := by decide +kernel
theorem dX12_go_64 : decode cX12_go 64 = .ok (.aload_n 0, 1) := by decide +kernel
theorem dX12_go_65 : decode cX12_go 65 = .ok (.iload_n 1, 1) := by decide +kernel
theorem dX12_go_66 : decode cX12_go 66 = .ok (.ifCond .le 7, 3) := by decide +kernel
theorem dX12_go_69 : decode cX12_go 69 = .ok (.iconst 0, 1) := by decide +kernel
theorem dX12_go_70 : decode cX12_go 70 = .ok (.goto 7, 3) := by decide +kernel
theorem dX12_go_73 : decode cX12_go 73 = .ok (.aload_n 0, 1) := by decide +kernel
theorem dX12_go_74 : decode cX12_go 74 = .ok (.getfield 371, 3) := by decide +kernel
theorem dX12_go_77 : decode cX12_go 77 = .ok (.putfield 371, 3) := by decide +kernel
theorem dX12_go_80 : decode cX12_go 80 = .ok (.aload_n 0, 1) := by decide +kernel
theorem dX12_go_81 : decode cX12_go 81 = .ok (.getfield 112, 3) := by decide +kernel
theorem dX12_go_84 : decode cX12_go 84 = .ok (.iconst 0, 1) := by decide +kernel
theorem dX12_go_85 : decode cX12_go 85 = .ok (.iaload, 1) := by decide +kernel
theorem dX12_go_86 : decode cX12_go 86 = .ok (.ireturn, 1) := by decide +kernel
theorem dX12_ahead_0 : decode cX12_ahead 0 = .ok (.aload_n 0, 1) := by decide +kernel
theorem dX12_ahead_1 : decode cX12_ahead 1 = .ok (.iconst 0, 1) := by decide +kernel
theorem dX12_ahead_2 : decode cX12_ahead 2 = .ok (.putfield 157, 3) := by decide +kernel
theorem dX12_ahead_5 : decode cX12_ahead 5 = .ok (.iload_n 1, 1) := by decide +kernel
theorem dX12_ahead_6 : decode cX12_ahead 6 = .ok (.iconst 0, 1) := by decide +kernel
theorem dX12_ahead_7 : decode cX12_ahead 7 = .ok (.sipush 200, 3) := by decide +kernel
theorem dX12_ahead_10 : decode cX12_ahead 10 = .ok (.invokestatic 202, 3) := by decide +kernel
theorem dX12_ahead_13 : decode cX12_ahead 13 = .ok (.ifCond .eq 38, 3) := by decide +kernel
theorem dX12_ahead_16 : decode cX12_ahead 16 = .ok (.iload_n 2, 1) := by decide +kernel
theorem dX12_ahead_17 : decode cX12_ahead 17 = .ok (.iconst 0, 1) := by decide +kernel
theorem dX12_ahead_18 : decode cX12_ahead 18 = .ok (.iconst 4, 1) := by decide +kernel
theorem dX12_ahead_19 : decode cX12_ahead 19 = .ok (.invokestatic 202, 3) := by decide +kernel
theorem dX12_ahead_22 : decode cX12_ahead 22 = .ok (.ifCond .eq 29, 3) := by decide +kernel
theorem dX12_ahead_25 : decode cX12_ahead 25 = .ok (.iload_n 2, 1) := by decide +kernel
theorem dX12_ahead_26 : decode cX12_ahead 26 = .ok (.iconst 1, 1) := by decide +kernel
theorem dX12_ahead_27 : decode cX12_ahead 27 = .ok (.if_icmp .ne 11, 3) := by decide +kernel
theorem dX12_ahead_30 : decode cX12_ahead 30 = .ok (.aload_n 0, 1) := by decide +kernel
theorem dX12_ahead_31 : decode cX12_ahead 31 = .ok (.iload_n 3, 1) := by decide +kernel
theorem dX12_ahead_32 : decode cX12_ahead 32 = .ok (.invokevirtual 488, 3) := by decide +kernel
theorem dX12_ahead_35 : decode cX12_ahead 35 = .ok (.ifCond .eq 16, 3) := by decide +kernel
theorem dX12_ahead_38 : decode cX12_ahead 38 = .ok (.iload_n 2, 1) := by decide +kernel
theorem dX12_ahead_39 : decode cX12_ahead 39 = .ok (.iconst 4, 1) := by decide +kernel
theorem dX12_ahead_40 : decode cX12_ahead 40 = .ok (.if_icmp .ne 15, 3) := by decide +kernel
theorem dX12_ahead_43 : decode cX12_ahead 43 = .ok (.aload_n 0, 1) := by decide +kernel
theorem dX12_ahead_44 : decode cX12_ahead 44 = .ok (.iload_n 3, 1) := by decide +kernel
theorem dX12_ahead_45 : decode cX12_ahead 45 = .ok (.invokevirtual 476, 3) := by decide +kernel
theorem dX12_ahead_48 : decode cX12_ahead 48 = .ok (.ifCond .ne 7, 3) := by decide +kernel
theorem dX12_ahead_51 : decode cX12_ahead 51 = .ok (.ldc_w 496, 3) := by decide +kernel
theorem dX12_ahead_54 : decode cX12_ahead 54 = .ok (.ireturn, 1) := by decide +kernel
theorem dX12_ahead_55 : decode cX12_ahead 55 = .ok (.aload_n 0, 1) := by decide +kernel
theorem dX12_ahead_56 : decode cX12_ahead 56 = .ok (.invokevirtual 497, 3) := by decide +kernel
theorem dX12_ahead_59 : decode cX12_ahead 59 = .ok (.aload_n 0, 1) := by decide +kernel
theorem dX12_ahead_60 : decode cX12_ahead 60 = .ok (.iload_n 1, 1) := by decide +kernel
theorem dX12_ahead_61 : decode cX12_ahead 61 = .ok (.invokevirtual 500, 3) := by decide +kernel
theorem dX12_ahead_64 : decode cX12_ahead 64 = .ok (.iload_n 2, 1) := by decide +kernel
theorem dX12_ahead_65 : decode cX12_ahead 65 = .ok (.tableswitch 67 0 3 #[31, 37, 46, 53], 31) := by decide +kernel
theorem dX12_ahead_96 : decode cX12_ahead 96 = .ok (.aload_n 0, 1) := by decide +kernel
theorem dX12_ahead_97 : decode cX12_ahead 97 = .ok (.iconst 1, 1) := by decide +kernel
theorem dX12_ahead_98 : decode cX12_ahead 98 = .ok (.invokevirtual 410, 3) := by decide +kernel
theorem dX12_ahead_101 : decode cX12_ahead 101 = .ok (.ireturn, 1) := by decide +kernel
theorem dX12_ahead_102 : decode cX12_ahead 102 = .ok (.aload_n 0, 1) := by decide +kernel
theorem dX12_ahead_103 : decode cX12_ahead 103 = .ok (.getfield 124, 3) := by decide +kernel
theorem dX12_ahead_106 : decode cX12_ahead 106 = .ok (.iconst 4, 1) := by decide +kernel
theorem dX12_ahead_107 : decode cX12_ahead 107 = .ok (.iload_n 3, 1) := by decide +kernel
theorem dX12_ahead_108 : decode cX12_ahead 108 = .ok (.iadd, 1) := by decide +kernel
theorem dX12_ahead_109 : decode cX12_ahead 109 = .ok (.iaload, 1) := by decide +kernel
theorem dX12_ahead_110 : decode cX12_ahead 110 = .ok (.ireturn, 1) := by decide +kernel
theorem dX12_ahead_111 : decode cX12_ahead 111 = .ok (.aload_n 0, 1) := by decide +kernel
theorem dX12_ahead_112 : decode cX12_ahead 112 = .ok (.getfield 100, 3) := by decide +kernel
theorem dX12_ahead_115 : decode cX12_ahead 115 = .ok (.iconst 1, 1) := by decide +kernel
theorem dX12_ahead_116 : decode cX12_ahead 116 = .ok (.iaload, 1) := by decide +kernel
theorem dX12_ahead_117 : decode cX12_ahead 117 = .ok (.ireturn, 1) := by decide +kernel
theorem dX12_ahead_118 : decode cX12_ahead 118 = .ok (.aload_n 0, 1) := by decide +kernel
theorem dX12_ahead_119 : decode cX12_ahead 119 = .ok (.getfield 106, 3) := by decide +kernel
theorem dX12_ahead_122 : decode cX12_ahead 122 = .ok (.iconst 1, 1) := by decide +kernel
theorem dX12_ahead_123 : decode cX12_ahead 123 = .ok (.iaload, 1) := by decide +kernel
theorem dX12_ahead_124 : decode cX12_ahead 124 = .ok (.aload_n 0, 1) := by decide +kernel
theorem dX12_ahead_125 : decode cX12_ahead 125 = .ok (.getfield 106, 3) := by decide +kernel
theorem dX12_ahead_128 : decode cX12_ahead 128 = .ok (.iconst 0, 1) := by decide +kernel
theorem dX12_ahead_129 : decode cX12_ahead 129 = .ok (.iaload, 1) := by decide +kernel
theorem dX12_ahead_130 : decode cX12_ahead 130 = .ok (.isub, 1) := by decide +kernel
theorem dX12_ahead_131 : decode cX12_ahead 131 = .ok (.ireturn, 1) := by decide +kernel
theorem dX12_ahead_132 : decode cX12_ahead 132 = .ok (.aload_n 0, 1) := by decide +kernel
theorem dX12_ahead_133 : decode cX12_ahead 133 = .ok (.getfield 118, 3) := by decide +kernel
theorem dX12_ahead_136 : decode cX12_ahead 136 = .ok (.bipush 6, 2) := by decide +kernel
theorem dX12_ahead_138 : decode cX12_ahead 138 = .ok (.iload_n 3, 1) := by decide +kernel
theorem dX12_ahead_139 : decode cX12_ahead 139 = .ok (.iadd, 1) := by decide +kernel
theorem dX12_ahead_140 : decode cX12_ahead 140 = .ok (.iaload, 1) := by decide +kernel
theorem dX12_ahead_141 : decode cX12_ahead 141 = .ok (.ireturn, 1) := by decide +kernel
theorem dX12_flour_0 : decode cX12_flour 0 = .ok (.aload_n 0, 1) := by decide +kernel
theorem dX12_flour_1 : decode cX12_flour 1 = .ok (.iconst 0, 1) := by decide +kernel
theorem dX12_flour_2 : decode cX12_flour 2 = .ok (.putfield 157, 3) := by decide +kernel
theorem dX12_flour_5 : decode cX12_flour 5 = .ok (.iload_n 1, 1) := by decide +kernel
theorem dX12_flour_6 : decode cX12_flour 6 = .ok (.iconst 0, 1) := by decide +kernel
theorem dX12_flour_7 : decode cX12_flour 7 = .ok (.sipush 999, 3) := by decide +kernel
theorem dX12_flour_10 : decode cX12_flour 10 = .ok (.invokestatic 202, 3) := by decide +kernel
theorem dX12_flour_13 : decode cX12_flour 13 = .ok (.ifCond .ne 5, 3) := by decide +kernel
theorem dX12_flour_16 : decode cX12_flour 16 = .ok (.iconst (-1), 1) := by decide +kernel
theorem dX12_flour_17 : decode cX12_flour 17 = .ok (.ireturn, 1) := by decide +kernel
theorem dX12_flour_18 : decode cX12_flour 18 = .ok (.aload_n 0, 1) := by decide +kernel
theorem dX12_flour_19 : decode cX12_flour 19 = .ok (.invokevirtual 497, 3) := by decide +kernel
theorem dX12_flour_22 : decode cX12_flour 22 = .ok (.iconst 0, 1) := by decide +kernel
theorem dX12_flour_23 : decode cX12_flour 23 = .ok (.istore_n 2, 1) := by decide +kernel
theorem dX12_flour_24 : decode cX12_flour 24 = .ok (.iload_n 2, 1) := by decide +kernel
theorem dX12_flour_25 : decode cX12_flour 25 = .ok (.sipush 200, 3) := by decide +kernel
theorem dX12_flour_28 : decode cX12_flour 28 = .ok (.if_icmp .ge 25, 3) := by decide +kernel
theorem dX12_flour_31 : decode cX12_flour 31 = .ok (.aload_n 0, 1) := by decide +kernel
theorem dX12_flour_32 : decode cX12_flour 32 = .ok (.iconst 1, 1) := by decide +kernel
theorem dX12_flour_33 : decode cX12_flour 33 = .ok (.invokevirtual 410, 3) := by decide +kernel
theorem dX12_flour_36 : decode cX12_flour 36 = .ok (.iload_n 1, 1) := by decide +kernel
theorem dX12_flour_37 : decode cX12_flour 37 = .ok (.if_icmp .lt 5, 3) := by decide +kernel
theorem dX12_flour_40 : decode cX12_flour 40 = .ok (.iload_n 2, 1) := by decide +kernel
theorem dX12_flour_41 : decode cX12_flour 41 = .ok (.ireturn, 1) := by decide +kernel
theorem dX12_flour_42 : decode cX12_flour 42 = .ok (.aload_n 0, 1) := by decide +kernel
theorem dX12_flour_43 : decode cX12_flour 43 = .ok (.iconst 1, 1) := by decide +kernel
theorem dX12_flour_44 : decode cX12_flour 44 = .ok (.invokevirtual 473, 3) := by decide +kernel
theorem dX12_flour_47 : decode cX12_flour 47 = .ok (.iinc 2 1, 3) := by decide +kernel
theorem dX12_flour_50 : decode cX12_flour 50 = .ok (.goto (-26), 3) := by decide +kernel
theorem dX12_flour_53 : decode cX12_flour 53 = .ok (.bipush (-2), 2) := by decide +kernel
theorem dX12_flour_55 : decode cX12_flour 55 = .ok (.ireturn, 1) := by decide +kernel
theorem dX12_layOrder_0 : decode cX12_layOrder 0 = .ok (.iload_n 1, 1) := by decide +kernel
theorem dX12_layOrder_1 : decode cX12_layOrder 1 = .ok (.istore_n 3, 1) := by decide +kernel
theorem dX12_layOrder_2 : decode cX12_layOrder 2 = .ok (.iconst 0, 1) := by decide +kernel
theorem dX12_layOrder_3 : decode cX12_layOrder 3 = .ok (.istore 4, 2) := by decide +kernel
theorem dX12_layOrder_5 : decode cX12_layOrder 5 = .ok (.iconst 1, 1) := by decide +kernel
theorem dX12_layOrder_6 : decode cX12_layOrder 6 = .ok (.istore 5, 2) := by decide +kernel
theorem dX12_layOrder_8 : decode cX12_layOrder 8 = .ok (.iconst 2, 1) := by decide +kernel
theorem dX12_layOrder_9 : decode cX12_layOrder 9 = .ok (.istore 6, 2) := by decide +kernel
theorem dX12_layOrder_11 : decode cX12_layOrder 11 = .ok (.iload 6, 2) := by decide +kernel
theorem dX12_layOrder_13 : decode cX12_layOrder 13 = .ok (.iload_n 2, 1) := by decide +kernel
theorem dX12_layOrder_14 : decode cX12_layOrder 14 = .ok (.if_icmp .ge 16, 3) := by decide +kernel
theorem dX12_layOrder_17 : decode cX12_layOrder 17 = .ok (.iload 5, 2) := by decide +kernel
theorem dX12_layOrder_19 : decode cX12_layOrder 19 = .ok (.iload 6, 2) := by decide +kernel
theorem dX12_layOrder_21 : decode cX12_layOrder 21 = .ok (.imul, 1) := by decide +kernel
theorem dX12_layOrder_22 : decode cX12_layOrder 22 = .ok (.istore 5, 2) := by decide +kernel
theorem dX12_layOrder_24 : decode cX12_layOrder 24 = .ok (.iinc 6 1, 3) := by decide +kernel
theorem dX12_layOrder_27 : decode cX12_layOrder 27 = .ok (.goto (-16), 3) := by decide +kernel
theorem dX12_layOrder_30 : decode cX12_layOrder 30 = .ok (.iconst 0, 1) := by decide +kernel
theorem dX12_layOrder_31 : decode cX12_layOrder 31 = .ok (.istore 6, 2) := by decide +kernel
theorem dX12_layOrder_33 : decode cX12_layOrder 33 = .ok (.iload 6, 2) := by decide +kernel
theorem dX12_layOrder_35 : decode cX12_layOrder 35 = .ok (.iload_n 2, 1) := by decide +kernel
theorem dX12_layOrder_36 : decode cX12_layOrder 36 = .ok (.if_icmp .ge 107, 3) := by decide +kernel
theorem dX12_layOrder_39 : decode cX12_layOrder 39 = .ok (.iload_n 3, 1) := by decide +kernel
theorem dX12_layOrder_40 : decode cX12_layOrder 40 = .ok (.iload 5, 2) := by decide +kernel
theorem dX12_layOrder_42 : decode cX12_layOrder 42 = .ok (.idiv, 1) := by decide +kernel
theorem dX12_layOrder_43 : decode cX12_layOrder 43 = .ok (.istore 7, 2) := by decide +kernel
theorem dX12_layOrder_45 : decode cX12_layOrder 45 = .ok (.iload_n 3, 1) := by decide +kernel
theorem dX12_layOrder_46 : decode cX12_layOrder 46 = .ok (.iload 5, 2) := by decide +kernel
theorem dX12_layOrder_48 : decode cX12_layOrder 48 = .ok (.irem, 1) := by decide +kernel
theorem dX12_layOrder_49 : decode cX12_layOrder 49 = .ok (.istore_n 3, 1) := by decide +kernel
theorem dX12_layOrder_50 : decode cX12_layOrder 50 = .ok (.iconst 0, 1) := by decide +kernel
theorem dX12_layOrder_51 : decode cX12_layOrder 51 = .ok (.istore 8, 2) := by decide +kernel
theorem dX12_layOrder_53 : decode cX12_layOrder 53 = .ok (.iload 4, 2) := by decide +kernel
theorem dX12_layOrder_55 : decode cX12_layOrder 55 = .ok (.iload 8, 2) := by decide +kernel
theorem dX12_layOrder_57 : decode cX12_layOrder 57 = .ok (.invokestatic 503, 3) := by decide +kernel
theorem dX12_layOrder_60 : decode cX12_layOrder 60 = .ok (.ifCond .ne 8, 3) := by decide +kernel
theorem dX12_layOrder_63 : decode cX12_layOrder 63 = .ok (.iload 7, 2) := by decide +kernel
theorem dX12_layOrder_65 : decode cX12_layOrder 65 = .ok (.ifCond .le 29, 3) := by decide +kernel
theorem dX12_layOrder_68 : decode cX12_layOrder 68 = .ok (.iload 7, 2) := by decide +kernel
theorem dX12_layOrder_70 : decode cX12_layOrder 70 = .ok (.iload 4, 2) := by decide +kernel
theorem dX12_layOrder_72 : decode cX12_layOrder 72 = .ok (.iload 8, 2) := by decide +kernel
theorem dX12_layOrder_74 : decode cX12_layOrder 74 = .ok (.invokestatic 503, 3) := by decide +kernel
theorem dX12_layOrder_77 : decode cX12_layOrder 77 = .ok (.ifCond .eq 7, 3) := by decide +kernel
theorem dX12_layOrder_80 : decode cX12_layOrder 80 = .ok (.iconst 0, 1) := by decide +kernel
theorem dX12_layOrder_81 : decode cX12_layOrder 81 = .ok (.goto 4, 3) := by decide +kernel
theorem dX12_layOrder_84 : decode cX12_layOrder 84 = .ok (.iconst 1, 1) := by decide +kernel
theorem dX12_layOrder_85 : decode cX12_layOrder 85 = .ok (.isub, 1) := by decide +kernel
theorem dX12_layOrder_86 : decode cX12_layOrder 86 = .ok (.istore 7, 2) := by decide +kernel
theorem dX12_layOrder_88 : decode cX12_layOrder 88 = .ok (.iinc 8 1, 3) := by decide +kernel
theorem dX12_layOrder_91 : decode cX12_layOrder 91 = .ok (.goto (-38), 3) := by decide +kernel
theorem dX12_layOrder_94 : decode cX12_layOrder 94 = .ok (.aload_n 0, 1) := by decide +kernel
theorem dX12_layOrder_95 : decode cX12_layOrder 95 = .ok (.getfield 127, 3) := by decide +kernel
theorem dX12_layOrder_98 : decode cX12_layOrder 98 = .ok (.iload 6, 2) := by decide +kernel
theorem dX12_layOrder_100 : decode cX12_layOrder 100 = .ok (.iload 8, 2) := by decide +kernel
theorem dX12_layOrder_102 : decode cX12_layOrder 102 = .ok (.iastore, 1) := by decide +kernel
theorem dX12_layOrder_103 : decode cX12_layOrder 103 = .ok (.iload 4, 2) := by decide +kernel
theorem dX12_layOrder_105 : decode cX12_layOrder 105 = .ok (.iconst 1, 1) := by decide +kernel
theorem dX12_layOrder_106 : decode cX12_layOrder 106 = .ok (.iload 8, 2) := by decide +kernel
theorem dX12_layOrder_108 : decode cX12_layOrder 108 = .ok (.ishl, 1) := by decide +kernel
theorem dX12_layOrder_109 : decode cX12_layOrder 109 = .ok (.ior, 1) := by decide +kernel
theorem dX12_layOrder_110 : decode cX12_layOrder 110 = .ok (.istore 4, 2) := by decide +kernel
theorem dX12_layOrder_112 : decode cX12_layOrder 112 = .ok (.iload_n 2, 1) := by decide +kernel
theorem dX12_layOrder_113 : decode cX12_layOrder 113 = .ok (.iconst 1, 1) := by decide +kernel
theorem dX12_layOrder_114 : decode cX12_layOrder 114 = .ok (.isub, 1) := by decide +kernel
theorem dX12_layOrder_115 : decode cX12_layOrder 115 = .ok (.iload 6, 2) := by decide +kernel
theorem dX12_layOrder_117 : decode cX12_layOrder 117 = .ok (.isub, 1) := by decide +kernel
theorem dX12_layOrder_118 : decode cX12_layOrder 118 = .ok (.iconst 1, 1) := by decide +kernel
theorem dX12_layOrder_119 : decode cX12_layOrder 119 = .ok (.if_icmp .le 15, 3) := by decide +kernel
theorem dX12_layOrder_122 : decode cX12_layOrder 122 = .ok (.iload 5, 2) := by decide +kernel
theorem dX12_layOrder_124 : decode cX12_layOrder 124 = .ok (.iload_n 2, 1) := by decide +kernel
theorem dX12_layOrder_125 : decode cX12_layOrder 125 = .ok (.iconst 1, 1) := by decide +kernel
theorem dX12_layOrder_126 : decode cX12_layOrder 126 = .ok (.isub, 1) := by decide +kernel
theorem dX12_layOrder_127 : decode cX12_layOrder 127 = .ok (.iload 6, 2) := by decide +kernel
theorem dX12_layOrder_129 : decode cX12_layOrder 129 = .ok (.isub, 1) := by decide +kernel
theorem dX12_layOrder_130 : decode cX12_layOrder 130 = .ok (.idiv, 1) := by decide +kernel
theorem dX12_layOrder_131 : decode cX12_layOrder 131 = .ok (.goto 4, 3) := by decide +kernel
theorem dX12_layOrder_134 : decode cX12_layOrder 134 = .ok (.iconst 1, 1) := by decide +kernel
theorem dX12_layOrder_135 : decode cX12_layOrder 135 = .ok (.istore 5, 2) := by decide +kernel
theorem dX12_layOrder_137 : decode cX12_layOrder 137 = .ok (.iinc 6 1, 3) := by decide +kernel
theorem dX12_layOrder_140 : decode cX12_layOrder 140 = .ok (.goto (-107), 3) := by decide +kernel
theorem dX12_layOrder_143 : decode cX12_layOrder 143 = .ok (.return_, 1) := by decide +kernel
theorem dX12_ordersOf_0 : decode cX12_ordersOf 0 = .ok (.iconst 1, 1) := by decide +kernel
theorem dX12_ordersOf_1 : decode cX12_ordersOf 1 = .ok (.istore_n 1, 1) := by decide +kernel
theorem dX12_ordersOf_2 : decode cX12_ordersOf 2 = .ok (.iconst 2, 1) := by decide +kernel
theorem dX12_ordersOf_3 : decode cX12_ordersOf 3 = .ok (.istore_n 2, 1) := by decide +kernel
theorem dX12_ordersOf_4 : decode cX12_ordersOf 4 = .ok (.iload_n 2, 1) := by decide +kernel
theorem dX12_ordersOf_5 : decode cX12_ordersOf 5 = .ok (.iload_n 0, 1) := by decide +kernel
theorem dX12_ordersOf_6 : decode cX12_ordersOf 6 = .ok (.if_icmp .gt 13, 3) := by decide +kernel
theorem dX12_ordersOf_9 : decode cX12_ordersOf 9 = .ok (.iload_n 1, 1) := by decide +kernel
theorem dX12_ordersOf_10 : decode cX12_ordersOf 10 = .ok (.iload_n 2, 1) := by decide +kernel
theorem dX12_ordersOf_11 : decode cX12_ordersOf 11 = .ok (.imul, 1) := by decide +kernel
theorem dX12_ordersOf_12 : decode cX12_ordersOf 12 = .ok (.istore_n 1, 1) := by decide +kernel
theorem dX12_ordersOf_13 : decode cX12_ordersOf 13 = .ok (.iinc 2 1, 3) := by decide +kernel
theorem dX12_ordersOf_16 : decode cX12_ordersOf 16 = .ok (.goto (-12), 3) := by decide +kernel
theorem dX12_ordersOf_19 : decode cX12_ordersOf 19 = .ok (.iload_n 1, 1) := by decide +kernel
theorem dX12_ordersOf_20 : decode cX12_ordersOf 20 = .ok (.ireturn, 1) := by decide +kernel
theorem dX12_billMany_0 : decode cX12_billMany 0 = .ok (.aload_n 0, 1) := by decide +kernel
theorem dX12_billMany_1 : decode cX12_billMany 1 = .ok (.getfield 237, 3) := by decide +kernel
theorem dX12_billMany_4 : decode cX12_billMany 4 = .ok (.iconst 4, 1) := by decide +kernel
theorem dX12_billMany_5 : decode cX12_billMany 5 = .ok (.if_icmp .ge 10, 3) := by decide +kernel
theorem dX12_billMany_8 : decode cX12_billMany 8 = .ok (.aload_n 0, 1) := by decide +kernel
theorem dX12_billMany_9 : decode cX12_billMany 9 = .ok (.getfield 237, 3) := by decide +kernel
theorem dX12_billMany_12 : decode cX12_billMany 12 = .ok (.goto 4, 3) := by decide +kernel
theorem dX12_billMany_15 : decode cX12_billMany 15 = .ok (.iconst 4, 1) := by decide +kernel
theorem dX12_billMany_16 : decode cX12_billMany 16 = .ok (.ireturn, 1) := by decide +kernel
theorem dX12_groundBy_0 : decode cX12_groundBy 0 = .ok (.aload_n 0, 1) := by decide +kernel
theorem dX12_groundBy_1 : decode cX12_groundBy 1 = .ok (.invokevirtual 497, 3) := by decide +kernel
theorem dX12_groundBy_4 : decode cX12_groundBy 4 = .ok (.aload_n 0, 1) := by decide +kernel
theorem dX12_groundBy_5 : decode cX12_groundBy 5 = .ok (.iload_n 1, 1) := by decide +kernel
theorem dX12_groundBy_6 : decode cX12_groundBy 6 = .ok (.aload_n 0, 1) := by decide +kernel
theorem dX12_groundBy_7 : decode cX12_groundBy 7 = .ok (.invokevirtual 506, 3) := by decide +kernel
theorem dX12_groundBy_10 : decode cX12_groundBy 10 = .ok (.invokevirtual 509, 3) := by decide +kernel
theorem dX12_groundBy_13 : decode cX12_groundBy 13 = .ok (.aload_n 0, 1) := by decide +kernel
theorem dX12_groundBy_14 : decode cX12_groundBy 14 = .ok (.iconst 1, 1) := by decide +kernel
theorem dX12_groundBy_15 : decode cX12_groundBy 15 = .ok (.putfield 392, 3) := by decide +kernel
theorem dX12_groundBy_18 : decode cX12_groundBy 18 = .ok (.iconst 0, 1) := by decide +kernel
theorem dX12_groundBy_19 : decode cX12_groundBy 19 = .ok (.istore_n 2, 1) := by decide +kernel
theorem dX12_groundBy_20 : decode cX12_groundBy 20 = .ok (.iload_n 2, 1) := by decide +kernel
theorem dX12_groundBy_21 : decode cX12_groundBy 21 = .ok (.aload_n 0, 1) := by decide +kernel
theorem dX12_groundBy_22 : decode cX12_groundBy 22 = .ok (.invokevirtual 506, 3) := by decide +kernel
theorem dX12_groundBy_25 : decode cX12_groundBy 25 = .ok (.if_icmp .ge 53, 3) := by decide +kernel
theorem dX12_groundBy_28 : decode cX12_groundBy 28 = .ok (.aload_n 0, 1) := by decide +kernel
theorem dX12_groundBy_29 : decode cX12_groundBy 29 = .ok (.getfield 94, 3) := by decide +kernel
theorem dX12_groundBy_32 : decode cX12_groundBy 32 = .ok (.iconst 1, 1) := by decide +kernel
theorem dX12_groundBy_33 : decode cX12_groundBy 33 = .ok (.aload_n 0, 1) := by decide +kernel
theorem dX12_groundBy_34 : decode cX12_groundBy 34 = .ok (.getfield 127, 3) := by decide +kernel
theorem dX12_groundBy_37 : decode cX12_groundBy 37 = .ok (.iload_n 2, 1) := by decide +kernel
theorem dX12_groundBy_38 : decode cX12_groundBy 38 = .ok (.iaload, 1) := by decide +kernel
theorem dX12_groundBy_39 : decode cX12_groundBy 39 = .ok (.iastore, 1) := by decide +kernel
theorem dX12_groundBy_40 : decode cX12_groundBy 40 = .ok (.aload_n 0, 1) := by decide +kernel
theorem dX12_groundBy_41 : decode cX12_groundBy 41 = .ok (.getfield 97, 3) := by decide +kernel
theorem dX12_groundBy_44 : decode cX12_groundBy 44 = .ok (.iconst 1, 1) := by decide +kernel
theorem dX12_groundBy_45 : decode cX12_groundBy 45 = .ok (.aload_n 0, 1) := by decide +kernel
theorem dX12_groundBy_46 : decode cX12_groundBy 46 = .ok (.getfield 33, 3) := by decide +kernel
theorem dX12_groundBy_49 : decode cX12_groundBy 49 = .ok (.aload_n 0, 1) := by decide +kernel
theorem dX12_groundBy_50 : decode cX12_groundBy 50 = .ok (.getfield 127, 3) := by decide +kernel
theorem dX12_groundBy_53 : decode cX12_groundBy 53 = .ok (.iload_n 2, 1) := by decide +kernel
theorem dX12_groundBy_54 : decode cX12_groundBy 54 = .ok (.iaload, 1) := by decide +kernel
theorem dX12_groundBy_55 : decode cX12_groundBy 55 = .ok (.iaload, 1) := by decide +kernel
theorem dX12_groundBy_56 : decode cX12_groundBy 56 = .ok (.iastore, 1) := by decide +kernel
theorem dX12_groundBy_57 : decode cX12_groundBy 57 = .ok (.aload_n 0, 1) := by decide +kernel
theorem dX12_groundBy_58 : decode cX12_groundBy 58 = .ok (.aload_n 0, 1) := by decide +kernel
theorem dX12_groundBy_59 : decode cX12_groundBy 59 = .ok (.getfield 33, 3) := by decide +kernel
theorem dX12_groundBy_62 : decode cX12_groundBy 62 = .ok (.aload_n 0, 1) := by decide +kernel
theorem dX12_groundBy_63 : decode cX12_groundBy 63 = .ok (.getfield 127, 3) := by decide +kernel
theorem dX12_groundBy_66 : decode cX12_groundBy 66 = .ok (.iload_n 2, 1) := by decide +kernel
theorem dX12_groundBy_67 : decode cX12_groundBy 67 = .ok (.iaload, 1) := by decide +kernel
theorem dX12_groundBy_68 : decode cX12_groundBy 68 = .ok (.iaload, 1) := by decide +kernel
theorem dX12_groundBy_69 : decode cX12_groundBy 69 = .ok (.invokevirtual 500, 3) := by decide +kernel
theorem dX12_groundBy_72 : decode cX12_groundBy 72 = .ok (.iinc 2 1, 3) := by decide +kernel
theorem dX12_groundBy_75 : decode cX12_groundBy 75 = .ok (.goto (-55), 3) := by decide +kernel
theorem dX12_groundBy_78 : decode cX12_groundBy 78 = .ok (.aload_n 0, 1) := by decide +kernel
theorem dX12_groundBy_79 : decode cX12_groundBy 79 = .ok (.iconst 1, 1) := by decide +kernel
theorem dX12_groundBy_80 : decode cX12_groundBy 80 = .ok (.invokevirtual 410, 3) := by decide +kernel
theorem dX12_groundBy_83 : decode cX12_groundBy 83 = .ok (.ireturn, 1) := by decide +kernel
theorem dX12_bill_0 : decode cX12_bill 0 = .ok (.aload_n 0, 1) := by decide +kernel
theorem dX12_bill_1 : decode cX12_bill 1 = .ok (.iconst 0, 1) := by decide +kernel
theorem dX12_bill_2 : decode cX12_bill 2 = .ok (.putfield 157, 3) := by decide +kernel
theorem dX12_bill_5 : decode cX12_bill 5 = .ok (.iload_n 1, 1) := by decide +kernel
theorem dX12_bill_6 : decode cX12_bill 6 = .ok (.iconst 0, 1) := by decide +kernel
theorem dX12_bill_7 : decode cX12_bill 7 = .ok (.iconst 4, 1) := by decide +kernel
theorem dX12_bill_8 : decode cX12_bill 8 = .ok (.invokestatic 202, 3) := by decide +kernel
theorem dX12_bill_11 : decode cX12_bill 11 = .ok (.ifCond .ne 5, 3) := by decide +kernel
theorem dX12_bill_14 : decode cX12_bill 14 = .ok (.iconst (-1), 1) := by decide +kernel
theorem dX12_bill_15 : decode cX12_bill 15 = .ok (.ireturn, 1) := by decide +kernel
theorem dX12_bill_16 : decode cX12_bill 16 = .ok (.iload_n 1, 1) := by decide +kernel
theorem dX12_bill_17 : decode cX12_bill 17 = .ok (.iconst 4, 1) := by decide +kernel
theorem dX12_bill_18 : decode cX12_bill 18 = .ok (.if_icmp .ge 14, 3) := by decide +kernel
theorem dX12_bill_21 : decode cX12_bill 21 = .ok (.iload_n 1, 1) := by decide +kernel
theorem dX12_bill_22 : decode cX12_bill 22 = .ok (.aload_n 0, 1) := by decide +kernel
theorem dX12_bill_23 : decode cX12_bill 23 = .ok (.invokevirtual 506, 3) := by decide +kernel
theorem dX12_bill_26 : decode cX12_bill 26 = .ok (.if_icmp .lt 6, 3) := by decide +kernel
theorem dX12_bill_29 : decode cX12_bill 29 = .ok (.bipush (-2), 2) := by decide +kernel
theorem dX12_bill_31 : decode cX12_bill 31 = .ok (.ireturn, 1) := by decide +kernel
theorem dX12_bill_32 : decode cX12_bill 32 = .ok (.iconst 0, 1) := by decide +kernel
theorem dX12_bill_33 : decode cX12_bill 33 = .ok (.istore_n 2, 1) := by decide +kernel
theorem dX12_bill_34 : decode cX12_bill 34 = .ok (.aload_n 0, 1) := by decide +kernel
theorem dX12_bill_35 : decode cX12_bill 35 = .ok (.iconst 0, 1) := by decide +kernel
theorem dX12_bill_36 : decode cX12_bill 36 = .ok (.invokevirtual 512, 3) := by decide +kernel
theorem dX12_bill_39 : decode cX12_bill 39 = .ok (.istore_n 3, 1) := by decide +kernel
theorem dX12_bill_40 : decode cX12_bill 40 = .ok (.iconst 1, 1) := by decide +kernel
theorem dX12_bill_41 : decode cX12_bill 41 = .ok (.istore 4, 2) := by decide +kernel
theorem dX12_bill_43 : decode cX12_bill 43 = .ok (.iload 4, 2) := by decide +kernel
theorem dX12_bill_45 : decode cX12_bill 45 = .ok (.aload_n 0, 1) := by decide +kernel
theorem dX12_bill_46 : decode cX12_bill 46 = .ok (.invokevirtual 506, 3) := by decide +kernel
theorem dX12_bill_49 : decode cX12_bill 49 = .ok (.invokestatic 515, 3) := by decide +kernel
theorem dX12_bill_52 : decode cX12_bill 52 = .ok (.if_icmp .ge 32, 3) := by decide +kernel
theorem dX12_bill_55 : decode cX12_bill 55 = .ok (.aload_n 0, 1) := by decide +kernel
theorem dX12_bill_56 : decode cX12_bill 56 = .ok (.iload 4, 2) := by decide +kernel
theorem dX12_bill_58 : decode cX12_bill 58 = .ok (.invokevirtual 512, 3) := by decide +kernel
theorem dX12_bill_61 : decode cX12_bill 61 = .ok (.istore 5, 2) := by decide +kernel
theorem dX12_bill_63 : decode cX12_bill 63 = .ok (.iload 5, 2) := by decide +kernel
theorem dX12_bill_65 : decode cX12_bill 65 = .ok (.iload_n 3, 1) := by decide +kernel
theorem dX12_bill_66 : decode cX12_bill 66 = .ok (.if_icmp .gt 6, 3) := by decide +kernel
theorem dX12_bill_69 : decode cX12_bill 69 = .ok (.goto 9, 3) := by decide +kernel
theorem dX12_bill_72 : decode cX12_bill 72 = .ok (.iload 4, 2) := by decide +kernel
theorem dX12_bill_74 : decode cX12_bill 74 = .ok (.istore_n 2, 1) := by decide +kernel
theorem dX12_bill_75 : decode cX12_bill 75 = .ok (.iload 5, 2) := by decide +kernel
theorem dX12_bill_77 : decode cX12_bill 77 = .ok (.istore_n 3, 1) := by decide +kernel
theorem dX12_bill_78 : decode cX12_bill 78 = .ok (.iinc 4 1, 3) := by decide +kernel
theorem dX12_bill_81 : decode cX12_bill 81 = .ok (.goto (-38), 3) := by decide +kernel
theorem dX12_bill_84 : decode cX12_bill 84 = .ok (.aload_n 0, 1) := by decide +kernel
theorem dX12_bill_85 : decode cX12_bill 85 = .ok (.invokevirtual 365, 3) := by decide +kernel
theorem dX12_bill_88 : decode cX12_bill 88 = .ok (.aload_n 0, 1) := by decide +kernel
theorem dX12_bill_89 : decode cX12_bill 89 = .ok (.iload_n 2, 1) := by decide +kernel
theorem dX12_bill_90 : decode cX12_bill 90 = .ok (.aload_n 0, 1) := by decide +kernel
theorem dX12_bill_91 : decode cX12_bill 91 = .ok (.invokevirtual 506, 3) := by decide +kernel
theorem dX12_bill_94 : decode cX12_bill 94 = .ok (.invokevirtual 509, 3) := by decide +kernel
theorem dX12_bill_97 : decode cX12_bill 97 = .ok (.iload_n 1, 1) := by decide +kernel
theorem dX12_bill_98 : decode cX12_bill 98 = .ok (.iconst 4, 1) := by decide +kernel
theorem dX12_bill_99 : decode cX12_bill 99 = .ok (.if_icmp .ne 7, 3) := by decide +kernel
theorem dX12_bill_102 : decode cX12_bill 102 = .ok (.iload_n 3, 1) := by decide +kernel
theorem dX12_bill_103 : decode cX12_bill 103 = .ok (.goto 9, 3) := by decide +kernel
theorem dX12_bill_106 : decode cX12_bill 106 = .ok (.aload_n 0, 1) := by decide +kernel
theorem dX12_bill_107 : decode cX12_bill 107 = .ok (.getfield 127, 3) := by decide +kernel
theorem dX12_bill_110 : decode cX12_bill 110 = .ok (.iload_n 1, 1) := by decide +kernel
theorem dX12_bill_111 : decode cX12_bill 111 = .ok (.iaload, 1) := by decide +kernel
theorem dX12_bill_112 : decode cX12_bill 112 = .ok (.ireturn, 1) := by decide +kernel
theorem dX12_sumBy_0 : decode cX12_sumBy 0 = .ok (.aload_n 0, 1) := by decide +kernel
theorem dX12_sumBy_1 : decode cX12_sumBy 1 = .ok (.iload_n 2, 1) := by decide +kernel
theorem dX12_sumBy_2 : decode cX12_sumBy 2 = .ok (.aload_n 0, 1) := by decide +kernel
theorem dX12_sumBy_3 : decode cX12_sumBy 3 = .ok (.getfield 240, 3) := by decide +kernel
theorem dX12_sumBy_6 : decode cX12_sumBy 6 = .ok (.invokevirtual 509, 3) := by decide +kernel
theorem dX12_sumBy_9 : decode cX12_sumBy 9 = .ok (.iconst 0, 1) := by decide +kernel
theorem dX12_sumBy_10 : decode cX12_sumBy 10 = .ok (.istore_n 3, 1) := by decide +kernel
theorem dX12_sumBy_11 : decode cX12_sumBy 11 = .ok (.iconst 0, 1) := by decide +kernel
theorem dX12_sumBy_12 : decode cX12_sumBy 12 = .ok (.istore 4, 2) := by decide +kernel
theorem dX12_sumBy_14 : decode cX12_sumBy 14 = .ok (.iconst 0, 1) := by decide +kernel
theorem dX12_sumBy_15 : decode cX12_sumBy 15 = .ok (.istore 5, 2) := by decide +kernel
theorem dX12_sumBy_17 : decode cX12_sumBy 17 = .ok (.iload 5, 2) := by decide +kernel
theorem dX12_sumBy_19 : decode cX12_sumBy 19 = .ok (.aload_n 0, 1) := by decide +kernel
theorem dX12_sumBy_20 : decode cX12_sumBy 20 = .ok (.getfield 240, 3) := by decide +kernel
theorem dX12_sumBy_23 : decode cX12_sumBy 23 = .ok (.if_icmp .ge 31, 3) := by decide +kernel
theorem dX12_sumBy_26 : decode cX12_sumBy 26 = .ok (.aload_n 0, 1) := by decide +kernel
theorem dX12_sumBy_27 : decode cX12_sumBy 27 = .ok (.iconst 0, 1) := by decide +kernel
theorem dX12_sumBy_28 : decode cX12_sumBy 28 = .ok (.aload_n 0, 1) := by decide +kernel
theorem dX12_sumBy_29 : decode cX12_sumBy 29 = .ok (.getfield 127, 3) := by decide +kernel
theorem dX12_sumBy_32 : decode cX12_sumBy 32 = .ok (.iload 5, 2) := by decide +kernel
theorem dX12_sumBy_34 : decode cX12_sumBy 34 = .ok (.iaload, 1) := by decide +kernel
theorem dX12_sumBy_35 : decode cX12_sumBy 35 = .ok (.iload_n 1, 1) := by decide +kernel
theorem dX12_sumBy_36 : decode cX12_sumBy 36 = .ok (.iload 4, 2) := by decide +kernel
theorem dX12_sumBy_38 : decode cX12_sumBy 38 = .ok (.invokevirtual 445, 3) := by decide +kernel
theorem dX12_sumBy_41 : decode cX12_sumBy 41 = .ok (.istore 4, 2) := by decide +kernel
theorem dX12_sumBy_43 : decode cX12_sumBy 43 = .ok (.iload_n 3, 1) := by decide +kernel
theorem dX12_sumBy_44 : decode cX12_sumBy 44 = .ok (.iload 4, 2) := by decide +kernel
theorem dX12_sumBy_46 : decode cX12_sumBy 46 = .ok (.iadd, 1) := by decide +kernel
theorem dX12_sumBy_47 : decode cX12_sumBy 47 = .ok (.istore_n 3, 1) := by decide +kernel
theorem dX12_sumBy_48 : decode cX12_sumBy 48 = .ok (.iinc 5 1, 3) := by decide +kernel
theorem dX12_sumBy_51 : decode cX12_sumBy 51 = .ok (.goto (-34), 3) := by decide +kernel
theorem dX12_sumBy_54 : decode cX12_sumBy 54 = .ok (.iload_n 3, 1) := by decide +kernel
theorem dX12_sumBy_55 : decode cX12_sumBy 55 = .ok (.ireturn, 1) := by decide +kernel
theorem dX12_seats_0 : decode cX12_seats 0 = .ok (.aload_n 0, 1) := by decide +kernel
theorem dX12_seats_1 : decode cX12_seats 1 = .ok (.iconst 0, 1) := by decide +kernel
theorem dX12_seats_2 : decode cX12_seats 2 = .ok (.putfield 157, 3) := by decide +kernel
theorem dX12_seats_5 : decode cX12_seats 5 = .ok (.aload_n 0, 1) := by decide +kernel
theorem dX12_seats_6 : decode cX12_seats 6 = .ok (.iload_n 1, 1) := by decide +kernel
theorem dX12_seats_7 : decode cX12_seats 7 = .ok (.invokevirtual 485, 3) := by decide +kernel
theorem dX12_seats_10 : decode cX12_seats 10 = .ok (.ifCond .eq 13, 3) := by decide +kernel
theorem dX12_seats_13 : decode cX12_seats 13 = .ok (.iload_n 2, 1) := by decide +kernel
theorem dX12_seats_14 : decode cX12_seats 14 = .ok (.iconst 0, 1) := by decide +kernel
theorem dX12_seats_15 : decode cX12_seats 15 = .ok (.bipush 6, 2) := by decide +kernel
theorem dX12_seats_17 : decode cX12_seats 17 = .ok (.invokestatic 202, 3) := by decide +kernel
theorem dX12_seats_20 : decode cX12_seats 20 = .ok (.ifCond .ne 7, 3) := by decide +kernel
theorem dX12_seats_23 : decode cX12_seats 23 = .ok (.ldc_w 496, 3) := by decide +kernel
theorem dX12_seats_26 : decode cX12_seats 26 = .ok (.ireturn, 1) := by decide +kernel
theorem dX12_seats_27 : decode cX12_seats 27 = .ok (.iload_n 2, 1) := by decide +kernel
theorem dX12_seats_28 : decode cX12_seats 28 = .ok (.bipush 6, 2) := by decide +kernel
theorem dX12_seats_30 : decode cX12_seats 30 = .ok (.if_icmp .ge 14, 3) := by decide +kernel
theorem dX12_seats_33 : decode cX12_seats 33 = .ok (.iload_n 2, 1) := by decide +kernel
theorem dX12_seats_34 : decode cX12_seats 34 = .ok (.aload_n 0, 1) := by decide +kernel
theorem dX12_seats_35 : decode cX12_seats 35 = .ok (.getfield 240, 3) := by decide +kernel
theorem dX12_seats_38 : decode cX12_seats 38 = .ok (.if_icmp .lt 6, 3) := by decide +kernel
theorem dX12_seats_41 : decode cX12_seats 41 = .ok (.bipush (-2), 2) := by decide +kernel
theorem dX12_seats_43 : decode cX12_seats 43 = .ok (.ireturn, 1) := by decide +kernel
theorem dX12_seats_44 : decode cX12_seats 44 = .ok (.aload_n 0, 1) := by decide +kernel
theorem dX12_seats_45 : decode cX12_seats 45 = .ok (.invokevirtual 365, 3) := by decide +kernel
theorem dX12_seats_48 : decode cX12_seats 48 = .ok (.iconst 0, 1) := by decide +kernel
theorem dX12_seats_49 : decode cX12_seats 49 = .ok (.istore_n 3, 1) := by decide +kernel
theorem dX12_seats_50 : decode cX12_seats 50 = .ok (.aload_n 0, 1) := by decide +kernel
theorem dX12_seats_51 : decode cX12_seats 51 = .ok (.iload_n 1, 1) := by decide +kernel
theorem dX12_seats_52 : decode cX12_seats 52 = .ok (.iconst 0, 1) := by decide +kernel
theorem dX12_seats_53 : decode cX12_seats 53 = .ok (.invokevirtual 518, 3) := by decide +kernel
theorem dX12_seats_56 : decode cX12_seats 56 = .ok (.istore 4, 2) := by decide +kernel
theorem dX12_seats_58 : decode cX12_seats 58 = .ok (.iconst 1, 1) := by decide +kernel
theorem dX12_seats_59 : decode cX12_seats 59 = .ok (.istore 5, 2) := by decide +kernel
theorem dX12_seats_61 : decode cX12_seats 61 = .ok (.iload 5, 2) := by decide +kernel
theorem dX12_seats_63 : decode cX12_seats 63 = .ok (.aload_n 0, 1) := by decide +kernel
theorem dX12_seats_64 : decode cX12_seats 64 = .ok (.getfield 240, 3) := by decide +kernel
theorem dX12_seats_67 : decode cX12_seats 67 = .ok (.invokestatic 515, 3) := by decide +kernel
theorem dX12_seats_70 : decode cX12_seats 70 = .ok (.if_icmp .ge 35, 3) := by decide +kernel
theorem dX12_seats_73 : decode cX12_seats 73 = .ok (.aload_n 0, 1) := by decide +kernel
theorem dX12_seats_74 : decode cX12_seats 74 = .ok (.iload_n 1, 1) := by decide +kernel
theorem dX12_seats_75 : decode cX12_seats 75 = .ok (.iload 5, 2) := by decide +kernel
theorem dX12_seats_77 : decode cX12_seats 77 = .ok (.invokevirtual 518, 3) := by decide +kernel
theorem dX12_seats_80 : decode cX12_seats 80 = .ok (.istore 6, 2) := by decide +kernel
theorem dX12_seats_82 : decode cX12_seats 82 = .ok (.iload 6, 2) := by decide +kernel
theorem dX12_seats_84 : decode cX12_seats 84 = .ok (.iload 4, 2) := by decide +kernel
theorem dX12_seats_86 : decode cX12_seats 86 = .ok (.if_icmp .gt 6, 3) := by decide +kernel
theorem dX12_seats_89 : decode cX12_seats 89 = .ok (.goto 10, 3) := by decide +kernel
theorem dX12_seats_92 : decode cX12_seats 92 = .ok (.iload 5, 2) := by decide +kernel
theorem dX12_seats_94 : decode cX12_seats 94 = .ok (.istore_n 3, 1) := by decide +kernel
theorem dX12_seats_95 : decode cX12_seats 95 = .ok (.iload 6, 2) := by decide +kernel
theorem dX12_seats_97 : decode cX12_seats 97 = .ok (.istore 4, 2) := by decide +kernel
theorem dX12_seats_99 : decode cX12_seats 99 = .ok (.iinc 5 1, 3) := by decide +kernel
theorem dX12_seats_102 : decode cX12_seats 102 = .ok (.goto (-41), 3) := by decide +kernel
theorem dX12_seats_105 : decode cX12_seats 105 = .ok (.aload_n 0, 1) := by decide +kernel
theorem dX12_seats_106 : decode cX12_seats 106 = .ok (.iload_n 3, 1) := by decide +kernel
theorem dX12_seats_107 : decode cX12_seats 107 = .ok (.aload_n 0, 1) := by decide +kernel
theorem dX12_seats_108 : decode cX12_seats 108 = .ok (.getfield 240, 3) := by decide +kernel
theorem dX12_seats_111 : decode cX12_seats 111 = .ok (.invokevirtual 509, 3) := by decide +kernel
theorem dX12_seats_114 : decode cX12_seats 114 = .ok (.iload_n 2, 1) := by decide +kernel
theorem dX12_seats_115 : decode cX12_seats 115 = .ok (.bipush 6, 2) := by decide +kernel
theorem dX12_seats_117 : decode cX12_seats 117 = .ok (.if_icmp .ne 8, 3) := by decide +kernel
theorem dX12_seats_120 : decode cX12_seats 120 = .ok (.iload 4, 2) := by decide +kernel
theorem dX12_seats_122 : decode cX12_seats 122 = .ok (.goto 9, 3) := by decide +kernel
theorem dX12_seats_125 : decode cX12_seats 125 = .ok (.aload_n 0, 1) := by decide +kernel
theorem dX12_seats_126 : decode cX12_seats 126 = .ok (.getfield 127, 3) := by decide +kernel
theorem dX12_seats_129 : decode cX12_seats 129 = .ok (.iload_n 2, 1) := by decide +kernel
theorem dX12_seats_130 : decode cX12_seats 130 = .ok (.iaload, 1) := by decide +kernel
theorem dX12_seats_131 : decode cX12_seats 131 = .ok (.ireturn, 1) := by decide +kernel
theorem dX12_manyOf_0 : decode cX12_manyOf 0 = .ok (.iconst 0, 1) := by decide +kernel
theorem dX12_manyOf_1 : decode cX12_manyOf 1 = .ok (.istore_n 1, 1) := by decide +kernel
theorem dX12_manyOf_2 : decode cX12_manyOf 2 = .ok (.iconst 0, 1) := by decide +kernel
theorem dX12_manyOf_3 : decode cX12_manyOf 3 = .ok (.istore_n 2, 1) := by decide +kernel
theorem dX12_manyOf_4 : decode cX12_manyOf 4 = .ok (.iload_n 2, 1) := by decide +kernel
theorem dX12_manyOf_5 : decode cX12_manyOf 5 = .ok (.bipush 10, 2) := by decide +kernel
theorem dX12_manyOf_7 : decode cX12_manyOf 7 = .ok (.if_icmp .ge 17, 3) := by decide +kernel
theorem dX12_manyOf_10 : decode cX12_manyOf 10 = .ok (.iload_n 1, 1) := by decide +kernel
theorem dX12_manyOf_11 : decode cX12_manyOf 11 = .ok (.iload_n 0, 1) := by decide +kernel
theorem dX12_manyOf_12 : decode cX12_manyOf 12 = .ok (.iload_n 2, 1) := by decide +kernel
theorem dX12_manyOf_13 : decode cX12_manyOf 13 = .ok (.ishr, 1) := by decide +kernel
theorem dX12_manyOf_14 : decode cX12_manyOf 14 = .ok (.iconst 1, 1) := by decide +kernel
theorem dX12_manyOf_15 : decode cX12_manyOf 15 = .ok (.iand, 1) := by decide +kernel
theorem dX12_manyOf_16 : decode cX12_manyOf 16 = .ok (.iadd, 1) := by decide +kernel
theorem dX12_manyOf_17 : decode cX12_manyOf 17 = .ok (.istore_n 1, 1) := by decide +kernel
theorem dX12_manyOf_18 : decode cX12_manyOf 18 = .ok (.iinc 2 1, 3) := by decide +kernel
theorem dX12_manyOf_21 : decode cX12_manyOf 21 = .ok (.goto (-17), 3) := by decide +kernel
theorem dX12_manyOf_24 : decode cX12_manyOf 24 = .ok (.iload_n 1, 1) := by decide +kernel
theorem dX12_manyOf_25 : decode cX12_manyOf 25 = .ok (.ireturn, 1) := by decide +kernel
theorem dX12_enough_0 : decode cX12_enough 0 = .ok (.aload_n 0, 1) := by decide +kernel
theorem dX12_enough_1 : decode cX12_enough 1 = .ok (.iconst 0, 1) := by decide +kernel
theorem dX12_enough_2 : decode cX12_enough 2 = .ok (.putfield 157, 3) := by decide +kernel
theorem dX12_enough_5 : decode cX12_enough 5 = .ok (.aload_n 0, 1) := by decide +kernel
theorem dX12_enough_6 : decode cX12_enough 6 = .ok (.iload_n 1, 1) := by decide +kernel
theorem dX12_enough_7 : decode cX12_enough 7 = .ok (.invokevirtual 485, 3) := by decide +kernel
theorem dX12_enough_10 : decode cX12_enough 10 = .ok (.ifCond .eq 13, 3) := by decide +kernel
theorem dX12_enough_13 : decode cX12_enough 13 = .ok (.iload_n 2, 1) := by decide +kernel
theorem dX12_enough_14 : decode cX12_enough 14 = .ok (.iconst 1, 1) := by decide +kernel
theorem dX12_enough_15 : decode cX12_enough 15 = .ok (.bipush 99, 2) := by decide +kernel
theorem dX12_enough_17 : decode cX12_enough 17 = .ok (.invokestatic 202, 3) := by decide +kernel
theorem dX12_enough_20 : decode cX12_enough 20 = .ok (.ifCond .ne 5, 3) := by decide +kernel
theorem dX12_enough_23 : decode cX12_enough 23 = .ok (.iconst (-1), 1) := by decide +kernel
theorem dX12_enough_24 : decode cX12_enough 24 = .ok (.ireturn, 1) := by decide +kernel
theorem dX12_enough_25 : decode cX12_enough 25 = .ok (.aload_n 0, 1) := by decide +kernel
theorem dX12_enough_26 : decode cX12_enough 26 = .ok (.invokevirtual 365, 3) := by decide +kernel
theorem dX12_enough_29 : decode cX12_enough 29 = .ok (.bipush (-2), 2) := by decide +kernel
theorem dX12_enough_31 : decode cX12_enough 31 = .ok (.istore_n 3, 1) := by decide +kernel
theorem dX12_enough_32 : decode cX12_enough 32 = .ok (.iconst 0, 1) := by decide +kernel
theorem dX12_enough_33 : decode cX12_enough 33 = .ok (.istore 4, 2) := by decide +kernel
theorem dX12_enough_35 : decode cX12_enough 35 = .ok (.iload 4, 2) := by decide +kernel
theorem dX12_enough_37 : decode cX12_enough 37 = .ok (.iconst 1, 1) := by decide +kernel
theorem dX12_enough_38 : decode cX12_enough 38 = .ok (.aload_n 0, 1) := by decide +kernel
theorem dX12_enough_39 : decode cX12_enough 39 = .ok (.getfield 240, 3) := by decide +kernel
theorem dX12_enough_42 : decode cX12_enough 42 = .ok (.ishl, 1) := by decide +kernel
theorem dX12_enough_43 : decode cX12_enough 43 = .ok (.if_icmp .ge 81, 3) := by decide +kernel
theorem dX12_enough_46 : decode cX12_enough 46 = .ok (.iconst 0, 1) := by decide +kernel
theorem dX12_enough_47 : decode cX12_enough 47 = .ok (.istore 5, 2) := by decide +kernel
theorem dX12_enough_49 : decode cX12_enough 49 = .ok (.iconst 0, 1) := by decide +kernel
theorem dX12_enough_50 : decode cX12_enough 50 = .ok (.istore 6, 2) := by decide +kernel
theorem dX12_enough_52 : decode cX12_enough 52 = .ok (.iload 6, 2) := by decide +kernel
theorem dX12_enough_54 : decode cX12_enough 54 = .ok (.aload_n 0, 1) := by decide +kernel
theorem dX12_enough_55 : decode cX12_enough 55 = .ok (.getfield 240, 3) := by decide +kernel
theorem dX12_enough_58 : decode cX12_enough 58 = .ok (.if_icmp .ge 35, 3) := by decide +kernel
theorem dX12_enough_61 : decode cX12_enough 61 = .ok (.iload 5, 2) := by decide +kernel
theorem dX12_enough_63 : decode cX12_enough 63 = .ok (.iload 4, 2) := by decide +kernel
theorem dX12_enough_65 : decode cX12_enough 65 = .ok (.iload 6, 2) := by decide +kernel
theorem dX12_enough_67 : decode cX12_enough 67 = .ok (.invokestatic 503, 3) := by decide +kernel
theorem dX12_enough_70 : decode cX12_enough 70 = .ok (.ifCond .eq 13, 3) := by decide +kernel
theorem dX12_enough_73 : decode cX12_enough 73 = .ok (.aload_n 0, 1) := by decide +kernel
theorem dX12_enough_74 : decode cX12_enough 74 = .ok (.iload 6, 2) := by decide +kernel
theorem dX12_enough_76 : decode cX12_enough 76 = .ok (.iload_n 1, 1) := by decide +kernel
theorem dX12_enough_77 : decode cX12_enough 77 = .ok (.invokevirtual 427, 3) := by decide +kernel
theorem dX12_enough_80 : decode cX12_enough 80 = .ok (.goto 4, 3) := by decide +kernel
theorem dX12_enough_83 : decode cX12_enough 83 = .ok (.iconst 0, 1) := by decide +kernel
theorem dX12_enough_84 : decode cX12_enough 84 = .ok (.iadd, 1) := by decide +kernel
theorem dX12_enough_85 : decode cX12_enough 85 = .ok (.istore 5, 2) := by decide +kernel
theorem dX12_enough_87 : decode cX12_enough 87 = .ok (.iinc 6 1, 3) := by decide +kernel
theorem dX12_enough_90 : decode cX12_enough 90 = .ok (.goto (-38), 3) := by decide +kernel
theorem dX12_enough_93 : decode cX12_enough 93 = .ok (.iload 5, 2) := by decide +kernel
theorem dX12_enough_95 : decode cX12_enough 95 = .ok (.iload_n 2, 1) := by decide +kernel
theorem dX12_enough_96 : decode cX12_enough 96 = .ok (.if_icmp .lt 22, 3) := by decide +kernel
theorem dX12_enough_99 : decode cX12_enough 99 = .ok (.iload_n 3, 1) := by decide +kernel
theorem dX12_enough_100 : decode cX12_enough 100 = .ok (.ifCond .lt 15, 3) := by decide +kernel
theorem dX12_enough_103 : decode cX12_enough 103 = .ok (.iload 4, 2) := by decide +kernel
theorem dX12_enough_105 : decode cX12_enough 105 = .ok (.invokestatic 521, 3) := by decide +kernel
theorem dX12_enough_108 : decode cX12_enough 108 = .ok (.iload_n 3, 1) := by decide +kernel
theorem dX12_enough_109 : decode cX12_enough 109 = .ok (.invokestatic 521, 3) := by decide +kernel
theorem dX12_enough_112 : decode cX12_enough 112 = .ok (.if_icmp .ge 6, 3) := by decide +kernel
theorem dX12_enough_115 : decode cX12_enough 115 = .ok (.iload 4, 2) := by decide +kernel
theorem dX12_enough_117 : decode cX12_enough 117 = .ok (.istore_n 3, 1) := by decide +kernel
theorem dX12_enough_118 : decode cX12_enough 118 = .ok (.iinc 4 1, 3) := by decide +kernel
theorem dX12_enough_121 : decode cX12_enough 121 = .ok (.goto (-86), 3) := by decide +kernel
theorem dX12_enough_124 : decode cX12_enough 124 = .ok (.iload_n 3, 1) := by decide +kernel
theorem dX12_enough_125 : decode cX12_enough 125 = .ok (.ireturn, 1) := by decide +kernel
theorem dX12_span_0 : decode cX12_span 0 = .ok (.aload_n 0, 1) := by decide +kernel
theorem dX12_span_1 : decode cX12_span 1 = .ok (.iconst 0, 1) := by decide +kernel
theorem dX12_span_2 : decode cX12_span 2 = .ok (.putfield 157, 3) := by decide +kernel
theorem dX12_span_5 : decode cX12_span 5 = .ok (.aload_n 0, 1) := by decide +kernel
theorem dX12_span_6 : decode cX12_span 6 = .ok (.iload_n 1, 1) := by decide +kernel
theorem dX12_span_7 : decode cX12_span 7 = .ok (.invokevirtual 488, 3) := by decide +kernel
theorem dX12_span_10 : decode cX12_span 10 = .ok (.ifCond .ne 5, 3) := by decide +kernel
theorem dX12_span_13 : decode cX12_span 13 = .ok (.iconst (-1), 1) := by decide +kernel
theorem dX12_span_14 : decode cX12_span 14 = .ok (.ireturn, 1) := by decide +kernel
theorem dX12_span_15 : decode cX12_span 15 = .ok (.iconst 0, 1) := by decide +kernel
theorem dX12_span_16 : decode cX12_span 16 = .ok (.istore_n 2, 1) := by decide +kernel
theorem dX12_span_17 : decode cX12_span 17 = .ok (.iconst 1, 1) := by decide +kernel
theorem dX12_span_18 : decode cX12_span 18 = .ok (.istore_n 3, 1) := by decide +kernel
theorem dX12_span_19 : decode cX12_span 19 = .ok (.iload_n 3, 1) := by decide +kernel
theorem dX12_span_20 : decode cX12_span 20 = .ok (.bipush 100, 2) := by decide +kernel
theorem dX12_span_22 : decode cX12_span 22 = .ok (.if_icmp .ge 27, 3) := by decide +kernel
theorem dX12_span_25 : decode cX12_span 25 = .ok (.iload_n 2, 1) := by decide +kernel
theorem dX12_span_26 : decode cX12_span 26 = .ok (.aload_n 0, 1) := by decide +kernel
theorem dX12_span_27 : decode cX12_span 27 = .ok (.iconst 0, 1) := by decide +kernel
theorem dX12_span_28 : decode cX12_span 28 = .ok (.iload_n 3, 1) := by decide +kernel
theorem dX12_span_29 : decode cX12_span 29 = .ok (.invokevirtual 451, 3) := by decide +kernel
theorem dX12_span_32 : decode cX12_span 32 = .ok (.iload_n 1, 1) := by decide +kernel
theorem dX12_span_33 : decode cX12_span 33 = .ok (.if_icmp .ne 7, 3) := by decide +kernel
theorem dX12_span_36 : decode cX12_span 36 = .ok (.iconst 1, 1) := by decide +kernel
theorem dX12_span_37 : decode cX12_span 37 = .ok (.goto 4, 3) := by decide +kernel
theorem dX12_span_40 : decode cX12_span 40 = .ok (.iconst 0, 1) := by decide +kernel
theorem dX12_span_41 : decode cX12_span 41 = .ok (.iadd, 1) := by decide +kernel
theorem dX12_span_42 : decode cX12_span 42 = .ok (.istore_n 2, 1) := by decide +kernel
theorem dX12_span_43 : decode cX12_span 43 = .ok (.iinc 3 1, 3) := by decide +kernel
theorem dX12_span_46 : decode cX12_span 46 = .ok (.goto (-27), 3) := by decide +kernel
theorem dX12_span_49 : decode cX12_span 49 = .ok (.iload_n 2, 1) := by decide +kernel
theorem dX12_span_50 : decode cX12_span 50 = .ok (.ireturn, 1) := by decide +kernel
theorem dX12_pushFor_0 : decode cX12_pushFor 0 = .ok (.aload_n 0, 1) := by decide +kernel
theorem dX12_pushFor_1 : decode cX12_pushFor 1 = .ok (.iconst 0, 1) := by decide +kernel
theorem dX12_pushFor_2 : decode cX12_pushFor 2 = .ok (.putfield 157, 3) := by decide +kernel
theorem dX12_pushFor_5 : decode cX12_pushFor 5 = .ok (.iload_n 1, 1) := by decide +kernel
theorem dX12_pushFor_6 : decode cX12_pushFor 6 = .ok (.iconst 0, 1) := by decide +kernel
theorem dX12_pushFor_7 : decode cX12_pushFor 7 = .ok (.bipush 60, 2) := by decide +kernel
theorem dX12_pushFor_9 : decode cX12_pushFor 9 = .ok (.invokestatic 202, 3) := by decide +kernel
theorem dX12_pushFor_12 : decode cX12_pushFor 12 = .ok (.ifCond .eq 13, 3) := by decide +kernel
theorem dX12_pushFor_15 : decode cX12_pushFor 15 = .ok (.iload_n 2, 1) := by decide +kernel
theorem dX12_pushFor_16 : decode cX12_pushFor 16 = .ok (.iconst 1, 1) := by decide +kernel
theorem dX12_pushFor_17 : decode cX12_pushFor 17 = .ok (.bipush 99, 2) := by decide +kernel
theorem dX12_pushFor_19 : decode cX12_pushFor 19 = .ok (.invokestatic 202, 3) := by decide +kernel
theorem dX12_pushFor_22 : decode cX12_pushFor 22 = .ok (.ifCond .ne 5, 3) := by decide +kernel
theorem dX12_pushFor_25 : decode cX12_pushFor 25 = .ok (.iconst (-1), 1) := by decide +kernel
theorem dX12_pushFor_26 : decode cX12_pushFor 26 = .ok (.ireturn, 1) := by decide +kernel
theorem dX12_pushFor_27 : decode cX12_pushFor 27 = .ok (.iconst 0, 1) := by decide +kernel
theorem dX12_pushFor_28 : decode cX12_pushFor 28 = .ok (.istore_n 3, 1) := by decide +kernel
theorem dX12_pushFor_29 : decode cX12_pushFor 29 = .ok (.iload_n 3, 1) := by decide +kernel
theorem dX12_pushFor_30 : decode cX12_pushFor 30 = .ok (.bipush 100, 2) := by decide +kernel
theorem dX12_pushFor_32 : decode cX12_pushFor 32 = .ok (.if_icmp .ge 42, 3) := by decide +kernel
theorem dX12_pushFor_35 : decode cX12_pushFor 35 = .ok (.aload_n 0, 1) := by decide +kernel
theorem dX12_pushFor_36 : decode cX12_pushFor 36 = .ok (.invokevirtual 497, 3) := by decide +kernel
theorem dX12_pushFor_39 : decode cX12_pushFor 39 = .ok (.aload_n 0, 1) := by decide +kernel
theorem dX12_pushFor_40 : decode cX12_pushFor 40 = .ok (.getfield 100, 3) := by decide +kernel
theorem dX12_pushFor_43 : decode cX12_pushFor 43 = .ok (.iconst 1, 1) := by decide +kernel
theorem dX12_pushFor_44 : decode cX12_pushFor 44 = .ok (.iload_n 3, 1) := by decide +kernel
theorem dX12_pushFor_45 : decode cX12_pushFor 45 = .ok (.iastore, 1) := by decide +kernel
theorem dX12_pushFor_46 : decode cX12_pushFor 46 = .ok (.aload_n 0, 1) := by decide +kernel
theorem dX12_pushFor_47 : decode cX12_pushFor 47 = .ok (.iload_n 1, 1) := by decide +kernel
theorem dX12_pushFor_48 : decode cX12_pushFor 48 = .ok (.invokevirtual 500, 3) := by decide +kernel
theorem dX12_pushFor_51 : decode cX12_pushFor 51 = .ok (.aload_n 0, 1) := by decide +kernel
theorem dX12_pushFor_52 : decode cX12_pushFor 52 = .ok (.iconst 1, 1) := by decide +kernel
theorem dX12_pushFor_53 : decode cX12_pushFor 53 = .ok (.invokevirtual 410, 3) := by decide +kernel
theorem dX12_pushFor_56 : decode cX12_pushFor 56 = .ok (.aload_n 0, 1) := by decide +kernel
theorem dX12_pushFor_57 : decode cX12_pushFor 57 = .ok (.iconst 0, 1) := by decide +kernel
theorem dX12_pushFor_58 : decode cX12_pushFor 58 = .ok (.invokevirtual 410, 3) := by decide +kernel
theorem dX12_pushFor_61 : decode cX12_pushFor 61 = .ok (.isub, 1) := by decide +kernel
theorem dX12_pushFor_62 : decode cX12_pushFor 62 = .ok (.iload_n 2, 1) := by decide +kernel
theorem dX12_pushFor_63 : decode cX12_pushFor 63 = .ok (.if_icmp .lt 5, 3) := by decide +kernel
theorem dX12_pushFor_66 : decode cX12_pushFor 66 = .ok (.iload_n 3, 1) := by decide +kernel
theorem dX12_pushFor_67 : decode cX12_pushFor 67 = .ok (.ireturn, 1) := by decide +kernel
theorem dX12_pushFor_68 : decode cX12_pushFor 68 = .ok (.iinc 3 1, 3) := by decide +kernel
theorem dX12_pushFor_71 : decode cX12_pushFor 71 = .ok (.goto (-42), 3) := by decide +kernel
theorem dX12_pushFor_74 : decode cX12_pushFor 74 = .ok (.bipush (-2), 2) := by decide +kernel
theorem dX12_pushFor_76 : decode cX12_pushFor 76 = .ok (.ireturn, 1) := by decide +kernel
theorem dX12_silence_0 : decode cX12_silence 0 = .ok (.aload_n 0, 1) := by decide +kernel
theorem dX12_silence_1 : decode cX12_silence 1 = .ok (.iconst 0, 1) := by decide +kernel
theorem dX12_silence_2 : decode cX12_silence 2 = .ok (.putfield 157, 3) := by decide +kernel
theorem dX12_silence_5 : decode cX12_silence 5 = .ok (.iload_n 1, 1) := by decide +kernel
theorem dX12_silence_6 : decode cX12_silence 6 = .ok (.iconst 0, 1) := by decide +kernel
theorem dX12_silence_7 : decode cX12_silence 7 = .ok (.sipush 200, 3) := by decide +kernel
theorem dX12_silence_10 : decode cX12_silence 10 = .ok (.invokestatic 202, 3) := by decide +kernel
theorem dX12_silence_13 : decode cX12_silence 13 = .ok (.ifCond .ne 5, 3) := by decide +kernel
theorem dX12_silence_16 : decode cX12_silence 16 = .ok (.iconst (-1), 1) := by decide +kernel
theorem dX12_silence_17 : decode cX12_silence 17 = .ok (.ireturn, 1) := by decide +kernel
theorem dX12_silence_18 : decode cX12_silence 18 = .ok (.aload_n 0, 1) := by decide +kernel
theorem dX12_silence_19 : decode cX12_silence 19 = .ok (.invokevirtual 497, 3) := by decide +kernel
theorem dX12_silence_22 : decode cX12_silence 22 = .ok (.iconst 0, 1) := by decide +kernel
theorem dX12_silence_23 : decode cX12_silence 23 = .ok (.istore_n 2, 1) := by decide +kernel
theorem dX12_silence_24 : decode cX12_silence 24 = .ok (.iconst 0, 1) := by decide +kernel
theorem dX12_silence_25 : decode cX12_silence 25 = .ok (.istore_n 3, 1) := by decide +kernel
theorem dX12_silence_26 : decode cX12_silence 26 = .ok (.iconst 0, 1) := by decide +kernel
theorem dX12_silence_27 : decode cX12_silence 27 = .ok (.istore 4, 2) := by decide +kernel
theorem dX12_silence_29 : decode cX12_silence 29 = .ok (.iload 4, 2) := by decide +kernel
theorem dX12_silence_31 : decode cX12_silence 31 = .ok (.iload_n 1, 1) := by decide +kernel
theorem dX12_silence_32 : decode cX12_silence 32 = .ok (.if_icmp .ge 42, 3) := by decide +kernel
theorem dX12_silence_35 : decode cX12_silence 35 = .ok (.aload_n 0, 1) := by decide +kernel
theorem dX12_silence_36 : decode cX12_silence 36 = .ok (.iconst 1, 1) := by decide +kernel
theorem dX12_silence_37 : decode cX12_silence 37 = .ok (.invokevirtual 473, 3) := by decide +kernel
theorem dX12_silence_40 : decode cX12_silence 40 = .ok (.aload_n 0, 1) := by decide +kernel
theorem dX12_silence_41 : decode cX12_silence 41 = .ok (.getfield 100, 3) := by decide +kernel
theorem dX12_silence_44 : decode cX12_silence 44 = .ok (.iconst 1, 1) := by decide +kernel
theorem dX12_silence_45 : decode cX12_silence 45 = .ok (.iaload, 1) := by decide +kernel
theorem dX12_silence_46 : decode cX12_silence 46 = .ok (.ifCond .ne 9, 3) := by decide +kernel
theorem dX12_silence_49 : decode cX12_silence 49 = .ok (.iload_n 3, 1) := by decide +kernel
theorem dX12_silence_50 : decode cX12_silence 50 = .ok (.iconst 1, 1) := by decide +kernel
theorem dX12_silence_51 : decode cX12_silence 51 = .ok (.iadd, 1) := by decide +kernel
theorem dX12_silence_52 : decode cX12_silence 52 = .ok (.goto 4, 3) := by decide +kernel
theorem dX12_silence_55 : decode cX12_silence 55 = .ok (.iconst 0, 1) := by decide +kernel
theorem dX12_silence_56 : decode cX12_silence 56 = .ok (.istore_n 3, 1) := by decide +kernel
theorem dX12_silence_57 : decode cX12_silence 57 = .ok (.iload_n 3, 1) := by decide +kernel
theorem dX12_silence_58 : decode cX12_silence 58 = .ok (.iload_n 2, 1) := by decide +kernel
theorem dX12_silence_59 : decode cX12_silence 59 = .ok (.if_icmp .le 7, 3) := by decide +kernel
theorem dX12_silence_62 : decode cX12_silence 62 = .ok (.iload_n 3, 1) := by decide +kernel
theorem dX12_silence_63 : decode cX12_silence 63 = .ok (.goto 4, 3) := by decide +kernel
theorem dX12_silence_66 : decode cX12_silence 66 = .ok (.iload_n 2, 1) := by decide +kernel
theorem dX12_silence_67 : decode cX12_silence 67 = .ok (.istore_n 2, 1) := by decide +kernel
theorem dX12_silence_68 : decode cX12_silence 68 = .ok (.iinc 4 1, 3) := by decide +kernel
theorem dX12_silence_71 : decode cX12_silence 71 = .ok (.goto (-42), 3) := by decide +kernel
theorem dX12_silence_74 : decode cX12_silence 74 = .ok (.iload_n 2, 1) := by decide +kernel
theorem dX12_silence_75 : decode cX12_silence 75 = .ok (.ireturn, 1) := by decide +kernel
theorem dX12_game_0 : decode cX12_game 0 = .ok (.aload_n 0, 1) := by decide +kernel
theorem dX12_game_1 : decode cX12_game 1 = .ok (.iconst 0, 1) := by decide +kernel
theorem dX12_game_2 : decode cX12_game 2 = .ok (.putfield 157, 3) := by decide +kernel
theorem dX12_game_5 : decode cX12_game 5 = .ok (.aload_n 0, 1) := by decide +kernel
theorem dX12_game_6 : decode cX12_game 6 = .ok (.iload_n 1, 1) := by decide +kernel
theorem dX12_game_7 : decode cX12_game 7 = .ok (.invokevirtual 488, 3) := by decide +kernel
theorem dX12_game_10 : decode cX12_game 10 = .ok (.ifCond .eq 12, 3) := by decide +kernel
theorem dX12_game_13 : decode cX12_game 13 = .ok (.iload_n 2, 1) := by decide +kernel
theorem dX12_game_14 : decode cX12_game 14 = .ok (.iconst 0, 1) := by decide +kernel
theorem dX12_game_15 : decode cX12_game 15 = .ok (.iconst 1, 1) := by decide +kernel
theorem dX12_game_16 : decode cX12_game 16 = .ok (.invokestatic 202, 3) := by decide +kernel
theorem dX12_game_19 : decode cX12_game 19 = .ok (.ifCond .ne 5, 3) := by decide +kernel
theorem dX12_game_22 : decode cX12_game 22 = .ok (.iconst (-1), 1) := by decide +kernel
theorem dX12_game_23 : decode cX12_game 23 = .ok (.ireturn, 1) := by decide +kernel
theorem dX12_game_24 : decode cX12_game 24 = .ok (.aload_n 0, 1) := by decide +kernel
theorem dX12_game_25 : decode cX12_game 25 = .ok (.getfield 51, 3) := by decide +kernel
theorem dX12_game_28 : decode cX12_game 28 = .ok (.iload_n 1, 1) := by decide +kernel
theorem dX12_game_29 : decode cX12_game 29 = .ok (.iaload, 1) := by decide +kernel
theorem dX12_game_30 : decode cX12_game 30 = .ok (.aload_n 0, 1) := by decide +kernel
theorem dX12_game_31 : decode cX12_game 31 = .ok (.getfield 100, 3) := by decide +kernel
theorem dX12_game_34 : decode cX12_game 34 = .ok (.iconst 0, 1) := by decide +kernel
theorem dX12_game_35 : decode cX12_game 35 = .ok (.iaload, 1) := by decide +kernel
theorem dX12_game_36 : decode cX12_game 36 = .ok (.isub, 1) := by decide +kernel
theorem dX12_game_37 : decode cX12_game 37 = .ok (.istore_n 3, 1) := by decide +kernel
theorem dX12_game_38 : decode cX12_game 38 = .ok (.iload_n 3, 1) := by decide +kernel
theorem dX12_game_39 : decode cX12_game 39 = .ok (.ifCond .ge 14, 3) := by decide +kernel
theorem dX12_game_42 : decode cX12_game 42 = .ok (.iload_n 2, 1) := by decide +kernel
theorem dX12_game_43 : decode cX12_game 43 = .ok (.ifCond .ne 7, 3) := by decide +kernel
theorem dX12_game_46 : decode cX12_game 46 = .ok (.iconst 2, 1) := by decide +kernel
theorem dX12_game_47 : decode cX12_game 47 = .ok (.goto 5, 3) := by decide +kernel
theorem dX12_game_50 : decode cX12_game 50 = .ok (.bipush (-2), 2) := by decide +kernel
theorem dX12_game_52 : decode cX12_game 52 = .ok (.ireturn, 1) := by decide +kernel
theorem dX12_game_53 : decode cX12_game 53 = .ok (.iload_n 3, 1) := by decide +kernel
theorem dX12_game_54 : decode cX12_game 54 = .ok (.iconst 4, 1) := by decide +kernel
theorem dX12_game_55 : decode cX12_game 55 = .ok (.irem, 1) := by decide +kernel
theorem dX12_game_56 : decode cX12_game 56 = .ok (.istore 4, 2) := by decide +kernel
theorem dX12_game_58 : decode cX12_game 58 = .ok (.iload_n 2, 1) := by decide +kernel
theorem dX12_game_59 : decode cX12_game 59 = .ok (.ifCond .ne 16, 3) := by decide +kernel
theorem dX12_game_62 : decode cX12_game 62 = .ok (.iload 4, 2) := by decide +kernel
theorem dX12_game_64 : decode cX12_game 64 = .ok (.ifCond .ne 7, 3) := by decide +kernel
theorem dX12_game_67 : decode cX12_game 67 = .ok (.iconst 1, 1) := by decide +kernel
theorem dX12_game_68 : decode cX12_game 68 = .ok (.goto 19, 3) := by decide +kernel
theorem dX12_game_71 : decode cX12_game 71 = .ok (.iconst 0, 1) := by decide +kernel
theorem dX12_game_72 : decode cX12_game 72 = .ok (.goto 15, 3) := by decide +kernel
theorem dX12_game_75 : decode cX12_game 75 = .ok (.iload 4, 2) := by decide +kernel
theorem dX12_game_77 : decode cX12_game 77 = .ok (.ifCond .ne 8, 3) := by decide +kernel
theorem dX12_game_80 : decode cX12_game 80 = .ok (.bipush (-2), 2) := by decide +kernel
theorem dX12_game_82 : decode cX12_game 82 = .ok (.goto 5, 3) := by decide +kernel
theorem dX12_game_85 : decode cX12_game 85 = .ok (.iload 4, 2) := by decide +kernel
theorem dX12_game_87 : decode cX12_game 87 = .ok (.ireturn, 1) := by decide +kernel
theorem dX12_hasBy_0 : decode cX12_hasBy 0 = .ok (.iload_n 3, 1) := by decide +kernel
theorem dX12_hasBy_1 : decode cX12_hasBy 1 = .ok (.iconst 1, 1) := by decide +kernel
theorem dX12_hasBy_2 : decode cX12_hasBy 2 = .ok (.if_icmp .ne 14, 3) := by decide +kernel
theorem dX12_hasBy_5 : decode cX12_hasBy 5 = .ok (.iload 4, 2) := by decide +kernel
theorem dX12_hasBy_7 : decode cX12_hasBy 7 = .ok (.ifCond .ne 7, 3) := by decide +kernel
theorem dX12_hasBy_10 : decode cX12_hasBy 10 = .ok (.iconst 1, 1) := by decide +kernel
theorem dX12_hasBy_11 : decode cX12_hasBy 11 = .ok (.goto 4, 3) := by decide +kernel
theorem dX12_hasBy_14 : decode cX12_hasBy 14 = .ok (.iconst 0, 1) := by decide +kernel
theorem dX12_hasBy_15 : decode cX12_hasBy 15 = .ok (.ireturn, 1) := by decide +kernel
theorem dX12_hasBy_16 : decode cX12_hasBy 16 = .ok (.iload 4, 2) := by decide +kernel
theorem dX12_hasBy_18 : decode cX12_hasBy 18 = .ok (.ifCond .ne 23, 3) := by decide +kernel
theorem dX12_hasBy_21 : decode cX12_hasBy 21 = .ok (.aload_n 0, 1) := by decide +kernel
theorem dX12_hasBy_22 : decode cX12_hasBy 22 = .ok (.iload_n 1, 1) := by decide +kernel
theorem dX12_hasBy_23 : decode cX12_hasBy 23 = .ok (.iload_n 2, 1) := by decide +kernel
theorem dX12_hasBy_24 : decode cX12_hasBy 24 = .ok (.invokevirtual 427, 3) := by decide +kernel
theorem dX12_hasBy_27 : decode cX12_hasBy 27 = .ok (.iconst 2, 1) := by decide +kernel
theorem dX12_hasBy_28 : decode cX12_hasBy 28 = .ok (.iadd, 1) := by decide +kernel
theorem dX12_hasBy_29 : decode cX12_hasBy 29 = .ok (.aload_n 0, 1) := by decide +kernel
theorem dX12_hasBy_30 : decode cX12_hasBy 30 = .ok (.getfield 42, 3) := by decide +kernel
theorem dX12_hasBy_33 : decode cX12_hasBy 33 = .ok (.iload_n 1, 1) := by decide +kernel
theorem dX12_hasBy_34 : decode cX12_hasBy 34 = .ok (.iaload, 1) := by decide +kernel
theorem dX12_hasBy_35 : decode cX12_hasBy 35 = .ok (.iconst 3, 1) := by decide +kernel
theorem dX12_hasBy_36 : decode cX12_hasBy 36 = .ok (.idiv, 1) := by decide +kernel
theorem dX12_hasBy_37 : decode cX12_hasBy 37 = .ok (.isub, 1) := by decide +kernel
theorem dX12_hasBy_38 : decode cX12_hasBy 38 = .ok (.goto 18, 3) := by decide +kernel
theorem dX12_hasBy_41 : decode cX12_hasBy 41 = .ok (.aload_n 0, 1) := by decide +kernel
theorem dX12_hasBy_42 : decode cX12_hasBy 42 = .ok (.iload_n 1, 1) := by decide +kernel
theorem dX12_hasBy_43 : decode cX12_hasBy 43 = .ok (.iload_n 2, 1) := by decide +kernel
theorem dX12_hasBy_44 : decode cX12_hasBy 44 = .ok (.invokevirtual 427, 3) := by decide +kernel
theorem dX12_hasBy_47 : decode cX12_hasBy 47 = .ok (.aload_n 0, 1) := by decide +kernel
theorem dX12_hasBy_48 : decode cX12_hasBy 48 = .ok (.getfield 42, 3) := by decide +kernel
theorem dX12_hasBy_51 : decode cX12_hasBy 51 = .ok (.iload_n 1, 1) := by decide +kernel
theorem dX12_hasBy_52 : decode cX12_hasBy 52 = .ok (.iaload, 1) := by decide +kernel
theorem dX12_hasBy_53 : decode cX12_hasBy 53 = .ok (.iconst 2, 1) := by decide +kernel
theorem dX12_hasBy_54 : decode cX12_hasBy 54 = .ok (.idiv, 1) := by decide +kernel
theorem dX12_hasBy_55 : decode cX12_hasBy 55 = .ok (.isub, 1) := by decide +kernel
theorem dX12_hasBy_56 : decode cX12_hasBy 56 = .ok (.ireturn, 1) := by decide +kernel
theorem dX12_restAt_0 : decode cX12_restAt 0 = .ok (.iconst 0, 1) := by decide +kernel
theorem dX12_restAt_1 : decode cX12_restAt 1 = .ok (.istore 5, 2) := by decide +kernel
theorem dX12_restAt_3 : decode cX12_restAt 3 = .ok (.iconst 0, 1) := by decide +kernel
theorem dX12_restAt_4 : decode cX12_restAt 4 = .ok (.istore 6, 2) := by decide +kernel
theorem dX12_restAt_6 : decode cX12_restAt 6 = .ok (.iload 6, 2) := by decide +kernel
theorem dX12_restAt_8 : decode cX12_restAt 8 = .ok (.iconst 4, 1) := by decide +kernel
theorem dX12_restAt_9 : decode cX12_restAt 9 = .ok (.if_icmp .ge 93, 3) := by decide +kernel
theorem dX12_restAt_12 : decode cX12_restAt 12 = .ok (.iload 6, 2) := by decide +kernel
theorem dX12_restAt_14 : decode cX12_restAt 14 = .ok (.iconst 2, 1) := by decide +kernel
theorem dX12_restAt_15 : decode cX12_restAt 15 = .ok (.idiv, 1) := by decide +kernel
theorem dX12_restAt_16 : decode cX12_restAt 16 = .ok (.istore 7, 2) := by decide +kernel
theorem dX12_restAt_18 : decode cX12_restAt 18 = .ok (.iload 6, 2) := by decide +kernel
theorem dX12_restAt_20 : decode cX12_restAt 20 = .ok (.iconst 2, 1) := by decide +kernel
theorem dX12_restAt_21 : decode cX12_restAt 21 = .ok (.irem, 1) := by decide +kernel
theorem dX12_restAt_22 : decode cX12_restAt 22 = .ok (.istore 8, 2) := by decide +kernel
theorem dX12_restAt_24 : decode cX12_restAt 24 = .ok (.aload_n 0, 1) := by decide +kernel
theorem dX12_restAt_25 : decode cX12_restAt 25 = .ok (.iload_n 1, 1) := by decide +kernel
theorem dX12_restAt_26 : decode cX12_restAt 26 = .ok (.iload_n 3, 1) := by decide +kernel
theorem dX12_restAt_27 : decode cX12_restAt 27 = .ok (.iconst 1, 1) := by decide +kernel
theorem dX12_restAt_28 : decode cX12_restAt 28 = .ok (.iload 7, 2) := by decide +kernel
theorem dX12_restAt_30 : decode cX12_restAt 30 = .ok (.isub, 1) := by decide +kernel
theorem dX12_restAt_31 : decode cX12_restAt 31 = .ok (.iload 8, 2) := by decide +kernel
theorem dX12_restAt_33 : decode cX12_restAt 33 = .ok (.invokevirtual 524, 3) := by decide +kernel
theorem dX12_restAt_36 : decode cX12_restAt 36 = .ok (.aload_n 0, 1) := by decide +kernel
theorem dX12_restAt_37 : decode cX12_restAt 37 = .ok (.iload_n 1, 1) := by decide +kernel
theorem dX12_restAt_38 : decode cX12_restAt 38 = .ok (.iload_n 3, 1) := by decide +kernel
theorem dX12_restAt_39 : decode cX12_restAt 39 = .ok (.iload 7, 2) := by decide +kernel
theorem dX12_restAt_41 : decode cX12_restAt 41 = .ok (.iload 8, 2) := by decide +kernel
theorem dX12_restAt_43 : decode cX12_restAt 43 = .ok (.invokevirtual 524, 3) := by decide +kernel
theorem dX12_restAt_46 : decode cX12_restAt 46 = .ok (.if_icmp .gt 50, 3) := by decide +kernel
theorem dX12_restAt_49 : decode cX12_restAt 49 = .ok (.aload_n 0, 1) := by decide +kernel
theorem dX12_restAt_50 : decode cX12_restAt 50 = .ok (.iload_n 2, 1) := by decide +kernel
theorem dX12_restAt_51 : decode cX12_restAt 51 = .ok (.iload_n 3, 1) := by decide +kernel
theorem dX12_restAt_52 : decode cX12_restAt 52 = .ok (.iconst 1, 1) := by decide +kernel
theorem dX12_restAt_53 : decode cX12_restAt 53 = .ok (.iload 8, 2) := by decide +kernel
theorem dX12_restAt_55 : decode cX12_restAt 55 = .ok (.isub, 1) := by decide +kernel
theorem dX12_restAt_56 : decode cX12_restAt 56 = .ok (.iload 7, 2) := by decide +kernel
theorem dX12_restAt_58 : decode cX12_restAt 58 = .ok (.invokevirtual 524, 3) := by decide +kernel
theorem dX12_restAt_61 : decode cX12_restAt 61 = .ok (.aload_n 0, 1) := by decide +kernel
theorem dX12_restAt_62 : decode cX12_restAt 62 = .ok (.iload_n 2, 1) := by decide +kernel
theorem dX12_restAt_63 : decode cX12_restAt 63 = .ok (.iload_n 3, 1) := by decide +kernel
theorem dX12_restAt_64 : decode cX12_restAt 64 = .ok (.iload 8, 2) := by decide +kernel
theorem dX12_restAt_66 : decode cX12_restAt 66 = .ok (.iload 7, 2) := by decide +kernel
theorem dX12_restAt_68 : decode cX12_restAt 68 = .ok (.invokevirtual 524, 3) := by decide +kernel
theorem dX12_restAt_71 : decode cX12_restAt 71 = .ok (.if_icmp .le 6, 3) := by decide +kernel
theorem dX12_restAt_74 : decode cX12_restAt 74 = .ok (.goto 22, 3) := by decide +kernel
theorem dX12_restAt_77 : decode cX12_restAt 77 = .ok (.iload 5, 2) := by decide +kernel
theorem dX12_restAt_79 : decode cX12_restAt 79 = .ok (.iload 4, 2) := by decide +kernel
theorem dX12_restAt_81 : decode cX12_restAt 81 = .ok (.if_icmp .ne 12, 3) := by decide +kernel
theorem dX12_restAt_84 : decode cX12_restAt 84 = .ok (.bipush 10, 2) := by decide +kernel
theorem dX12_restAt_86 : decode cX12_restAt 86 = .ok (.iload 7, 2) := by decide +kernel
theorem dX12_restAt_88 : decode cX12_restAt 88 = .ok (.imul, 1) := by decide +kernel
theorem dX12_restAt_89 : decode cX12_restAt 89 = .ok (.iload 8, 2) := by decide +kernel
theorem dX12_restAt_91 : decode cX12_restAt 91 = .ok (.iadd, 1) := by decide +kernel
theorem dX12_restAt_92 : decode cX12_restAt 92 = .ok (.ireturn, 1) := by decide +kernel
theorem dX12_restAt_93 : decode cX12_restAt 93 = .ok (.iinc 5 1, 3) := by decide +kernel
theorem dX12_restAt_96 : decode cX12_restAt 96 = .ok (.iinc 6 1, 3) := by decide +kernel
theorem dX12_restAt_99 : decode cX12_restAt 99 = .ok (.goto (-93), 3) := by decide +kernel
theorem dX12_restAt_102 : decode cX12_restAt 102 = .ok (.iload 4, 2) := by decide +kernel
theorem dX12_restAt_104 : decode cX12_restAt 104 = .ok (.ifCond .ge 8, 3) := by decide +kernel
theorem dX12_restAt_107 : decode cX12_restAt 107 = .ok (.iload 5, 2) := by decide +kernel
theorem dX12_restAt_109 : decode cX12_restAt 109 = .ok (.goto 5, 3) := by decide +kernel
theorem dX12_restAt_112 : decode cX12_restAt 112 = .ok (.bipush (-2), 2) := by decide +kernel
theorem dX12_restAt_114 : decode cX12_restAt 114 = .ok (.ireturn, 1) := by decide +kernel
theorem dX12_areTwo_0 : decode cX12_areTwo 0 = .ok (.aload_n 0, 1) := by decide +kernel
theorem dX12_areTwo_1 : decode cX12_areTwo 1 = .ok (.iload_n 1, 1) := by decide +kernel
theorem dX12_areTwo_2 : decode cX12_areTwo 2 = .ok (.invokevirtual 476, 3) := by decide +kernel
theorem dX12_areTwo_5 : decode cX12_areTwo 5 = .ok (.ifCond .eq 28, 3) := by decide +kernel
theorem dX12_areTwo_8 : decode cX12_areTwo 8 = .ok (.aload_n 0, 1) := by decide +kernel
theorem dX12_areTwo_9 : decode cX12_areTwo 9 = .ok (.iload_n 2, 1) := by decide +kernel
theorem dX12_areTwo_10 : decode cX12_areTwo 10 = .ok (.invokevirtual 476, 3) := by decide +kernel
theorem dX12_areTwo_13 : decode cX12_areTwo 13 = .ok (.ifCond .eq 20, 3) := by decide +kernel
theorem dX12_areTwo_16 : decode cX12_areTwo 16 = .ok (.iload_n 1, 1) := by decide +kernel
theorem dX12_areTwo_17 : decode cX12_areTwo 17 = .ok (.iload_n 2, 1) := by decide +kernel
theorem dX12_areTwo_18 : decode cX12_areTwo 18 = .ok (.if_icmp .eq 15, 3) := by decide +kernel
theorem dX12_areTwo_21 : decode cX12_areTwo 21 = .ok (.aload_n 0, 1) := by decide +kernel
theorem dX12_areTwo_22 : decode cX12_areTwo 22 = .ok (.iload_n 3, 1) := by decide +kernel
theorem dX12_areTwo_23 : decode cX12_areTwo 23 = .ok (.invokevirtual 485, 3) := by decide +kernel
theorem dX12_areTwo_26 : decode cX12_areTwo 26 = .ok (.ifCond .eq 7, 3) := by decide +kernel
theorem dX12_areTwo_29 : decode cX12_areTwo 29 = .ok (.iconst 1, 1) := by decide +kernel
theorem dX12_areTwo_30 : decode cX12_areTwo 30 = .ok (.goto 4, 3) := by decide +kernel
theorem dX12_areTwo_33 : decode cX12_areTwo 33 = .ok (.iconst 0, 1) := by decide +kernel
theorem dX12_areTwo_34 : decode cX12_areTwo 34 = .ok (.ireturn, 1) := by decide +kernel
theorem dX12_rests_0 : decode cX12_rests 0 = .ok (.aload_n 0, 1) := by decide +kernel
theorem dX12_rests_1 : decode cX12_rests 1 = .ok (.iconst 0, 1) := by decide +kernel
theorem dX12_rests_2 : decode cX12_rests 2 = .ok (.putfield 157, 3) := by decide +kernel
theorem dX12_rests_5 : decode cX12_rests 5 = .ok (.aload_n 0, 1) := by decide +kernel
theorem dX12_rests_6 : decode cX12_rests 6 = .ok (.invokevirtual 365, 3) := by decide +kernel
theorem dX12_rests_9 : decode cX12_rests 9 = .ok (.aload_n 0, 1) := by decide +kernel
theorem dX12_rests_10 : decode cX12_rests 10 = .ok (.iload_n 1, 1) := by decide +kernel
theorem dX12_rests_11 : decode cX12_rests 11 = .ok (.iload_n 2, 1) := by decide +kernel
theorem dX12_rests_12 : decode cX12_rests 12 = .ok (.iload_n 3, 1) := by decide +kernel
theorem dX12_rests_13 : decode cX12_rests 13 = .ok (.invokevirtual 527, 3) := by decide +kernel
theorem dX12_rests_16 : decode cX12_rests 16 = .ok (.ifCond .eq 14, 3) := by decide +kernel
theorem dX12_rests_19 : decode cX12_rests 19 = .ok (.aload_n 0, 1) := by decide +kernel
theorem dX12_rests_20 : decode cX12_rests 20 = .ok (.iload_n 1, 1) := by decide +kernel
theorem dX12_rests_21 : decode cX12_rests 21 = .ok (.iload_n 2, 1) := by decide +kernel
theorem dX12_rests_22 : decode cX12_rests 22 = .ok (.iload_n 3, 1) := by decide +kernel
theorem dX12_rests_23 : decode cX12_rests 23 = .ok (.iconst (-1), 1) := by decide +kernel
theorem dX12_rests_24 : decode cX12_rests 24 = .ok (.invokevirtual 530, 3) := by decide +kernel
theorem dX12_rests_27 : decode cX12_rests 27 = .ok (.goto 4, 3) := by decide +kernel
theorem dX12_rests_30 : decode cX12_rests 30 = .ok (.iconst (-1), 1) := by decide +kernel
theorem dX12_rests_31 : decode cX12_rests 31 = .ok (.ireturn, 1) := by decide +kernel
theorem dX12_rest_0 : decode cX12_rest 0 = .ok (.aload_n 0, 1) := by decide +kernel
theorem dX12_rest_1 : decode cX12_rest 1 = .ok (.iconst 0, 1) := by decide +kernel
theorem dX12_rest_2 : decode cX12_rest 2 = .ok (.putfield 157, 3) := by decide +kernel
theorem dX12_rest_5 : decode cX12_rest 5 = .ok (.aload_n 0, 1) := by decide +kernel
theorem dX12_rest_6 : decode cX12_rest 6 = .ok (.invokevirtual 365, 3) := by decide +kernel
theorem dX12_rest_9 : decode cX12_rest 9 = .ok (.aload_n 0, 1) := by decide +kernel
theorem dX12_rest_10 : decode cX12_rest 10 = .ok (.iload_n 1, 1) := by decide +kernel
theorem dX12_rest_11 : decode cX12_rest 11 = .ok (.iload_n 2, 1) := by decide +kernel
theorem dX12_rest_12 : decode cX12_rest 12 = .ok (.iload_n 3, 1) := by decide +kernel
theorem dX12_rest_13 : decode cX12_rest 13 = .ok (.invokevirtual 527, 3) := by decide +kernel
theorem dX12_rest_16 : decode cX12_rest 16 = .ok (.ifCond .eq 20, 3) := by decide +kernel
theorem dX12_rest_19 : decode cX12_rest 19 = .ok (.iload 4, 2) := by decide +kernel
theorem dX12_rest_21 : decode cX12_rest 21 = .ok (.ifCond .lt 15, 3) := by decide +kernel
theorem dX12_rest_24 : decode cX12_rest 24 = .ok (.aload_n 0, 1) := by decide +kernel
theorem dX12_rest_25 : decode cX12_rest 25 = .ok (.iload_n 1, 1) := by decide +kernel
theorem dX12_rest_26 : decode cX12_rest 26 = .ok (.iload_n 2, 1) := by decide +kernel
theorem dX12_rest_27 : decode cX12_rest 27 = .ok (.iload_n 3, 1) := by decide +kernel
theorem dX12_rest_28 : decode cX12_rest 28 = .ok (.iload 4, 2) := by decide +kernel
theorem dX12_rest_30 : decode cX12_rest 30 = .ok (.invokevirtual 530, 3) := by decide +kernel
theorem dX12_rest_33 : decode cX12_rest 33 = .ok (.goto 4, 3) := by decide +kernel
theorem dX12_rest_36 : decode cX12_rest 36 = .ok (.iconst (-1), 1) := by decide +kernel
theorem dX12_rest_37 : decode cX12_rest 37 = .ok (.ireturn, 1) := by decide +kernel
theorem dX12_dearest_0 : decode cX12_dearest 0 = .ok (.aload_n 0, 1) := by decide +kernel
theorem dX12_dearest_1 : decode cX12_dearest 1 = .ok (.iconst 0, 1) := by decide +kernel
theorem dX12_dearest_2 : decode cX12_dearest 2 = .ok (.putfield 157, 3) := by decide +kernel
theorem dX12_dearest_5 : decode cX12_dearest 5 = .ok (.aload_n 0, 1) := by decide +kernel
theorem dX12_dearest_6 : decode cX12_dearest 6 = .ok (.iload_n 1, 1) := by decide +kernel
theorem dX12_dearest_7 : decode cX12_dearest 7 = .ok (.invokevirtual 476, 3) := by decide +kernel
theorem dX12_dearest_10 : decode cX12_dearest 10 = .ok (.ifCond .ne 5, 3) := by decide +kernel
theorem dX12_dearest_13 : decode cX12_dearest 13 = .ok (.iconst (-1), 1) := by decide +kernel
theorem dX12_dearest_14 : decode cX12_dearest 14 = .ok (.ireturn, 1) := by decide +kernel
theorem dX12_dearest_15 : decode cX12_dearest 15 = .ok (.bipush (-2), 2) := by decide +kernel
theorem dX12_dearest_17 : decode cX12_dearest 17 = .ok (.istore_n 2, 1) := by decide +kernel
theorem dX12_dearest_18 : decode cX12_dearest 18 = .ok (.iconst 0, 1) := by decide +kernel
theorem dX12_dearest_19 : decode cX12_dearest 19 = .ok (.istore_n 3, 1) := by decide +kernel
theorem dX12_dearest_20 : decode cX12_dearest 20 = .ok (.iload_n 3, 1) := by decide +kernel
theorem dX12_dearest_21 : decode cX12_dearest 21 = .ok (.aload_n 0, 1) := by decide +kernel
theorem dX12_dearest_22 : decode cX12_dearest 22 = .ok (.getfield 237, 3) := by decide +kernel
theorem dX12_dearest_25 : decode cX12_dearest 25 = .ok (.if_icmp .ge 48, 3) := by decide +kernel
theorem dX12_dearest_28 : decode cX12_dearest 28 = .ok (.iload_n 2, 1) := by decide +kernel
theorem dX12_dearest_29 : decode cX12_dearest 29 = .ok (.ifCond .lt 36, 3) := by decide +kernel
theorem dX12_dearest_32 : decode cX12_dearest 32 = .ok (.aload_n 0, 1) := by decide +kernel
theorem dX12_dearest_33 : decode cX12_dearest 33 = .ok (.getfield 30, 3) := by decide +kernel
