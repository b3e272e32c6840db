theorem dX7_init_0 : decode cX7_init 0 = .ok (.aload_n 0, 1) := by decide +kernel
theorem dX7_init_1 : decode cX7_init 1 = .ok (.invokespecial 3, 3) := by decide +kernel
theorem dX7_init_4 : decode cX7_init 4 = .ok (.aload_n 0, 1) := by decide +kernel
theorem dX7_init_5 : decode cX7_init 5 = .ok (.ldc 11, 2) := by decide +kernel
theorem dX7_init_7 : decode cX7_init 7 = .ok (.invokestatic 13, 3) := by decide +kernel
theorem dX7_init_10 : decode cX7_init 10 = .ok (.putfield 17, 3) := by decide +kernel
theorem dX7_init_13 : decode cX7_init 13 = .ok (.aload_n 0, 1) := by decide +kernel
theorem dX7_init_14 : decode cX7_init 14 = .ok (.sipush 940, 3) := by decide +kernel
theorem dX7_init_17 : decode cX7_init 17 = .ok (.newarray .int, 2) := by decide +kernel
theorem dX7_init_19 : decode cX7_init 19 = .ok (.putfield 21, 3) := by decide +kernel
theorem dX7_init_22 : decode cX7_init 22 = .ok (.aload_n 0, 1) := by decide +kernel
theorem dX7_init_23 : decode cX7_init 23 = .ok (.iconst 0, 1) := by decide +kernel
theorem dX7_init_24 : decode cX7_init 24 = .ok (.putfield 25, 3) := by decide +kernel
theorem dX7_init_27 : decode cX7_init 27 = .ok (.aload_n 0, 1) := by decide +kernel
theorem dX7_init_28 : decode cX7_init 28 = .ok (.sipush 941, 3) := by decide +kernel
theorem dX7_init_31 : decode cX7_init 31 = .ok (.newarray .int, 2) := by decide +kernel
theorem dX7_init_33 : decode cX7_init 33 = .ok (.putfield 29, 3) := by decide +kernel
theorem dX7_init_36 : decode cX7_init 36 = .ok (.aload_n 0, 1) := by decide +kernel
theorem dX7_init_37 : decode cX7_init 37 = .ok (.sipush 941, 3) := by decide +kernel
theorem dX7_init_40 : decode cX7_init 40 = .ok (.newarray .int, 2) := by decide +kernel
theorem dX7_init_42 : decode cX7_init 42 = .ok (.putfield 32, 3) := by decide +kernel
theorem dX7_init_45 : decode cX7_init 45 = .ok (.aload_n 0, 1) := by decide +kernel
theorem dX7_init_46 : decode cX7_init 46 = .ok (.sipush 941, 3) := by decide +kernel
theorem dX7_init_49 : decode cX7_init 49 = .ok (.newarray .int, 2) := by decide +kernel
theorem dX7_init_51 : decode cX7_init 51 = .ok (.putfield 35, 3) := by decide +kernel
theorem dX7_init_54 : decode cX7_init 54 = .ok (.aload_n 0, 1) := by decide +kernel
theorem dX7_init_55 : decode cX7_init 55 = .ok (.sipush 941, 3) := by decide +kernel
theorem dX7_init_58 : decode cX7_init 58 = .ok (.newarray .long, 2) := by decide +kernel
theorem dX7_init_60 : decode cX7_init 60 = .ok (.putfield 38, 3) := by decide +kernel
theorem dX7_init_63 : decode cX7_init 63 = .ok (.aload_n 0, 1) := by decide +kernel
theorem dX7_init_64 : decode cX7_init 64 = .ok (.iconst 0, 1) := by decide +kernel
theorem dX7_init_65 : decode cX7_init 65 = .ok (.putfield 41, 3) := by decide +kernel
theorem dX7_init_68 : decode cX7_init 68 = .ok (.aload_n 0, 1) := by decide +kernel
theorem dX7_init_69 : decode cX7_init 69 = .ok (.iconst 0, 1) := by decide +kernel
theorem dX7_init_70 : decode cX7_init 70 = .ok (.putfield 44, 3) := by decide +kernel
theorem dX7_init_73 : decode cX7_init 73 = .ok (.aload_n 0, 1) := by decide +kernel
theorem dX7_init_74 : decode cX7_init 74 = .ok (.iconst 0, 1) := by decide +kernel
theorem dX7_init_75 : decode cX7_init 75 = .ok (.putfield 47, 3) := by decide +kernel
theorem dX7_init_78 : decode cX7_init 78 = .ok (.aload_n 0, 1) := by decide +kernel
theorem dX7_init_79 : decode cX7_init 79 = .ok (.iconst 0, 1) := by decide +kernel
theorem dX7_init_80 : decode cX7_init 80 = .ok (.putfield 50, 3) := by decide +kernel
theorem dX7_init_83 : decode cX7_init 83 = .ok (.aload_n 0, 1) := by decide +kernel
theorem dX7_init_84 : decode cX7_init 84 = .ok (.iconst 0, 1) := by decide +kernel
theorem dX7_init_85 : decode cX7_init 85 = .ok (.putfield 53, 3) := by decide +kernel
theorem dX7_init_88 : decode cX7_init 88 = .ok (.aload_n 0, 1) := by decide +kernel
theorem dX7_init_89 : decode cX7_init 89 = .ok (.lconst 0, 1) := by decide +kernel
theorem dX7_init_90 : decode cX7_init 90 = .ok (.putfield 56, 3) := by decide +kernel
theorem dX7_init_93 : decode cX7_init 93 = .ok (.aload_n 0, 1) := by decide +kernel
theorem dX7_init_94 : decode cX7_init 94 = .ok (.iconst 0, 1) := by decide +kernel
theorem dX7_init_95 : decode cX7_init 95 = .ok (.putfield 60, 3) := by decide +kernel
theorem dX7_init_98 : decode cX7_init 98 = .ok (.aload_n 0, 1) := by decide +kernel
theorem dX7_init_99 : decode cX7_init 99 = .ok (.iconst 0, 1) := by decide +kernel
theorem dX7_init_100 : decode cX7_init 100 = .ok (.putfield 63, 3) := by decide +kernel
theorem dX7_init_103 : decode cX7_init 103 = .ok (.return_, 1) := by decide +kernel
theorem dX7_codesOf_0 : decode cX7_codesOf 0 = .ok (.bipush 25, 2) := by decide +kernel
theorem dX7_codesOf_2 : decode cX7_codesOf 2 = .ok (.newarray .long, 2) := by decide +kernel
theorem dX7_codesOf_4 : decode cX7_codesOf 4 = .ok (.astore_n 1, 1) := by decide +kernel
theorem dX7_codesOf_5 : decode cX7_codesOf 5 = .ok (.iconst 0, 1) := by decide +kernel
theorem dX7_codesOf_6 : decode cX7_codesOf 6 = .ok (.istore_n 2, 1) := by decide +kernel
theorem dX7_codesOf_7 : decode cX7_codesOf 7 = .ok (.iconst 0, 1) := by decide +kernel
theorem dX7_codesOf_8 : decode cX7_codesOf 8 = .ok (.istore_n 3, 1) := by decide +kernel
theorem dX7_codesOf_9 : decode cX7_codesOf 9 = .ok (.iload_n 3, 1) := by decide +kernel
theorem dX7_codesOf_10 : decode cX7_codesOf 10 = .ok (.aload_n 0, 1) := by decide +kernel
theorem dX7_codesOf_11 : decode cX7_codesOf 11 = .ok (.invokevirtual 66, 3) := by decide +kernel
theorem dX7_codesOf_14 : decode cX7_codesOf 14 = .ok (.if_icmp .ge 46, 3) := by decide +kernel
theorem dX7_codesOf_17 : decode cX7_codesOf 17 = .ok (.aload_n 0, 1) := by decide +kernel
theorem dX7_codesOf_18 : decode cX7_codesOf 18 = .ok (.iload_n 3, 1) := by decide +kernel
theorem dX7_codesOf_19 : decode cX7_codesOf 19 = .ok (.invokevirtual 72, 3) := by decide +kernel
theorem dX7_codesOf_22 : decode cX7_codesOf 22 = .ok (.istore 4, 2) := by decide +kernel
theorem dX7_codesOf_24 : decode cX7_codesOf 24 = .ok (.iload 4, 2) := by decide +kernel
theorem dX7_codesOf_26 : decode cX7_codesOf 26 = .ok (.bipush 32, 2) := by decide +kernel
theorem dX7_codesOf_28 : decode cX7_codesOf 28 = .ok (.if_icmp .ne 9, 3) := by decide +kernel
theorem dX7_codesOf_31 : decode cX7_codesOf 31 = .ok (.iinc 2 1, 3) := by decide +kernel
theorem dX7_codesOf_34 : decode cX7_codesOf 34 = .ok (.goto 20, 3) := by decide +kernel
theorem dX7_codesOf_37 : decode cX7_codesOf 37 = .ok (.iload_n 2, 1) := by decide +kernel
theorem dX7_codesOf_38 : decode cX7_codesOf 38 = .ok (.bipush 25, 2) := by decide +kernel
theorem dX7_codesOf_40 : decode cX7_codesOf 40 = .ok (.if_icmp .ge 14, 3) := by decide +kernel
theorem dX7_codesOf_43 : decode cX7_codesOf 43 = .ok (.aload_n 1, 1) := by decide +kernel
theorem dX7_codesOf_44 : decode cX7_codesOf 44 = .ok (.iload_n 2, 1) := by decide +kernel
theorem dX7_codesOf_45 : decode cX7_codesOf 45 = .ok (.aload_n 1, 1) := by decide +kernel
theorem dX7_codesOf_46 : decode cX7_codesOf 46 = .ok (.iload_n 2, 1) := by decide +kernel
theorem dX7_codesOf_47 : decode cX7_codesOf 47 = .ok (.laload, 1) := by decide +kernel
theorem dX7_codesOf_48 : decode cX7_codesOf 48 = .ok (.iload 4, 2) := by decide +kernel
theorem dX7_codesOf_50 : decode cX7_codesOf 50 = .ok (.invokestatic 76, 3) := by decide +kernel
theorem dX7_codesOf_53 : decode cX7_codesOf 53 = .ok (.lastore, 1) := by decide +kernel
theorem dX7_codesOf_54 : decode cX7_codesOf 54 = .ok (.iinc 3 1, 3) := by decide +kernel
theorem dX7_codesOf_57 : decode cX7_codesOf 57 = .ok (.goto (-48), 3) := by decide +kernel
theorem dX7_codesOf_60 : decode cX7_codesOf 60 = .ok (.aload_n 1, 1) := by decide +kernel
theorem dX7_codesOf_61 : decode cX7_codesOf 61 = .ok (.areturn, 1) := by decide +kernel
theorem dX7_withLetter_0 : decode cX7_withLetter 0 = .ok (.lload_n 0, 1) := by decide +kernel
theorem dX7_withLetter_1 : decode cX7_withLetter 1 = .ok (.ldc2_w 80, 3) := by decide +kernel
theorem dX7_withLetter_4 : decode cX7_withLetter 4 = .ok (.lmul, 1) := by decide +kernel
theorem dX7_withLetter_5 : decode cX7_withLetter 5 = .ok (.iload_n 2, 1) := by decide +kernel
theorem dX7_withLetter_6 : decode cX7_withLetter 6 = .ok (.bipush 97, 2) := by decide +kernel
theorem dX7_withLetter_8 : decode cX7_withLetter 8 = .ok (.isub, 1) := by decide +kernel
theorem dX7_withLetter_9 : decode cX7_withLetter 9 = .ok (.iconst 1, 1) := by decide +kernel
theorem dX7_withLetter_10 : decode cX7_withLetter 10 = .ok (.iadd, 1) := by decide +kernel
theorem dX7_withLetter_11 : decode cX7_withLetter 11 = .ok (.i2l, 1) := by decide +kernel
theorem dX7_withLetter_12 : decode cX7_withLetter 12 = .ok (.ladd, 1) := by decide +kernel
theorem dX7_withLetter_13 : decode cX7_withLetter 13 = .ok (.lreturn, 1) := by decide +kernel
theorem dX7_append_0 : decode cX7_append 0 = .ok (.bipush 24, 2) := by decide +kernel
theorem dX7_append_2 : decode cX7_append 2 = .ok (.istore_n 2, 1) := by decide +kernel
theorem dX7_append_3 : decode cX7_append 3 = .ok (.iload_n 2, 1) := by decide +kernel
theorem dX7_append_4 : decode cX7_append 4 = .ok (.ifCond .lt 45, 3) := by decide +kernel
theorem dX7_append_7 : decode cX7_append 7 = .ok (.aload_n 0, 1) := by decide +kernel
theorem dX7_append_8 : decode cX7_append 8 = .ok (.getfield 25, 3) := by decide +kernel
theorem dX7_append_11 : decode cX7_append 11 = .ok (.sipush 940, 3) := by decide +kernel
theorem dX7_append_14 : decode cX7_append 14 = .ok (.if_icmp .ge 35, 3) := by decide +kernel
theorem dX7_append_17 : decode cX7_append 17 = .ok (.aload_n 0, 1) := by decide +kernel
theorem dX7_append_18 : decode cX7_append 18 = .ok (.getfield 21, 3) := by decide +kernel
theorem dX7_append_21 : decode cX7_append 21 = .ok (.aload_n 0, 1) := by decide +kernel
theorem dX7_append_22 : decode cX7_append 22 = .ok (.getfield 25, 3) := by decide +kernel
theorem dX7_append_25 : decode cX7_append 25 = .ok (.iload_n 1, 1) := by decide +kernel
theorem dX7_append_26 : decode cX7_append 26 = .ok (.iload_n 2, 1) := by decide +kernel
theorem dX7_append_27 : decode cX7_append 27 = .ok (.ishr, 1) := by decide +kernel
theorem dX7_append_28 : decode cX7_append 28 = .ok (.sipush 255, 3) := by decide +kernel
theorem dX7_append_31 : decode cX7_append 31 = .ok (.iand, 1) := by decide +kernel
theorem dX7_append_32 : decode cX7_append 32 = .ok (.iastore, 1) := by decide +kernel
theorem dX7_append_33 : decode cX7_append 33 = .ok (.aload_n 0, 1) := by decide +kernel
theorem dX7_append_34 : decode cX7_append 34 = .ok (.dup, 1) := by decide +kernel
theorem dX7_append_35 : decode cX7_append 35 = .ok (.getfield 25, 3) := by decide +kernel
theorem dX7_append_38 : decode cX7_append 38 = .ok (.iconst 1, 1) := by decide +kernel
theorem dX7_append_39 : decode cX7_append 39 = .ok (.iadd, 1) := by decide +kernel
theorem dX7_append_40 : decode cX7_append 40 = .ok (.putfield 25, 3) := by decide +kernel
theorem dX7_append_43 : decode cX7_append 43 = .ok (.iinc 2 (-8), 3) := by decide +kernel
theorem dX7_append_46 : decode cX7_append 46 = .ok (.goto (-43), 3) := by decide +kernel
theorem dX7_append_49 : decode cX7_append 49 = .ok (.return_, 1) := by decide +kernel
theorem dX7_byteAt_0 : decode cX7_byteAt 0 = .ok (.iload_n 1, 1) := by decide +kernel
theorem dX7_byteAt_1 : decode cX7_byteAt 1 = .ok (.ifCond .lt 19, 3) := by decide +kernel
theorem dX7_byteAt_4 : decode cX7_byteAt 4 = .ok (.iload_n 1, 1) := by decide +kernel
theorem dX7_byteAt_5 : decode cX7_byteAt 5 = .ok (.sipush 940, 3) := by decide +kernel
theorem dX7_byteAt_8 : decode cX7_byteAt 8 = .ok (.if_icmp .ge 12, 3) := by decide +kernel
theorem dX7_byteAt_11 : decode cX7_byteAt 11 = .ok (.aload_n 0, 1) := by decide +kernel
theorem dX7_byteAt_12 : decode cX7_byteAt 12 = .ok (.getfield 21, 3) := by decide +kernel
theorem dX7_byteAt_15 : decode cX7_byteAt 15 = .ok (.iload_n 1, 1) := by decide +kernel
theorem dX7_byteAt_16 : decode cX7_byteAt 16 = .ok (.iaload, 1) := by decide +kernel
theorem dX7_byteAt_17 : decode cX7_byteAt 17 = .ok (.goto 4, 3) := by decide +kernel
theorem dX7_byteAt_20 : decode cX7_byteAt 20 = .ok (.iconst 0, 1) := by decide +kernel
theorem dX7_byteAt_21 : decode cX7_byteAt 21 = .ok (.ireturn, 1) := by decide +kernel
theorem dX7_takeAll_0 : decode cX7_takeAll 0 = .ok (.aload_n 0, 1) := by decide +kernel
theorem dX7_takeAll_1 : decode cX7_takeAll 1 = .ok (.getfield 25, 3) := by decide +kernel
theorem dX7_takeAll_4 : decode cX7_takeAll 4 = .ok (.istore_n 1, 1) := by decide +kernel
theorem dX7_takeAll_5 : decode cX7_takeAll 5 = .ok (.aload_n 0, 1) := by decide +kernel
theorem dX7_takeAll_6 : decode cX7_takeAll 6 = .ok (.iconst 0, 1) := by decide +kernel
theorem dX7_takeAll_7 : decode cX7_takeAll 7 = .ok (.putfield 25, 3) := by decide +kernel
theorem dX7_takeAll_10 : decode cX7_takeAll 10 = .ok (.iload_n 1, 1) := by decide +kernel
theorem dX7_takeAll_11 : decode cX7_takeAll 11 = .ok (.ireturn, 1) := by decide +kernel
theorem dX7_startReading_0 : decode cX7_startReading 0 = .ok (.aload_n 0, 1) := by decide +kernel
theorem dX7_startReading_1 : decode cX7_startReading 1 = .ok (.getfield 25, 3) := by decide +kernel
theorem dX7_startReading_4 : decode cX7_startReading 4 = .ok (.iload_n 1, 1) := by decide +kernel
theorem dX7_startReading_5 : decode cX7_startReading 5 = .ok (.invokestatic 82, 3) := by decide +kernel
theorem dX7_startReading_8 : decode cX7_startReading 8 = .ok (.istore_n 2, 1) := by decide +kernel
theorem dX7_startReading_9 : decode cX7_startReading 9 = .ok (.iconst 0, 1) := by decide +kernel
theorem dX7_startReading_10 : decode cX7_startReading 10 = .ok (.istore_n 3, 1) := by decide +kernel
theorem dX7_startReading_11 : decode cX7_startReading 11 = .ok (.iconst 0, 1) := by decide +kernel
theorem dX7_startReading_12 : decode cX7_startReading 12 = .ok (.istore 4, 2) := by decide +kernel
theorem dX7_startReading_14 : decode cX7_startReading 14 = .ok (.iconst 0, 1) := by decide +kernel
theorem dX7_startReading_15 : decode cX7_startReading 15 = .ok (.istore 5, 2) := by decide +kernel
theorem dX7_startReading_17 : decode cX7_startReading 17 = .ok (.iload_n 3, 1) := by decide +kernel
theorem dX7_startReading_18 : decode cX7_startReading 18 = .ok (.iload_n 2, 1) := by decide +kernel
theorem dX7_startReading_19 : decode cX7_startReading 19 = .ok (.if_icmp .ge 66, 3) := by decide +kernel
theorem dX7_startReading_22 : decode cX7_startReading 22 = .ok (.iload 4, 2) := by decide +kernel
theorem dX7_startReading_24 : decode cX7_startReading 24 = .ok (.sipush 940, 3) := by decide +kernel
theorem dX7_startReading_27 : decode cX7_startReading 27 = .ok (.if_icmp .ge 58, 3) := by decide +kernel
theorem dX7_startReading_30 : decode cX7_startReading 30 = .ok (.iload 5, 2) := by decide +kernel
theorem dX7_startReading_32 : decode cX7_startReading 32 = .ok (.ifCond .ne 53, 3) := by decide +kernel
theorem dX7_startReading_35 : decode cX7_startReading 35 = .ok (.aload_n 0, 1) := by decide +kernel
theorem dX7_startReading_36 : decode cX7_startReading 36 = .ok (.getfield 21, 3) := by decide +kernel
theorem dX7_startReading_39 : decode cX7_startReading 39 = .ok (.iload_n 3, 1) := by decide +kernel
theorem dX7_startReading_40 : decode cX7_startReading 40 = .ok (.iaload, 1) := by decide +kernel
theorem dX7_startReading_41 : decode cX7_startReading 41 = .ok (.invokestatic 88, 3) := by decide +kernel
theorem dX7_startReading_44 : decode cX7_startReading 44 = .ok (.ifCond .eq 9, 3) := by decide +kernel
theorem dX7_startReading_47 : decode cX7_startReading 47 = .ok (.iinc 3 1, 3) := by decide +kernel
theorem dX7_startReading_50 : decode cX7_startReading 50 = .ok (.goto (-33), 3) := by decide +kernel
theorem dX7_startReading_53 : decode cX7_startReading 53 = .ok (.aload_n 0, 1) := by decide +kernel
theorem dX7_startReading_54 : decode cX7_startReading 54 = .ok (.iload 4, 2) := by decide +kernel
theorem dX7_startReading_56 : decode cX7_startReading 56 = .ok (.iload_n 3, 1) := by decide +kernel
theorem dX7_startReading_57 : decode cX7_startReading 57 = .ok (.invokevirtual 92, 3) := by decide +kernel
theorem dX7_startReading_60 : decode cX7_startReading 60 = .ok (.istore_n 3, 1) := by decide +kernel
theorem dX7_startReading_61 : decode cX7_startReading 61 = .ok (.aload_n 0, 1) := by decide +kernel
theorem dX7_startReading_62 : decode cX7_startReading 62 = .ok (.getfield 29, 3) := by decide +kernel
theorem dX7_startReading_65 : decode cX7_startReading 65 = .ok (.iload 4, 2) := by decide +kernel
theorem dX7_startReading_67 : decode cX7_startReading 67 = .ok (.iaload, 1) := by decide +kernel
theorem dX7_startReading_68 : decode cX7_startReading 68 = .ok (.iconst 1, 1) := by decide +kernel
theorem dX7_startReading_69 : decode cX7_startReading 69 = .ok (.if_icmp .ne 7, 3) := by decide +kernel
theorem dX7_startReading_72 : decode cX7_startReading 72 = .ok (.iconst 1, 1) := by decide +kernel
theorem dX7_startReading_73 : decode cX7_startReading 73 = .ok (.goto 4, 3) := by decide +kernel
theorem dX7_startReading_76 : decode cX7_startReading 76 = .ok (.iconst 0, 1) := by decide +kernel
theorem dX7_startReading_77 : decode cX7_startReading 77 = .ok (.istore 5, 2) := by decide +kernel
theorem dX7_startReading_79 : decode cX7_startReading 79 = .ok (.iinc 4 1, 3) := by decide +kernel
theorem dX7_startReading_82 : decode cX7_startReading 82 = .ok (.goto (-65), 3) := by decide +kernel
theorem dX7_startReading_85 : decode cX7_startReading 85 = .ok (.aload_n 0, 1) := by decide +kernel
theorem dX7_startReading_86 : decode cX7_startReading 86 = .ok (.iload 5, 2) := by decide +kernel
theorem dX7_startReading_88 : decode cX7_startReading 88 = .ok (.ifCond .eq 10, 3) := by decide +kernel
theorem dX7_startReading_91 : decode cX7_startReading 91 = .ok (.iload 4, 2) := by decide +kernel
theorem dX7_startReading_93 : decode cX7_startReading 93 = .ok (.iconst 1, 1) := by decide +kernel
theorem dX7_startReading_94 : decode cX7_startReading 94 = .ok (.isub, 1) := by decide +kernel
theorem dX7_startReading_95 : decode cX7_startReading 95 = .ok (.goto 5, 3) := by decide +kernel
theorem dX7_startReading_98 : decode cX7_startReading 98 = .ok (.iload 4, 2) := by decide +kernel
theorem dX7_startReading_100 : decode cX7_startReading 100 = .ok (.putfield 41, 3) := by decide +kernel
theorem dX7_startReading_103 : decode cX7_startReading 103 = .ok (.iload 5, 2) := by decide +kernel
theorem dX7_startReading_105 : decode cX7_startReading 105 = .ok (.ifCond .ne 31, 3) := by decide +kernel
theorem dX7_startReading_108 : decode cX7_startReading 108 = .ok (.aload_n 0, 1) := by decide +kernel
theorem dX7_startReading_109 : decode cX7_startReading 109 = .ok (.getfield 29, 3) := by decide +kernel
theorem dX7_startReading_112 : decode cX7_startReading 112 = .ok (.iload 4, 2) := by decide +kernel
theorem dX7_startReading_114 : decode cX7_startReading 114 = .ok (.aload_n 0, 1) := by decide +kernel
theorem dX7_startReading_115 : decode cX7_startReading 115 = .ok (.getfield 25, 3) := by decide +kernel
theorem dX7_startReading_118 : decode cX7_startReading 118 = .ok (.iload_n 1, 1) := by decide +kernel
theorem dX7_startReading_119 : decode cX7_startReading 119 = .ok (.if_icmp .le 7, 3) := by decide +kernel
theorem dX7_startReading_122 : decode cX7_startReading 122 = .ok (.iconst 1, 1) := by decide +kernel
theorem dX7_startReading_123 : decode cX7_startReading 123 = .ok (.goto 4, 3) := by decide +kernel
theorem dX7_startReading_126 : decode cX7_startReading 126 = .ok (.iconst 0, 1) := by decide +kernel
theorem dX7_startReading_127 : decode cX7_startReading 127 = .ok (.iastore, 1) := by decide +kernel
theorem dX7_startReading_128 : decode cX7_startReading 128 = .ok (.aload_n 0, 1) := by decide +kernel
theorem dX7_startReading_129 : decode cX7_startReading 129 = .ok (.getfield 32, 3) := by decide +kernel
theorem dX7_startReading_132 : decode cX7_startReading 132 = .ok (.iload 4, 2) := by decide +kernel
theorem dX7_startReading_134 : decode cX7_startReading 134 = .ok (.iload_n 2, 1) := by decide +kernel
theorem dX7_startReading_135 : decode cX7_startReading 135 = .ok (.iastore, 1) := by decide +kernel
theorem dX7_startReading_136 : decode cX7_startReading 136 = .ok (.aload_n 0, 1) := by decide +kernel
theorem dX7_startReading_137 : decode cX7_startReading 137 = .ok (.iconst (-1), 1) := by decide +kernel
theorem dX7_startReading_138 : decode cX7_startReading 138 = .ok (.putfield 44, 3) := by decide +kernel
theorem dX7_startReading_141 : decode cX7_startReading 141 = .ok (.aload_n 0, 1) := by decide +kernel
theorem dX7_startReading_142 : decode cX7_startReading 142 = .ok (.invokevirtual 95, 3) := by decide +kernel
theorem dX7_startReading_145 : decode cX7_startReading 145 = .ok (.return_, 1) := by decide +kernel
theorem dX7_readToken_0 : decode cX7_readToken 0 = .ok (.aload_n 0, 1) := by decide +kernel
theorem dX7_readToken_1 : decode cX7_readToken 1 = .ok (.getfield 32, 3) := by decide +kernel
theorem dX7_readToken_4 : decode cX7_readToken 4 = .ok (.iload_n 1, 1) := by decide +kernel
theorem dX7_readToken_5 : decode cX7_readToken 5 = .ok (.iload_n 2, 1) := by decide +kernel
theorem dX7_readToken_6 : decode cX7_readToken 6 = .ok (.iastore, 1) := by decide +kernel
theorem dX7_readToken_7 : decode cX7_readToken 7 = .ok (.aload_n 0, 1) := by decide +kernel
theorem dX7_readToken_8 : decode cX7_readToken 8 = .ok (.getfield 21, 3) := by decide +kernel
theorem dX7_readToken_11 : decode cX7_readToken 11 = .ok (.iload_n 2, 1) := by decide +kernel
theorem dX7_readToken_12 : decode cX7_readToken 12 = .ok (.iaload, 1) := by decide +kernel
theorem dX7_readToken_13 : decode cX7_readToken 13 = .ok (.invokestatic 98, 3) := by decide +kernel
theorem dX7_readToken_16 : decode cX7_readToken 16 = .ok (.ifCond .ne 15, 3) := by decide +kernel
theorem dX7_readToken_19 : decode cX7_readToken 19 = .ok (.aload_n 0, 1) := by decide +kernel
theorem dX7_readToken_20 : decode cX7_readToken 20 = .ok (.getfield 21, 3) := by decide +kernel
theorem dX7_readToken_23 : decode cX7_readToken 23 = .ok (.iload_n 2, 1) := by decide +kernel
theorem dX7_readToken_24 : decode cX7_readToken 24 = .ok (.iaload, 1) := by decide +kernel
theorem dX7_readToken_25 : decode cX7_readToken 25 = .ok (.invokestatic 101, 3) := by decide +kernel
theorem dX7_readToken_28 : decode cX7_readToken 28 = .ok (.ifCond .eq 10, 3) := by decide +kernel
theorem dX7_readToken_31 : decode cX7_readToken 31 = .ok (.aload_n 0, 1) := by decide +kernel
theorem dX7_readToken_32 : decode cX7_readToken 32 = .ok (.iload_n 1, 1) := by decide +kernel
theorem dX7_readToken_33 : decode cX7_readToken 33 = .ok (.iload_n 2, 1) := by decide +kernel
theorem dX7_readToken_34 : decode cX7_readToken 34 = .ok (.invokevirtual 104, 3) := by decide +kernel
theorem dX7_readToken_37 : decode cX7_readToken 37 = .ok (.ireturn, 1) := by decide +kernel
theorem dX7_readToken_38 : decode cX7_readToken 38 = .ok (.aload_n 0, 1) := by decide +kernel
theorem dX7_readToken_39 : decode cX7_readToken 39 = .ok (.getfield 29, 3) := by decide +kernel
theorem dX7_readToken_42 : decode cX7_readToken 42 = .ok (.iload_n 1, 1) := by decide +kernel
theorem dX7_readToken_43 : decode cX7_readToken 43 = .ok (.aload_n 0, 1) := by decide +kernel
theorem dX7_readToken_44 : decode cX7_readToken 44 = .ok (.getfield 21, 3) := by decide +kernel
theorem dX7_readToken_47 : decode cX7_readToken 47 = .ok (.iload_n 2, 1) := by decide +kernel
theorem dX7_readToken_48 : decode cX7_readToken 48 = .ok (.iaload, 1) := by decide +kernel
theorem dX7_readToken_49 : decode cX7_readToken 49 = .ok (.invokestatic 107, 3) := by decide +kernel
theorem dX7_readToken_52 : decode cX7_readToken 52 = .ok (.ifCond .eq 7, 3) := by decide +kernel
theorem dX7_readToken_55 : decode cX7_readToken 55 = .ok (.iconst 5, 1) := by decide +kernel
theorem dX7_readToken_56 : decode cX7_readToken 56 = .ok (.goto 4, 3) := by decide +kernel
theorem dX7_readToken_59 : decode cX7_readToken 59 = .ok (.iconst 1, 1) := by decide +kernel
theorem dX7_readToken_60 : decode cX7_readToken 60 = .ok (.iastore, 1) := by decide +kernel
theorem dX7_readToken_61 : decode cX7_readToken 61 = .ok (.aload_n 0, 1) := by decide +kernel
theorem dX7_readToken_62 : decode cX7_readToken 62 = .ok (.getfield 35, 3) := by decide +kernel
theorem dX7_readToken_65 : decode cX7_readToken 65 = .ok (.iload_n 1, 1) := by decide +kernel
theorem dX7_readToken_66 : decode cX7_readToken 66 = .ok (.aload_n 0, 1) := by decide +kernel
theorem dX7_readToken_67 : decode cX7_readToken 67 = .ok (.getfield 21, 3) := by decide +kernel
theorem dX7_readToken_70 : decode cX7_readToken 70 = .ok (.iload_n 2, 1) := by decide +kernel
theorem dX7_readToken_71 : decode cX7_readToken 71 = .ok (.iaload, 1) := by decide +kernel
theorem dX7_readToken_72 : decode cX7_readToken 72 = .ok (.iastore, 1) := by decide +kernel
theorem dX7_readToken_73 : decode cX7_readToken 73 = .ok (.iload_n 2, 1) := by decide +kernel
theorem dX7_readToken_74 : decode cX7_readToken 74 = .ok (.iconst 1, 1) := by decide +kernel
theorem dX7_readToken_75 : decode cX7_readToken 75 = .ok (.iadd, 1) := by decide +kernel
theorem dX7_readToken_76 : decode cX7_readToken 76 = .ok (.ireturn, 1) := by decide +kernel
theorem dX7_readRun_0 : decode cX7_readRun 0 = .ok (.iconst 0, 1) := by decide +kernel
theorem dX7_readRun_1 : decode cX7_readRun 1 = .ok (.istore_n 3, 1) := by decide +kernel
theorem dX7_readRun_2 : decode cX7_readRun 2 = .ok (.iconst 0, 1) := by decide +kernel
theorem dX7_readRun_3 : decode cX7_readRun 3 = .ok (.istore 4, 2) := by decide +kernel
theorem dX7_readRun_5 : decode cX7_readRun 5 = .ok (.lconst 0, 1) := by decide +kernel
theorem dX7_readRun_6 : decode cX7_readRun 6 = .ok (.lstore 5, 2) := by decide +kernel
theorem dX7_readRun_8 : decode cX7_readRun 8 = .ok (.iconst 0, 1) := by decide +kernel
theorem dX7_readRun_9 : decode cX7_readRun 9 = .ok (.istore 7, 2) := by decide +kernel
theorem dX7_readRun_11 : decode cX7_readRun 11 = .ok (.iload_n 2, 1) := by decide +kernel
theorem dX7_readRun_12 : decode cX7_readRun 12 = .ok (.istore 8, 2) := by decide +kernel
theorem dX7_readRun_14 : decode cX7_readRun 14 = .ok (.iload 8, 2) := by decide +kernel
theorem dX7_readRun_16 : decode cX7_readRun 16 = .ok (.aload_n 0, 1) := by decide +kernel
theorem dX7_readRun_17 : decode cX7_readRun 17 = .ok (.getfield 25, 3) := by decide +kernel
theorem dX7_readRun_20 : decode cX7_readRun 20 = .ok (.if_icmp .ge 111, 3) := by decide +kernel
theorem dX7_readRun_23 : decode cX7_readRun 23 = .ok (.aload_n 0, 1) := by decide +kernel
theorem dX7_readRun_24 : decode cX7_readRun 24 = .ok (.getfield 21, 3) := by decide +kernel
theorem dX7_readRun_27 : decode cX7_readRun 27 = .ok (.iload 8, 2) := by decide +kernel
theorem dX7_readRun_29 : decode cX7_readRun 29 = .ok (.iaload, 1) := by decide +kernel
theorem dX7_readRun_30 : decode cX7_readRun 30 = .ok (.invokestatic 98, 3) := by decide +kernel
theorem dX7_readRun_33 : decode cX7_readRun 33 = .ok (.ifCond .ne 16, 3) := by decide +kernel
theorem dX7_readRun_36 : decode cX7_readRun 36 = .ok (.aload_n 0, 1) := by decide +kernel
theorem dX7_readRun_37 : decode cX7_readRun 37 = .ok (.getfield 21, 3) := by decide +kernel
theorem dX7_readRun_40 : decode cX7_readRun 40 = .ok (.iload 8, 2) := by decide +kernel
theorem dX7_readRun_42 : decode cX7_readRun 42 = .ok (.iaload, 1) := by decide +kernel
theorem dX7_readRun_43 : decode cX7_readRun 43 = .ok (.invokestatic 101, 3) := by decide +kernel
theorem dX7_readRun_46 : decode cX7_readRun 46 = .ok (.ifCond .eq 85, 3) := by decide +kernel
theorem dX7_readRun_49 : decode cX7_readRun 49 = .ok (.aload_n 0, 1) := by decide +kernel
theorem dX7_readRun_50 : decode cX7_readRun 50 = .ok (.getfield 21, 3) := by decide +kernel
theorem dX7_readRun_53 : decode cX7_readRun 53 = .ok (.iload 8, 2) := by decide +kernel
theorem dX7_readRun_55 : decode cX7_readRun 55 = .ok (.iaload, 1) := by decide +kernel
theorem dX7_readRun_56 : decode cX7_readRun 56 = .ok (.invokestatic 98, 3) := by decide +kernel
theorem dX7_readRun_59 : decode cX7_readRun 59 = .ok (.ifCond .eq 34, 3) := by decide +kernel
theorem dX7_readRun_62 : decode cX7_readRun 62 = .ok (.iinc 3 1, 3) := by decide +kernel
theorem dX7_readRun_65 : decode cX7_readRun 65 = .ok (.iload_n 3, 1) := by decide +kernel
theorem dX7_readRun_66 : decode cX7_readRun 66 = .ok (.bipush 7, 2) := by decide +kernel
theorem dX7_readRun_68 : decode cX7_readRun 68 = .ok (.if_icmp .gt 18, 3) := by decide +kernel
theorem dX7_readRun_71 : decode cX7_readRun 71 = .ok (.lload 5, 2) := by decide +kernel
theorem dX7_readRun_73 : decode cX7_readRun 73 = .ok (.aload_n 0, 1) := by decide +kernel
theorem dX7_readRun_74 : decode cX7_readRun 74 = .ok (.getfield 21, 3) := by decide +kernel
theorem dX7_readRun_77 : decode cX7_readRun 77 = .ok (.iload 8, 2) := by decide +kernel
theorem dX7_readRun_79 : decode cX7_readRun 79 = .ok (.iaload, 1) := by decide +kernel
theorem dX7_readRun_80 : decode cX7_readRun 80 = .ok (.invokestatic 76, 3) := by decide +kernel
theorem dX7_readRun_83 : decode cX7_readRun 83 = .ok (.goto 5, 3) := by decide +kernel
theorem dX7_readRun_86 : decode cX7_readRun 86 = .ok (.lload 5, 2) := by decide +kernel
theorem dX7_readRun_88 : decode cX7_readRun 88 = .ok (.lstore 5, 2) := by decide +kernel
theorem dX7_readRun_90 : decode cX7_readRun 90 = .ok (.goto 35, 3) := by decide +kernel
theorem dX7_readRun_93 : decode cX7_readRun 93 = .ok (.iinc 4 1, 3) := by decide +kernel
theorem dX7_readRun_96 : decode cX7_readRun 96 = .ok (.iload 4, 2) := by decide +kernel
theorem dX7_readRun_98 : decode cX7_readRun 98 = .ok (.iconst 3, 1) := by decide +kernel
theorem dX7_readRun_99 : decode cX7_readRun 99 = .ok (.if_icmp .gt 22, 3) := by decide +kernel
theorem dX7_readRun_102 : decode cX7_readRun 102 = .ok (.iload 7, 2) := by decide +kernel
theorem dX7_readRun_104 : decode cX7_readRun 104 = .ok (.bipush 10, 2) := by decide +kernel
theorem dX7_readRun_106 : decode cX7_readRun 106 = .ok (.imul, 1) := by decide +kernel
theorem dX7_readRun_107 : decode cX7_readRun 107 = .ok (.aload_n 0, 1) := by decide +kernel
theorem dX7_readRun_108 : decode cX7_readRun 108 = .ok (.getfield 21, 3) := by decide +kernel
theorem dX7_readRun_111 : decode cX7_readRun 111 = .ok (.iload 8, 2) := by decide +kernel
theorem dX7_readRun_113 : decode cX7_readRun 113 = .ok (.iaload, 1) := by decide +kernel
theorem dX7_readRun_114 : decode cX7_readRun 114 = .ok (.iadd, 1) := by decide +kernel
theorem dX7_readRun_115 : decode cX7_readRun 115 = .ok (.bipush 48, 2) := by decide +kernel
theorem dX7_readRun_117 : decode cX7_readRun 117 = .ok (.isub, 1) := by decide +kernel
theorem dX7_readRun_118 : decode cX7_readRun 118 = .ok (.goto 5, 3) := by decide +kernel
theorem dX7_readRun_121 : decode cX7_readRun 121 = .ok (.iload 7, 2) := by decide +kernel
theorem dX7_readRun_123 : decode cX7_readRun 123 = .ok (.istore 7, 2) := by decide +kernel
theorem dX7_readRun_125 : decode cX7_readRun 125 = .ok (.iinc 8 1, 3) := by decide +kernel
theorem dX7_readRun_128 : decode cX7_readRun 128 = .ok (.goto (-114), 3) := by decide +kernel
theorem dX7_readRun_131 : decode cX7_readRun 131 = .ok (.iload 4, 2) := by decide +kernel
theorem dX7_readRun_133 : decode cX7_readRun 133 = .ok (.ifCond .ne 19, 3) := by decide +kernel
theorem dX7_readRun_136 : decode cX7_readRun 136 = .ok (.iload_n 3, 1) := by decide +kernel
theorem dX7_readRun_137 : decode cX7_readRun 137 = .ok (.bipush 7, 2) := by decide +kernel
theorem dX7_readRun_139 : decode cX7_readRun 139 = .ok (.if_icmp .gt 13, 3) := by decide +kernel
theorem dX7_readRun_142 : decode cX7_readRun 142 = .ok (.aload_n 0, 1) := by decide +kernel
theorem dX7_readRun_143 : decode cX7_readRun 143 = .ok (.iload_n 1, 1) := by decide +kernel
theorem dX7_readRun_144 : decode cX7_readRun 144 = .ok (.lload 5, 2) := by decide +kernel
theorem dX7_readRun_146 : decode cX7_readRun 146 = .ok (.invokevirtual 110, 3) := by decide +kernel
theorem dX7_readRun_149 : decode cX7_readRun 149 = .ok (.goto 32, 3) := by decide +kernel
theorem dX7_readRun_152 : decode cX7_readRun 152 = .ok (.aload_n 0, 1) := by decide +kernel
theorem dX7_readRun_153 : decode cX7_readRun 153 = .ok (.getfield 29, 3) := by decide +kernel
theorem dX7_readRun_156 : decode cX7_readRun 156 = .ok (.iload_n 1, 1) := by decide +kernel
theorem dX7_readRun_157 : decode cX7_readRun 157 = .ok (.iload_n 3, 1) := by decide +kernel
theorem dX7_readRun_158 : decode cX7_readRun 158 = .ok (.ifCond .ne 13, 3) := by decide +kernel
theorem dX7_readRun_161 : decode cX7_readRun 161 = .ok (.iload 4, 2) := by decide +kernel
theorem dX7_readRun_163 : decode cX7_readRun 163 = .ok (.iconst 3, 1) := by decide +kernel
theorem dX7_readRun_164 : decode cX7_readRun 164 = .ok (.if_icmp .gt 7, 3) := by decide +kernel
theorem dX7_readRun_167 : decode cX7_readRun 167 = .ok (.iconst 4, 1) := by decide +kernel
theorem dX7_readRun_168 : decode cX7_readRun 168 = .ok (.goto 4, 3) := by decide +kernel
theorem dX7_readRun_171 : decode cX7_readRun 171 = .ok (.iconst 1, 1) := by decide +kernel
theorem dX7_readRun_172 : decode cX7_readRun 172 = .ok (.iastore, 1) := by decide +kernel
theorem dX7_readRun_173 : decode cX7_readRun 173 = .ok (.aload_n 0, 1) := by decide +kernel
theorem dX7_readRun_174 : decode cX7_readRun 174 = .ok (.getfield 35, 3) := by decide +kernel
theorem dX7_readRun_177 : decode cX7_readRun 177 = .ok (.iload_n 1, 1) := by decide +kernel
theorem dX7_readRun_178 : decode cX7_readRun 178 = .ok (.iload 7, 2) := by decide +kernel
theorem dX7_readRun_180 : decode cX7_readRun 180 = .ok (.iastore, 1) := by decide +kernel
theorem dX7_readRun_181 : decode cX7_readRun 181 = .ok (.iload 8, 2) := by decide +kernel
theorem dX7_readRun_183 : decode cX7_readRun 183 = .ok (.ireturn, 1) := by decide +kernel
theorem dX7_setWord_0 : decode cX7_setWord 0 = .ok (.aload_n 0, 1) := by decide +kernel
theorem dX7_setWord_1 : decode cX7_setWord 1 = .ok (.getfield 29, 3) := by decide +kernel
theorem dX7_setWord_4 : decode cX7_setWord 4 = .ok (.iload_n 1, 1) := by decide +kernel
theorem dX7_setWord_5 : decode cX7_setWord 5 = .ok (.iconst 3, 1) := by decide +kernel
theorem dX7_setWord_6 : decode cX7_setWord 6 = .ok (.iastore, 1) := by decide +kernel
theorem dX7_setWord_7 : decode cX7_setWord 7 = .ok (.aload_n 0, 1) := by decide +kernel
theorem dX7_setWord_8 : decode cX7_setWord 8 = .ok (.getfield 38, 3) := by decide +kernel
theorem dX7_setWord_11 : decode cX7_setWord 11 = .ok (.iload_n 1, 1) := by decide +kernel
theorem dX7_setWord_12 : decode cX7_setWord 12 = .ok (.lload_n 2, 1) := by decide +kernel
theorem dX7_setWord_13 : decode cX7_setWord 13 = .ok (.lastore, 1) := by decide +kernel
theorem dX7_setWord_14 : decode cX7_setWord 14 = .ok (.iconst 0, 1) := by decide +kernel
theorem dX7_setWord_15 : decode cX7_setWord 15 = .ok (.istore 4, 2) := by decide +kernel
theorem dX7_setWord_17 : decode cX7_setWord 17 = .ok (.iload 4, 2) := by decide +kernel
theorem dX7_setWord_19 : decode cX7_setWord 19 = .ok (.bipush 25, 2) := by decide +kernel
theorem dX7_setWord_21 : decode cX7_setWord 21 = .ok (.if_icmp .ge 36, 3) := by decide +kernel
theorem dX7_setWord_24 : decode cX7_setWord 24 = .ok (.aload_n 0, 1) := by decide +kernel
theorem dX7_setWord_25 : decode cX7_setWord 25 = .ok (.getfield 17, 3) := by decide +kernel
theorem dX7_setWord_28 : decode cX7_setWord 28 = .ok (.iload 4, 2) := by decide +kernel
theorem dX7_setWord_30 : decode cX7_setWord 30 = .ok (.laload, 1) := by decide +kernel
theorem dX7_setWord_31 : decode cX7_setWord 31 = .ok (.lload_n 2, 1) := by decide +kernel
theorem dX7_setWord_32 : decode cX7_setWord 32 = .ok (.lcmp, 1) := by decide +kernel
theorem dX7_setWord_33 : decode cX7_setWord 33 = .ok (.ifCond .ne 18, 3) := by decide +kernel
theorem dX7_setWord_36 : decode cX7_setWord 36 = .ok (.aload_n 0, 1) := by decide +kernel
theorem dX7_setWord_37 : decode cX7_setWord 37 = .ok (.getfield 29, 3) := by decide +kernel
theorem dX7_setWord_40 : decode cX7_setWord 40 = .ok (.iload_n 1, 1) := by decide +kernel
theorem dX7_setWord_41 : decode cX7_setWord 41 = .ok (.iconst 2, 1) := by decide +kernel
theorem dX7_setWord_42 : decode cX7_setWord 42 = .ok (.iastore, 1) := by decide +kernel
theorem dX7_setWord_43 : decode cX7_setWord 43 = .ok (.aload_n 0, 1) := by decide +kernel
theorem dX7_setWord_44 : decode cX7_setWord 44 = .ok (.getfield 35, 3) := by decide +kernel
theorem dX7_setWord_47 : decode cX7_setWord 47 = .ok (.iload_n 1, 1) := by decide +kernel
theorem dX7_setWord_48 : decode cX7_setWord 48 = .ok (.iload 4, 2) := by decide +kernel
theorem dX7_setWord_50 : decode cX7_setWord 50 = .ok (.iastore, 1) := by decide +kernel
theorem dX7_setWord_51 : decode cX7_setWord 51 = .ok (.iinc 4 1, 3) := by decide +kernel
theorem dX7_setWord_54 : decode cX7_setWord 54 = .ok (.goto (-37), 3) := by decide +kernel
theorem dX7_setWord_57 : decode cX7_setWord 57 = .ok (.return_, 1) := by decide +kernel
theorem dX7_advance_0 : decode cX7_advance 0 = .ok (.aload_n 0, 1) := by decide +kernel
theorem dX7_advance_1 : decode cX7_advance 1 = .ok (.getfield 44, 3) := by decide +kernel
theorem dX7_advance_4 : decode cX7_advance 4 = .ok (.aload_n 0, 1) := by decide +kernel
theorem dX7_advance_5 : decode cX7_advance 5 = .ok (.getfield 41, 3) := by decide +kernel
theorem dX7_advance_8 : decode cX7_advance 8 = .ok (.if_icmp .ge 65, 3) := by decide +kernel
theorem dX7_advance_11 : decode cX7_advance 11 = .ok (.aload_n 0, 1) := by decide +kernel
theorem dX7_advance_12 : decode cX7_advance 12 = .ok (.dup, 1) := by decide +kernel
theorem dX7_advance_13 : decode cX7_advance 13 = .ok (.getfield 44, 3) := by decide +kernel
theorem dX7_advance_16 : decode cX7_advance 16 = .ok (.iconst 1, 1) := by decide +kernel
theorem dX7_advance_17 : decode cX7_advance 17 = .ok (.iadd, 1) := by decide +kernel
theorem dX7_advance_18 : decode cX7_advance 18 = .ok (.putfield 44, 3) := by decide +kernel
theorem dX7_advance_21 : decode cX7_advance 21 = .ok (.aload_n 0, 1) := by decide +kernel
theorem dX7_advance_22 : decode cX7_advance 22 = .ok (.aload_n 0, 1) := by decide +kernel
theorem dX7_advance_23 : decode cX7_advance 23 = .ok (.getfield 29, 3) := by decide +kernel
theorem dX7_advance_26 : decode cX7_advance 26 = .ok (.aload_n 0, 1) := by decide +kernel
theorem dX7_advance_27 : decode cX7_advance 27 = .ok (.getfield 44, 3) := by decide +kernel
theorem dX7_advance_30 : decode cX7_advance 30 = .ok (.iaload, 1) := by decide +kernel
theorem dX7_advance_31 : decode cX7_advance 31 = .ok (.putfield 47, 3) := by decide +kernel
theorem dX7_advance_34 : decode cX7_advance 34 = .ok (.aload_n 0, 1) := by decide +kernel
theorem dX7_advance_35 : decode cX7_advance 35 = .ok (.aload_n 0, 1) := by decide +kernel
theorem dX7_advance_36 : decode cX7_advance 36 = .ok (.getfield 32, 3) := by decide +kernel
theorem dX7_advance_39 : decode cX7_advance 39 = .ok (.aload_n 0, 1) := by decide +kernel
theorem dX7_advance_40 : decode cX7_advance 40 = .ok (.getfield 44, 3) := by decide +kernel
theorem dX7_advance_43 : decode cX7_advance 43 = .ok (.iaload, 1) := by decide +kernel
theorem dX7_advance_44 : decode cX7_advance 44 = .ok (.putfield 50, 3) := by decide +kernel
theorem dX7_advance_47 : decode cX7_advance 47 = .ok (.aload_n 0, 1) := by decide +kernel
theorem dX7_advance_48 : decode cX7_advance 48 = .ok (.aload_n 0, 1) := by decide +kernel
theorem dX7_advance_49 : decode cX7_advance 49 = .ok (.getfield 35, 3) := by decide +kernel
theorem dX7_advance_52 : decode cX7_advance 52 = .ok (.aload_n 0, 1) := by decide +kernel
theorem dX7_advance_53 : decode cX7_advance 53 = .ok (.getfield 44, 3) := by decide +kernel
theorem dX7_advance_56 : decode cX7_advance 56 = .ok (.iaload, 1) := by decide +kernel
theorem dX7_advance_57 : decode cX7_advance 57 = .ok (.putfield 53, 3) := by decide +kernel
theorem dX7_advance_60 : decode cX7_advance 60 = .ok (.aload_n 0, 1) := by decide +kernel
theorem dX7_advance_61 : decode cX7_advance 61 = .ok (.aload_n 0, 1) := by decide +kernel
theorem dX7_advance_62 : decode cX7_advance 62 = .ok (.getfield 38, 3) := by decide +kernel
theorem dX7_advance_65 : decode cX7_advance 65 = .ok (.aload_n 0, 1) := by decide +kernel
theorem dX7_advance_66 : decode cX7_advance 66 = .ok (.getfield 44, 3) := by decide +kernel
theorem dX7_advance_69 : decode cX7_advance 69 = .ok (.laload, 1) := by decide +kernel
theorem dX7_advance_70 : decode cX7_advance 70 = .ok (.putfield 56, 3) := by decide +kernel
theorem dX7_advance_73 : decode cX7_advance 73 = .ok (.return_, 1) := by decide +kernel
theorem dX7_isBlank_0 : decode cX7_isBlank 0 = .ok (.iload_n 0, 1) := by decide +kernel
theorem dX7_isBlank_1 : decode cX7_isBlank 1 = .ok (.bipush 32, 2) := by decide +kernel
theorem dX7_isBlank_3 : decode cX7_isBlank 3 = .ok (.if_icmp .eq 9, 3) := by decide +kernel
theorem dX7_isBlank_6 : decode cX7_isBlank 6 = .ok (.iload_n 0, 1) := by decide +kernel
theorem dX7_isBlank_7 : decode cX7_isBlank 7 = .ok (.bipush 10, 2) := by decide +kernel
theorem dX7_isBlank_9 : decode cX7_isBlank 9 = .ok (.if_icmp .ne 7, 3) := by decide +kernel
theorem dX7_isBlank_12 : decode cX7_isBlank 12 = .ok (.iconst 1, 1) := by decide +kernel
theorem dX7_isBlank_13 : decode cX7_isBlank 13 = .ok (.goto 4, 3) := by decide +kernel
theorem dX7_isBlank_16 : decode cX7_isBlank 16 = .ok (.iconst 0, 1) := by decide +kernel
theorem dX7_isBlank_17 : decode cX7_isBlank 17 = .ok (.ireturn, 1) := by decide +kernel
theorem dX7_isLetter_0 : decode cX7_isLetter 0 = .ok (.iload_n 0, 1) := by decide +kernel
theorem dX7_isLetter_1 : decode cX7_isLetter 1 = .ok (.bipush 97, 2) := by decide +kernel
theorem dX7_isLetter_3 : decode cX7_isLetter 3 = .ok (.if_icmp .lt 13, 3) := by decide +kernel
theorem dX7_isLetter_6 : decode cX7_isLetter 6 = .ok (.iload_n 0, 1) := by decide +kernel
theorem dX7_isLetter_7 : decode cX7_isLetter 7 = .ok (.bipush 122, 2) := by decide +kernel
theorem dX7_isLetter_9 : decode cX7_isLetter 9 = .ok (.if_icmp .gt 7, 3) := by decide +kernel
theorem dX7_isLetter_12 : decode cX7_isLetter 12 = .ok (.iconst 1, 1) := by decide +kernel
theorem dX7_isLetter_13 : decode cX7_isLetter 13 = .ok (.goto 4, 3) := by decide +kernel
theorem dX7_isLetter_16 : decode cX7_isLetter 16 = .ok (.iconst 0, 1) := by decide +kernel
theorem dX7_isLetter_17 : decode cX7_isLetter 17 = .ok (.ireturn, 1) := by decide +kernel
theorem dX7_isFigure_0 : decode cX7_isFigure 0 = .ok (.iload_n 0, 1) := by decide +kernel
theorem dX7_isFigure_1 : decode cX7_isFigure 1 = .ok (.bipush 48, 2) := by decide +kernel
theorem dX7_isFigure_3 : decode cX7_isFigure 3 = .ok (.if_icmp .lt 13, 3) := by decide +kernel
theorem dX7_isFigure_6 : decode cX7_isFigure 6 = .ok (.iload_n 0, 1) := by decide +kernel
theorem dX7_isFigure_7 : decode cX7_isFigure 7 = .ok (.bipush 57, 2) := by decide +kernel
theorem dX7_isFigure_9 : decode cX7_isFigure 9 = .ok (.if_icmp .gt 7, 3) := by decide +kernel
theorem dX7_isFigure_12 : decode cX7_isFigure 12 = .ok (.iconst 1, 1) := by decide +kernel
theorem dX7_isFigure_13 : decode cX7_isFigure 13 = .ok (.goto 4, 3) := by decide +kernel
theorem dX7_isFigure_16 : decode cX7_isFigure 16 = .ok (.iconst 0, 1) := by decide +kernel
theorem dX7_isFigure_17 : decode cX7_isFigure 17 = .ok (.ireturn, 1) := by decide +kernel
theorem dX7_isSignByte_0 : decode cX7_isSignByte 0 = .ok (.iload_n 0, 1) := by decide +kernel
theorem dX7_isSignByte_1 : decode cX7_isSignByte 1 = .ok (.bipush 59, 2) := by decide +kernel
theorem dX7_isSignByte_3 : decode cX7_isSignByte 3 = .ok (.if_icmp .eq 33, 3) := by decide +kernel
theorem dX7_isSignByte_6 : decode cX7_isSignByte 6 = .ok (.iload_n 0, 1) := by decide +kernel
theorem dX7_isSignByte_7 : decode cX7_isSignByte 7 = .ok (.bipush 40, 2) := by decide +kernel
theorem dX7_isSignByte_9 : decode cX7_isSignByte 9 = .ok (.if_icmp .eq 27, 3) := by decide +kernel
theorem dX7_isSignByte_12 : decode cX7_isSignByte 12 = .ok (.iload_n 0, 1) := by decide +kernel
theorem dX7_isSignByte_13 : decode cX7_isSignByte 13 = .ok (.bipush 41, 2) := by decide +kernel
theorem dX7_isSignByte_15 : decode cX7_isSignByte 15 = .ok (.if_icmp .eq 21, 3) := by decide +kernel
theorem dX7_isSignByte_18 : decode cX7_isSignByte 18 = .ok (.iload_n 0, 1) := by decide +kernel
theorem dX7_isSignByte_19 : decode cX7_isSignByte 19 = .ok (.bipush 60, 2) := by decide +kernel
theorem dX7_isSignByte_21 : decode cX7_isSignByte 21 = .ok (.if_icmp .eq 15, 3) := by decide +kernel
theorem dX7_isSignByte_24 : decode cX7_isSignByte 24 = .ok (.iload_n 0, 1) := by decide +kernel
theorem dX7_isSignByte_25 : decode cX7_isSignByte 25 = .ok (.bipush 61, 2) := by decide +kernel
theorem dX7_isSignByte_27 : decode cX7_isSignByte 27 = .ok (.if_icmp .eq 9, 3) := by decide +kernel
theorem dX7_isSignByte_30 : decode cX7_isSignByte 30 = .ok (.iload_n 0, 1) := by decide +kernel
theorem dX7_isSignByte_31 : decode cX7_isSignByte 31 = .ok (.bipush 62, 2) := by decide +kernel
theorem dX7_isSignByte_33 : decode cX7_isSignByte 33 = .ok (.if_icmp .ne 7, 3) := by decide +kernel
theorem dX7_isSignByte_36 : decode cX7_isSignByte 36 = .ok (.iconst 1, 1) := by decide +kernel
theorem dX7_isSignByte_37 : decode cX7_isSignByte 37 = .ok (.goto 4, 3) := by decide +kernel
theorem dX7_isSignByte_40 : decode cX7_isSignByte 40 = .ok (.iconst 0, 1) := by decide +kernel
theorem dX7_isSignByte_41 : decode cX7_isSignByte 41 = .ok (.ireturn, 1) := by decide +kernel
theorem dX7_isWord_0 : decode cX7_isWord 0 = .ok (.aload_n 0, 1) := by decide +kernel
theorem dX7_isWord_1 : decode cX7_isWord 1 = .ok (.getfield 47, 3) := by decide +kernel
theorem dX7_isWord_4 : decode cX7_isWord 4 = .ok (.iconst 2, 1) := by decide +kernel
theorem dX7_isWord_5 : decode cX7_isWord 5 = .ok (.if_icmp .ne 15, 3) := by decide +kernel
theorem dX7_isWord_8 : decode cX7_isWord 8 = .ok (.aload_n 0, 1) := by decide +kernel
theorem dX7_isWord_9 : decode cX7_isWord 9 = .ok (.getfield 53, 3) := by decide +kernel
theorem dX7_isWord_12 : decode cX7_isWord 12 = .ok (.iload_n 1, 1) := by decide +kernel
theorem dX7_isWord_13 : decode cX7_isWord 13 = .ok (.if_icmp .ne 7, 3) := by decide +kernel
theorem dX7_isWord_16 : decode cX7_isWord 16 = .ok (.iconst 1, 1) := by decide +kernel
theorem dX7_isWord_17 : decode cX7_isWord 17 = .ok (.goto 4, 3) := by decide +kernel
theorem dX7_isWord_20 : decode cX7_isWord 20 = .ok (.iconst 0, 1) := by decide +kernel
theorem dX7_isWord_21 : decode cX7_isWord 21 = .ok (.ireturn, 1) := by decide +kernel
theorem dX7_isSign_0 : decode cX7_isSign 0 = .ok (.aload_n 0, 1) := by decide +kernel
theorem dX7_isSign_1 : decode cX7_isSign 1 = .ok (.getfield 47, 3) := by decide +kernel
theorem dX7_isSign_4 : decode cX7_isSign 4 = .ok (.iconst 5, 1) := by decide +kernel
theorem dX7_isSign_5 : decode cX7_isSign 5 = .ok (.if_icmp .ne 15, 3) := by decide +kernel
theorem dX7_isSign_8 : decode cX7_isSign 8 = .ok (.aload_n 0, 1) := by decide +kernel
theorem dX7_isSign_9 : decode cX7_isSign 9 = .ok (.getfield 53, 3) := by decide +kernel
theorem dX7_isSign_12 : decode cX7_isSign 12 = .ok (.iload_n 1, 1) := by decide +kernel
theorem dX7_isSign_13 : decode cX7_isSign 13 = .ok (.if_icmp .ne 7, 3) := by decide +kernel
theorem dX7_isSign_16 : decode cX7_isSign 16 = .ok (.iconst 1, 1) := by decide +kernel
theorem dX7_isSign_17 : decode cX7_isSign 17 = .ok (.goto 4, 3) := by decide +kernel
theorem dX7_isSign_20 : decode cX7_isSign 20 = .ok (.iconst 0, 1) := by decide +kernel
theorem dX7_isSign_21 : decode cX7_isSign 21 = .ok (.ireturn, 1) := by decide +kernel
theorem dX7_fail_0 : decode cX7_fail 0 = .ok (.aload_n 0, 1) := by decide +kernel
theorem dX7_fail_1 : decode cX7_fail 1 = .ok (.iload_n 1, 1) := by decide +kernel
theorem dX7_fail_2 : decode cX7_fail 2 = .ok (.putfield 60, 3) := by decide +kernel
theorem dX7_fail_5 : decode cX7_fail 5 = .ok (.aload_n 0, 1) := by decide +kernel
theorem dX7_fail_6 : decode cX7_fail 6 = .ok (.aload_n 0, 1) := by decide +kernel
theorem dX7_fail_7 : decode cX7_fail 7 = .ok (.getfield 50, 3) := by decide +kernel
theorem dX7_fail_10 : decode cX7_fail 10 = .ok (.putfield 63, 3) := by decide +kernel
theorem dX7_fail_13 : decode cX7_fail 13 = .ok (.iconst 0, 1) := by decide +kernel
theorem dX7_fail_14 : decode cX7_fail 14 = .ok (.ireturn, 1) := by decide +kernel
theorem dX7_takeNumber_0 : decode cX7_takeNumber 0 = .ok (.aload_n 0, 1) := by decide +kernel
theorem dX7_takeNumber_1 : decode cX7_takeNumber 1 = .ok (.getfield 47, 3) := by decide +kernel
theorem dX7_takeNumber_4 : decode cX7_takeNumber 4 = .ok (.iconst 4, 1) := by decide +kernel
theorem dX7_takeNumber_5 : decode cX7_takeNumber 5 = .ok (.if_icmp .eq 11, 3) := by decide +kernel
theorem dX7_takeNumber_8 : decode cX7_takeNumber 8 = .ok (.aload_n 0, 1) := by decide +kernel
theorem dX7_takeNumber_9 : decode cX7_takeNumber 9 = .ok (.iconst 1, 1) := by decide +kernel
theorem dX7_takeNumber_10 : decode cX7_takeNumber 10 = .ok (.invokevirtual 114, 3) := by decide +kernel
theorem dX7_takeNumber_13 : decode cX7_takeNumber 13 = .ok (.pop, 1) := by decide +kernel
theorem dX7_takeNumber_14 : decode cX7_takeNumber 14 = .ok (.iconst (-1), 1) := by decide +kernel
theorem dX7_takeNumber_15 : decode cX7_takeNumber 15 = .ok (.ireturn, 1) := by decide +kernel
theorem dX7_takeNumber_16 : decode cX7_takeNumber 16 = .ok (.aload_n 0, 1) := by decide +kernel
theorem dX7_takeNumber_17 : decode cX7_takeNumber 17 = .ok (.getfield 53, 3) := by decide +kernel
theorem dX7_takeNumber_20 : decode cX7_takeNumber 20 = .ok (.iload_n 1, 1) := by decide +kernel
theorem dX7_takeNumber_21 : decode cX7_takeNumber 21 = .ok (.iload_n 2, 1) := by decide +kernel
theorem dX7_takeNumber_22 : decode cX7_takeNumber 22 = .ok (.invokestatic 117, 3) := by decide +kernel
theorem dX7_takeNumber_25 : decode cX7_takeNumber 25 = .ok (.ifCond .ne 11, 3) := by decide +kernel
theorem dX7_takeNumber_28 : decode cX7_takeNumber 28 = .ok (.aload_n 0, 1) := by decide +kernel
theorem dX7_takeNumber_29 : decode cX7_takeNumber 29 = .ok (.iconst 2, 1) := by decide +kernel
theorem dX7_takeNumber_30 : decode cX7_takeNumber 30 = .ok (.invokevirtual 114, 3) := by decide +kernel
theorem dX7_takeNumber_33 : decode cX7_takeNumber 33 = .ok (.pop, 1) := by decide +kernel
theorem dX7_takeNumber_34 : decode cX7_takeNumber 34 = .ok (.iconst (-1), 1) := by decide +kernel
theorem dX7_takeNumber_35 : decode cX7_takeNumber 35 = .ok (.ireturn, 1) := by decide +kernel
theorem dX7_takeNumber_36 : decode cX7_takeNumber 36 = .ok (.aload_n 0, 1) := by decide +kernel
theorem dX7_takeNumber_37 : decode cX7_takeNumber 37 = .ok (.getfield 53, 3) := by decide +kernel
theorem dX7_takeNumber_40 : decode cX7_takeNumber 40 = .ok (.istore_n 3, 1) := by decide +kernel
theorem dX7_takeNumber_41 : decode cX7_takeNumber 41 = .ok (.aload_n 0, 1) := by decide +kernel
theorem dX7_takeNumber_42 : decode cX7_takeNumber 42 = .ok (.invokevirtual 95, 3) := by decide +kernel
theorem dX7_takeNumber_45 : decode cX7_takeNumber 45 = .ok (.iload_n 3, 1) := by decide +kernel
theorem dX7_takeNumber_46 : decode cX7_takeNumber 46 = .ok (.ireturn, 1) := by decide +kernel
