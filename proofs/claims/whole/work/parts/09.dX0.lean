theorem dX0_init_0 : decode cX0_init 0 = .ok (.aload_n 0, 1) := by decide +kernel
theorem dX0_init_1 : decode cX0_init 1 = .ok (.invokespecial 5, 3) := by decide +kernel
theorem dX0_init_4 : decode cX0_init 4 = .ok (.aload_n 0, 1) := by decide +kernel
theorem dX0_init_5 : decode cX0_init 5 = .ok (.sipush 240, 3) := by decide +kernel
theorem dX0_init_8 : decode cX0_init 8 = .ok (.newarray .int, 2) := by decide +kernel
theorem dX0_init_10 : decode cX0_init 10 = .ok (.putfield 11, 3) := by decide +kernel
theorem dX0_init_13 : decode cX0_init 13 = .ok (.aload_n 0, 1) := by decide +kernel
theorem dX0_init_14 : decode cX0_init 14 = .ok (.bipush 36, 2) := by decide +kernel
theorem dX0_init_16 : decode cX0_init 16 = .ok (.newarray .int, 2) := by decide +kernel
theorem dX0_init_18 : decode cX0_init 18 = .ok (.putfield 17, 3) := by decide +kernel
theorem dX0_init_21 : decode cX0_init 21 = .ok (.aload_n 0, 1) := by decide +kernel
theorem dX0_init_22 : decode cX0_init 22 = .ok (.sipush 4096, 3) := by decide +kernel
theorem dX0_init_25 : decode cX0_init 25 = .ok (.newarray .int, 2) := by decide +kernel
theorem dX0_init_27 : decode cX0_init 27 = .ok (.putfield 20, 3) := by decide +kernel
theorem dX0_init_30 : decode cX0_init 30 = .ok (.aload_n 0, 1) := by decide +kernel
theorem dX0_init_31 : decode cX0_init 31 = .ok (.bipush 12, 2) := by decide +kernel
theorem dX0_init_33 : decode cX0_init 33 = .ok (.newarray .int, 2) := by decide +kernel
theorem dX0_init_35 : decode cX0_init 35 = .ok (.putfield 23, 3) := by decide +kernel
theorem dX0_init_38 : decode cX0_init 38 = .ok (.aload_n 0, 1) := by decide +kernel
theorem dX0_init_39 : decode cX0_init 39 = .ok (.iconst 0, 1) := by decide +kernel
theorem dX0_init_40 : decode cX0_init 40 = .ok (.putfield 26, 3) := by decide +kernel
theorem dX0_init_43 : decode cX0_init 43 = .ok (.aload_n 0, 1) := by decide +kernel
theorem dX0_init_44 : decode cX0_init 44 = .ok (.iconst 0, 1) := by decide +kernel
theorem dX0_init_45 : decode cX0_init 45 = .ok (.putfield 30, 3) := by decide +kernel
theorem dX0_init_48 : decode cX0_init 48 = .ok (.return_, 1) := by decide +kernel
theorem dX0_start_0 : decode cX0_start 0 = .ok (.aload_n 0, 1) := by decide +kernel
theorem dX0_start_1 : decode cX0_start 1 = .ok (.getfield 11, 3) := by decide +kernel
theorem dX0_start_4 : decode cX0_start 4 = .ok (.iconst 0, 1) := by decide +kernel
theorem dX0_start_5 : decode cX0_start 5 = .ok (.invokestatic 33, 3) := by decide +kernel
theorem dX0_start_8 : decode cX0_start 8 = .ok (.aload_n 0, 1) := by decide +kernel
theorem dX0_start_9 : decode cX0_start 9 = .ok (.iconst 0, 1) := by decide +kernel
theorem dX0_start_10 : decode cX0_start 10 = .ok (.putfield 26, 3) := by decide +kernel
theorem dX0_start_13 : decode cX0_start 13 = .ok (.return_, 1) := by decide +kernel
theorem dX0_beginClaim_0 : decode cX0_beginClaim 0 = .ok (.aload_n 0, 1) := by decide +kernel
theorem dX0_beginClaim_1 : decode cX0_beginClaim 1 = .ok (.getfield 26, 3) := by decide +kernel
theorem dX0_beginClaim_4 : decode cX0_beginClaim 4 = .ok (.bipush 12, 2) := by decide +kernel
theorem dX0_beginClaim_6 : decode cX0_beginClaim 6 = .ok (.if_icmp .ge 13, 3) := by decide +kernel
theorem dX0_beginClaim_9 : decode cX0_beginClaim 9 = .ok (.aload_n 0, 1) := by decide +kernel
theorem dX0_beginClaim_10 : decode cX0_beginClaim 10 = .ok (.dup, 1) := by decide +kernel
theorem dX0_beginClaim_11 : decode cX0_beginClaim 11 = .ok (.getfield 26, 3) := by decide +kernel
theorem dX0_beginClaim_14 : decode cX0_beginClaim 14 = .ok (.iconst 1, 1) := by decide +kernel
theorem dX0_beginClaim_15 : decode cX0_beginClaim 15 = .ok (.iadd, 1) := by decide +kernel
theorem dX0_beginClaim_16 : decode cX0_beginClaim 16 = .ok (.putfield 26, 3) := by decide +kernel
theorem dX0_beginClaim_19 : decode cX0_beginClaim 19 = .ok (.return_, 1) := by decide +kernel
theorem dX0_addCause_0 : decode cX0_addCause 0 = .ok (.aload_n 0, 1) := by decide +kernel
theorem dX0_addCause_1 : decode cX0_addCause 1 = .ok (.getfield 26, 3) := by decide +kernel
theorem dX0_addCause_4 : decode cX0_addCause 4 = .ok (.ifCond .eq 23, 3) := by decide +kernel
theorem dX0_addCause_7 : decode cX0_addCause 7 = .ok (.iload_n 1, 1) := by decide +kernel
theorem dX0_addCause_8 : decode cX0_addCause 8 = .ok (.iconst 0, 1) := by decide +kernel
theorem dX0_addCause_9 : decode cX0_addCause 9 = .ok (.iconst 2, 1) := by decide +kernel
theorem dX0_addCause_10 : decode cX0_addCause 10 = .ok (.invokestatic 39, 3) := by decide +kernel
theorem dX0_addCause_13 : decode cX0_addCause 13 = .ok (.ifCond .eq 14, 3) := by decide +kernel
theorem dX0_addCause_16 : decode cX0_addCause 16 = .ok (.iload_n 2, 1) := by decide +kernel
theorem dX0_addCause_17 : decode cX0_addCause 17 = .ok (.iconst 0, 1) := by decide +kernel
theorem dX0_addCause_18 : decode cX0_addCause 18 = .ok (.sipush 239, 3) := by decide +kernel
theorem dX0_addCause_21 : decode cX0_addCause 21 = .ok (.invokestatic 39, 3) := by decide +kernel
theorem dX0_addCause_24 : decode cX0_addCause 24 = .ok (.ifCond .ne 4, 3) := by decide +kernel
theorem dX0_addCause_27 : decode cX0_addCause 27 = .ok (.return_, 1) := by decide +kernel
theorem dX0_addCause_28 : decode cX0_addCause 28 = .ok (.aload_n 0, 1) := by decide +kernel
theorem dX0_addCause_29 : decode cX0_addCause 29 = .ok (.getfield 17, 3) := by decide +kernel
theorem dX0_addCause_32 : decode cX0_addCause 32 = .ok (.aload_n 0, 1) := by decide +kernel
theorem dX0_addCause_33 : decode cX0_addCause 33 = .ok (.getfield 26, 3) := by decide +kernel
theorem dX0_addCause_36 : decode cX0_addCause 36 = .ok (.iconst 1, 1) := by decide +kernel
theorem dX0_addCause_37 : decode cX0_addCause 37 = .ok (.isub, 1) := by decide +kernel
theorem dX0_addCause_38 : decode cX0_addCause 38 = .ok (.iconst 3, 1) := by decide +kernel
theorem dX0_addCause_39 : decode cX0_addCause 39 = .ok (.imul, 1) := by decide +kernel
theorem dX0_addCause_40 : decode cX0_addCause 40 = .ok (.iload_n 1, 1) := by decide +kernel
theorem dX0_addCause_41 : decode cX0_addCause 41 = .ok (.iadd, 1) := by decide +kernel
theorem dX0_addCause_42 : decode cX0_addCause 42 = .ok (.iload_n 2, 1) := by decide +kernel
theorem dX0_addCause_43 : decode cX0_addCause 43 = .ok (.iastore, 1) := by decide +kernel
theorem dX0_addCause_44 : decode cX0_addCause 44 = .ok (.iload_n 2, 1) := by decide +kernel
theorem dX0_addCause_45 : decode cX0_addCause 45 = .ok (.ifCond .eq 20, 3) := by decide +kernel
theorem dX0_addCause_48 : decode cX0_addCause 48 = .ok (.aload_n 0, 1) := by decide +kernel
theorem dX0_addCause_49 : decode cX0_addCause 49 = .ok (.getfield 11, 3) := by decide +kernel
theorem dX0_addCause_52 : decode cX0_addCause 52 = .ok (.iload_n 2, 1) := by decide +kernel
theorem dX0_addCause_53 : decode cX0_addCause 53 = .ok (.dup2, 1) := by decide +kernel
theorem dX0_addCause_54 : decode cX0_addCause 54 = .ok (.iaload, 1) := by decide +kernel
theorem dX0_addCause_55 : decode cX0_addCause 55 = .ok (.iconst 1, 1) := by decide +kernel
theorem dX0_addCause_56 : decode cX0_addCause 56 = .ok (.aload_n 0, 1) := by decide +kernel
theorem dX0_addCause_57 : decode cX0_addCause 57 = .ok (.getfield 26, 3) := by decide +kernel
theorem dX0_addCause_60 : decode cX0_addCause 60 = .ok (.iconst 1, 1) := by decide +kernel
theorem dX0_addCause_61 : decode cX0_addCause 61 = .ok (.isub, 1) := by decide +kernel
theorem dX0_addCause_62 : decode cX0_addCause 62 = .ok (.ishl, 1) := by decide +kernel
theorem dX0_addCause_63 : decode cX0_addCause 63 = .ok (.ior, 1) := by decide +kernel
theorem dX0_addCause_64 : decode cX0_addCause 64 = .ok (.iastore, 1) := by decide +kernel
theorem dX0_addCause_65 : decode cX0_addCause 65 = .ok (.return_, 1) := by decide +kernel
theorem dX0_chooseFewest_0 : decode cX0_chooseFewest 0 = .ok (.iconst 0, 1) := by decide +kernel
theorem dX0_chooseFewest_1 : decode cX0_chooseFewest 1 = .ok (.istore_n 1, 1) := by decide +kernel
theorem dX0_chooseFewest_2 : decode cX0_chooseFewest 2 = .ok (.iload_n 1, 1) := by decide +kernel
theorem dX0_chooseFewest_3 : decode cX0_chooseFewest 3 = .ok (.aload_n 0, 1) := by decide +kernel
theorem dX0_chooseFewest_4 : decode cX0_chooseFewest 4 = .ok (.getfield 26, 3) := by decide +kernel
theorem dX0_chooseFewest_7 : decode cX0_chooseFewest 7 = .ok (.if_icmp .ge 46, 3) := by decide +kernel
theorem dX0_chooseFewest_10 : decode cX0_chooseFewest 10 = .ok (.iload_n 1, 1) := by decide +kernel
theorem dX0_chooseFewest_11 : decode cX0_chooseFewest 11 = .ok (.iconst 3, 1) := by decide +kernel
theorem dX0_chooseFewest_12 : decode cX0_chooseFewest 12 = .ok (.imul, 1) := by decide +kernel
theorem dX0_chooseFewest_13 : decode cX0_chooseFewest 13 = .ok (.istore_n 2, 1) := by decide +kernel
theorem dX0_chooseFewest_14 : decode cX0_chooseFewest 14 = .ok (.aload_n 0, 1) := by decide +kernel
theorem dX0_chooseFewest_15 : decode cX0_chooseFewest 15 = .ok (.getfield 17, 3) := by decide +kernel
theorem dX0_chooseFewest_18 : decode cX0_chooseFewest 18 = .ok (.iload_n 2, 1) := by decide +kernel
theorem dX0_chooseFewest_19 : decode cX0_chooseFewest 19 = .ok (.iaload, 1) := by decide +kernel
theorem dX0_chooseFewest_20 : decode cX0_chooseFewest 20 = .ok (.ifCond .ne 27, 3) := by decide +kernel
theorem dX0_chooseFewest_23 : decode cX0_chooseFewest 23 = .ok (.aload_n 0, 1) := by decide +kernel
theorem dX0_chooseFewest_24 : decode cX0_chooseFewest 24 = .ok (.getfield 17, 3) := by decide +kernel
theorem dX0_chooseFewest_27 : decode cX0_chooseFewest 27 = .ok (.iload_n 2, 1) := by decide +kernel
theorem dX0_chooseFewest_28 : decode cX0_chooseFewest 28 = .ok (.iconst 1, 1) := by decide +kernel
theorem dX0_chooseFewest_29 : decode cX0_chooseFewest 29 = .ok (.iadd, 1) := by decide +kernel
theorem dX0_chooseFewest_30 : decode cX0_chooseFewest 30 = .ok (.iaload, 1) := by decide +kernel
theorem dX0_chooseFewest_31 : decode cX0_chooseFewest 31 = .ok (.ifCond .ne 16, 3) := by decide +kernel
theorem dX0_chooseFewest_34 : decode cX0_chooseFewest 34 = .ok (.aload_n 0, 1) := by decide +kernel
theorem dX0_chooseFewest_35 : decode cX0_chooseFewest 35 = .ok (.getfield 17, 3) := by decide +kernel
theorem dX0_chooseFewest_38 : decode cX0_chooseFewest 38 = .ok (.iload_n 2, 1) := by decide +kernel
theorem dX0_chooseFewest_39 : decode cX0_chooseFewest 39 = .ok (.iconst 2, 1) := by decide +kernel
theorem dX0_chooseFewest_40 : decode cX0_chooseFewest 40 = .ok (.iadd, 1) := by decide +kernel
theorem dX0_chooseFewest_41 : decode cX0_chooseFewest 41 = .ok (.iaload, 1) := by decide +kernel
theorem dX0_chooseFewest_42 : decode cX0_chooseFewest 42 = .ok (.ifCond .ne 5, 3) := by decide +kernel
theorem dX0_chooseFewest_45 : decode cX0_chooseFewest 45 = .ok (.iconst (-1), 1) := by decide +kernel
theorem dX0_chooseFewest_46 : decode cX0_chooseFewest 46 = .ok (.ireturn, 1) := by decide +kernel
theorem dX0_chooseFewest_47 : decode cX0_chooseFewest 47 = .ok (.iinc 1 1, 3) := by decide +kernel
theorem dX0_chooseFewest_50 : decode cX0_chooseFewest 50 = .ok (.goto (-48), 3) := by decide +kernel
theorem dX0_chooseFewest_53 : decode cX0_chooseFewest 53 = .ok (.aload_n 0, 1) := by decide +kernel
theorem dX0_chooseFewest_54 : decode cX0_chooseFewest 54 = .ok (.invokevirtual 43, 3) := by decide +kernel
theorem dX0_chooseFewest_57 : decode cX0_chooseFewest 57 = .ok (.iconst 1, 1) := by decide +kernel
theorem dX0_chooseFewest_58 : decode cX0_chooseFewest 58 = .ok (.aload_n 0, 1) := by decide +kernel
theorem dX0_chooseFewest_59 : decode cX0_chooseFewest 59 = .ok (.getfield 26, 3) := by decide +kernel
theorem dX0_chooseFewest_62 : decode cX0_chooseFewest 62 = .ok (.ishl, 1) := by decide +kernel
theorem dX0_chooseFewest_63 : decode cX0_chooseFewest 63 = .ok (.iconst 1, 1) := by decide +kernel
theorem dX0_chooseFewest_64 : decode cX0_chooseFewest 64 = .ok (.isub, 1) := by decide +kernel
theorem dX0_chooseFewest_65 : decode cX0_chooseFewest 65 = .ok (.istore_n 1, 1) := by decide +kernel
theorem dX0_chooseFewest_66 : decode cX0_chooseFewest 66 = .ok (.aload_n 0, 1) := by decide +kernel
theorem dX0_chooseFewest_67 : decode cX0_chooseFewest 67 = .ok (.iconst 0, 1) := by decide +kernel
theorem dX0_chooseFewest_68 : decode cX0_chooseFewest 68 = .ok (.putfield 30, 3) := by decide +kernel
theorem dX0_chooseFewest_71 : decode cX0_chooseFewest 71 = .ok (.iconst 1, 1) := by decide +kernel
theorem dX0_chooseFewest_72 : decode cX0_chooseFewest 72 = .ok (.istore_n 2, 1) := by decide +kernel
theorem dX0_chooseFewest_73 : decode cX0_chooseFewest 73 = .ok (.iload_n 2, 1) := by decide +kernel
theorem dX0_chooseFewest_74 : decode cX0_chooseFewest 74 = .ok (.sipush 240, 3) := by decide +kernel
theorem dX0_chooseFewest_77 : decode cX0_chooseFewest 77 = .ok (.if_icmp .ge 70, 3) := by decide +kernel
theorem dX0_chooseFewest_80 : decode cX0_chooseFewest 80 = .ok (.iload_n 1, 1) := by decide +kernel
theorem dX0_chooseFewest_81 : decode cX0_chooseFewest 81 = .ok (.ifCond .eq 66, 3) := by decide +kernel
theorem dX0_chooseFewest_84 : decode cX0_chooseFewest 84 = .ok (.iload_n 1, 1) := by decide +kernel
theorem dX0_chooseFewest_85 : decode cX0_chooseFewest 85 = .ok (.aload_n 0, 1) := by decide +kernel
theorem dX0_chooseFewest_86 : decode cX0_chooseFewest 86 = .ok (.getfield 11, 3) := by decide +kernel
theorem dX0_chooseFewest_89 : decode cX0_chooseFewest 89 = .ok (.iload_n 2, 1) := by decide +kernel
theorem dX0_chooseFewest_90 : decode cX0_chooseFewest 90 = .ok (.iaload, 1) := by decide +kernel
theorem dX0_chooseFewest_91 : decode cX0_chooseFewest 91 = .ok (.iconst (-1), 1) := by decide +kernel
theorem dX0_chooseFewest_92 : decode cX0_chooseFewest 92 = .ok (.ixor, 1) := by decide +kernel
theorem dX0_chooseFewest_93 : decode cX0_chooseFewest 93 = .ok (.iand, 1) := by decide +kernel
theorem dX0_chooseFewest_94 : decode cX0_chooseFewest 94 = .ok (.istore_n 3, 1) := by decide +kernel
theorem dX0_chooseFewest_95 : decode cX0_chooseFewest 95 = .ok (.aload_n 0, 1) := by decide +kernel
theorem dX0_chooseFewest_96 : decode cX0_chooseFewest 96 = .ok (.getfield 20, 3) := by decide +kernel
theorem dX0_chooseFewest_99 : decode cX0_chooseFewest 99 = .ok (.iload_n 3, 1) := by decide +kernel
theorem dX0_chooseFewest_100 : decode cX0_chooseFewest 100 = .ok (.iaload, 1) := by decide +kernel
theorem dX0_chooseFewest_101 : decode cX0_chooseFewest 101 = .ok (.aload_n 0, 1) := by decide +kernel
theorem dX0_chooseFewest_102 : decode cX0_chooseFewest 102 = .ok (.getfield 20, 3) := by decide +kernel
theorem dX0_chooseFewest_105 : decode cX0_chooseFewest 105 = .ok (.iload_n 1, 1) := by decide +kernel
theorem dX0_chooseFewest_106 : decode cX0_chooseFewest 106 = .ok (.iaload, 1) := by decide +kernel
theorem dX0_chooseFewest_107 : decode cX0_chooseFewest 107 = .ok (.if_icmp .ge 34, 3) := by decide +kernel
theorem dX0_chooseFewest_110 : decode cX0_chooseFewest 110 = .ok (.aload_n 0, 1) := by decide +kernel
theorem dX0_chooseFewest_111 : decode cX0_chooseFewest 111 = .ok (.getfield 30, 3) := by decide +kernel
theorem dX0_chooseFewest_114 : decode cX0_chooseFewest 114 = .ok (.bipush 12, 2) := by decide +kernel
theorem dX0_chooseFewest_116 : decode cX0_chooseFewest 116 = .ok (.if_icmp .ge 25, 3) := by decide +kernel
theorem dX0_chooseFewest_119 : decode cX0_chooseFewest 119 = .ok (.aload_n 0, 1) := by decide +kernel
theorem dX0_chooseFewest_120 : decode cX0_chooseFewest 120 = .ok (.getfield 23, 3) := by decide +kernel
theorem dX0_chooseFewest_123 : decode cX0_chooseFewest 123 = .ok (.aload_n 0, 1) := by decide +kernel
theorem dX0_chooseFewest_124 : decode cX0_chooseFewest 124 = .ok (.getfield 30, 3) := by decide +kernel
theorem dX0_chooseFewest_127 : decode cX0_chooseFewest 127 = .ok (.iload_n 2, 1) := by decide +kernel
theorem dX0_chooseFewest_128 : decode cX0_chooseFewest 128 = .ok (.iastore, 1) := by decide +kernel
theorem dX0_chooseFewest_129 : decode cX0_chooseFewest 129 = .ok (.aload_n 0, 1) := by decide +kernel
theorem dX0_chooseFewest_130 : decode cX0_chooseFewest 130 = .ok (.dup, 1) := by decide +kernel
theorem dX0_chooseFewest_131 : decode cX0_chooseFewest 131 = .ok (.getfield 30, 3) := by decide +kernel
theorem dX0_chooseFewest_134 : decode cX0_chooseFewest 134 = .ok (.iconst 1, 1) := by decide +kernel
theorem dX0_chooseFewest_135 : decode cX0_chooseFewest 135 = .ok (.iadd, 1) := by decide +kernel
theorem dX0_chooseFewest_136 : decode cX0_chooseFewest 136 = .ok (.putfield 30, 3) := by decide +kernel
theorem dX0_chooseFewest_139 : decode cX0_chooseFewest 139 = .ok (.iload_n 3, 1) := by decide +kernel
theorem dX0_chooseFewest_140 : decode cX0_chooseFewest 140 = .ok (.istore_n 1, 1) := by decide +kernel
theorem dX0_chooseFewest_141 : decode cX0_chooseFewest 141 = .ok (.iinc 2 1, 3) := by decide +kernel
theorem dX0_chooseFewest_144 : decode cX0_chooseFewest 144 = .ok (.goto (-71), 3) := by decide +kernel
theorem dX0_chooseFewest_147 : decode cX0_chooseFewest 147 = .ok (.aload_n 0, 1) := by decide +kernel
theorem dX0_chooseFewest_148 : decode cX0_chooseFewest 148 = .ok (.getfield 30, 3) := by decide +kernel
theorem dX0_chooseFewest_151 : decode cX0_chooseFewest 151 = .ok (.ireturn, 1) := by decide +kernel
theorem dX0_countFewest_0 : decode cX0_countFewest 0 = .ok (.aload_n 0, 1) := by decide +kernel
theorem dX0_countFewest_1 : decode cX0_countFewest 1 = .ok (.getfield 20, 3) := by decide +kernel
theorem dX0_countFewest_4 : decode cX0_countFewest 4 = .ok (.iconst 0, 1) := by decide +kernel
theorem dX0_countFewest_5 : decode cX0_countFewest 5 = .ok (.iconst 0, 1) := by decide +kernel
theorem dX0_countFewest_6 : decode cX0_countFewest 6 = .ok (.iastore, 1) := by decide +kernel
theorem dX0_countFewest_7 : decode cX0_countFewest 7 = .ok (.iconst 0, 1) := by decide +kernel
theorem dX0_countFewest_8 : decode cX0_countFewest 8 = .ok (.istore_n 1, 1) := by decide +kernel
theorem dX0_countFewest_9 : decode cX0_countFewest 9 = .ok (.iload_n 1, 1) := by decide +kernel
theorem dX0_countFewest_10 : decode cX0_countFewest 10 = .ok (.aload_n 0, 1) := by decide +kernel
theorem dX0_countFewest_11 : decode cX0_countFewest 11 = .ok (.getfield 26, 3) := by decide +kernel
theorem dX0_countFewest_14 : decode cX0_countFewest 14 = .ok (.if_icmp .ge 102, 3) := by decide +kernel
theorem dX0_countFewest_17 : decode cX0_countFewest 17 = .ok (.iconst 0, 1) := by decide +kernel
theorem dX0_countFewest_18 : decode cX0_countFewest 18 = .ok (.istore_n 2, 1) := by decide +kernel
theorem dX0_countFewest_19 : decode cX0_countFewest 19 = .ok (.iload_n 2, 1) := by decide +kernel
theorem dX0_countFewest_20 : decode cX0_countFewest 20 = .ok (.iconst 1, 1) := by decide +kernel
theorem dX0_countFewest_21 : decode cX0_countFewest 21 = .ok (.iload_n 1, 1) := by decide +kernel
theorem dX0_countFewest_22 : decode cX0_countFewest 22 = .ok (.ishl, 1) := by decide +kernel
theorem dX0_countFewest_23 : decode cX0_countFewest 23 = .ok (.if_icmp .ge 87, 3) := by decide +kernel
theorem dX0_countFewest_26 : decode cX0_countFewest 26 = .ok (.iload_n 2, 1) := by decide +kernel
theorem dX0_countFewest_27 : decode cX0_countFewest 27 = .ok (.iconst 1, 1) := by decide +kernel
theorem dX0_countFewest_28 : decode cX0_countFewest 28 = .ok (.iload_n 1, 1) := by decide +kernel
theorem dX0_countFewest_29 : decode cX0_countFewest 29 = .ok (.ishl, 1) := by decide +kernel
theorem dX0_countFewest_30 : decode cX0_countFewest 30 = .ok (.ior, 1) := by decide +kernel
theorem dX0_countFewest_31 : decode cX0_countFewest 31 = .ok (.istore_n 3, 1) := by decide +kernel
theorem dX0_countFewest_32 : decode cX0_countFewest 32 = .ok (.aload_n 0, 1) := by decide +kernel
theorem dX0_countFewest_33 : decode cX0_countFewest 33 = .ok (.getfield 26, 3) := by decide +kernel
theorem dX0_countFewest_36 : decode cX0_countFewest 36 = .ok (.istore 4, 2) := by decide +kernel
theorem dX0_countFewest_38 : decode cX0_countFewest 38 = .ok (.iconst 0, 1) := by decide +kernel
theorem dX0_countFewest_39 : decode cX0_countFewest 39 = .ok (.istore 5, 2) := by decide +kernel
theorem dX0_countFewest_41 : decode cX0_countFewest 41 = .ok (.iload 5, 2) := by decide +kernel
theorem dX0_countFewest_43 : decode cX0_countFewest 43 = .ok (.iconst 3, 1) := by decide +kernel
theorem dX0_countFewest_44 : decode cX0_countFewest 44 = .ok (.if_icmp .ge 52, 3) := by decide +kernel
theorem dX0_countFewest_47 : decode cX0_countFewest 47 = .ok (.aload_n 0, 1) := by decide +kernel
theorem dX0_countFewest_48 : decode cX0_countFewest 48 = .ok (.getfield 17, 3) := by decide +kernel
theorem dX0_countFewest_51 : decode cX0_countFewest 51 = .ok (.iload_n 1, 1) := by decide +kernel
theorem dX0_countFewest_52 : decode cX0_countFewest 52 = .ok (.iconst 3, 1) := by decide +kernel
theorem dX0_countFewest_53 : decode cX0_countFewest 53 = .ok (.imul, 1) := by decide +kernel
theorem dX0_countFewest_54 : decode cX0_countFewest 54 = .ok (.iload 5, 2) := by decide +kernel
theorem dX0_countFewest_56 : decode cX0_countFewest 56 = .ok (.iadd, 1) := by decide +kernel
theorem dX0_countFewest_57 : decode cX0_countFewest 57 = .ok (.iaload, 1) := by decide +kernel
theorem dX0_countFewest_58 : decode cX0_countFewest 58 = .ok (.istore 6, 2) := by decide +kernel
theorem dX0_countFewest_60 : decode cX0_countFewest 60 = .ok (.iload 6, 2) := by decide +kernel
theorem dX0_countFewest_62 : decode cX0_countFewest 62 = .ok (.ifCond .eq 28, 3) := by decide +kernel
theorem dX0_countFewest_65 : decode cX0_countFewest 65 = .ok (.iload 4, 2) := by decide +kernel
theorem dX0_countFewest_67 : decode cX0_countFewest 67 = .ok (.aload_n 0, 1) := by decide +kernel
theorem dX0_countFewest_68 : decode cX0_countFewest 68 = .ok (.getfield 20, 3) := by decide +kernel
theorem dX0_countFewest_71 : decode cX0_countFewest 71 = .ok (.iload_n 3, 1) := by decide +kernel
theorem dX0_countFewest_72 : decode cX0_countFewest 72 = .ok (.aload_n 0, 1) := by decide +kernel
theorem dX0_countFewest_73 : decode cX0_countFewest 73 = .ok (.getfield 11, 3) := by decide +kernel
theorem dX0_countFewest_76 : decode cX0_countFewest 76 = .ok (.iload 6, 2) := by decide +kernel
theorem dX0_countFewest_78 : decode cX0_countFewest 78 = .ok (.iaload, 1) := by decide +kernel
theorem dX0_countFewest_79 : decode cX0_countFewest 79 = .ok (.iconst (-1), 1) := by decide +kernel
theorem dX0_countFewest_80 : decode cX0_countFewest 80 = .ok (.ixor, 1) := by decide +kernel
theorem dX0_countFewest_81 : decode cX0_countFewest 81 = .ok (.iand, 1) := by decide +kernel
theorem dX0_countFewest_82 : decode cX0_countFewest 82 = .ok (.iaload, 1) := by decide +kernel
theorem dX0_countFewest_83 : decode cX0_countFewest 83 = .ok (.iconst 1, 1) := by decide +kernel
theorem dX0_countFewest_84 : decode cX0_countFewest 84 = .ok (.iadd, 1) := by decide +kernel
theorem dX0_countFewest_85 : decode cX0_countFewest 85 = .ok (.invokestatic 46, 3) := by decide +kernel
theorem dX0_countFewest_88 : decode cX0_countFewest 88 = .ok (.istore 4, 2) := by decide +kernel
theorem dX0_countFewest_90 : decode cX0_countFewest 90 = .ok (.iinc 5 1, 3) := by decide +kernel
theorem dX0_countFewest_93 : decode cX0_countFewest 93 = .ok (.goto (-52), 3) := by decide +kernel
theorem dX0_countFewest_96 : decode cX0_countFewest 96 = .ok (.aload_n 0, 1) := by decide +kernel
theorem dX0_countFewest_97 : decode cX0_countFewest 97 = .ok (.getfield 20, 3) := by decide +kernel
theorem dX0_countFewest_100 : decode cX0_countFewest 100 = .ok (.iload_n 3, 1) := by decide +kernel
theorem dX0_countFewest_101 : decode cX0_countFewest 101 = .ok (.iload 4, 2) := by decide +kernel
theorem dX0_countFewest_103 : decode cX0_countFewest 103 = .ok (.iastore, 1) := by decide +kernel
theorem dX0_countFewest_104 : decode cX0_countFewest 104 = .ok (.iinc 2 1, 3) := by decide +kernel
theorem dX0_countFewest_107 : decode cX0_countFewest 107 = .ok (.goto (-88), 3) := by decide +kernel
theorem dX0_countFewest_110 : decode cX0_countFewest 110 = .ok (.iinc 1 1, 3) := by decide +kernel
theorem dX0_countFewest_113 : decode cX0_countFewest 113 = .ok (.goto (-104), 3) := by decide +kernel
theorem dX0_countFewest_116 : decode cX0_countFewest 116 = .ok (.return_, 1) := by decide +kernel
