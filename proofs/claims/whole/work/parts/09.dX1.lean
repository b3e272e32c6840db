theorem dX1_init_0 : decode cX1_init 0 = .ok (.aload_n 0, 1) := by decide +kernel
theorem dX1_init_1 : decode cX1_init 1 = .ok (.invokespecial 3, 3) := by decide +kernel
theorem dX1_init_4 : decode cX1_init 4 = .ok (.aload_n 0, 1) := by decide +kernel
theorem dX1_init_5 : decode cX1_init 5 = .ok (.bipush 40, 2) := by decide +kernel
theorem dX1_init_7 : decode cX1_init 7 = .ok (.newarray .int, 2) := by decide +kernel
theorem dX1_init_9 : decode cX1_init 9 = .ok (.putfield 11, 3) := by decide +kernel
theorem dX1_init_12 : decode cX1_init 12 = .ok (.aload_n 0, 1) := by decide +kernel
theorem dX1_init_13 : decode cX1_init 13 = .ok (.sipush 256, 3) := by decide +kernel
theorem dX1_init_16 : decode cX1_init 16 = .ok (.newarray .long, 2) := by decide +kernel
theorem dX1_init_18 : decode cX1_init 18 = .ok (.putfield 17, 3) := by decide +kernel
theorem dX1_init_21 : decode cX1_init 21 = .ok (.aload_n 0, 1) := by decide +kernel
theorem dX1_init_22 : decode cX1_init 22 = .ok (.bipush 8, 2) := by decide +kernel
theorem dX1_init_24 : decode cX1_init 24 = .ok (.newarray .int, 2) := by decide +kernel
theorem dX1_init_26 : decode cX1_init 26 = .ok (.putfield 21, 3) := by decide +kernel
theorem dX1_init_29 : decode cX1_init 29 = .ok (.aload_n 0, 1) := by decide +kernel
theorem dX1_init_30 : decode cX1_init 30 = .ok (.bipush 40, 2) := by decide +kernel
theorem dX1_init_32 : decode cX1_init 32 = .ok (.newarray .int, 2) := by decide +kernel
theorem dX1_init_34 : decode cX1_init 34 = .ok (.putfield 24, 3) := by decide +kernel
theorem dX1_init_37 : decode cX1_init 37 = .ok (.aload_n 0, 1) := by decide +kernel
theorem dX1_init_38 : decode cX1_init 38 = .ok (.bipush 8, 2) := by decide +kernel
theorem dX1_init_40 : decode cX1_init 40 = .ok (.newarray .int, 2) := by decide +kernel
theorem dX1_init_42 : decode cX1_init 42 = .ok (.putfield 27, 3) := by decide +kernel
theorem dX1_init_45 : decode cX1_init 45 = .ok (.aload_n 0, 1) := by decide +kernel
theorem dX1_init_46 : decode cX1_init 46 = .ok (.lconst 0, 1) := by decide +kernel
theorem dX1_init_47 : decode cX1_init 47 = .ok (.putfield 30, 3) := by decide +kernel
theorem dX1_init_50 : decode cX1_init 50 = .ok (.aload_n 0, 1) := by decide +kernel
theorem dX1_init_51 : decode cX1_init 51 = .ok (.iconst 0, 1) := by decide +kernel
theorem dX1_init_52 : decode cX1_init 52 = .ok (.putfield 34, 3) := by decide +kernel
theorem dX1_init_55 : decode cX1_init 55 = .ok (.aload_n 0, 1) := by decide +kernel
theorem dX1_init_56 : decode cX1_init 56 = .ok (.iconst 0, 1) := by decide +kernel
theorem dX1_init_57 : decode cX1_init 57 = .ok (.putfield 38, 3) := by decide +kernel
theorem dX1_init_60 : decode cX1_init 60 = .ok (.aload_n 0, 1) := by decide +kernel
theorem dX1_init_61 : decode cX1_init 61 = .ok (.iconst 0, 1) := by decide +kernel
theorem dX1_init_62 : decode cX1_init 62 = .ok (.putfield 41, 3) := by decide +kernel
theorem dX1_init_65 : decode cX1_init 65 = .ok (.return_, 1) := by decide +kernel
theorem dX1_start_0 : decode cX1_start 0 = .ok (.aload_n 0, 1) := by decide +kernel
theorem dX1_start_1 : decode cX1_start 1 = .ok (.iload_n 1, 1) := by decide +kernel
theorem dX1_start_2 : decode cX1_start 2 = .ok (.bipush 8, 2) := by decide +kernel
theorem dX1_start_4 : decode cX1_start 4 = .ok (.invokestatic 44, 3) := by decide +kernel
theorem dX1_start_7 : decode cX1_start 7 = .ok (.putfield 34, 3) := by decide +kernel
theorem dX1_start_10 : decode cX1_start 10 = .ok (.aload_n 0, 1) := by decide +kernel
theorem dX1_start_11 : decode cX1_start 11 = .ok (.iload_n 2, 1) := by decide +kernel
theorem dX1_start_12 : decode cX1_start 12 = .ok (.bipush 40, 2) := by decide +kernel
theorem dX1_start_14 : decode cX1_start 14 = .ok (.invokestatic 44, 3) := by decide +kernel
theorem dX1_start_17 : decode cX1_start 17 = .ok (.putfield 38, 3) := by decide +kernel
theorem dX1_start_20 : decode cX1_start 20 = .ok (.aload_n 0, 1) := by decide +kernel
theorem dX1_start_21 : decode cX1_start 21 = .ok (.getfield 11, 3) := by decide +kernel
theorem dX1_start_24 : decode cX1_start 24 = .ok (.iconst 0, 1) := by decide +kernel
theorem dX1_start_25 : decode cX1_start 25 = .ok (.invokestatic 50, 3) := by decide +kernel
theorem dX1_start_28 : decode cX1_start 28 = .ok (.return_, 1) := by decide +kernel
theorem dX1_allow_0 : decode cX1_allow 0 = .ok (.iload_n 1, 1) := by decide +kernel
theorem dX1_allow_1 : decode cX1_allow 1 = .ok (.iconst 0, 1) := by decide +kernel
theorem dX1_allow_2 : decode cX1_allow 2 = .ok (.aload_n 0, 1) := by decide +kernel
theorem dX1_allow_3 : decode cX1_allow 3 = .ok (.getfield 34, 3) := by decide +kernel
theorem dX1_allow_6 : decode cX1_allow 6 = .ok (.iconst 1, 1) := by decide +kernel
theorem dX1_allow_7 : decode cX1_allow 7 = .ok (.isub, 1) := by decide +kernel
theorem dX1_allow_8 : decode cX1_allow 8 = .ok (.invokestatic 56, 3) := by decide +kernel
theorem dX1_allow_11 : decode cX1_allow 11 = .ok (.ifCond .eq 29, 3) := by decide +kernel
theorem dX1_allow_14 : decode cX1_allow 14 = .ok (.iload_n 2, 1) := by decide +kernel
theorem dX1_allow_15 : decode cX1_allow 15 = .ok (.iconst 0, 1) := by decide +kernel
theorem dX1_allow_16 : decode cX1_allow 16 = .ok (.aload_n 0, 1) := by decide +kernel
theorem dX1_allow_17 : decode cX1_allow 17 = .ok (.getfield 38, 3) := by decide +kernel
theorem dX1_allow_20 : decode cX1_allow 20 = .ok (.iconst 1, 1) := by decide +kernel
theorem dX1_allow_21 : decode cX1_allow 21 = .ok (.isub, 1) := by decide +kernel
theorem dX1_allow_22 : decode cX1_allow 22 = .ok (.invokestatic 56, 3) := by decide +kernel
theorem dX1_allow_25 : decode cX1_allow 25 = .ok (.ifCond .eq 15, 3) := by decide +kernel
theorem dX1_allow_28 : decode cX1_allow 28 = .ok (.aload_n 0, 1) := by decide +kernel
theorem dX1_allow_29 : decode cX1_allow 29 = .ok (.getfield 11, 3) := by decide +kernel
theorem dX1_allow_32 : decode cX1_allow 32 = .ok (.iload_n 2, 1) := by decide +kernel
theorem dX1_allow_33 : decode cX1_allow 33 = .ok (.dup2, 1) := by decide +kernel
theorem dX1_allow_34 : decode cX1_allow 34 = .ok (.iaload, 1) := by decide +kernel
theorem dX1_allow_35 : decode cX1_allow 35 = .ok (.iconst 1, 1) := by decide +kernel
theorem dX1_allow_36 : decode cX1_allow 36 = .ok (.iload_n 1, 1) := by decide +kernel
theorem dX1_allow_37 : decode cX1_allow 37 = .ok (.ishl, 1) := by decide +kernel
theorem dX1_allow_38 : decode cX1_allow 38 = .ok (.ior, 1) := by decide +kernel
theorem dX1_allow_39 : decode cX1_allow 39 = .ok (.iastore, 1) := by decide +kernel
theorem dX1_allow_40 : decode cX1_allow 40 = .ok (.return_, 1) := by decide +kernel
theorem dX1_countWays_0 : decode cX1_countWays 0 = .ok (.iconst 1, 1) := by decide +kernel
theorem dX1_countWays_1 : decode cX1_countWays 1 = .ok (.aload_n 0, 1) := by decide +kernel
theorem dX1_countWays_2 : decode cX1_countWays 2 = .ok (.getfield 34, 3) := by decide +kernel
theorem dX1_countWays_5 : decode cX1_countWays 5 = .ok (.ishl, 1) := by decide +kernel
theorem dX1_countWays_6 : decode cX1_countWays 6 = .ok (.iconst 1, 1) := by decide +kernel
theorem dX1_countWays_7 : decode cX1_countWays 7 = .ok (.isub, 1) := by decide +kernel
theorem dX1_countWays_8 : decode cX1_countWays 8 = .ok (.istore_n 1, 1) := by decide +kernel
theorem dX1_countWays_9 : decode cX1_countWays 9 = .ok (.aload_n 0, 1) := by decide +kernel
theorem dX1_countWays_10 : decode cX1_countWays 10 = .ok (.getfield 17, 3) := by decide +kernel
theorem dX1_countWays_13 : decode cX1_countWays 13 = .ok (.lconst 0, 1) := by decide +kernel
theorem dX1_countWays_14 : decode cX1_countWays 14 = .ok (.invokestatic 60, 3) := by decide +kernel
theorem dX1_countWays_17 : decode cX1_countWays 17 = .ok (.aload_n 0, 1) := by decide +kernel
theorem dX1_countWays_18 : decode cX1_countWays 18 = .ok (.getfield 17, 3) := by decide +kernel
theorem dX1_countWays_21 : decode cX1_countWays 21 = .ok (.iconst 0, 1) := by decide +kernel
theorem dX1_countWays_22 : decode cX1_countWays 22 = .ok (.lconst 1, 1) := by decide +kernel
theorem dX1_countWays_23 : decode cX1_countWays 23 = .ok (.lastore, 1) := by decide +kernel
theorem dX1_countWays_24 : decode cX1_countWays 24 = .ok (.iconst 0, 1) := by decide +kernel
theorem dX1_countWays_25 : decode cX1_countWays 25 = .ok (.istore_n 2, 1) := by decide +kernel
theorem dX1_countWays_26 : decode cX1_countWays 26 = .ok (.iload_n 2, 1) := by decide +kernel
theorem dX1_countWays_27 : decode cX1_countWays 27 = .ok (.aload_n 0, 1) := by decide +kernel
theorem dX1_countWays_28 : decode cX1_countWays 28 = .ok (.getfield 38, 3) := by decide +kernel
theorem dX1_countWays_31 : decode cX1_countWays 31 = .ok (.if_icmp .ge 101, 3) := by decide +kernel
theorem dX1_countWays_34 : decode cX1_countWays 34 = .ok (.aload_n 0, 1) := by decide +kernel
theorem dX1_countWays_35 : decode cX1_countWays 35 = .ok (.getfield 11, 3) := by decide +kernel
theorem dX1_countWays_38 : decode cX1_countWays 38 = .ok (.iload_n 2, 1) := by decide +kernel
theorem dX1_countWays_39 : decode cX1_countWays 39 = .ok (.iaload, 1) := by decide +kernel
theorem dX1_countWays_40 : decode cX1_countWays 40 = .ok (.ifCond .ne 7, 3) := by decide +kernel
theorem dX1_countWays_43 : decode cX1_countWays 43 = .ok (.iconst (-1), 1) := by decide +kernel
theorem dX1_countWays_44 : decode cX1_countWays 44 = .ok (.goto 4, 3) := by decide +kernel
theorem dX1_countWays_47 : decode cX1_countWays 47 = .ok (.iload_n 1, 1) := by decide +kernel
theorem dX1_countWays_48 : decode cX1_countWays 48 = .ok (.istore_n 3, 1) := by decide +kernel
theorem dX1_countWays_49 : decode cX1_countWays 49 = .ok (.iload_n 3, 1) := by decide +kernel
theorem dX1_countWays_50 : decode cX1_countWays 50 = .ok (.ifCond .lt 76, 3) := by decide +kernel
theorem dX1_countWays_53 : decode cX1_countWays 53 = .ok (.iconst 0, 1) := by decide +kernel
theorem dX1_countWays_54 : decode cX1_countWays 54 = .ok (.istore 4, 2) := by decide +kernel
theorem dX1_countWays_56 : decode cX1_countWays 56 = .ok (.iload 4, 2) := by decide +kernel
theorem dX1_countWays_58 : decode cX1_countWays 58 = .ok (.aload_n 0, 1) := by decide +kernel
theorem dX1_countWays_59 : decode cX1_countWays 59 = .ok (.getfield 34, 3) := by decide +kernel
theorem dX1_countWays_62 : decode cX1_countWays 62 = .ok (.if_icmp .ge 58, 3) := by decide +kernel
theorem dX1_countWays_65 : decode cX1_countWays 65 = .ok (.aload_n 0, 1) := by decide +kernel
theorem dX1_countWays_66 : decode cX1_countWays 66 = .ok (.getfield 17, 3) := by decide +kernel
theorem dX1_countWays_69 : decode cX1_countWays 69 = .ok (.iload_n 3, 1) := by decide +kernel
theorem dX1_countWays_70 : decode cX1_countWays 70 = .ok (.laload, 1) := by decide +kernel
theorem dX1_countWays_71 : decode cX1_countWays 71 = .ok (.lconst 0, 1) := by decide +kernel
theorem dX1_countWays_72 : decode cX1_countWays 72 = .ok (.lcmp, 1) := by decide +kernel
theorem dX1_countWays_73 : decode cX1_countWays 73 = .ok (.ifCond .eq 47, 3) := by decide +kernel
theorem dX1_countWays_76 : decode cX1_countWays 76 = .ok (.aload_n 0, 1) := by decide +kernel
theorem dX1_countWays_77 : decode cX1_countWays 77 = .ok (.getfield 11, 3) := by decide +kernel
theorem dX1_countWays_80 : decode cX1_countWays 80 = .ok (.iload_n 2, 1) := by decide +kernel
theorem dX1_countWays_81 : decode cX1_countWays 81 = .ok (.iaload, 1) := by decide +kernel
theorem dX1_countWays_82 : decode cX1_countWays 82 = .ok (.iload_n 3, 1) := by decide +kernel
theorem dX1_countWays_83 : decode cX1_countWays 83 = .ok (.iconst (-1), 1) := by decide +kernel
theorem dX1_countWays_84 : decode cX1_countWays 84 = .ok (.ixor, 1) := by decide +kernel
theorem dX1_countWays_85 : decode cX1_countWays 85 = .ok (.iand, 1) := by decide +kernel
theorem dX1_countWays_86 : decode cX1_countWays 86 = .ok (.iconst 1, 1) := by decide +kernel
theorem dX1_countWays_87 : decode cX1_countWays 87 = .ok (.iload 4, 2) := by decide +kernel
theorem dX1_countWays_89 : decode cX1_countWays 89 = .ok (.ishl, 1) := by decide +kernel
theorem dX1_countWays_90 : decode cX1_countWays 90 = .ok (.iand, 1) := by decide +kernel
theorem dX1_countWays_91 : decode cX1_countWays 91 = .ok (.ifCond .eq 23, 3) := by decide +kernel
theorem dX1_countWays_94 : decode cX1_countWays 94 = .ok (.aload_n 0, 1) := by decide +kernel
theorem dX1_countWays_95 : decode cX1_countWays 95 = .ok (.getfield 17, 3) := by decide +kernel
theorem dX1_countWays_98 : decode cX1_countWays 98 = .ok (.iload_n 3, 1) := by decide +kernel
theorem dX1_countWays_99 : decode cX1_countWays 99 = .ok (.iconst 1, 1) := by decide +kernel
theorem dX1_countWays_100 : decode cX1_countWays 100 = .ok (.iload 4, 2) := by decide +kernel
theorem dX1_countWays_102 : decode cX1_countWays 102 = .ok (.ishl, 1) := by decide +kernel
theorem dX1_countWays_103 : decode cX1_countWays 103 = .ok (.ior, 1) := by decide +kernel
theorem dX1_countWays_104 : decode cX1_countWays 104 = .ok (.dup2, 1) := by decide +kernel
theorem dX1_countWays_105 : decode cX1_countWays 105 = .ok (.laload, 1) := by decide +kernel
theorem dX1_countWays_106 : decode cX1_countWays 106 = .ok (.aload_n 0, 1) := by decide +kernel
theorem dX1_countWays_107 : decode cX1_countWays 107 = .ok (.getfield 17, 3) := by decide +kernel
theorem dX1_countWays_110 : decode cX1_countWays 110 = .ok (.iload_n 3, 1) := by decide +kernel
theorem dX1_countWays_111 : decode cX1_countWays 111 = .ok (.laload, 1) := by decide +kernel
theorem dX1_countWays_112 : decode cX1_countWays 112 = .ok (.ladd, 1) := by decide +kernel
theorem dX1_countWays_113 : decode cX1_countWays 113 = .ok (.lastore, 1) := by decide +kernel
theorem dX1_countWays_114 : decode cX1_countWays 114 = .ok (.iinc 4 1, 3) := by decide +kernel
theorem dX1_countWays_117 : decode cX1_countWays 117 = .ok (.goto (-61), 3) := by decide +kernel
theorem dX1_countWays_120 : decode cX1_countWays 120 = .ok (.iinc 3 (-1), 3) := by decide +kernel
theorem dX1_countWays_123 : decode cX1_countWays 123 = .ok (.goto (-74), 3) := by decide +kernel
theorem dX1_countWays_126 : decode cX1_countWays 126 = .ok (.iinc 2 1, 3) := by decide +kernel
theorem dX1_countWays_129 : decode cX1_countWays 129 = .ok (.goto (-103), 3) := by decide +kernel
theorem dX1_countWays_132 : decode cX1_countWays 132 = .ok (.aload_n 0, 1) := by decide +kernel
theorem dX1_countWays_133 : decode cX1_countWays 133 = .ok (.getfield 17, 3) := by decide +kernel
theorem dX1_countWays_136 : decode cX1_countWays 136 = .ok (.iload_n 1, 1) := by decide +kernel
theorem dX1_countWays_137 : decode cX1_countWays 137 = .ok (.laload, 1) := by decide +kernel
theorem dX1_countWays_138 : decode cX1_countWays 138 = .ok (.lreturn, 1) := by decide +kernel
theorem dX1_settleSure_0 : decode cX1_settleSure 0 = .ok (.aload_n 0, 1) := by decide +kernel
theorem dX1_settleSure_1 : decode cX1_settleSure 1 = .ok (.getfield 24, 3) := by decide +kernel
theorem dX1_settleSure_4 : decode cX1_settleSure 4 = .ok (.iconst (-1), 1) := by decide +kernel
theorem dX1_settleSure_5 : decode cX1_settleSure 5 = .ok (.invokestatic 50, 3) := by decide +kernel
theorem dX1_settleSure_8 : decode cX1_settleSure 8 = .ok (.iconst 0, 1) := by decide +kernel
theorem dX1_settleSure_9 : decode cX1_settleSure 9 = .ok (.istore_n 1, 1) := by decide +kernel
theorem dX1_settleSure_10 : decode cX1_settleSure 10 = .ok (.iload_n 1, 1) := by decide +kernel
theorem dX1_settleSure_11 : decode cX1_settleSure 11 = .ok (.aload_n 0, 1) := by decide +kernel
theorem dX1_settleSure_12 : decode cX1_settleSure 12 = .ok (.getfield 34, 3) := by decide +kernel
theorem dX1_settleSure_15 : decode cX1_settleSure 15 = .ok (.if_icmp .ge 21, 3) := by decide +kernel
theorem dX1_settleSure_18 : decode cX1_settleSure 18 = .ok (.aload_n 0, 1) := by decide +kernel
theorem dX1_settleSure_19 : decode cX1_settleSure 19 = .ok (.lconst 0, 1) := by decide +kernel
theorem dX1_settleSure_20 : decode cX1_settleSure 20 = .ok (.putfield 30, 3) := by decide +kernel
theorem dX1_settleSure_23 : decode cX1_settleSure 23 = .ok (.aload_n 0, 1) := by decide +kernel
theorem dX1_settleSure_24 : decode cX1_settleSure 24 = .ok (.iload_n 1, 1) := by decide +kernel
theorem dX1_settleSure_25 : decode cX1_settleSure 25 = .ok (.iconst 0, 1) := by decide +kernel
theorem dX1_settleSure_26 : decode cX1_settleSure 26 = .ok (.invokevirtual 63, 3) := by decide +kernel
theorem dX1_settleSure_29 : decode cX1_settleSure 29 = .ok (.pop, 1) := by decide +kernel
theorem dX1_settleSure_30 : decode cX1_settleSure 30 = .ok (.iinc 1 1, 3) := by decide +kernel
theorem dX1_settleSure_33 : decode cX1_settleSure 33 = .ok (.goto (-23), 3) := by decide +kernel
theorem dX1_settleSure_36 : decode cX1_settleSure 36 = .ok (.aload_n 0, 1) := by decide +kernel
theorem dX1_settleSure_37 : decode cX1_settleSure 37 = .ok (.aload_n 0, 1) := by decide +kernel
theorem dX1_settleSure_38 : decode cX1_settleSure 38 = .ok (.getfield 34, 3) := by decide +kernel
theorem dX1_settleSure_41 : decode cX1_settleSure 41 = .ok (.putfield 41, 3) := by decide +kernel
theorem dX1_settleSure_44 : decode cX1_settleSure 44 = .ok (.iconst 0, 1) := by decide +kernel
theorem dX1_settleSure_45 : decode cX1_settleSure 45 = .ok (.istore_n 1, 1) := by decide +kernel
theorem dX1_settleSure_46 : decode cX1_settleSure 46 = .ok (.iload_n 1, 1) := by decide +kernel
theorem dX1_settleSure_47 : decode cX1_settleSure 47 = .ok (.aload_n 0, 1) := by decide +kernel
theorem dX1_settleSure_48 : decode cX1_settleSure 48 = .ok (.getfield 34, 3) := by decide +kernel
theorem dX1_settleSure_51 : decode cX1_settleSure 51 = .ok (.if_icmp .ge 43, 3) := by decide +kernel
theorem dX1_settleSure_54 : decode cX1_settleSure 54 = .ok (.aload_n 0, 1) := by decide +kernel
theorem dX1_settleSure_55 : decode cX1_settleSure 55 = .ok (.getfield 21, 3) := by decide +kernel
theorem dX1_settleSure_58 : decode cX1_settleSure 58 = .ok (.iload_n 1, 1) := by decide +kernel
theorem dX1_settleSure_59 : decode cX1_settleSure 59 = .ok (.iaload, 1) := by decide +kernel
theorem dX1_settleSure_60 : decode cX1_settleSure 60 = .ok (.istore_n 2, 1) := by decide +kernel
theorem dX1_settleSure_61 : decode cX1_settleSure 61 = .ok (.aload_n 0, 1) := by decide +kernel
theorem dX1_settleSure_62 : decode cX1_settleSure 62 = .ok (.getfield 27, 3) := by decide +kernel
theorem dX1_settleSure_65 : decode cX1_settleSure 65 = .ok (.iload_n 1, 1) := by decide +kernel
theorem dX1_settleSure_66 : decode cX1_settleSure 66 = .ok (.iconst (-1), 1) := by decide +kernel
theorem dX1_settleSure_67 : decode cX1_settleSure 67 = .ok (.iastore, 1) := by decide +kernel
theorem dX1_settleSure_68 : decode cX1_settleSure 68 = .ok (.iload_n 2, 1) := by decide +kernel
theorem dX1_settleSure_69 : decode cX1_settleSure 69 = .ok (.iconst 0, 1) := by decide +kernel
theorem dX1_settleSure_70 : decode cX1_settleSure 70 = .ok (.aload_n 0, 1) := by decide +kernel
theorem dX1_settleSure_71 : decode cX1_settleSure 71 = .ok (.getfield 38, 3) := by decide +kernel
theorem dX1_settleSure_74 : decode cX1_settleSure 74 = .ok (.iconst 1, 1) := by decide +kernel
theorem dX1_settleSure_75 : decode cX1_settleSure 75 = .ok (.isub, 1) := by decide +kernel
theorem dX1_settleSure_76 : decode cX1_settleSure 76 = .ok (.invokestatic 56, 3) := by decide +kernel
theorem dX1_settleSure_79 : decode cX1_settleSure 79 = .ok (.ifCond .eq 9, 3) := by decide +kernel
theorem dX1_settleSure_82 : decode cX1_settleSure 82 = .ok (.aload_n 0, 1) := by decide +kernel
theorem dX1_settleSure_83 : decode cX1_settleSure 83 = .ok (.iload_n 1, 1) := by decide +kernel
theorem dX1_settleSure_84 : decode cX1_settleSure 84 = .ok (.iload_n 2, 1) := by decide +kernel
theorem dX1_settleSure_85 : decode cX1_settleSure 85 = .ok (.invokevirtual 67, 3) := by decide +kernel
theorem dX1_settleSure_88 : decode cX1_settleSure 88 = .ok (.iinc 1 1, 3) := by decide +kernel
theorem dX1_settleSure_91 : decode cX1_settleSure 91 = .ok (.goto (-45), 3) := by decide +kernel
theorem dX1_settleSure_94 : decode cX1_settleSure 94 = .ok (.return_, 1) := by decide +kernel
theorem dX1_settleOne_0 : decode cX1_settleOne 0 = .ok (.aload_n 0, 1) := by decide +kernel
theorem dX1_settleOne_1 : decode cX1_settleOne 1 = .ok (.getfield 11, 3) := by decide +kernel
theorem dX1_settleOne_4 : decode cX1_settleOne 4 = .ok (.iload_n 2, 1) := by decide +kernel
theorem dX1_settleOne_5 : decode cX1_settleOne 5 = .ok (.dup2, 1) := by decide +kernel
theorem dX1_settleOne_6 : decode cX1_settleOne 6 = .ok (.iaload, 1) := by decide +kernel
theorem dX1_settleOne_7 : decode cX1_settleOne 7 = .ok (.iconst 1, 1) := by decide +kernel
theorem dX1_settleOne_8 : decode cX1_settleOne 8 = .ok (.iload_n 1, 1) := by decide +kernel
theorem dX1_settleOne_9 : decode cX1_settleOne 9 = .ok (.ishl, 1) := by decide +kernel
theorem dX1_settleOne_10 : decode cX1_settleOne 10 = .ok (.iconst (-1), 1) := by decide +kernel
theorem dX1_settleOne_11 : decode cX1_settleOne 11 = .ok (.ixor, 1) := by decide +kernel
theorem dX1_settleOne_12 : decode cX1_settleOne 12 = .ok (.iand, 1) := by decide +kernel
theorem dX1_settleOne_13 : decode cX1_settleOne 13 = .ok (.iastore, 1) := by decide +kernel
theorem dX1_settleOne_14 : decode cX1_settleOne 14 = .ok (.aload_n 0, 1) := by decide +kernel
theorem dX1_settleOne_15 : decode cX1_settleOne 15 = .ok (.getfield 24, 3) := by decide +kernel
theorem dX1_settleOne_18 : decode cX1_settleOne 18 = .ok (.iload_n 2, 1) := by decide +kernel
theorem dX1_settleOne_19 : decode cX1_settleOne 19 = .ok (.iconst (-1), 1) := by decide +kernel
theorem dX1_settleOne_20 : decode cX1_settleOne 20 = .ok (.iastore, 1) := by decide +kernel
theorem dX1_settleOne_21 : decode cX1_settleOne 21 = .ok (.aload_n 0, 1) := by decide +kernel
theorem dX1_settleOne_22 : decode cX1_settleOne 22 = .ok (.lconst 0, 1) := by decide +kernel
theorem dX1_settleOne_23 : decode cX1_settleOne 23 = .ok (.putfield 30, 3) := by decide +kernel
theorem dX1_settleOne_26 : decode cX1_settleOne 26 = .ok (.aload_n 0, 1) := by decide +kernel
theorem dX1_settleOne_27 : decode cX1_settleOne 27 = .ok (.iload_n 1, 1) := by decide +kernel
theorem dX1_settleOne_28 : decode cX1_settleOne 28 = .ok (.iconst 0, 1) := by decide +kernel
theorem dX1_settleOne_29 : decode cX1_settleOne 29 = .ok (.invokevirtual 63, 3) := by decide +kernel
theorem dX1_settleOne_32 : decode cX1_settleOne 32 = .ok (.ifCond .ne 17, 3) := by decide +kernel
theorem dX1_settleOne_35 : decode cX1_settleOne 35 = .ok (.aload_n 0, 1) := by decide +kernel
theorem dX1_settleOne_36 : decode cX1_settleOne 36 = .ok (.getfield 27, 3) := by decide +kernel
theorem dX1_settleOne_39 : decode cX1_settleOne 39 = .ok (.iload_n 1, 1) := by decide +kernel
theorem dX1_settleOne_40 : decode cX1_settleOne 40 = .ok (.iload_n 2, 1) := by decide +kernel
theorem dX1_settleOne_41 : decode cX1_settleOne 41 = .ok (.iastore, 1) := by decide +kernel
theorem dX1_settleOne_42 : decode cX1_settleOne 42 = .ok (.aload_n 0, 1) := by decide +kernel
theorem dX1_settleOne_43 : decode cX1_settleOne 43 = .ok (.getfield 24, 3) := by decide +kernel
theorem dX1_settleOne_46 : decode cX1_settleOne 46 = .ok (.iload_n 2, 1) := by decide +kernel
theorem dX1_settleOne_47 : decode cX1_settleOne 47 = .ok (.iload_n 1, 1) := by decide +kernel
theorem dX1_settleOne_48 : decode cX1_settleOne 48 = .ok (.iastore, 1) := by decide +kernel
theorem dX1_settleOne_49 : decode cX1_settleOne 49 = .ok (.aload_n 0, 1) := by decide +kernel
theorem dX1_settleOne_50 : decode cX1_settleOne 50 = .ok (.getfield 11, 3) := by decide +kernel
theorem dX1_settleOne_53 : decode cX1_settleOne 53 = .ok (.iload_n 2, 1) := by decide +kernel
theorem dX1_settleOne_54 : decode cX1_settleOne 54 = .ok (.dup2, 1) := by decide +kernel
theorem dX1_settleOne_55 : decode cX1_settleOne 55 = .ok (.iaload, 1) := by decide +kernel
theorem dX1_settleOne_56 : decode cX1_settleOne 56 = .ok (.iconst 1, 1) := by decide +kernel
theorem dX1_settleOne_57 : decode cX1_settleOne 57 = .ok (.iload_n 1, 1) := by decide +kernel
theorem dX1_settleOne_58 : decode cX1_settleOne 58 = .ok (.ishl, 1) := by decide +kernel
theorem dX1_settleOne_59 : decode cX1_settleOne 59 = .ok (.ior, 1) := by decide +kernel
theorem dX1_settleOne_60 : decode cX1_settleOne 60 = .ok (.iastore, 1) := by decide +kernel
theorem dX1_settleOne_61 : decode cX1_settleOne 61 = .ok (.return_, 1) := by decide +kernel
theorem dX1_findOwner_0 : decode cX1_findOwner 0 = .ok (.iload_n 2, 1) := by decide +kernel
theorem dX1_findOwner_1 : decode cX1_findOwner 1 = .ok (.bipush 8, 2) := by decide +kernel
theorem dX1_findOwner_3 : decode cX1_findOwner 3 = .ok (.if_icmp .ge 17, 3) := by decide +kernel
theorem dX1_findOwner_6 : decode cX1_findOwner 6 = .ok (.iload_n 1, 1) := by decide +kernel
theorem dX1_findOwner_7 : decode cX1_findOwner 7 = .ok (.iconst 0, 1) := by decide +kernel
theorem dX1_findOwner_8 : decode cX1_findOwner 8 = .ok (.aload_n 0, 1) := by decide +kernel
theorem dX1_findOwner_9 : decode cX1_findOwner 9 = .ok (.getfield 34, 3) := by decide +kernel
theorem dX1_findOwner_12 : decode cX1_findOwner 12 = .ok (.iconst 1, 1) := by decide +kernel
theorem dX1_findOwner_13 : decode cX1_findOwner 13 = .ok (.isub, 1) := by decide +kernel
theorem dX1_findOwner_14 : decode cX1_findOwner 14 = .ok (.invokestatic 56, 3) := by decide +kernel
theorem dX1_findOwner_17 : decode cX1_findOwner 17 = .ok (.ifCond .ne 5, 3) := by decide +kernel
theorem dX1_findOwner_20 : decode cX1_findOwner 20 = .ok (.iconst 0, 1) := by decide +kernel
theorem dX1_findOwner_21 : decode cX1_findOwner 21 = .ok (.ireturn, 1) := by decide +kernel
theorem dX1_findOwner_22 : decode cX1_findOwner 22 = .ok (.iconst 0, 1) := by decide +kernel
theorem dX1_findOwner_23 : decode cX1_findOwner 23 = .ok (.istore_n 3, 1) := by decide +kernel
theorem dX1_findOwner_24 : decode cX1_findOwner 24 = .ok (.iload_n 3, 1) := by decide +kernel
theorem dX1_findOwner_25 : decode cX1_findOwner 25 = .ok (.aload_n 0, 1) := by decide +kernel
theorem dX1_findOwner_26 : decode cX1_findOwner 26 = .ok (.getfield 38, 3) := by decide +kernel
theorem dX1_findOwner_29 : decode cX1_findOwner 29 = .ok (.if_icmp .ge 89, 3) := by decide +kernel
theorem dX1_findOwner_32 : decode cX1_findOwner 32 = .ok (.aload_n 0, 1) := by decide +kernel
theorem dX1_findOwner_33 : decode cX1_findOwner 33 = .ok (.getfield 11, 3) := by decide +kernel
theorem dX1_findOwner_36 : decode cX1_findOwner 36 = .ok (.iload_n 3, 1) := by decide +kernel
theorem dX1_findOwner_37 : decode cX1_findOwner 37 = .ok (.iaload, 1) := by decide +kernel
theorem dX1_findOwner_38 : decode cX1_findOwner 38 = .ok (.iload_n 1, 1) := by decide +kernel
theorem dX1_findOwner_39 : decode cX1_findOwner 39 = .ok (.ishr, 1) := by decide +kernel
theorem dX1_findOwner_40 : decode cX1_findOwner 40 = .ok (.iconst 1, 1) := by decide +kernel
theorem dX1_findOwner_41 : decode cX1_findOwner 41 = .ok (.iand, 1) := by decide +kernel
theorem dX1_findOwner_42 : decode cX1_findOwner 42 = .ok (.ifCond .eq 70, 3) := by decide +kernel
theorem dX1_findOwner_45 : decode cX1_findOwner 45 = .ok (.aload_n 0, 1) := by decide +kernel
theorem dX1_findOwner_46 : decode cX1_findOwner 46 = .ok (.getfield 30, 3) := by decide +kernel
theorem dX1_findOwner_49 : decode cX1_findOwner 49 = .ok (.iload_n 3, 1) := by decide +kernel
theorem dX1_findOwner_50 : decode cX1_findOwner 50 = .ok (.lshr, 1) := by decide +kernel
theorem dX1_findOwner_51 : decode cX1_findOwner 51 = .ok (.lconst 1, 1) := by decide +kernel
theorem dX1_findOwner_52 : decode cX1_findOwner 52 = .ok (.land, 1) := by decide +kernel
theorem dX1_findOwner_53 : decode cX1_findOwner 53 = .ok (.lconst 0, 1) := by decide +kernel
theorem dX1_findOwner_54 : decode cX1_findOwner 54 = .ok (.lcmp, 1) := by decide +kernel
theorem dX1_findOwner_55 : decode cX1_findOwner 55 = .ok (.ifCond .ne 57, 3) := by decide +kernel
theorem dX1_findOwner_58 : decode cX1_findOwner 58 = .ok (.aload_n 0, 1) := by decide +kernel
theorem dX1_findOwner_59 : decode cX1_findOwner 59 = .ok (.dup, 1) := by decide +kernel
theorem dX1_findOwner_60 : decode cX1_findOwner 60 = .ok (.getfield 30, 3) := by decide +kernel
theorem dX1_findOwner_63 : decode cX1_findOwner 63 = .ok (.lconst 1, 1) := by decide +kernel
theorem dX1_findOwner_64 : decode cX1_findOwner 64 = .ok (.iload_n 3, 1) := by decide +kernel
theorem dX1_findOwner_65 : decode cX1_findOwner 65 = .ok (.lshl, 1) := by decide +kernel
theorem dX1_findOwner_66 : decode cX1_findOwner 66 = .ok (.lor, 1) := by decide +kernel
theorem dX1_findOwner_67 : decode cX1_findOwner 67 = .ok (.putfield 30, 3) := by decide +kernel
theorem dX1_findOwner_70 : decode cX1_findOwner 70 = .ok (.aload_n 0, 1) := by decide +kernel
theorem dX1_findOwner_71 : decode cX1_findOwner 71 = .ok (.getfield 24, 3) := by decide +kernel
theorem dX1_findOwner_74 : decode cX1_findOwner 74 = .ok (.iload_n 3, 1) := by decide +kernel
theorem dX1_findOwner_75 : decode cX1_findOwner 75 = .ok (.iaload, 1) := by decide +kernel
theorem dX1_findOwner_76 : decode cX1_findOwner 76 = .ok (.iconst (-1), 1) := by decide +kernel
theorem dX1_findOwner_77 : decode cX1_findOwner 77 = .ok (.if_icmp .eq 19, 3) := by decide +kernel
theorem dX1_findOwner_80 : decode cX1_findOwner 80 = .ok (.aload_n 0, 1) := by decide +kernel
theorem dX1_findOwner_81 : decode cX1_findOwner 81 = .ok (.aload_n 0, 1) := by decide +kernel
theorem dX1_findOwner_82 : decode cX1_findOwner 82 = .ok (.getfield 24, 3) := by decide +kernel
theorem dX1_findOwner_85 : decode cX1_findOwner 85 = .ok (.iload_n 3, 1) := by decide +kernel
theorem dX1_findOwner_86 : decode cX1_findOwner 86 = .ok (.iaload, 1) := by decide +kernel
theorem dX1_findOwner_87 : decode cX1_findOwner 87 = .ok (.iload_n 2, 1) := by decide +kernel
theorem dX1_findOwner_88 : decode cX1_findOwner 88 = .ok (.iconst 1, 1) := by decide +kernel
theorem dX1_findOwner_89 : decode cX1_findOwner 89 = .ok (.iadd, 1) := by decide +kernel
theorem dX1_findOwner_90 : decode cX1_findOwner 90 = .ok (.invokevirtual 63, 3) := by decide +kernel
theorem dX1_findOwner_93 : decode cX1_findOwner 93 = .ok (.ifCond .eq 19, 3) := by decide +kernel
theorem dX1_findOwner_96 : decode cX1_findOwner 96 = .ok (.aload_n 0, 1) := by decide +kernel
theorem dX1_findOwner_97 : decode cX1_findOwner 97 = .ok (.getfield 24, 3) := by decide +kernel
theorem dX1_findOwner_100 : decode cX1_findOwner 100 = .ok (.iload_n 3, 1) := by decide +kernel
theorem dX1_findOwner_101 : decode cX1_findOwner 101 = .ok (.iload_n 1, 1) := by decide +kernel
theorem dX1_findOwner_102 : decode cX1_findOwner 102 = .ok (.iastore, 1) := by decide +kernel
theorem dX1_findOwner_103 : decode cX1_findOwner 103 = .ok (.aload_n 0, 1) := by decide +kernel
theorem dX1_findOwner_104 : decode cX1_findOwner 104 = .ok (.getfield 21, 3) := by decide +kernel
theorem dX1_findOwner_107 : decode cX1_findOwner 107 = .ok (.iload_n 1, 1) := by decide +kernel
theorem dX1_findOwner_108 : decode cX1_findOwner 108 = .ok (.iload_n 3, 1) := by decide +kernel
theorem dX1_findOwner_109 : decode cX1_findOwner 109 = .ok (.iastore, 1) := by decide +kernel
theorem dX1_findOwner_110 : decode cX1_findOwner 110 = .ok (.iconst 1, 1) := by decide +kernel
theorem dX1_findOwner_111 : decode cX1_findOwner 111 = .ok (.ireturn, 1) := by decide +kernel
theorem dX1_findOwner_112 : decode cX1_findOwner 112 = .ok (.iinc 3 1, 3) := by decide +kernel
theorem dX1_findOwner_115 : decode cX1_findOwner 115 = .ok (.goto (-91), 3) := by decide +kernel
theorem dX1_findOwner_118 : decode cX1_findOwner 118 = .ok (.iconst 0, 1) := by decide +kernel
theorem dX1_findOwner_119 : decode cX1_findOwner 119 = .ok (.ireturn, 1) := by decide +kernel
