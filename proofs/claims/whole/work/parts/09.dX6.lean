theorem dX6_init_0 : decode cX6_init 0 = .ok (.aload_n 0, 1) := by decide +kernel
theorem dX6_init_1 : decode cX6_init 1 = .ok (.invokespecial 5, 3) := by decide +kernel
theorem dX6_init_4 : decode cX6_init 4 = .ok (.aload_n 0, 1) := by decide +kernel
theorem dX6_init_5 : decode cX6_init 5 = .ok (.bipush 64, 2) := by decide +kernel
theorem dX6_init_7 : decode cX6_init 7 = .ok (.newarray .long, 2) := by decide +kernel
theorem dX6_init_9 : decode cX6_init 9 = .ok (.putfield 13, 3) := by decide +kernel
theorem dX6_init_12 : decode cX6_init 12 = .ok (.aload_n 0, 1) := by decide +kernel
theorem dX6_init_13 : decode cX6_init 13 = .ok (.bipush 64, 2) := by decide +kernel
theorem dX6_init_15 : decode cX6_init 15 = .ok (.newarray .long, 2) := by decide +kernel
theorem dX6_init_17 : decode cX6_init 17 = .ok (.putfield 17, 3) := by decide +kernel
theorem dX6_init_20 : decode cX6_init 20 = .ok (.aload_n 0, 1) := by decide +kernel
theorem dX6_init_21 : decode cX6_init 21 = .ok (.bipush 6, 2) := by decide +kernel
theorem dX6_init_23 : decode cX6_init 23 = .ok (.newarray .int, 2) := by decide +kernel
theorem dX6_init_25 : decode cX6_init 25 = .ok (.putfield 20, 3) := by decide +kernel
theorem dX6_init_28 : decode cX6_init 28 = .ok (.aload_n 0, 1) := by decide +kernel
theorem dX6_init_29 : decode cX6_init 29 = .ok (.iconst 0, 1) := by decide +kernel
theorem dX6_init_30 : decode cX6_init 30 = .ok (.putfield 24, 3) := by decide +kernel
theorem dX6_init_33 : decode cX6_init 33 = .ok (.aload_n 0, 1) := by decide +kernel
theorem dX6_init_34 : decode cX6_init 34 = .ok (.iconst 0, 1) := by decide +kernel
theorem dX6_init_35 : decode cX6_init 35 = .ok (.putfield 28, 3) := by decide +kernel
theorem dX6_init_38 : decode cX6_init 38 = .ok (.return_, 1) := by decide +kernel
theorem dX6_findFailures_0 : decode cX6_findFailures 0 = .ok (.aload_n 0, 1) := by decide +kernel
theorem dX6_findFailures_1 : decode cX6_findFailures 1 = .ok (.iload_n 3, 1) := by decide +kernel
theorem dX6_findFailures_2 : decode cX6_findFailures 2 = .ok (.bipush 63, 2) := by decide +kernel
theorem dX6_findFailures_4 : decode cX6_findFailures 4 = .ok (.iand, 1) := by decide +kernel
theorem dX6_findFailures_5 : decode cX6_findFailures 5 = .ok (.putfield 24, 3) := by decide +kernel
theorem dX6_findFailures_8 : decode cX6_findFailures 8 = .ok (.iconst 0, 1) := by decide +kernel
theorem dX6_findFailures_9 : decode cX6_findFailures 9 = .ok (.istore 4, 2) := by decide +kernel
theorem dX6_findFailures_11 : decode cX6_findFailures 11 = .ok (.iload 4, 2) := by decide +kernel
theorem dX6_findFailures_13 : decode cX6_findFailures 13 = .ok (.aload_n 0, 1) := by decide +kernel
theorem dX6_findFailures_14 : decode cX6_findFailures 14 = .ok (.getfield 24, 3) := by decide +kernel
theorem dX6_findFailures_17 : decode cX6_findFailures 17 = .ok (.if_icmp .gt 113, 3) := by decide +kernel
theorem dX6_findFailures_20 : decode cX6_findFailures 20 = .ok (.lconst 0, 1) := by decide +kernel
theorem dX6_findFailures_21 : decode cX6_findFailures 21 = .ok (.lstore 5, 2) := by decide +kernel
theorem dX6_findFailures_23 : decode cX6_findFailures 23 = .ok (.iconst 0, 1) := by decide +kernel
theorem dX6_findFailures_24 : decode cX6_findFailures 24 = .ok (.istore 7, 2) := by decide +kernel
theorem dX6_findFailures_26 : decode cX6_findFailures 26 = .ok (.iload 7, 2) := by decide +kernel
theorem dX6_findFailures_28 : decode cX6_findFailures 28 = .ok (.aload_n 1, 1) := by decide +kernel
theorem dX6_findFailures_29 : decode cX6_findFailures 29 = .ok (.getfield 31, 3) := by decide +kernel
theorem dX6_findFailures_32 : decode cX6_findFailures 32 = .ok (.iconst 0, 1) := by decide +kernel
theorem dX6_findFailures_33 : decode cX6_findFailures 33 = .ok (.iaload, 1) := by decide +kernel
theorem dX6_findFailures_34 : decode cX6_findFailures 34 = .ok (.if_icmp .ge 81, 3) := by decide +kernel
theorem dX6_findFailures_37 : decode cX6_findFailures 37 = .ok (.aload_n 2, 1) := by decide +kernel
theorem dX6_findFailures_38 : decode cX6_findFailures 38 = .ok (.iload 7, 2) := by decide +kernel
theorem dX6_findFailures_40 : decode cX6_findFailures 40 = .ok (.invokevirtual 34, 3) := by decide +kernel
theorem dX6_findFailures_43 : decode cX6_findFailures 43 = .ok (.i2l, 1) := by decide +kernel
theorem dX6_findFailures_44 : decode cX6_findFailures 44 = .ok (.lstore 8, 2) := by decide +kernel
theorem dX6_findFailures_46 : decode cX6_findFailures 46 = .ok (.iconst 0, 1) := by decide +kernel
theorem dX6_findFailures_47 : decode cX6_findFailures 47 = .ok (.istore 10, 2) := by decide +kernel
theorem dX6_findFailures_49 : decode cX6_findFailures 49 = .ok (.iload 10, 2) := by decide +kernel
theorem dX6_findFailures_51 : decode cX6_findFailures 51 = .ok (.bipush 6, 2) := by decide +kernel
theorem dX6_findFailures_53 : decode cX6_findFailures 53 = .ok (.if_icmp .ge 49, 3) := by decide +kernel
theorem dX6_findFailures_56 : decode cX6_findFailures 56 = .ok (.iload 4, 2) := by decide +kernel
theorem dX6_findFailures_58 : decode cX6_findFailures 58 = .ok (.iload 10, 2) := by decide +kernel
theorem dX6_findFailures_60 : decode cX6_findFailures 60 = .ok (.ishr, 1) := by decide +kernel
theorem dX6_findFailures_61 : decode cX6_findFailures 61 = .ok (.iconst 1, 1) := by decide +kernel
theorem dX6_findFailures_62 : decode cX6_findFailures 62 = .ok (.iand, 1) := by decide +kernel
theorem dX6_findFailures_63 : decode cX6_findFailures 63 = .ok (.ifCond .eq 19, 3) := by decide +kernel
theorem dX6_findFailures_66 : decode cX6_findFailures 66 = .ok (.aload_n 1, 1) := by decide +kernel
theorem dX6_findFailures_67 : decode cX6_findFailures 67 = .ok (.getfield 40, 3) := by decide +kernel
theorem dX6_findFailures_70 : decode cX6_findFailures 70 = .ok (.iload 10, 2) := by decide +kernel
theorem dX6_findFailures_72 : decode cX6_findFailures 72 = .ok (.bipush 6, 2) := by decide +kernel
theorem dX6_findFailures_74 : decode cX6_findFailures 74 = .ok (.imul, 1) := by decide +kernel
theorem dX6_findFailures_75 : decode cX6_findFailures 75 = .ok (.iload 7, 2) := by decide +kernel
theorem dX6_findFailures_77 : decode cX6_findFailures 77 = .ok (.iadd, 1) := by decide +kernel
theorem dX6_findFailures_78 : decode cX6_findFailures 78 = .ok (.iaload, 1) := by decide +kernel
theorem dX6_findFailures_79 : decode cX6_findFailures 79 = .ok (.goto 4, 3) := by decide +kernel
theorem dX6_findFailures_82 : decode cX6_findFailures 82 = .ok (.iconst 0, 1) := by decide +kernel
theorem dX6_findFailures_83 : decode cX6_findFailures 83 = .ok (.istore 11, 2) := by decide +kernel
theorem dX6_findFailures_85 : decode cX6_findFailures 85 = .ok (.lload 8, 2) := by decide +kernel
theorem dX6_findFailures_87 : decode cX6_findFailures 87 = .ok (.bipush 20, 2) := by decide +kernel
theorem dX6_findFailures_89 : decode cX6_findFailures 89 = .ok (.iload 11, 2) := by decide +kernel
theorem dX6_findFailures_91 : decode cX6_findFailures 91 = .ok (.isub, 1) := by decide +kernel
theorem dX6_findFailures_92 : decode cX6_findFailures 92 = .ok (.i2l, 1) := by decide +kernel
theorem dX6_findFailures_93 : decode cX6_findFailures 93 = .ok (.lmul, 1) := by decide +kernel
theorem dX6_findFailures_94 : decode cX6_findFailures 94 = .ok (.lstore 8, 2) := by decide +kernel
theorem dX6_findFailures_96 : decode cX6_findFailures 96 = .ok (.iinc 10 1, 3) := by decide +kernel
theorem dX6_findFailures_99 : decode cX6_findFailures 99 = .ok (.goto (-50), 3) := by decide +kernel
theorem dX6_findFailures_102 : decode cX6_findFailures 102 = .ok (.lload 5, 2) := by decide +kernel
theorem dX6_findFailures_104 : decode cX6_findFailures 104 = .ok (.lload 8, 2) := by decide +kernel
theorem dX6_findFailures_106 : decode cX6_findFailures 106 = .ok (.ladd, 1) := by decide +kernel
theorem dX6_findFailures_107 : decode cX6_findFailures 107 = .ok (.lstore 5, 2) := by decide +kernel
theorem dX6_findFailures_109 : decode cX6_findFailures 109 = .ok (.iinc 7 1, 3) := by decide +kernel
theorem dX6_findFailures_112 : decode cX6_findFailures 112 = .ok (.goto (-86), 3) := by decide +kernel
theorem dX6_findFailures_115 : decode cX6_findFailures 115 = .ok (.aload_n 0, 1) := by decide +kernel
theorem dX6_findFailures_116 : decode cX6_findFailures 116 = .ok (.getfield 13, 3) := by decide +kernel
theorem dX6_findFailures_119 : decode cX6_findFailures 119 = .ok (.iload 4, 2) := by decide +kernel
theorem dX6_findFailures_121 : decode cX6_findFailures 121 = .ok (.lload 5, 2) := by decide +kernel
theorem dX6_findFailures_123 : decode cX6_findFailures 123 = .ok (.lastore, 1) := by decide +kernel
theorem dX6_findFailures_124 : decode cX6_findFailures 124 = .ok (.iinc 4 1, 3) := by decide +kernel
theorem dX6_findFailures_127 : decode cX6_findFailures 127 = .ok (.goto (-116), 3) := by decide +kernel
theorem dX6_findFailures_130 : decode cX6_findFailures 130 = .ok (.return_, 1) := by decide +kernel
theorem dX6_findOrder_0 : decode cX6_findOrder 0 = .ok (.aload_n 0, 1) := by decide +kernel
theorem dX6_findOrder_1 : decode cX6_findOrder 1 = .ok (.getfield 17, 3) := by decide +kernel
theorem dX6_findOrder_4 : decode cX6_findOrder 4 = .ok (.aload_n 0, 1) := by decide +kernel
theorem dX6_findOrder_5 : decode cX6_findOrder 5 = .ok (.getfield 24, 3) := by decide +kernel
theorem dX6_findOrder_8 : decode cX6_findOrder 8 = .ok (.lconst 0, 1) := by decide +kernel
theorem dX6_findOrder_9 : decode cX6_findOrder 9 = .ok (.lastore, 1) := by decide +kernel
theorem dX6_findOrder_10 : decode cX6_findOrder 10 = .ok (.aload_n 0, 1) := by decide +kernel
theorem dX6_findOrder_11 : decode cX6_findOrder 11 = .ok (.getfield 24, 3) := by decide +kernel
theorem dX6_findOrder_14 : decode cX6_findOrder 14 = .ok (.iconst 1, 1) := by decide +kernel
theorem dX6_findOrder_15 : decode cX6_findOrder 15 = .ok (.isub, 1) := by decide +kernel
theorem dX6_findOrder_16 : decode cX6_findOrder 16 = .ok (.istore_n 2, 1) := by decide +kernel
theorem dX6_findOrder_17 : decode cX6_findOrder 17 = .ok (.iload_n 2, 1) := by decide +kernel
theorem dX6_findOrder_18 : decode cX6_findOrder 18 = .ok (.ifCond .lt 38, 3) := by decide +kernel
theorem dX6_findOrder_21 : decode cX6_findOrder 21 = .ok (.iload_n 2, 1) := by decide +kernel
theorem dX6_findOrder_22 : decode cX6_findOrder 22 = .ok (.aload_n 0, 1) := by decide +kernel
theorem dX6_findOrder_23 : decode cX6_findOrder 23 = .ok (.getfield 24, 3) := by decide +kernel
theorem dX6_findOrder_26 : decode cX6_findOrder 26 = .ok (.iconst (-1), 1) := by decide +kernel
theorem dX6_findOrder_27 : decode cX6_findOrder 27 = .ok (.ixor, 1) := by decide +kernel
theorem dX6_findOrder_28 : decode cX6_findOrder 28 = .ok (.iand, 1) := by decide +kernel
theorem dX6_findOrder_29 : decode cX6_findOrder 29 = .ok (.ifCond .ne 21, 3) := by decide +kernel
theorem dX6_findOrder_32 : decode cX6_findOrder 32 = .ok (.aload_n 0, 1) := by decide +kernel
theorem dX6_findOrder_33 : decode cX6_findOrder 33 = .ok (.getfield 17, 3) := by decide +kernel
theorem dX6_findOrder_36 : decode cX6_findOrder 36 = .ok (.iload_n 2, 1) := by decide +kernel
theorem dX6_findOrder_37 : decode cX6_findOrder 37 = .ok (.aload_n 0, 1) := by decide +kernel
theorem dX6_findOrder_38 : decode cX6_findOrder 38 = .ok (.aload_n 1, 1) := by decide +kernel
theorem dX6_findOrder_39 : decode cX6_findOrder 39 = .ok (.iload_n 2, 1) := by decide +kernel
theorem dX6_findOrder_40 : decode cX6_findOrder 40 = .ok (.aload_n 0, 1) := by decide +kernel
theorem dX6_findOrder_41 : decode cX6_findOrder 41 = .ok (.aload_n 1, 1) := by decide +kernel
theorem dX6_findOrder_42 : decode cX6_findOrder 42 = .ok (.iload_n 2, 1) := by decide +kernel
theorem dX6_findOrder_43 : decode cX6_findOrder 43 = .ok (.invokevirtual 43, 3) := by decide +kernel
theorem dX6_findOrder_46 : decode cX6_findOrder 46 = .ok (.invokevirtual 47, 3) := by decide +kernel
theorem dX6_findOrder_49 : decode cX6_findOrder 49 = .ok (.lastore, 1) := by decide +kernel
theorem dX6_findOrder_50 : decode cX6_findOrder 50 = .ok (.iinc 2 (-1), 3) := by decide +kernel
theorem dX6_findOrder_53 : decode cX6_findOrder 53 = .ok (.goto (-36), 3) := by decide +kernel
theorem dX6_findOrder_56 : decode cX6_findOrder 56 = .ok (.aload_n 0, 1) := by decide +kernel
theorem dX6_findOrder_57 : decode cX6_findOrder 57 = .ok (.iconst 0, 1) := by decide +kernel
theorem dX6_findOrder_58 : decode cX6_findOrder 58 = .ok (.putfield 28, 3) := by decide +kernel
theorem dX6_findOrder_61 : decode cX6_findOrder 61 = .ok (.iconst 0, 1) := by decide +kernel
theorem dX6_findOrder_62 : decode cX6_findOrder 62 = .ok (.istore_n 2, 1) := by decide +kernel
theorem dX6_findOrder_63 : decode cX6_findOrder 63 = .ok (.iconst 0, 1) := by decide +kernel
theorem dX6_findOrder_64 : decode cX6_findOrder 64 = .ok (.istore_n 3, 1) := by decide +kernel
theorem dX6_findOrder_65 : decode cX6_findOrder 65 = .ok (.iload_n 3, 1) := by decide +kernel
theorem dX6_findOrder_66 : decode cX6_findOrder 66 = .ok (.bipush 6, 2) := by decide +kernel
theorem dX6_findOrder_68 : decode cX6_findOrder 68 = .ok (.if_icmp .ge 50, 3) := by decide +kernel
theorem dX6_findOrder_71 : decode cX6_findOrder 71 = .ok (.iload_n 2, 1) := by decide +kernel
theorem dX6_findOrder_72 : decode cX6_findOrder 72 = .ok (.aload_n 0, 1) := by decide +kernel
theorem dX6_findOrder_73 : decode cX6_findOrder 73 = .ok (.getfield 24, 3) := by decide +kernel
theorem dX6_findOrder_76 : decode cX6_findOrder 76 = .ok (.if_icmp .eq 42, 3) := by decide +kernel
theorem dX6_findOrder_79 : decode cX6_findOrder 79 = .ok (.aload_n 0, 1) := by decide +kernel
theorem dX6_findOrder_80 : decode cX6_findOrder 80 = .ok (.getfield 20, 3) := by decide +kernel
theorem dX6_findOrder_83 : decode cX6_findOrder 83 = .ok (.iload_n 3, 1) := by decide +kernel
theorem dX6_findOrder_84 : decode cX6_findOrder 84 = .ok (.aload_n 0, 1) := by decide +kernel
theorem dX6_findOrder_85 : decode cX6_findOrder 85 = .ok (.aload_n 1, 1) := by decide +kernel
theorem dX6_findOrder_86 : decode cX6_findOrder 86 = .ok (.iload_n 2, 1) := by decide +kernel
theorem dX6_findOrder_87 : decode cX6_findOrder 87 = .ok (.invokevirtual 43, 3) := by decide +kernel
theorem dX6_findOrder_90 : decode cX6_findOrder 90 = .ok (.iastore, 1) := by decide +kernel
theorem dX6_findOrder_91 : decode cX6_findOrder 91 = .ok (.iload_n 2, 1) := by decide +kernel
theorem dX6_findOrder_92 : decode cX6_findOrder 92 = .ok (.iconst 1, 1) := by decide +kernel
theorem dX6_findOrder_93 : decode cX6_findOrder 93 = .ok (.aload_n 0, 1) := by decide +kernel
theorem dX6_findOrder_94 : decode cX6_findOrder 94 = .ok (.getfield 20, 3) := by decide +kernel
theorem dX6_findOrder_97 : decode cX6_findOrder 97 = .ok (.iload_n 3, 1) := by decide +kernel
theorem dX6_findOrder_98 : decode cX6_findOrder 98 = .ok (.iaload, 1) := by decide +kernel
theorem dX6_findOrder_99 : decode cX6_findOrder 99 = .ok (.ishl, 1) := by decide +kernel
theorem dX6_findOrder_100 : decode cX6_findOrder 100 = .ok (.ior, 1) := by decide +kernel
theorem dX6_findOrder_101 : decode cX6_findOrder 101 = .ok (.istore_n 2, 1) := by decide +kernel
theorem dX6_findOrder_102 : decode cX6_findOrder 102 = .ok (.aload_n 0, 1) := by decide +kernel
theorem dX6_findOrder_103 : decode cX6_findOrder 103 = .ok (.dup, 1) := by decide +kernel
theorem dX6_findOrder_104 : decode cX6_findOrder 104 = .ok (.getfield 28, 3) := by decide +kernel
theorem dX6_findOrder_107 : decode cX6_findOrder 107 = .ok (.iconst 1, 1) := by decide +kernel
theorem dX6_findOrder_108 : decode cX6_findOrder 108 = .ok (.iadd, 1) := by decide +kernel
theorem dX6_findOrder_109 : decode cX6_findOrder 109 = .ok (.putfield 28, 3) := by decide +kernel
theorem dX6_findOrder_112 : decode cX6_findOrder 112 = .ok (.iinc 3 1, 3) := by decide +kernel
theorem dX6_findOrder_115 : decode cX6_findOrder 115 = .ok (.goto (-50), 3) := by decide +kernel
theorem dX6_findOrder_118 : decode cX6_findOrder 118 = .ok (.aload_n 0, 1) := by decide +kernel
theorem dX6_findOrder_119 : decode cX6_findOrder 119 = .ok (.getfield 17, 3) := by decide +kernel
theorem dX6_findOrder_122 : decode cX6_findOrder 122 = .ok (.iconst 0, 1) := by decide +kernel
theorem dX6_findOrder_123 : decode cX6_findOrder 123 = .ok (.laload, 1) := by decide +kernel
theorem dX6_findOrder_124 : decode cX6_findOrder 124 = .ok (.lreturn, 1) := by decide +kernel
theorem dX6_nextOf_0 : decode cX6_nextOf 0 = .ok (.iconst (-1), 1) := by decide +kernel
theorem dX6_nextOf_1 : decode cX6_nextOf 1 = .ok (.istore_n 3, 1) := by decide +kernel
theorem dX6_nextOf_2 : decode cX6_nextOf 2 = .ok (.iconst 0, 1) := by decide +kernel
theorem dX6_nextOf_3 : decode cX6_nextOf 3 = .ok (.istore 4, 2) := by decide +kernel
theorem dX6_nextOf_5 : decode cX6_nextOf 5 = .ok (.iload 4, 2) := by decide +kernel
theorem dX6_nextOf_7 : decode cX6_nextOf 7 = .ok (.bipush 6, 2) := by decide +kernel
theorem dX6_nextOf_9 : decode cX6_nextOf 9 = .ok (.if_icmp .ge 64, 3) := by decide +kernel
theorem dX6_nextOf_12 : decode cX6_nextOf 12 = .ok (.aload_n 0, 1) := by decide +kernel
theorem dX6_nextOf_13 : decode cX6_nextOf 13 = .ok (.getfield 24, 3) := by decide +kernel
theorem dX6_nextOf_16 : decode cX6_nextOf 16 = .ok (.iload_n 2, 1) := by decide +kernel
theorem dX6_nextOf_17 : decode cX6_nextOf 17 = .ok (.iconst (-1), 1) := by decide +kernel
theorem dX6_nextOf_18 : decode cX6_nextOf 18 = .ok (.ixor, 1) := by decide +kernel
theorem dX6_nextOf_19 : decode cX6_nextOf 19 = .ok (.iand, 1) := by decide +kernel
theorem dX6_nextOf_20 : decode cX6_nextOf 20 = .ok (.iconst 1, 1) := by decide +kernel
theorem dX6_nextOf_21 : decode cX6_nextOf 21 = .ok (.iload 4, 2) := by decide +kernel
theorem dX6_nextOf_23 : decode cX6_nextOf 23 = .ok (.ishl, 1) := by decide +kernel
theorem dX6_nextOf_24 : decode cX6_nextOf 24 = .ok (.iand, 1) := by decide +kernel
theorem dX6_nextOf_25 : decode cX6_nextOf 25 = .ok (.ifCond .eq 7, 3) := by decide +kernel
theorem dX6_nextOf_28 : decode cX6_nextOf 28 = .ok (.iconst 1, 1) := by decide +kernel
theorem dX6_nextOf_29 : decode cX6_nextOf 29 = .ok (.goto 4, 3) := by decide +kernel
theorem dX6_nextOf_32 : decode cX6_nextOf 32 = .ok (.iconst 0, 1) := by decide +kernel
theorem dX6_nextOf_33 : decode cX6_nextOf 33 = .ok (.istore 5, 2) := by decide +kernel
theorem dX6_nextOf_35 : decode cX6_nextOf 35 = .ok (.iload 5, 2) := by decide +kernel
theorem dX6_nextOf_37 : decode cX6_nextOf 37 = .ok (.ifCond .eq 30, 3) := by decide +kernel
theorem dX6_nextOf_40 : decode cX6_nextOf 40 = .ok (.iload_n 3, 1) := by decide +kernel
theorem dX6_nextOf_41 : decode cX6_nextOf 41 = .ok (.iconst (-1), 1) := by decide +kernel
theorem dX6_nextOf_42 : decode cX6_nextOf 42 = .ok (.if_icmp .eq 22, 3) := by decide +kernel
theorem dX6_nextOf_45 : decode cX6_nextOf 45 = .ok (.aload_n 0, 1) := by decide +kernel
theorem dX6_nextOf_46 : decode cX6_nextOf 46 = .ok (.aload_n 1, 1) := by decide +kernel
theorem dX6_nextOf_47 : decode cX6_nextOf 47 = .ok (.iload_n 2, 1) := by decide +kernel
theorem dX6_nextOf_48 : decode cX6_nextOf 48 = .ok (.iload 4, 2) := by decide +kernel
theorem dX6_nextOf_50 : decode cX6_nextOf 50 = .ok (.invokevirtual 47, 3) := by decide +kernel
theorem dX6_nextOf_53 : decode cX6_nextOf 53 = .ok (.aload_n 0, 1) := by decide +kernel
theorem dX6_nextOf_54 : decode cX6_nextOf 54 = .ok (.aload_n 1, 1) := by decide +kernel
theorem dX6_nextOf_55 : decode cX6_nextOf 55 = .ok (.iload_n 2, 1) := by decide +kernel
theorem dX6_nextOf_56 : decode cX6_nextOf 56 = .ok (.iload_n 3, 1) := by decide +kernel
theorem dX6_nextOf_57 : decode cX6_nextOf 57 = .ok (.invokevirtual 47, 3) := by decide +kernel
theorem dX6_nextOf_60 : decode cX6_nextOf 60 = .ok (.lcmp, 1) := by decide +kernel
theorem dX6_nextOf_61 : decode cX6_nextOf 61 = .ok (.ifCond .ge 6, 3) := by decide +kernel
theorem dX6_nextOf_64 : decode cX6_nextOf 64 = .ok (.iload 4, 2) := by decide +kernel
theorem dX6_nextOf_66 : decode cX6_nextOf 66 = .ok (.istore_n 3, 1) := by decide +kernel
theorem dX6_nextOf_67 : decode cX6_nextOf 67 = .ok (.iinc 4 1, 3) := by decide +kernel
theorem dX6_nextOf_70 : decode cX6_nextOf 70 = .ok (.goto (-65), 3) := by decide +kernel
theorem dX6_nextOf_73 : decode cX6_nextOf 73 = .ok (.iload_n 3, 1) := by decide +kernel
theorem dX6_nextOf_74 : decode cX6_nextOf 74 = .ok (.ireturn, 1) := by decide +kernel
theorem dX6_costWith_0 : decode cX6_costWith 0 = .ok (.iload_n 3, 1) := by decide +kernel
theorem dX6_costWith_1 : decode cX6_costWith 1 = .ok (.iconst 0, 1) := by decide +kernel
theorem dX6_costWith_2 : decode cX6_costWith 2 = .ok (.iconst 5, 1) := by decide +kernel
theorem dX6_costWith_3 : decode cX6_costWith 3 = .ok (.invokestatic 51, 3) := by decide +kernel
theorem dX6_costWith_6 : decode cX6_costWith 6 = .ok (.ifCond .ne 5, 3) := by decide +kernel
theorem dX6_costWith_9 : decode cX6_costWith 9 = .ok (.lconst 0, 1) := by decide +kernel
theorem dX6_costWith_10 : decode cX6_costWith 10 = .ok (.lreturn, 1) := by decide +kernel
theorem dX6_costWith_11 : decode cX6_costWith 11 = .ok (.aload_n 1, 1) := by decide +kernel
theorem dX6_costWith_12 : decode cX6_costWith 12 = .ok (.getfield 55, 3) := by decide +kernel
theorem dX6_costWith_15 : decode cX6_costWith 15 = .ok (.iload_n 3, 1) := by decide +kernel
theorem dX6_costWith_16 : decode cX6_costWith 16 = .ok (.iaload, 1) := by decide +kernel
theorem dX6_costWith_17 : decode cX6_costWith 17 = .ok (.i2l, 1) := by decide +kernel
theorem dX6_costWith_18 : decode cX6_costWith 18 = .ok (.aload_n 0, 1) := by decide +kernel
theorem dX6_costWith_19 : decode cX6_costWith 19 = .ok (.getfield 13, 3) := by decide +kernel
theorem dX6_costWith_22 : decode cX6_costWith 22 = .ok (.iload_n 2, 1) := by decide +kernel
theorem dX6_costWith_23 : decode cX6_costWith 23 = .ok (.laload, 1) := by decide +kernel
theorem dX6_costWith_24 : decode cX6_costWith 24 = .ok (.lmul, 1) := by decide +kernel
theorem dX6_costWith_25 : decode cX6_costWith 25 = .ok (.aload_n 0, 1) := by decide +kernel
theorem dX6_costWith_26 : decode cX6_costWith 26 = .ok (.getfield 17, 3) := by decide +kernel
theorem dX6_costWith_29 : decode cX6_costWith 29 = .ok (.iload_n 2, 1) := by decide +kernel
theorem dX6_costWith_30 : decode cX6_costWith 30 = .ok (.iconst 1, 1) := by decide +kernel
theorem dX6_costWith_31 : decode cX6_costWith 31 = .ok (.iload_n 3, 1) := by decide +kernel
theorem dX6_costWith_32 : decode cX6_costWith 32 = .ok (.ishl, 1) := by decide +kernel
theorem dX6_costWith_33 : decode cX6_costWith 33 = .ok (.ior, 1) := by decide +kernel
theorem dX6_costWith_34 : decode cX6_costWith 34 = .ok (.laload, 1) := by decide +kernel
theorem dX6_costWith_35 : decode cX6_costWith 35 = .ok (.ladd, 1) := by decide +kernel
theorem dX6_costWith_36 : decode cX6_costWith 36 = .ok (.lreturn, 1) := by decide +kernel
theorem dX6_mostOut_0 : decode cX6_mostOut 0 = .ok (.lconst 0, 1) := by decide +kernel
theorem dX6_mostOut_1 : decode cX6_mostOut 1 = .ok (.lstore_n 2, 1) := by decide +kernel
theorem dX6_mostOut_2 : decode cX6_mostOut 2 = .ok (.iconst 0, 1) := by decide +kernel
theorem dX6_mostOut_3 : decode cX6_mostOut 3 = .ok (.istore 4, 2) := by decide +kernel
theorem dX6_mostOut_5 : decode cX6_mostOut 5 = .ok (.iload 4, 2) := by decide +kernel
theorem dX6_mostOut_7 : decode cX6_mostOut 7 = .ok (.aload_n 0, 1) := by decide +kernel
theorem dX6_mostOut_8 : decode cX6_mostOut 8 = .ok (.getfield 24, 3) := by decide +kernel
theorem dX6_mostOut_11 : decode cX6_mostOut 11 = .ok (.if_icmp .gt 46, 3) := by decide +kernel
theorem dX6_mostOut_14 : decode cX6_mostOut 14 = .ok (.iload 4, 2) := by decide +kernel
theorem dX6_mostOut_16 : decode cX6_mostOut 16 = .ok (.aload_n 0, 1) := by decide +kernel
theorem dX6_mostOut_17 : decode cX6_mostOut 17 = .ok (.getfield 24, 3) := by decide +kernel
theorem dX6_mostOut_20 : decode cX6_mostOut 20 = .ok (.iconst (-1), 1) := by decide +kernel
theorem dX6_mostOut_21 : decode cX6_mostOut 21 = .ok (.ixor, 1) := by decide +kernel
theorem dX6_mostOut_22 : decode cX6_mostOut 22 = .ok (.iand, 1) := by decide +kernel
theorem dX6_mostOut_23 : decode cX6_mostOut 23 = .ok (.ifCond .ne 28, 3) := by decide +kernel
theorem dX6_mostOut_26 : decode cX6_mostOut 26 = .ok (.iload 4, 2) := by decide +kernel
theorem dX6_mostOut_28 : decode cX6_mostOut 28 = .ok (.invokestatic 58, 3) := by decide +kernel
theorem dX6_mostOut_31 : decode cX6_mostOut 31 = .ok (.iload_n 1, 1) := by decide +kernel
theorem dX6_mostOut_32 : decode cX6_mostOut 32 = .ok (.if_icmp .gt 19, 3) := by decide +kernel
theorem dX6_mostOut_35 : decode cX6_mostOut 35 = .ok (.lload_n 2, 1) := by decide +kernel
theorem dX6_mostOut_36 : decode cX6_mostOut 36 = .ok (.ldc2_w 63, 3) := by decide +kernel
theorem dX6_mostOut_39 : decode cX6_mostOut 39 = .ok (.aload_n 0, 1) := by decide +kernel
theorem dX6_mostOut_40 : decode cX6_mostOut 40 = .ok (.getfield 13, 3) := by decide +kernel
theorem dX6_mostOut_43 : decode cX6_mostOut 43 = .ok (.iload 4, 2) := by decide +kernel
theorem dX6_mostOut_45 : decode cX6_mostOut 45 = .ok (.laload, 1) := by decide +kernel
theorem dX6_mostOut_46 : decode cX6_mostOut 46 = .ok (.lsub, 1) := by decide +kernel
theorem dX6_mostOut_47 : decode cX6_mostOut 47 = .ok (.invokestatic 65, 3) := by decide +kernel
theorem dX6_mostOut_50 : decode cX6_mostOut 50 = .ok (.lstore_n 2, 1) := by decide +kernel
theorem dX6_mostOut_51 : decode cX6_mostOut 51 = .ok (.iinc 4 1, 3) := by decide +kernel
theorem dX6_mostOut_54 : decode cX6_mostOut 54 = .ok (.goto (-49), 3) := by decide +kernel
theorem dX6_mostOut_57 : decode cX6_mostOut 57 = .ok (.lload_n 2, 1) := by decide +kernel
theorem dX6_mostOut_58 : decode cX6_mostOut 58 = .ok (.lreturn, 1) := by decide +kernel
