theorem dX9_init_0 : decode cX9_init 0 = .ok (.aload_n 0, 1) := by decide +kernel
theorem dX9_init_1 : decode cX9_init 1 = .ok (.invokespecial 3, 3) := by decide +kernel
theorem dX9_init_4 : decode cX9_init 4 = .ok (.aload_n 0, 1) := by decide +kernel
theorem dX9_init_5 : decode cX9_init 5 = .ok (.bipush 9, 2) := by decide +kernel
theorem dX9_init_7 : decode cX9_init 7 = .ok (.newarray .int, 2) := by decide +kernel
theorem dX9_init_9 : decode cX9_init 9 = .ok (.putfield 11, 3) := by decide +kernel
theorem dX9_init_12 : decode cX9_init 12 = .ok (.aload_n 0, 1) := by decide +kernel
theorem dX9_init_13 : decode cX9_init 13 = .ok (.bipush 9, 2) := by decide +kernel
theorem dX9_init_15 : decode cX9_init 15 = .ok (.newarray .int, 2) := by decide +kernel
theorem dX9_init_17 : decode cX9_init 17 = .ok (.putfield 15, 3) := by decide +kernel
theorem dX9_init_20 : decode cX9_init 20 = .ok (.aload_n 0, 1) := by decide +kernel
theorem dX9_init_21 : decode cX9_init 21 = .ok (.bipush 9, 2) := by decide +kernel
theorem dX9_init_23 : decode cX9_init 23 = .ok (.newarray .int, 2) := by decide +kernel
theorem dX9_init_25 : decode cX9_init 25 = .ok (.putfield 18, 3) := by decide +kernel
theorem dX9_init_28 : decode cX9_init 28 = .ok (.aload_n 0, 1) := by decide +kernel
theorem dX9_init_29 : decode cX9_init 29 = .ok (.bipush 9, 2) := by decide +kernel
theorem dX9_init_31 : decode cX9_init 31 = .ok (.newarray .int, 2) := by decide +kernel
theorem dX9_init_33 : decode cX9_init 33 = .ok (.putfield 21, 3) := by decide +kernel
theorem dX9_init_36 : decode cX9_init 36 = .ok (.aload_n 0, 1) := by decide +kernel
theorem dX9_init_37 : decode cX9_init 37 = .ok (.sipush 4608, 3) := by decide +kernel
theorem dX9_init_40 : decode cX9_init 40 = .ok (.newarray .int, 2) := by decide +kernel
theorem dX9_init_42 : decode cX9_init 42 = .ok (.putfield 24, 3) := by decide +kernel
theorem dX9_init_45 : decode cX9_init 45 = .ok (.aload_n 0, 1) := by decide +kernel
theorem dX9_init_46 : decode cX9_init 46 = .ok (.iconst 0, 1) := by decide +kernel
theorem dX9_init_47 : decode cX9_init 47 = .ok (.putfield 27, 3) := by decide +kernel
theorem dX9_init_50 : decode cX9_init 50 = .ok (.return_, 1) := by decide +kernel
theorem dX9_start_0 : decode cX9_start 0 = .ok (.aload_n 0, 1) := by decide +kernel
theorem dX9_start_1 : decode cX9_start 1 = .ok (.iconst 0, 1) := by decide +kernel
theorem dX9_start_2 : decode cX9_start 2 = .ok (.putfield 27, 3) := by decide +kernel
theorem dX9_start_5 : decode cX9_start 5 = .ok (.return_, 1) := by decide +kernel
theorem dX9_addStop_0 : decode cX9_addStop 0 = .ok (.aload_n 0, 1) := by decide +kernel
theorem dX9_addStop_1 : decode cX9_addStop 1 = .ok (.getfield 27, 3) := by decide +kernel
theorem dX9_addStop_4 : decode cX9_addStop 4 = .ok (.bipush 9, 2) := by decide +kernel
theorem dX9_addStop_6 : decode cX9_addStop 6 = .ok (.if_icmp .ge 43, 3) := by decide +kernel
theorem dX9_addStop_9 : decode cX9_addStop 9 = .ok (.aload_n 0, 1) := by decide +kernel
theorem dX9_addStop_10 : decode cX9_addStop 10 = .ok (.getfield 11, 3) := by decide +kernel
theorem dX9_addStop_13 : decode cX9_addStop 13 = .ok (.aload_n 0, 1) := by decide +kernel
theorem dX9_addStop_14 : decode cX9_addStop 14 = .ok (.getfield 27, 3) := by decide +kernel
theorem dX9_addStop_17 : decode cX9_addStop 17 = .ok (.iload_n 1, 1) := by decide +kernel
theorem dX9_addStop_18 : decode cX9_addStop 18 = .ok (.iastore, 1) := by decide +kernel
theorem dX9_addStop_19 : decode cX9_addStop 19 = .ok (.aload_n 0, 1) := by decide +kernel
theorem dX9_addStop_20 : decode cX9_addStop 20 = .ok (.getfield 15, 3) := by decide +kernel
theorem dX9_addStop_23 : decode cX9_addStop 23 = .ok (.aload_n 0, 1) := by decide +kernel
theorem dX9_addStop_24 : decode cX9_addStop 24 = .ok (.getfield 27, 3) := by decide +kernel
theorem dX9_addStop_27 : decode cX9_addStop 27 = .ok (.iload_n 2, 1) := by decide +kernel
theorem dX9_addStop_28 : decode cX9_addStop 28 = .ok (.iastore, 1) := by decide +kernel
theorem dX9_addStop_29 : decode cX9_addStop 29 = .ok (.aload_n 0, 1) := by decide +kernel
theorem dX9_addStop_30 : decode cX9_addStop 30 = .ok (.getfield 18, 3) := by decide +kernel
theorem dX9_addStop_33 : decode cX9_addStop 33 = .ok (.aload_n 0, 1) := by decide +kernel
theorem dX9_addStop_34 : decode cX9_addStop 34 = .ok (.getfield 27, 3) := by decide +kernel
theorem dX9_addStop_37 : decode cX9_addStop 37 = .ok (.iload_n 3, 1) := by decide +kernel
theorem dX9_addStop_38 : decode cX9_addStop 38 = .ok (.iastore, 1) := by decide +kernel
theorem dX9_addStop_39 : decode cX9_addStop 39 = .ok (.aload_n 0, 1) := by decide +kernel
theorem dX9_addStop_40 : decode cX9_addStop 40 = .ok (.dup, 1) := by decide +kernel
theorem dX9_addStop_41 : decode cX9_addStop 41 = .ok (.getfield 27, 3) := by decide +kernel
theorem dX9_addStop_44 : decode cX9_addStop 44 = .ok (.iconst 1, 1) := by decide +kernel
theorem dX9_addStop_45 : decode cX9_addStop 45 = .ok (.iadd, 1) := by decide +kernel
theorem dX9_addStop_46 : decode cX9_addStop 46 = .ok (.putfield 27, 3) := by decide +kernel
theorem dX9_addStop_49 : decode cX9_addStop 49 = .ok (.return_, 1) := by decide +kernel
theorem dX9_findRound_0 : decode cX9_findRound 0 = .ok (.iconst 1, 1) := by decide +kernel
theorem dX9_findRound_1 : decode cX9_findRound 1 = .ok (.aload_n 0, 1) := by decide +kernel
theorem dX9_findRound_2 : decode cX9_findRound 2 = .ok (.getfield 27, 3) := by decide +kernel
theorem dX9_findRound_5 : decode cX9_findRound 5 = .ok (.ishl, 1) := by decide +kernel
theorem dX9_findRound_6 : decode cX9_findRound 6 = .ok (.iconst 1, 1) := by decide +kernel
theorem dX9_findRound_7 : decode cX9_findRound 7 = .ok (.isub, 1) := by decide +kernel
theorem dX9_findRound_8 : decode cX9_findRound 8 = .ok (.istore_n 1, 1) := by decide +kernel
theorem dX9_findRound_9 : decode cX9_findRound 9 = .ok (.iload_n 1, 1) := by decide +kernel
theorem dX9_findRound_10 : decode cX9_findRound 10 = .ok (.istore_n 2, 1) := by decide +kernel
theorem dX9_findRound_11 : decode cX9_findRound 11 = .ok (.iload_n 2, 1) := by decide +kernel
theorem dX9_findRound_12 : decode cX9_findRound 12 = .ok (.ifCond .le 69, 3) := by decide +kernel
theorem dX9_findRound_15 : decode cX9_findRound 15 = .ok (.iconst 0, 1) := by decide +kernel
theorem dX9_findRound_16 : decode cX9_findRound 16 = .ok (.istore_n 3, 1) := by decide +kernel
theorem dX9_findRound_17 : decode cX9_findRound 17 = .ok (.iload_n 3, 1) := by decide +kernel
theorem dX9_findRound_18 : decode cX9_findRound 18 = .ok (.aload_n 0, 1) := by decide +kernel
theorem dX9_findRound_19 : decode cX9_findRound 19 = .ok (.getfield 27, 3) := by decide +kernel
theorem dX9_findRound_22 : decode cX9_findRound 22 = .ok (.if_icmp .ge 53, 3) := by decide +kernel
theorem dX9_findRound_25 : decode cX9_findRound 25 = .ok (.iload_n 2, 1) := by decide +kernel
theorem dX9_findRound_26 : decode cX9_findRound 26 = .ok (.iload_n 3, 1) := by decide +kernel
theorem dX9_findRound_27 : decode cX9_findRound 27 = .ok (.ishr, 1) := by decide +kernel
theorem dX9_findRound_28 : decode cX9_findRound 28 = .ok (.iconst 1, 1) := by decide +kernel
theorem dX9_findRound_29 : decode cX9_findRound 29 = .ok (.iand, 1) := by decide +kernel
theorem dX9_findRound_30 : decode cX9_findRound 30 = .ok (.ifCond .eq 39, 3) := by decide +kernel
theorem dX9_findRound_33 : decode cX9_findRound 33 = .ok (.aload_n 0, 1) := by decide +kernel
theorem dX9_findRound_34 : decode cX9_findRound 34 = .ok (.getfield 24, 3) := by decide +kernel
theorem dX9_findRound_37 : decode cX9_findRound 37 = .ok (.iload_n 2, 1) := by decide +kernel
theorem dX9_findRound_38 : decode cX9_findRound 38 = .ok (.bipush 9, 2) := by decide +kernel
theorem dX9_findRound_40 : decode cX9_findRound 40 = .ok (.imul, 1) := by decide +kernel
theorem dX9_findRound_41 : decode cX9_findRound 41 = .ok (.iload_n 3, 1) := by decide +kernel
theorem dX9_findRound_42 : decode cX9_findRound 42 = .ok (.iadd, 1) := by decide +kernel
theorem dX9_findRound_43 : decode cX9_findRound 43 = .ok (.iload_n 2, 1) := by decide +kernel
theorem dX9_findRound_44 : decode cX9_findRound 44 = .ok (.iload_n 1, 1) := by decide +kernel
theorem dX9_findRound_45 : decode cX9_findRound 45 = .ok (.if_icmp .ne 11, 3) := by decide +kernel
theorem dX9_findRound_48 : decode cX9_findRound 48 = .ok (.aload_n 0, 1) := by decide +kernel
theorem dX9_findRound_49 : decode cX9_findRound 49 = .ok (.iload_n 3, 1) := by decide +kernel
theorem dX9_findRound_50 : decode cX9_findRound 50 = .ok (.invokevirtual 31, 3) := by decide +kernel
theorem dX9_findRound_53 : decode cX9_findRound 53 = .ok (.goto 15, 3) := by decide +kernel
theorem dX9_findRound_56 : decode cX9_findRound 56 = .ok (.aload_n 0, 1) := by decide +kernel
theorem dX9_findRound_57 : decode cX9_findRound 57 = .ok (.iload_n 2, 1) := by decide +kernel
theorem dX9_findRound_58 : decode cX9_findRound 58 = .ok (.iload_n 3, 1) := by decide +kernel
theorem dX9_findRound_59 : decode cX9_findRound 59 = .ok (.aload_n 0, 1) := by decide +kernel
theorem dX9_findRound_60 : decode cX9_findRound 60 = .ok (.iload_n 2, 1) := by decide +kernel
theorem dX9_findRound_61 : decode cX9_findRound 61 = .ok (.iload_n 3, 1) := by decide +kernel
theorem dX9_findRound_62 : decode cX9_findRound 62 = .ok (.invokevirtual 35, 3) := by decide +kernel
theorem dX9_findRound_65 : decode cX9_findRound 65 = .ok (.invokevirtual 39, 3) := by decide +kernel
theorem dX9_findRound_68 : decode cX9_findRound 68 = .ok (.iastore, 1) := by decide +kernel
theorem dX9_findRound_69 : decode cX9_findRound 69 = .ok (.iinc 3 1, 3) := by decide +kernel
theorem dX9_findRound_72 : decode cX9_findRound 72 = .ok (.goto (-55), 3) := by decide +kernel
theorem dX9_findRound_75 : decode cX9_findRound 75 = .ok (.iinc 2 (-1), 3) := by decide +kernel
theorem dX9_findRound_78 : decode cX9_findRound 78 = .ok (.goto (-67), 3) := by decide +kernel
theorem dX9_findRound_81 : decode cX9_findRound 81 = .ok (.aload_n 0, 1) := by decide +kernel
theorem dX9_findRound_82 : decode cX9_findRound 82 = .ok (.iconst 0, 1) := by decide +kernel
theorem dX9_findRound_83 : decode cX9_findRound 83 = .ok (.iconst (-1), 1) := by decide +kernel
theorem dX9_findRound_84 : decode cX9_findRound 84 = .ok (.aload_n 0, 1) := by decide +kernel
theorem dX9_findRound_85 : decode cX9_findRound 85 = .ok (.iconst 0, 1) := by decide +kernel
theorem dX9_findRound_86 : decode cX9_findRound 86 = .ok (.iconst (-1), 1) := by decide +kernel
theorem dX9_findRound_87 : decode cX9_findRound 87 = .ok (.invokevirtual 35, 3) := by decide +kernel
theorem dX9_findRound_90 : decode cX9_findRound 90 = .ok (.invokevirtual 39, 3) := by decide +kernel
theorem dX9_findRound_93 : decode cX9_findRound 93 = .ok (.istore_n 2, 1) := by decide +kernel
theorem dX9_findRound_94 : decode cX9_findRound 94 = .ok (.iconst (-1), 1) := by decide +kernel
theorem dX9_findRound_95 : decode cX9_findRound 95 = .ok (.istore_n 3, 1) := by decide +kernel
theorem dX9_findRound_96 : decode cX9_findRound 96 = .ok (.iconst 0, 1) := by decide +kernel
theorem dX9_findRound_97 : decode cX9_findRound 97 = .ok (.istore 4, 2) := by decide +kernel
theorem dX9_findRound_99 : decode cX9_findRound 99 = .ok (.iconst 0, 1) := by decide +kernel
theorem dX9_findRound_100 : decode cX9_findRound 100 = .ok (.istore 5, 2) := by decide +kernel
theorem dX9_findRound_102 : decode cX9_findRound 102 = .ok (.iload 5, 2) := by decide +kernel
theorem dX9_findRound_104 : decode cX9_findRound 104 = .ok (.aload_n 0, 1) := by decide +kernel
theorem dX9_findRound_105 : decode cX9_findRound 105 = .ok (.getfield 27, 3) := by decide +kernel
theorem dX9_findRound_108 : decode cX9_findRound 108 = .ok (.if_icmp .ge 56, 3) := by decide +kernel
theorem dX9_findRound_111 : decode cX9_findRound 111 = .ok (.aload_n 0, 1) := by decide +kernel
theorem dX9_findRound_112 : decode cX9_findRound 112 = .ok (.iload 4, 2) := by decide +kernel
theorem dX9_findRound_114 : decode cX9_findRound 114 = .ok (.iload_n 3, 1) := by decide +kernel
theorem dX9_findRound_115 : decode cX9_findRound 115 = .ok (.invokevirtual 35, 3) := by decide +kernel
theorem dX9_findRound_118 : decode cX9_findRound 118 = .ok (.istore_n 3, 1) := by decide +kernel
theorem dX9_findRound_119 : decode cX9_findRound 119 = .ok (.iload 4, 2) := by decide +kernel
theorem dX9_findRound_121 : decode cX9_findRound 121 = .ok (.iload_n 3, 1) := by decide +kernel
theorem dX9_findRound_122 : decode cX9_findRound 122 = .ok (.iconst (-1), 1) := by decide +kernel
theorem dX9_findRound_123 : decode cX9_findRound 123 = .ok (.if_icmp .ne 7, 3) := by decide +kernel
theorem dX9_findRound_126 : decode cX9_findRound 126 = .ok (.iconst 0, 1) := by decide +kernel
theorem dX9_findRound_127 : decode cX9_findRound 127 = .ok (.goto 6, 3) := by decide +kernel
theorem dX9_findRound_130 : decode cX9_findRound 130 = .ok (.iconst 1, 1) := by decide +kernel
theorem dX9_findRound_131 : decode cX9_findRound 131 = .ok (.iload_n 3, 1) := by decide +kernel
theorem dX9_findRound_132 : decode cX9_findRound 132 = .ok (.ishl, 1) := by decide +kernel
theorem dX9_findRound_133 : decode cX9_findRound 133 = .ok (.ior, 1) := by decide +kernel
theorem dX9_findRound_134 : decode cX9_findRound 134 = .ok (.istore 4, 2) := by decide +kernel
theorem dX9_findRound_136 : decode cX9_findRound 136 = .ok (.aload_n 0, 1) := by decide +kernel
theorem dX9_findRound_137 : decode cX9_findRound 137 = .ok (.getfield 21, 3) := by decide +kernel
theorem dX9_findRound_140 : decode cX9_findRound 140 = .ok (.iload 5, 2) := by decide +kernel
theorem dX9_findRound_142 : decode cX9_findRound 142 = .ok (.iload_n 3, 1) := by decide +kernel
theorem dX9_findRound_143 : decode cX9_findRound 143 = .ok (.iconst (-1), 1) := by decide +kernel
theorem dX9_findRound_144 : decode cX9_findRound 144 = .ok (.if_icmp .ne 7, 3) := by decide +kernel
theorem dX9_findRound_147 : decode cX9_findRound 147 = .ok (.iconst (-1), 1) := by decide +kernel
theorem dX9_findRound_148 : decode cX9_findRound 148 = .ok (.goto 9, 3) := by decide +kernel
theorem dX9_findRound_151 : decode cX9_findRound 151 = .ok (.aload_n 0, 1) := by decide +kernel
theorem dX9_findRound_152 : decode cX9_findRound 152 = .ok (.getfield 11, 3) := by decide +kernel
theorem dX9_findRound_155 : decode cX9_findRound 155 = .ok (.iload_n 3, 1) := by decide +kernel
theorem dX9_findRound_156 : decode cX9_findRound 156 = .ok (.iaload, 1) := by decide +kernel
theorem dX9_findRound_157 : decode cX9_findRound 157 = .ok (.iastore, 1) := by decide +kernel
theorem dX9_findRound_158 : decode cX9_findRound 158 = .ok (.iinc 5 1, 3) := by decide +kernel
theorem dX9_findRound_161 : decode cX9_findRound 161 = .ok (.goto (-59), 3) := by decide +kernel
theorem dX9_findRound_164 : decode cX9_findRound 164 = .ok (.iload_n 2, 1) := by decide +kernel
theorem dX9_findRound_165 : decode cX9_findRound 165 = .ok (.ireturn, 1) := by decide +kernel
theorem dX9_nextOf_0 : decode cX9_nextOf 0 = .ok (.iconst (-1), 1) := by decide +kernel
theorem dX9_nextOf_1 : decode cX9_nextOf 1 = .ok (.istore_n 3, 1) := by decide +kernel
theorem dX9_nextOf_2 : decode cX9_nextOf 2 = .ok (.iconst 0, 1) := by decide +kernel
theorem dX9_nextOf_3 : decode cX9_nextOf 3 = .ok (.istore 4, 2) := by decide +kernel
theorem dX9_nextOf_5 : decode cX9_nextOf 5 = .ok (.iconst 0, 1) := by decide +kernel
theorem dX9_nextOf_6 : decode cX9_nextOf 6 = .ok (.istore 5, 2) := by decide +kernel
theorem dX9_nextOf_8 : decode cX9_nextOf 8 = .ok (.iload 5, 2) := by decide +kernel
theorem dX9_nextOf_10 : decode cX9_nextOf 10 = .ok (.aload_n 0, 1) := by decide +kernel
theorem dX9_nextOf_11 : decode cX9_nextOf 11 = .ok (.getfield 27, 3) := by decide +kernel
theorem dX9_nextOf_14 : decode cX9_nextOf 14 = .ok (.if_icmp .ge 47, 3) := by decide +kernel
theorem dX9_nextOf_17 : decode cX9_nextOf 17 = .ok (.iload_n 1, 1) := by decide +kernel
theorem dX9_nextOf_18 : decode cX9_nextOf 18 = .ok (.iload 5, 2) := by decide +kernel
theorem dX9_nextOf_20 : decode cX9_nextOf 20 = .ok (.ishr, 1) := by decide +kernel
theorem dX9_nextOf_21 : decode cX9_nextOf 21 = .ok (.iconst 1, 1) := by decide +kernel
theorem dX9_nextOf_22 : decode cX9_nextOf 22 = .ok (.iand, 1) := by decide +kernel
theorem dX9_nextOf_23 : decode cX9_nextOf 23 = .ok (.ifCond .ne 32, 3) := by decide +kernel
theorem dX9_nextOf_26 : decode cX9_nextOf 26 = .ok (.aload_n 0, 1) := by decide +kernel
theorem dX9_nextOf_27 : decode cX9_nextOf 27 = .ok (.iload_n 1, 1) := by decide +kernel
theorem dX9_nextOf_28 : decode cX9_nextOf 28 = .ok (.iload_n 2, 1) := by decide +kernel
theorem dX9_nextOf_29 : decode cX9_nextOf 29 = .ok (.iload 5, 2) := by decide +kernel
theorem dX9_nextOf_31 : decode cX9_nextOf 31 = .ok (.invokevirtual 39, 3) := by decide +kernel
theorem dX9_nextOf_34 : decode cX9_nextOf 34 = .ok (.istore 6, 2) := by decide +kernel
theorem dX9_nextOf_36 : decode cX9_nextOf 36 = .ok (.iload_n 3, 1) := by decide +kernel
theorem dX9_nextOf_37 : decode cX9_nextOf 37 = .ok (.iconst (-1), 1) := by decide +kernel
theorem dX9_nextOf_38 : decode cX9_nextOf 38 = .ok (.if_icmp .eq 10, 3) := by decide +kernel
theorem dX9_nextOf_41 : decode cX9_nextOf 41 = .ok (.iload 6, 2) := by decide +kernel
theorem dX9_nextOf_43 : decode cX9_nextOf 43 = .ok (.iload 4, 2) := by decide +kernel
theorem dX9_nextOf_45 : decode cX9_nextOf 45 = .ok (.if_icmp .ge 10, 3) := by decide +kernel
theorem dX9_nextOf_48 : decode cX9_nextOf 48 = .ok (.iload 5, 2) := by decide +kernel
theorem dX9_nextOf_50 : decode cX9_nextOf 50 = .ok (.istore_n 3, 1) := by decide +kernel
theorem dX9_nextOf_51 : decode cX9_nextOf 51 = .ok (.iload 6, 2) := by decide +kernel
theorem dX9_nextOf_53 : decode cX9_nextOf 53 = .ok (.istore 4, 2) := by decide +kernel
theorem dX9_nextOf_55 : decode cX9_nextOf 55 = .ok (.iinc 5 1, 3) := by decide +kernel
theorem dX9_nextOf_58 : decode cX9_nextOf 58 = .ok (.goto (-50), 3) := by decide +kernel
theorem dX9_nextOf_61 : decode cX9_nextOf 61 = .ok (.iload_n 3, 1) := by decide +kernel
theorem dX9_nextOf_62 : decode cX9_nextOf 62 = .ok (.ireturn, 1) := by decide +kernel
theorem dX9_wayBy_0 : decode cX9_wayBy 0 = .ok (.iload_n 3, 1) := by decide +kernel
theorem dX9_wayBy_1 : decode cX9_wayBy 1 = .ok (.iconst 0, 1) := by decide +kernel
theorem dX9_wayBy_2 : decode cX9_wayBy 2 = .ok (.aload_n 0, 1) := by decide +kernel
theorem dX9_wayBy_3 : decode cX9_wayBy 3 = .ok (.getfield 27, 3) := by decide +kernel
theorem dX9_wayBy_6 : decode cX9_wayBy 6 = .ok (.iconst 1, 1) := by decide +kernel
theorem dX9_wayBy_7 : decode cX9_wayBy 7 = .ok (.isub, 1) := by decide +kernel
theorem dX9_wayBy_8 : decode cX9_wayBy 8 = .ok (.invokestatic 43, 3) := by decide +kernel
theorem dX9_wayBy_11 : decode cX9_wayBy 11 = .ok (.ifCond .ne 5, 3) := by decide +kernel
theorem dX9_wayBy_14 : decode cX9_wayBy 14 = .ok (.iconst 0, 1) := by decide +kernel
theorem dX9_wayBy_15 : decode cX9_wayBy 15 = .ok (.ireturn, 1) := by decide +kernel
theorem dX9_wayBy_16 : decode cX9_wayBy 16 = .ok (.iload_n 2, 1) := by decide +kernel
theorem dX9_wayBy_17 : decode cX9_wayBy 17 = .ok (.iconst (-1), 1) := by decide +kernel
theorem dX9_wayBy_18 : decode cX9_wayBy 18 = .ok (.if_icmp .ne 11, 3) := by decide +kernel
theorem dX9_wayBy_21 : decode cX9_wayBy 21 = .ok (.aload_n 0, 1) := by decide +kernel
theorem dX9_wayBy_22 : decode cX9_wayBy 22 = .ok (.iload_n 3, 1) := by decide +kernel
theorem dX9_wayBy_23 : decode cX9_wayBy 23 = .ok (.invokevirtual 31, 3) := by decide +kernel
theorem dX9_wayBy_26 : decode cX9_wayBy 26 = .ok (.goto 30, 3) := by decide +kernel
theorem dX9_wayBy_29 : decode cX9_wayBy 29 = .ok (.aload_n 0, 1) := by decide +kernel
theorem dX9_wayBy_30 : decode cX9_wayBy 30 = .ok (.getfield 15, 3) := by decide +kernel
theorem dX9_wayBy_33 : decode cX9_wayBy 33 = .ok (.iload_n 2, 1) := by decide +kernel
theorem dX9_wayBy_34 : decode cX9_wayBy 34 = .ok (.iaload, 1) := by decide +kernel
theorem dX9_wayBy_35 : decode cX9_wayBy 35 = .ok (.aload_n 0, 1) := by decide +kernel
theorem dX9_wayBy_36 : decode cX9_wayBy 36 = .ok (.getfield 18, 3) := by decide +kernel
theorem dX9_wayBy_39 : decode cX9_wayBy 39 = .ok (.iload_n 2, 1) := by decide +kernel
theorem dX9_wayBy_40 : decode cX9_wayBy 40 = .ok (.iaload, 1) := by decide +kernel
theorem dX9_wayBy_41 : decode cX9_wayBy 41 = .ok (.aload_n 0, 1) := by decide +kernel
theorem dX9_wayBy_42 : decode cX9_wayBy 42 = .ok (.getfield 15, 3) := by decide +kernel
theorem dX9_wayBy_45 : decode cX9_wayBy 45 = .ok (.iload_n 3, 1) := by decide +kernel
theorem dX9_wayBy_46 : decode cX9_wayBy 46 = .ok (.iaload, 1) := by decide +kernel
theorem dX9_wayBy_47 : decode cX9_wayBy 47 = .ok (.aload_n 0, 1) := by decide +kernel
theorem dX9_wayBy_48 : decode cX9_wayBy 48 = .ok (.getfield 18, 3) := by decide +kernel
theorem dX9_wayBy_51 : decode cX9_wayBy 51 = .ok (.iload_n 3, 1) := by decide +kernel
theorem dX9_wayBy_52 : decode cX9_wayBy 52 = .ok (.iaload, 1) := by decide +kernel
theorem dX9_wayBy_53 : decode cX9_wayBy 53 = .ok (.invokestatic 47, 3) := by decide +kernel
theorem dX9_wayBy_56 : decode cX9_wayBy 56 = .ok (.istore 4, 2) := by decide +kernel
theorem dX9_wayBy_58 : decode cX9_wayBy 58 = .ok (.iload 4, 2) := by decide +kernel
theorem dX9_wayBy_60 : decode cX9_wayBy 60 = .ok (.aload_n 0, 1) := by decide +kernel
theorem dX9_wayBy_61 : decode cX9_wayBy 61 = .ok (.getfield 24, 3) := by decide +kernel
theorem dX9_wayBy_64 : decode cX9_wayBy 64 = .ok (.iload_n 1, 1) := by decide +kernel
theorem dX9_wayBy_65 : decode cX9_wayBy 65 = .ok (.iconst 1, 1) := by decide +kernel
theorem dX9_wayBy_66 : decode cX9_wayBy 66 = .ok (.iload_n 3, 1) := by decide +kernel
theorem dX9_wayBy_67 : decode cX9_wayBy 67 = .ok (.ishl, 1) := by decide +kernel
theorem dX9_wayBy_68 : decode cX9_wayBy 68 = .ok (.ior, 1) := by decide +kernel
theorem dX9_wayBy_69 : decode cX9_wayBy 69 = .ok (.bipush 9, 2) := by decide +kernel
theorem dX9_wayBy_71 : decode cX9_wayBy 71 = .ok (.imul, 1) := by decide +kernel
theorem dX9_wayBy_72 : decode cX9_wayBy 72 = .ok (.iload_n 3, 1) := by decide +kernel
theorem dX9_wayBy_73 : decode cX9_wayBy 73 = .ok (.iadd, 1) := by decide +kernel
theorem dX9_wayBy_74 : decode cX9_wayBy 74 = .ok (.iaload, 1) := by decide +kernel
theorem dX9_wayBy_75 : decode cX9_wayBy 75 = .ok (.iadd, 1) := by decide +kernel
theorem dX9_wayBy_76 : decode cX9_wayBy 76 = .ok (.ireturn, 1) := by decide +kernel
theorem dX9_toHome_0 : decode cX9_toHome 0 = .ok (.aload_n 0, 1) := by decide +kernel
theorem dX9_toHome_1 : decode cX9_toHome 1 = .ok (.getfield 15, 3) := by decide +kernel
theorem dX9_toHome_4 : decode cX9_toHome 4 = .ok (.iload_n 1, 1) := by decide +kernel
theorem dX9_toHome_5 : decode cX9_toHome 5 = .ok (.iaload, 1) := by decide +kernel
theorem dX9_toHome_6 : decode cX9_toHome 6 = .ok (.aload_n 0, 1) := by decide +kernel
theorem dX9_toHome_7 : decode cX9_toHome 7 = .ok (.getfield 18, 3) := by decide +kernel
theorem dX9_toHome_10 : decode cX9_toHome 10 = .ok (.iload_n 1, 1) := by decide +kernel
theorem dX9_toHome_11 : decode cX9_toHome 11 = .ok (.iaload, 1) := by decide +kernel
theorem dX9_toHome_12 : decode cX9_toHome 12 = .ok (.bipush 50, 2) := by decide +kernel
theorem dX9_toHome_14 : decode cX9_toHome 14 = .ok (.bipush 50, 2) := by decide +kernel
theorem dX9_toHome_16 : decode cX9_toHome 16 = .ok (.invokestatic 47, 3) := by decide +kernel
theorem dX9_toHome_19 : decode cX9_toHome 19 = .ok (.ireturn, 1) := by decide +kernel
theorem dX9_distance_0 : decode cX9_distance 0 = .ok (.iload_n 0, 1) := by decide +kernel
theorem dX9_distance_1 : decode cX9_distance 1 = .ok (.iload_n 2, 1) := by decide +kernel
theorem dX9_distance_2 : decode cX9_distance 2 = .ok (.isub, 1) := by decide +kernel
theorem dX9_distance_3 : decode cX9_distance 3 = .ok (.invokestatic 51, 3) := by decide +kernel
theorem dX9_distance_6 : decode cX9_distance 6 = .ok (.iload_n 1, 1) := by decide +kernel
theorem dX9_distance_7 : decode cX9_distance 7 = .ok (.iload_n 3, 1) := by decide +kernel
theorem dX9_distance_8 : decode cX9_distance 8 = .ok (.isub, 1) := by decide +kernel
theorem dX9_distance_9 : decode cX9_distance 9 = .ok (.invokestatic 51, 3) := by decide +kernel
theorem dX9_distance_12 : decode cX9_distance 12 = .ok (.iadd, 1) := by decide +kernel
theorem dX9_distance_13 : decode cX9_distance 13 = .ok (.ireturn, 1) := by decide +kernel
