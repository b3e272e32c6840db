theorem dX12_gap_14 : decode cX12_gap 14 = .ok (.ireturn, 1) := by decide +kernel
theorem dX12_xOf_0 : decode cX12_xOf 0 = .ok (.iload_n 1, 1) := by decide +kernel
theorem dX12_xOf_1 : decode cX12_xOf 1 = .ok (.ifCond .ge 8, 3) := by decide +kernel
theorem dX12_xOf_4 : decode cX12_xOf 4 = .ok (.bipush 50, 2) := by decide +kernel
theorem dX12_xOf_6 : decode cX12_xOf 6 = .ok (.goto 20, 3) := by decide +kernel
theorem dX12_xOf_9 : decode cX12_xOf 9 = .ok (.aload_n 0, 1) := by decide +kernel
theorem dX12_xOf_10 : decode cX12_xOf 10 = .ok (.getfield 13, 3) := by decide +kernel
theorem dX12_xOf_13 : decode cX12_xOf 13 = .ok (.sipush 2440, 3) := by decide +kernel
theorem dX12_xOf_16 : decode cX12_xOf 16 = .ok (.iconst 2, 1) := by decide +kernel
theorem dX12_xOf_17 : decode cX12_xOf 17 = .ok (.aload_n 0, 1) := by decide +kernel
theorem dX12_xOf_18 : decode cX12_xOf 18 = .ok (.getfield 102, 3) := by decide +kernel
theorem dX12_xOf_21 : decode cX12_xOf 21 = .ok (.iload_n 1, 1) := by decide +kernel
theorem dX12_xOf_22 : decode cX12_xOf 22 = .ok (.iaload, 1) := by decide +kernel
theorem dX12_xOf_23 : decode cX12_xOf 23 = .ok (.imul, 1) := by decide +kernel
theorem dX12_xOf_24 : decode cX12_xOf 24 = .ok (.iadd, 1) := by decide +kernel
theorem dX12_xOf_25 : decode cX12_xOf 25 = .ok (.iaload, 1) := by decide +kernel
theorem dX12_xOf_26 : decode cX12_xOf 26 = .ok (.ireturn, 1) := by decide +kernel
theorem dX12_yOf_0 : decode cX12_yOf 0 = .ok (.iload_n 1, 1) := by decide +kernel
theorem dX12_yOf_1 : decode cX12_yOf 1 = .ok (.ifCond .ge 8, 3) := by decide +kernel
theorem dX12_yOf_4 : decode cX12_yOf 4 = .ok (.bipush 50, 2) := by decide +kernel
theorem dX12_yOf_6 : decode cX12_yOf 6 = .ok (.goto 22, 3) := by decide +kernel
theorem dX12_yOf_9 : decode cX12_yOf 9 = .ok (.aload_n 0, 1) := by decide +kernel
theorem dX12_yOf_10 : decode cX12_yOf 10 = .ok (.getfield 13, 3) := by decide +kernel
theorem dX12_yOf_13 : decode cX12_yOf 13 = .ok (.sipush 2440, 3) := by decide +kernel
theorem dX12_yOf_16 : decode cX12_yOf 16 = .ok (.iconst 2, 1) := by decide +kernel
theorem dX12_yOf_17 : decode cX12_yOf 17 = .ok (.aload_n 0, 1) := by decide +kernel
theorem dX12_yOf_18 : decode cX12_yOf 18 = .ok (.getfield 102, 3) := by decide +kernel
theorem dX12_yOf_21 : decode cX12_yOf 21 = .ok (.iload_n 1, 1) := by decide +kernel
theorem dX12_yOf_22 : decode cX12_yOf 22 = .ok (.iaload, 1) := by decide +kernel
theorem dX12_yOf_23 : decode cX12_yOf 23 = .ok (.imul, 1) := by decide +kernel
theorem dX12_yOf_24 : decode cX12_yOf 24 = .ok (.iadd, 1) := by decide +kernel
theorem dX12_yOf_25 : decode cX12_yOf 25 = .ok (.iconst 1, 1) := by decide +kernel
theorem dX12_yOf_26 : decode cX12_yOf 26 = .ok (.iadd, 1) := by decide +kernel
theorem dX12_yOf_27 : decode cX12_yOf 27 = .ok (.iaload, 1) := by decide +kernel
theorem dX12_yOf_28 : decode cX12_yOf 28 = .ok (.ireturn, 1) := by decide +kernel
theorem dX12_way_0 : decode cX12_way 0 = .ok (.aload_n 0, 1) := by decide +kernel
theorem dX12_way_1 : decode cX12_way 1 = .ok (.iload_n 1, 1) := by decide +kernel
theorem dX12_way_2 : decode cX12_way 2 = .ok (.invokevirtual 405, 3) := by decide +kernel
theorem dX12_way_5 : decode cX12_way 5 = .ok (.aload_n 0, 1) := by decide +kernel
theorem dX12_way_6 : decode cX12_way 6 = .ok (.iload_n 2, 1) := by decide +kernel
theorem dX12_way_7 : decode cX12_way 7 = .ok (.invokevirtual 405, 3) := by decide +kernel
theorem dX12_way_10 : decode cX12_way 10 = .ok (.invokestatic 408, 3) := by decide +kernel
theorem dX12_way_13 : decode cX12_way 13 = .ok (.aload_n 0, 1) := by decide +kernel
theorem dX12_way_14 : decode cX12_way 14 = .ok (.iload_n 1, 1) := by decide +kernel
theorem dX12_way_15 : decode cX12_way 15 = .ok (.invokevirtual 411, 3) := by decide +kernel
theorem dX12_way_18 : decode cX12_way 18 = .ok (.aload_n 0, 1) := by decide +kernel
theorem dX12_way_19 : decode cX12_way 19 = .ok (.iload_n 2, 1) := by decide +kernel
theorem dX12_way_20 : decode cX12_way 20 = .ok (.invokevirtual 411, 3) := by decide +kernel
theorem dX12_way_23 : decode cX12_way 23 = .ok (.invokestatic 408, 3) := by decide +kernel
theorem dX12_way_26 : decode cX12_way 26 = .ok (.iadd, 1) := by decide +kernel
theorem dX12_way_27 : decode cX12_way 27 = .ok (.ireturn, 1) := by decide +kernel
theorem dX12_onFrom_0 : decode cX12_onFrom 0 = .ok (.iload_n 2, 1) := by decide +kernel
theorem dX12_onFrom_1 : decode cX12_onFrom 1 = .ok (.ifCond .ne 10, 3) := by decide +kernel
theorem dX12_onFrom_4 : decode cX12_onFrom 4 = .ok (.aload_n 0, 1) := by decide +kernel
theorem dX12_onFrom_5 : decode cX12_onFrom 5 = .ok (.iload_n 1, 1) := by decide +kernel
theorem dX12_onFrom_6 : decode cX12_onFrom 6 = .ok (.iconst (-1), 1) := by decide +kernel
theorem dX12_onFrom_7 : decode cX12_onFrom 7 = .ok (.invokevirtual 414, 3) := by decide +kernel
theorem dX12_onFrom_10 : decode cX12_onFrom 10 = .ok (.ireturn, 1) := by decide +kernel
theorem dX12_onFrom_11 : decode cX12_onFrom 11 = .ok (.ldc_w 417, 3) := by decide +kernel
theorem dX12_onFrom_14 : decode cX12_onFrom 14 = .ok (.istore_n 3, 1) := by decide +kernel
theorem dX12_onFrom_15 : decode cX12_onFrom 15 = .ok (.iconst 0, 1) := by decide +kernel
theorem dX12_onFrom_16 : decode cX12_onFrom 16 = .ok (.istore 4, 2) := by decide +kernel
theorem dX12_onFrom_18 : decode cX12_onFrom 18 = .ok (.iload 4, 2) := by decide +kernel
theorem dX12_onFrom_20 : decode cX12_onFrom 20 = .ok (.aload_n 0, 1) := by decide +kernel
theorem dX12_onFrom_21 : decode cX12_onFrom 21 = .ok (.getfield 418, 3) := by decide +kernel
theorem dX12_onFrom_24 : decode cX12_onFrom 24 = .ok (.if_icmp .ge 59, 3) := by decide +kernel
theorem dX12_onFrom_27 : decode cX12_onFrom 27 = .ok (.iload_n 2, 1) := by decide +kernel
theorem dX12_onFrom_28 : decode cX12_onFrom 28 = .ok (.iload 4, 2) := by decide +kernel
theorem dX12_onFrom_30 : decode cX12_onFrom 30 = .ok (.invokestatic 225, 3) := by decide +kernel
theorem dX12_onFrom_33 : decode cX12_onFrom 33 = .ok (.ifCond .ne 6, 3) := by decide +kernel
theorem dX12_onFrom_36 : decode cX12_onFrom 36 = .ok (.goto 41, 3) := by decide +kernel
theorem dX12_onFrom_39 : decode cX12_onFrom 39 = .ok (.aload_n 0, 1) := by decide +kernel
theorem dX12_onFrom_40 : decode cX12_onFrom 40 = .ok (.iload_n 1, 1) := by decide +kernel
theorem dX12_onFrom_41 : decode cX12_onFrom 41 = .ok (.iload 4, 2) := by decide +kernel
theorem dX12_onFrom_43 : decode cX12_onFrom 43 = .ok (.invokevirtual 414, 3) := by decide +kernel
theorem dX12_onFrom_46 : decode cX12_onFrom 46 = .ok (.aload_n 0, 1) := by decide +kernel
theorem dX12_onFrom_47 : decode cX12_onFrom 47 = .ok (.getfield 99, 3) := by decide +kernel
theorem dX12_onFrom_50 : decode cX12_onFrom 50 = .ok (.bipush 9, 2) := by decide +kernel
theorem dX12_onFrom_52 : decode cX12_onFrom 52 = .ok (.iload_n 2, 1) := by decide +kernel
theorem dX12_onFrom_53 : decode cX12_onFrom 53 = .ok (.iconst 1, 1) := by decide +kernel
theorem dX12_onFrom_54 : decode cX12_onFrom 54 = .ok (.iload 4, 2) := by decide +kernel
theorem dX12_onFrom_56 : decode cX12_onFrom 56 = .ok (.ishl, 1) := by decide +kernel
theorem dX12_onFrom_57 : decode cX12_onFrom 57 = .ok (.iconst (-1), 1) := by decide +kernel
theorem dX12_onFrom_58 : decode cX12_onFrom 58 = .ok (.ixor, 1) := by decide +kernel
theorem dX12_onFrom_59 : decode cX12_onFrom 59 = .ok (.iand, 1) := by decide +kernel
theorem dX12_onFrom_60 : decode cX12_onFrom 60 = .ok (.imul, 1) := by decide +kernel
theorem dX12_onFrom_61 : decode cX12_onFrom 61 = .ok (.iload 4, 2) := by decide +kernel
theorem dX12_onFrom_63 : decode cX12_onFrom 63 = .ok (.iadd, 1) := by decide +kernel
theorem dX12_onFrom_64 : decode cX12_onFrom 64 = .ok (.iaload, 1) := by decide +kernel
theorem dX12_onFrom_65 : decode cX12_onFrom 65 = .ok (.iadd, 1) := by decide +kernel
theorem dX12_onFrom_66 : decode cX12_onFrom 66 = .ok (.istore 5, 2) := by decide +kernel
theorem dX12_onFrom_68 : decode cX12_onFrom 68 = .ok (.iload 5, 2) := by decide +kernel
theorem dX12_onFrom_70 : decode cX12_onFrom 70 = .ok (.iload_n 3, 1) := by decide +kernel
theorem dX12_onFrom_71 : decode cX12_onFrom 71 = .ok (.if_icmp .ge 6, 3) := by decide +kernel
theorem dX12_onFrom_74 : decode cX12_onFrom 74 = .ok (.iload 5, 2) := by decide +kernel
theorem dX12_onFrom_76 : decode cX12_onFrom 76 = .ok (.istore_n 3, 1) := by decide +kernel
theorem dX12_onFrom_77 : decode cX12_onFrom 77 = .ok (.iinc 4 1, 3) := by decide +kernel
theorem dX12_onFrom_80 : decode cX12_onFrom 80 = .ok (.goto (-62), 3) := by decide +kernel
theorem dX12_onFrom_83 : decode cX12_onFrom 83 = .ok (.iload_n 3, 1) := by decide +kernel
theorem dX12_onFrom_84 : decode cX12_onFrom 84 = .ok (.ireturn, 1) := by decide +kernel
theorem dX12_round_0 : decode cX12_round 0 = .ok (.aload_n 0, 1) := by decide +kernel
theorem dX12_round_1 : decode cX12_round 1 = .ok (.iconst 0, 1) := by decide +kernel
theorem dX12_round_2 : decode cX12_round 2 = .ok (.putfield 111, 3) := by decide +kernel
theorem dX12_round_5 : decode cX12_round 5 = .ok (.aload_n 0, 1) := by decide +kernel
theorem dX12_round_6 : decode cX12_round 6 = .ok (.invokevirtual 259, 3) := by decide +kernel
theorem dX12_round_9 : decode cX12_round 9 = .ok (.aload_n 0, 1) := by decide +kernel
theorem dX12_round_10 : decode cX12_round 10 = .ok (.invokevirtual 184, 3) := by decide +kernel
theorem dX12_round_13 : decode cX12_round 13 = .ok (.istore_n 1, 1) := by decide +kernel
theorem dX12_round_14 : decode cX12_round 14 = .ok (.iload_n 1, 1) := by decide +kernel
theorem dX12_round_15 : decode cX12_round 15 = .ok (.iconst 1, 1) := by decide +kernel
theorem dX12_round_16 : decode cX12_round 16 = .ok (.bipush 9, 2) := by decide +kernel
theorem dX12_round_18 : decode cX12_round 18 = .ok (.invokestatic 171, 3) := by decide +kernel
theorem dX12_round_21 : decode cX12_round 21 = .ok (.ifCond .ne 5, 3) := by decide +kernel
theorem dX12_round_24 : decode cX12_round 24 = .ok (.iconst (-1), 1) := by decide +kernel
theorem dX12_round_25 : decode cX12_round 25 = .ok (.ireturn, 1) := by decide +kernel
theorem dX12_round_26 : decode cX12_round 26 = .ok (.lconst 0, 1) := by decide +kernel
theorem dX12_round_27 : decode cX12_round 27 = .ok (.lstore_n 2, 1) := by decide +kernel
theorem dX12_round_28 : decode cX12_round 28 = .ok (.iconst 0, 1) := by decide +kernel
theorem dX12_round_29 : decode cX12_round 29 = .ok (.istore 4, 2) := by decide +kernel
theorem dX12_round_31 : decode cX12_round 31 = .ok (.iload 4, 2) := by decide +kernel
theorem dX12_round_33 : decode cX12_round 33 = .ok (.iload_n 1, 1) := by decide +kernel
theorem dX12_round_34 : decode cX12_round 34 = .ok (.if_icmp .ge 51, 3) := by decide +kernel
theorem dX12_round_37 : decode cX12_round 37 = .ok (.aload_n 0, 1) := by decide +kernel
theorem dX12_round_38 : decode cX12_round 38 = .ok (.getfield 7, 3) := by decide +kernel
theorem dX12_round_41 : decode cX12_round 41 = .ok (.iload 4, 2) := by decide +kernel
theorem dX12_round_43 : decode cX12_round 43 = .ok (.iaload, 1) := by decide +kernel
theorem dX12_round_44 : decode cX12_round 44 = .ok (.bipush 40, 2) := by decide +kernel
theorem dX12_round_46 : decode cX12_round 46 = .ok (.if_icmp .ge 19, 3) := by decide +kernel
theorem dX12_round_49 : decode cX12_round 49 = .ok (.lload_n 2, 1) := by decide +kernel
theorem dX12_round_50 : decode cX12_round 50 = .ok (.aload_n 0, 1) := by decide +kernel
theorem dX12_round_51 : decode cX12_round 51 = .ok (.getfield 7, 3) := by decide +kernel
theorem dX12_round_54 : decode cX12_round 54 = .ok (.iload 4, 2) := by decide +kernel
theorem dX12_round_56 : decode cX12_round 56 = .ok (.iaload, 1) := by decide +kernel
theorem dX12_round_57 : decode cX12_round 57 = .ok (.lshr, 1) := by decide +kernel
theorem dX12_round_58 : decode cX12_round 58 = .ok (.lconst 1, 1) := by decide +kernel
theorem dX12_round_59 : decode cX12_round 59 = .ok (.land, 1) := by decide +kernel
theorem dX12_round_60 : decode cX12_round 60 = .ok (.lconst 1, 1) := by decide +kernel
theorem dX12_round_61 : decode cX12_round 61 = .ok (.lcmp, 1) := by decide +kernel
theorem dX12_round_62 : decode cX12_round 62 = .ok (.ifCond .ne 5, 3) := by decide +kernel
theorem dX12_round_65 : decode cX12_round 65 = .ok (.iconst (-1), 1) := by decide +kernel
theorem dX12_round_66 : decode cX12_round 66 = .ok (.ireturn, 1) := by decide +kernel
theorem dX12_round_67 : decode cX12_round 67 = .ok (.lload_n 2, 1) := by decide +kernel
theorem dX12_round_68 : decode cX12_round 68 = .ok (.lconst 1, 1) := by decide +kernel
theorem dX12_round_69 : decode cX12_round 69 = .ok (.aload_n 0, 1) := by decide +kernel
theorem dX12_round_70 : decode cX12_round 70 = .ok (.getfield 7, 3) := by decide +kernel
theorem dX12_round_73 : decode cX12_round 73 = .ok (.iload 4, 2) := by decide +kernel
theorem dX12_round_75 : decode cX12_round 75 = .ok (.iaload, 1) := by decide +kernel
theorem dX12_round_76 : decode cX12_round 76 = .ok (.lshl, 1) := by decide +kernel
theorem dX12_round_77 : decode cX12_round 77 = .ok (.lor, 1) := by decide +kernel
theorem dX12_round_78 : decode cX12_round 78 = .ok (.lstore_n 2, 1) := by decide +kernel
theorem dX12_round_79 : decode cX12_round 79 = .ok (.iinc 4 1, 3) := by decide +kernel
theorem dX12_round_82 : decode cX12_round 82 = .ok (.goto (-51), 3) := by decide +kernel
theorem dX12_round_85 : decode cX12_round 85 = .ok (.aload_n 0, 1) := by decide +kernel
theorem dX12_round_86 : decode cX12_round 86 = .ok (.iload_n 1, 1) := by decide +kernel
theorem dX12_round_87 : decode cX12_round 87 = .ok (.putfield 418, 3) := by decide +kernel
theorem dX12_round_90 : decode cX12_round 90 = .ok (.iconst 0, 1) := by decide +kernel
theorem dX12_round_91 : decode cX12_round 91 = .ok (.istore 4, 2) := by decide +kernel
theorem dX12_round_93 : decode cX12_round 93 = .ok (.iload 4, 2) := by decide +kernel
theorem dX12_round_95 : decode cX12_round 95 = .ok (.iload_n 1, 1) := by decide +kernel
theorem dX12_round_96 : decode cX12_round 96 = .ok (.if_icmp .ge 23, 3) := by decide +kernel
theorem dX12_round_99 : decode cX12_round 99 = .ok (.aload_n 0, 1) := by decide +kernel
theorem dX12_round_100 : decode cX12_round 100 = .ok (.getfield 102, 3) := by decide +kernel
theorem dX12_round_103 : decode cX12_round 103 = .ok (.iload 4, 2) := by decide +kernel
theorem dX12_round_105 : decode cX12_round 105 = .ok (.aload_n 0, 1) := by decide +kernel
theorem dX12_round_106 : decode cX12_round 106 = .ok (.getfield 7, 3) := by decide +kernel
theorem dX12_round_109 : decode cX12_round 109 = .ok (.iload 4, 2) := by decide +kernel
theorem dX12_round_111 : decode cX12_round 111 = .ok (.iaload, 1) := by decide +kernel
theorem dX12_round_112 : decode cX12_round 112 = .ok (.iastore, 1) := by decide +kernel
theorem dX12_round_113 : decode cX12_round 113 = .ok (.iinc 4 1, 3) := by decide +kernel
theorem dX12_round_116 : decode cX12_round 116 = .ok (.goto (-23), 3) := by decide +kernel
theorem dX12_round_119 : decode cX12_round 119 = .ok (.iconst 1, 1) := by decide +kernel
theorem dX12_round_120 : decode cX12_round 120 = .ok (.iload_n 1, 1) := by decide +kernel
theorem dX12_round_121 : decode cX12_round 121 = .ok (.ishl, 1) := by decide +kernel
theorem dX12_round_122 : decode cX12_round 122 = .ok (.iconst 1, 1) := by decide +kernel
theorem dX12_round_123 : decode cX12_round 123 = .ok (.isub, 1) := by decide +kernel
theorem dX12_round_124 : decode cX12_round 124 = .ok (.istore 4, 2) := by decide +kernel
theorem dX12_round_126 : decode cX12_round 126 = .ok (.iconst 0, 1) := by decide +kernel
theorem dX12_round_127 : decode cX12_round 127 = .ok (.istore 5, 2) := by decide +kernel
theorem dX12_round_129 : decode cX12_round 129 = .ok (.iload 5, 2) := by decide +kernel
theorem dX12_round_131 : decode cX12_round 131 = .ok (.iload 4, 2) := by decide +kernel
theorem dX12_round_133 : decode cX12_round 133 = .ok (.if_icmp .gt 61, 3) := by decide +kernel
theorem dX12_round_136 : decode cX12_round 136 = .ok (.iconst 0, 1) := by decide +kernel
theorem dX12_round_137 : decode cX12_round 137 = .ok (.istore 6, 2) := by decide +kernel
theorem dX12_round_139 : decode cX12_round 139 = .ok (.iload 6, 2) := by decide +kernel
theorem dX12_round_141 : decode cX12_round 141 = .ok (.iload_n 1, 1) := by decide +kernel
theorem dX12_round_142 : decode cX12_round 142 = .ok (.if_icmp .ge 46, 3) := by decide +kernel
theorem dX12_round_145 : decode cX12_round 145 = .ok (.aload_n 0, 1) := by decide +kernel
theorem dX12_round_146 : decode cX12_round 146 = .ok (.getfield 99, 3) := by decide +kernel
theorem dX12_round_149 : decode cX12_round 149 = .ok (.bipush 9, 2) := by decide +kernel
theorem dX12_round_151 : decode cX12_round 151 = .ok (.iload 5, 2) := by decide +kernel
theorem dX12_round_153 : decode cX12_round 153 = .ok (.imul, 1) := by decide +kernel
theorem dX12_round_154 : decode cX12_round 154 = .ok (.iload 6, 2) := by decide +kernel
theorem dX12_round_156 : decode cX12_round 156 = .ok (.iadd, 1) := by decide +kernel
theorem dX12_round_157 : decode cX12_round 157 = .ok (.iload 5, 2) := by decide +kernel
theorem dX12_round_159 : decode cX12_round 159 = .ok (.iload 6, 2) := by decide +kernel
theorem dX12_round_161 : decode cX12_round 161 = .ok (.invokestatic 225, 3) := by decide +kernel
theorem dX12_round_164 : decode cX12_round 164 = .ok (.ifCond .eq 9, 3) := by decide +kernel
theorem dX12_round_167 : decode cX12_round 167 = .ok (.ldc_w 417, 3) := by decide +kernel
theorem dX12_round_170 : decode cX12_round 170 = .ok (.goto 11, 3) := by decide +kernel
theorem dX12_round_173 : decode cX12_round 173 = .ok (.aload_n 0, 1) := by decide +kernel
theorem dX12_round_174 : decode cX12_round 174 = .ok (.iload 6, 2) := by decide +kernel
theorem dX12_round_176 : decode cX12_round 176 = .ok (.iload 5, 2) := by decide +kernel
theorem dX12_round_178 : decode cX12_round 178 = .ok (.invokevirtual 421, 3) := by decide +kernel
theorem dX12_round_181 : decode cX12_round 181 = .ok (.iastore, 1) := by decide +kernel
theorem dX12_round_182 : decode cX12_round 182 = .ok (.iinc 6 1, 3) := by decide +kernel
theorem dX12_round_185 : decode cX12_round 185 = .ok (.goto (-46), 3) := by decide +kernel
theorem dX12_round_188 : decode cX12_round 188 = .ok (.iinc 5 1, 3) := by decide +kernel
theorem dX12_round_191 : decode cX12_round 191 = .ok (.goto (-62), 3) := by decide +kernel
theorem dX12_round_194 : decode cX12_round 194 = .ok (.aload_n 0, 1) := by decide +kernel
theorem dX12_round_195 : decode cX12_round 195 = .ok (.iconst (-1), 1) := by decide +kernel
theorem dX12_round_196 : decode cX12_round 196 = .ok (.iload 4, 2) := by decide +kernel
theorem dX12_round_198 : decode cX12_round 198 = .ok (.invokevirtual 421, 3) := by decide +kernel
theorem dX12_round_201 : decode cX12_round 201 = .ok (.istore 5, 2) := by decide +kernel
theorem dX12_round_203 : decode cX12_round 203 = .ok (.iconst (-1), 1) := by decide +kernel
theorem dX12_round_204 : decode cX12_round 204 = .ok (.istore 6, 2) := by decide +kernel
theorem dX12_round_206 : decode cX12_round 206 = .ok (.iload 4, 2) := by decide +kernel
theorem dX12_round_208 : decode cX12_round 208 = .ok (.istore 7, 2) := by decide +kernel
theorem dX12_round_210 : decode cX12_round 210 = .ok (.iconst 0, 1) := by decide +kernel
theorem dX12_round_211 : decode cX12_round 211 = .ok (.istore 8, 2) := by decide +kernel
theorem dX12_round_213 : decode cX12_round 213 = .ok (.iload 8, 2) := by decide +kernel
theorem dX12_round_215 : decode cX12_round 215 = .ok (.iload_n 1, 1) := by decide +kernel
theorem dX12_round_216 : decode cX12_round 216 = .ok (.if_icmp .ge 97, 3) := by decide +kernel
theorem dX12_round_219 : decode cX12_round 219 = .ok (.iconst 0, 1) := by decide +kernel
theorem dX12_round_220 : decode cX12_round 220 = .ok (.istore 9, 2) := by decide +kernel
theorem dX12_round_222 : decode cX12_round 222 = .ok (.iload 7, 2) := by decide +kernel
theorem dX12_round_224 : decode cX12_round 224 = .ok (.iload 9, 2) := by decide +kernel
theorem dX12_round_226 : decode cX12_round 226 = .ok (.invokestatic 225, 3) := by decide +kernel
theorem dX12_round_229 : decode cX12_round 229 = .ok (.ifCond .eq 43, 3) := by decide +kernel
theorem dX12_round_232 : decode cX12_round 232 = .ok (.aload_n 0, 1) := by decide +kernel
theorem dX12_round_233 : decode cX12_round 233 = .ok (.iload 6, 2) := by decide +kernel
theorem dX12_round_235 : decode cX12_round 235 = .ok (.iload 9, 2) := by decide +kernel
theorem dX12_round_237 : decode cX12_round 237 = .ok (.invokevirtual 414, 3) := by decide +kernel
theorem dX12_round_240 : decode cX12_round 240 = .ok (.aload_n 0, 1) := by decide +kernel
theorem dX12_round_241 : decode cX12_round 241 = .ok (.getfield 99, 3) := by decide +kernel
theorem dX12_round_244 : decode cX12_round 244 = .ok (.bipush 9, 2) := by decide +kernel
theorem dX12_round_246 : decode cX12_round 246 = .ok (.iload 7, 2) := by decide +kernel
theorem dX12_round_248 : decode cX12_round 248 = .ok (.iconst 1, 1) := by decide +kernel
theorem dX12_round_249 : decode cX12_round 249 = .ok (.iload 9, 2) := by decide +kernel
theorem dX12_round_251 : decode cX12_round 251 = .ok (.ishl, 1) := by decide +kernel
theorem dX12_round_252 : decode cX12_round 252 = .ok (.iconst (-1), 1) := by decide +kernel
theorem dX12_round_253 : decode cX12_round 253 = .ok (.ixor, 1) := by decide +kernel
theorem dX12_round_254 : decode cX12_round 254 = .ok (.iand, 1) := by decide +kernel
theorem dX12_round_255 : decode cX12_round 255 = .ok (.imul, 1) := by decide +kernel
theorem dX12_round_256 : decode cX12_round 256 = .ok (.iload 9, 2) := by decide +kernel
theorem dX12_round_258 : decode cX12_round 258 = .ok (.iadd, 1) := by decide +kernel
theorem dX12_round_259 : decode cX12_round 259 = .ok (.iaload, 1) := by decide +kernel
theorem dX12_round_260 : decode cX12_round 260 = .ok (.iadd, 1) := by decide +kernel
theorem dX12_round_261 : decode cX12_round 261 = .ok (.aload_n 0, 1) := by decide +kernel
theorem dX12_round_262 : decode cX12_round 262 = .ok (.iload 6, 2) := by decide +kernel
theorem dX12_round_264 : decode cX12_round 264 = .ok (.iload 7, 2) := by decide +kernel
theorem dX12_round_266 : decode cX12_round 266 = .ok (.invokevirtual 421, 3) := by decide +kernel
theorem dX12_round_269 : decode cX12_round 269 = .ok (.if_icmp .eq 9, 3) := by decide +kernel
theorem dX12_round_272 : decode cX12_round 272 = .ok (.iinc 9 1, 3) := by decide +kernel
theorem dX12_round_275 : decode cX12_round 275 = .ok (.goto (-53), 3) := by decide +kernel
theorem dX12_round_278 : decode cX12_round 278 = .ok (.aload_n 0, 1) := by decide +kernel
theorem dX12_round_279 : decode cX12_round 279 = .ok (.getfield 105, 3) := by decide +kernel
theorem dX12_round_282 : decode cX12_round 282 = .ok (.iload 8, 2) := by decide +kernel
theorem dX12_round_284 : decode cX12_round 284 = .ok (.aload_n 0, 1) := by decide +kernel
theorem dX12_round_285 : decode cX12_round 285 = .ok (.getfield 102, 3) := by decide +kernel
theorem dX12_round_288 : decode cX12_round 288 = .ok (.iload 9, 2) := by decide +kernel
theorem dX12_round_290 : decode cX12_round 290 = .ok (.iaload, 1) := by decide +kernel
theorem dX12_round_291 : decode cX12_round 291 = .ok (.iastore, 1) := by decide +kernel
theorem dX12_round_292 : decode cX12_round 292 = .ok (.iload 7, 2) := by decide +kernel
theorem dX12_round_294 : decode cX12_round 294 = .ok (.iconst 1, 1) := by decide +kernel
theorem dX12_round_295 : decode cX12_round 295 = .ok (.iload 9, 2) := by decide +kernel
theorem dX12_round_297 : decode cX12_round 297 = .ok (.ishl, 1) := by decide +kernel
theorem dX12_round_298 : decode cX12_round 298 = .ok (.iconst (-1), 1) := by decide +kernel
theorem dX12_round_299 : decode cX12_round 299 = .ok (.ixor, 1) := by decide +kernel
theorem dX12_round_300 : decode cX12_round 300 = .ok (.iand, 1) := by decide +kernel
theorem dX12_round_301 : decode cX12_round 301 = .ok (.istore 7, 2) := by decide +kernel
theorem dX12_round_303 : decode cX12_round 303 = .ok (.iload 9, 2) := by decide +kernel
theorem dX12_round_305 : decode cX12_round 305 = .ok (.istore 6, 2) := by decide +kernel
theorem dX12_round_307 : decode cX12_round 307 = .ok (.iinc 8 1, 3) := by decide +kernel
theorem dX12_round_310 : decode cX12_round 310 = .ok (.goto (-97), 3) := by decide +kernel
theorem dX12_round_313 : decode cX12_round 313 = .ok (.aload_n 0, 1) := by decide +kernel
theorem dX12_round_314 : decode cX12_round 314 = .ok (.iload_n 1, 1) := by decide +kernel
theorem dX12_round_315 : decode cX12_round 315 = .ok (.putfield 424, 3) := by decide +kernel
theorem dX12_round_318 : decode cX12_round 318 = .ok (.iload 5, 2) := by decide +kernel
theorem dX12_round_320 : decode cX12_round 320 = .ok (.ireturn, 1) := by decide +kernel
theorem dX12_roundAt_0 : decode cX12_roundAt 0 = .ok (.aload_n 0, 1) := by decide +kernel
theorem dX12_roundAt_1 : decode cX12_roundAt 1 = .ok (.iconst 0, 1) := by decide +kernel
theorem dX12_roundAt_2 : decode cX12_roundAt 2 = .ok (.putfield 111, 3) := by decide +kernel
theorem dX12_roundAt_5 : decode cX12_roundAt 5 = .ok (.iload_n 1, 1) := by decide +kernel
theorem dX12_roundAt_6 : decode cX12_roundAt 6 = .ok (.ifCond .lt 20, 3) := by decide +kernel
theorem dX12_roundAt_9 : decode cX12_roundAt 9 = .ok (.iload_n 1, 1) := by decide +kernel
theorem dX12_roundAt_10 : decode cX12_roundAt 10 = .ok (.aload_n 0, 1) := by decide +kernel
theorem dX12_roundAt_11 : decode cX12_roundAt 11 = .ok (.getfield 424, 3) := by decide +kernel
theorem dX12_roundAt_14 : decode cX12_roundAt 14 = .ok (.if_icmp .ge 12, 3) := by decide +kernel
theorem dX12_roundAt_17 : decode cX12_roundAt 17 = .ok (.aload_n 0, 1) := by decide +kernel
theorem dX12_roundAt_18 : decode cX12_roundAt 18 = .ok (.getfield 105, 3) := by decide +kernel
theorem dX12_roundAt_21 : decode cX12_roundAt 21 = .ok (.iload_n 1, 1) := by decide +kernel
theorem dX12_roundAt_22 : decode cX12_roundAt 22 = .ok (.iaload, 1) := by decide +kernel
theorem dX12_roundAt_23 : decode cX12_roundAt 23 = .ok (.goto 4, 3) := by decide +kernel
theorem dX12_roundAt_26 : decode cX12_roundAt 26 = .ok (.iconst (-1), 1) := by decide +kernel
theorem dX12_roundAt_27 : decode cX12_roundAt 27 = .ok (.ireturn, 1) := by decide +kernel
theorem dX12_unfetched_0 : decode cX12_unfetched 0 = .ok (.aload_n 0, 1) := by decide +kernel
theorem dX12_unfetched_1 : decode cX12_unfetched 1 = .ok (.iconst 0, 1) := by decide +kernel
theorem dX12_unfetched_2 : decode cX12_unfetched 2 = .ok (.putfield 111, 3) := by decide +kernel
theorem dX12_unfetched_5 : decode cX12_unfetched 5 = .ok (.aload_n 0, 1) := by decide +kernel
theorem dX12_unfetched_6 : decode cX12_unfetched 6 = .ok (.invokevirtual 259, 3) := by decide +kernel
theorem dX12_unfetched_9 : decode cX12_unfetched 9 = .ok (.iload_n 1, 1) := by decide +kernel
theorem dX12_unfetched_10 : decode cX12_unfetched 10 = .ok (.iconst 0, 1) := by decide +kernel
theorem dX12_unfetched_11 : decode cX12_unfetched 11 = .ok (.sipush 199, 3) := by decide +kernel
theorem dX12_unfetched_14 : decode cX12_unfetched 14 = .ok (.invokestatic 171, 3) := by decide +kernel
theorem dX12_unfetched_17 : decode cX12_unfetched 17 = .ok (.ifCond .eq 12, 3) := by decide +kernel
theorem dX12_unfetched_20 : decode cX12_unfetched 20 = .ok (.iload_n 2, 1) := by decide +kernel
theorem dX12_unfetched_21 : decode cX12_unfetched 21 = .ok (.iconst 0, 1) := by decide +kernel
theorem dX12_unfetched_22 : decode cX12_unfetched 22 = .ok (.iconst 2, 1) := by decide +kernel
theorem dX12_unfetched_23 : decode cX12_unfetched 23 = .ok (.invokestatic 171, 3) := by decide +kernel
theorem dX12_unfetched_26 : decode cX12_unfetched 26 = .ok (.ifCond .ne 5, 3) := by decide +kernel
theorem dX12_unfetched_29 : decode cX12_unfetched 29 = .ok (.iconst (-1), 1) := by decide +kernel
theorem dX12_unfetched_30 : decode cX12_unfetched 30 = .ok (.ireturn, 1) := by decide +kernel
theorem dX12_unfetched_31 : decode cX12_unfetched 31 = .ok (.iconst 0, 1) := by decide +kernel
theorem dX12_unfetched_32 : decode cX12_unfetched 32 = .ok (.istore_n 3, 1) := by decide +kernel
theorem dX12_unfetched_33 : decode cX12_unfetched 33 = .ok (.iconst 0, 1) := by decide +kernel
theorem dX12_unfetched_34 : decode cX12_unfetched 34 = .ok (.istore 4, 2) := by decide +kernel
theorem dX12_unfetched_36 : decode cX12_unfetched 36 = .ok (.iconst (-1), 1) := by decide +kernel
theorem dX12_unfetched_37 : decode cX12_unfetched 37 = .ok (.istore 5, 2) := by decide +kernel
theorem dX12_unfetched_39 : decode cX12_unfetched 39 = .ok (.iconst 0, 1) := by decide +kernel
theorem dX12_unfetched_40 : decode cX12_unfetched 40 = .ok (.istore 6, 2) := by decide +kernel
theorem dX12_unfetched_42 : decode cX12_unfetched 42 = .ok (.iload 6, 2) := by decide +kernel
theorem dX12_unfetched_44 : decode cX12_unfetched 44 = .ok (.aload_n 0, 1) := by decide +kernel
theorem dX12_unfetched_45 : decode cX12_unfetched 45 = .ok (.invokevirtual 268, 3) := by decide +kernel
theorem dX12_unfetched_48 : decode cX12_unfetched 48 = .ok (.if_icmp .ge 82, 3) := by decide +kernel
theorem dX12_unfetched_51 : decode cX12_unfetched 51 = .ok (.aload_n 0, 1) := by decide +kernel
theorem dX12_unfetched_52 : decode cX12_unfetched 52 = .ok (.iload 6, 2) := by decide +kernel
theorem dX12_unfetched_54 : decode cX12_unfetched 54 = .ok (.bipush 6, 2) := by decide +kernel
theorem dX12_unfetched_56 : decode cX12_unfetched 56 = .ok (.invokevirtual 284, 3) := by decide +kernel
theorem dX12_unfetched_59 : decode cX12_unfetched 59 = .ok (.iload_n 1, 1) := by decide +kernel
theorem dX12_unfetched_60 : decode cX12_unfetched 60 = .ok (.if_icmp .gt 64, 3) := by decide +kernel
theorem dX12_unfetched_63 : decode cX12_unfetched 63 = .ok (.aload_n 0, 1) := by decide +kernel
theorem dX12_unfetched_64 : decode cX12_unfetched 64 = .ok (.iload 6, 2) := by decide +kernel
theorem dX12_unfetched_66 : decode cX12_unfetched 66 = .ok (.bipush 7, 2) := by decide +kernel
theorem dX12_unfetched_68 : decode cX12_unfetched 68 = .ok (.invokevirtual 284, 3) := by decide +kernel
theorem dX12_unfetched_71 : decode cX12_unfetched 71 = .ok (.aload_n 0, 1) := by decide +kernel
theorem dX12_unfetched_72 : decode cX12_unfetched 72 = .ok (.getfield 13, 3) := by decide +kernel
theorem dX12_unfetched_75 : decode cX12_unfetched 75 = .ok (.iconst 5, 1) := by decide +kernel
theorem dX12_unfetched_76 : decode cX12_unfetched 76 = .ok (.iaload, 1) := by decide +kernel
theorem dX12_unfetched_77 : decode cX12_unfetched 77 = .ok (.iadd, 1) := by decide +kernel
theorem dX12_unfetched_78 : decode cX12_unfetched 78 = .ok (.iload_n 1, 1) := by decide +kernel
theorem dX12_unfetched_79 : decode cX12_unfetched 79 = .ok (.if_icmp .gt 45, 3) := by decide +kernel
theorem dX12_unfetched_82 : decode cX12_unfetched 82 = .ok (.aload_n 0, 1) := by decide +kernel
theorem dX12_unfetched_83 : decode cX12_unfetched 83 = .ok (.iload 6, 2) := by decide +kernel
theorem dX12_unfetched_85 : decode cX12_unfetched 85 = .ok (.iload_n 1, 1) := by decide +kernel
theorem dX12_unfetched_86 : decode cX12_unfetched 86 = .ok (.aload_n 0, 1) := by decide +kernel
theorem dX12_unfetched_87 : decode cX12_unfetched 87 = .ok (.invokevirtual 271, 3) := by decide +kernel
theorem dX12_unfetched_90 : decode cX12_unfetched 90 = .ok (.invokevirtual 287, 3) := by decide +kernel
theorem dX12_unfetched_93 : decode cX12_unfetched 93 = .ok (.iconst 2, 1) := by decide +kernel
theorem dX12_unfetched_94 : decode cX12_unfetched 94 = .ok (.if_icmp .eq 6, 3) := by decide +kernel
theorem dX12_unfetched_97 : decode cX12_unfetched 97 = .ok (.goto 27, 3) := by decide +kernel
theorem dX12_unfetched_100 : decode cX12_unfetched 100 = .ok (.iload_n 3, 1) := by decide +kernel
theorem dX12_unfetched_101 : decode cX12_unfetched 101 = .ok (.ifCond .ne 7, 3) := by decide +kernel
theorem dX12_unfetched_104 : decode cX12_unfetched 104 = .ok (.iload 6, 2) := by decide +kernel
theorem dX12_unfetched_106 : decode cX12_unfetched 106 = .ok (.istore 5, 2) := by decide +kernel
theorem dX12_unfetched_108 : decode cX12_unfetched 108 = .ok (.iinc 3 1, 3) := by decide +kernel
theorem dX12_unfetched_111 : decode cX12_unfetched 111 = .ok (.iload 4, 2) := by decide +kernel
theorem dX12_unfetched_113 : decode cX12_unfetched 113 = .ok (.aload_n 0, 1) := by decide +kernel
theorem dX12_unfetched_114 : decode cX12_unfetched 114 = .ok (.iload 6, 2) := by decide +kernel
theorem dX12_unfetched_116 : decode cX12_unfetched 116 = .ok (.bipush 8, 2) := by decide +kernel
theorem dX12_unfetched_118 : decode cX12_unfetched 118 = .ok (.invokevirtual 284, 3) := by decide +kernel
theorem dX12_unfetched_121 : decode cX12_unfetched 121 = .ok (.iadd, 1) := by decide +kernel
theorem dX12_unfetched_122 : decode cX12_unfetched 122 = .ok (.istore 4, 2) := by decide +kernel
theorem dX12_unfetched_124 : decode cX12_unfetched 124 = .ok (.iinc 6 1, 3) := by decide +kernel
theorem dX12_unfetched_127 : decode cX12_unfetched 127 = .ok (.goto (-85), 3) := by decide +kernel
theorem dX12_unfetched_130 : decode cX12_unfetched 130 = .ok (.iload_n 2, 1) := by decide +kernel
theorem dX12_unfetched_131 : decode cX12_unfetched 131 = .ok (.ifCond .ne 7, 3) := by decide +kernel
theorem dX12_unfetched_134 : decode cX12_unfetched 134 = .ok (.iload_n 3, 1) := by decide +kernel
theorem dX12_unfetched_135 : decode cX12_unfetched 135 = .ok (.goto 15, 3) := by decide +kernel
theorem dX12_unfetched_138 : decode cX12_unfetched 138 = .ok (.iload_n 2, 1) := by decide +kernel
theorem dX12_unfetched_139 : decode cX12_unfetched 139 = .ok (.iconst 1, 1) := by decide +kernel
theorem dX12_unfetched_140 : decode cX12_unfetched 140 = .ok (.if_icmp .ne 8, 3) := by decide +kernel
theorem dX12_unfetched_143 : decode cX12_unfetched 143 = .ok (.iload 4, 2) := by decide +kernel
theorem dX12_unfetched_145 : decode cX12_unfetched 145 = .ok (.goto 5, 3) := by decide +kernel
theorem dX12_unfetched_148 : decode cX12_unfetched 148 = .ok (.iload 5, 2) := by decide +kernel
theorem dX12_unfetched_150 : decode cX12_unfetched 150 = .ok (.ireturn, 1) := by decide +kernel
theorem dX12_lays_0 : decode cX12_lays 0 = .ok (.iconst 4, 1) := by decide +kernel
theorem dX12_lays_1 : decode cX12_lays 1 = .ok (.aload_n 0, 1) := by decide +kernel
theorem dX12_lays_2 : decode cX12_lays 2 = .ok (.getfield 427, 3) := by decide +kernel
theorem dX12_lays_5 : decode cX12_lays 5 = .ok (.imul, 1) := by decide +kernel
theorem dX12_lays_6 : decode cX12_lays 6 = .ok (.istore 5, 2) := by decide +kernel
theorem dX12_lays_8 : decode cX12_lays 8 = .ok (.aload_n 0, 1) := by decide +kernel
theorem dX12_lays_9 : decode cX12_lays 9 = .ok (.getfield 108, 3) := by decide +kernel
theorem dX12_lays_12 : decode cX12_lays 12 = .ok (.iload 5, 2) := by decide +kernel
theorem dX12_lays_14 : decode cX12_lays 14 = .ok (.iload_n 1, 1) := by decide +kernel
theorem dX12_lays_15 : decode cX12_lays 15 = .ok (.iastore, 1) := by decide +kernel
theorem dX12_lays_16 : decode cX12_lays 16 = .ok (.aload_n 0, 1) := by decide +kernel
theorem dX12_lays_17 : decode cX12_lays 17 = .ok (.getfield 108, 3) := by decide +kernel
theorem dX12_lays_20 : decode cX12_lays 20 = .ok (.iload 5, 2) := by decide +kernel
theorem dX12_lays_22 : decode cX12_lays 22 = .ok (.iconst 1, 1) := by decide +kernel
theorem dX12_lays_23 : decode cX12_lays 23 = .ok (.iadd, 1) := by decide +kernel
theorem dX12_lays_24 : decode cX12_lays 24 = .ok (.iload_n 2, 1) := by decide +kernel
theorem dX12_lays_25 : decode cX12_lays 25 = .ok (.iastore, 1) := by decide +kernel
theorem dX12_lays_26 : decode cX12_lays 26 = .ok (.aload_n 0, 1) := by decide +kernel
theorem dX12_lays_27 : decode cX12_lays 27 = .ok (.getfield 108, 3) := by decide +kernel
theorem dX12_lays_30 : decode cX12_lays 30 = .ok (.iload 5, 2) := by decide +kernel
theorem dX12_lays_32 : decode cX12_lays 32 = .ok (.iconst 2, 1) := by decide +kernel
theorem dX12_lays_33 : decode cX12_lays 33 = .ok (.iadd, 1) := by decide +kernel
theorem dX12_lays_34 : decode cX12_lays 34 = .ok (.iload_n 3, 1) := by decide +kernel
theorem dX12_lays_35 : decode cX12_lays 35 = .ok (.iastore, 1) := by decide +kernel
theorem dX12_lays_36 : decode cX12_lays 36 = .ok (.aload_n 0, 1) := by decide +kernel
theorem dX12_lays_37 : decode cX12_lays 37 = .ok (.getfield 108, 3) := by decide +kernel
theorem dX12_lays_40 : decode cX12_lays 40 = .ok (.iload 5, 2) := by decide +kernel
theorem dX12_lays_42 : decode cX12_lays 42 = .ok (.iconst 3, 1) := by decide +kernel
theorem dX12_lays_43 : decode cX12_lays 43 = .ok (.iadd, 1) := by decide +kernel
theorem dX12_lays_44 : decode cX12_lays 44 = .ok (.iload 4, 2) := by decide +kernel
theorem dX12_lays_46 : decode cX12_lays 46 = .ok (.iastore, 1) := by decide +kernel
theorem dX12_lays_47 : decode cX12_lays 47 = .ok (.aload_n 0, 1) := by decide +kernel
theorem dX12_lays_48 : decode cX12_lays 48 = .ok (.dup, 1) := by decide +kernel
theorem dX12_lays_49 : decode cX12_lays 49 = .ok (.getfield 427, 3) := by decide +kernel
theorem dX12_lays_52 : decode cX12_lays 52 = .ok (.iconst 1, 1) := by decide +kernel
theorem dX12_lays_53 : decode cX12_lays 53 = .ok (.iadd, 1) := by decide +kernel
theorem dX12_lays_54 : decode cX12_lays 54 = .ok (.putfield 427, 3) := by decide +kernel
theorem dX12_lays_57 : decode cX12_lays 57 = .ok (.aload_n 0, 1) := by decide +kernel
theorem dX12_lays_58 : decode cX12_lays 58 = .ok (.getfield 427, 3) := by decide +kernel
theorem dX12_lays_61 : decode cX12_lays 61 = .ok (.iconst 1, 1) := by decide +kernel
theorem dX12_lays_62 : decode cX12_lays 62 = .ok (.isub, 1) := by decide +kernel
theorem dX12_lays_63 : decode cX12_lays 63 = .ok (.ireturn, 1) := by decide +kernel
theorem dX12_readOr_0 : decode cX12_readOr 0 = .ok (.aload_n 0, 1) := by decide +kernel
theorem dX12_readOr_1 : decode cX12_readOr 1 = .ok (.invokevirtual 430, 3) := by decide +kernel
theorem dX12_readOr_4 : decode cX12_readOr 4 = .ok (.ifCond .ne 5, 3) := by decide +kernel
theorem dX12_readOr_7 : decode cX12_readOr 7 = .ok (.iconst 0, 1) := by decide +kernel
theorem dX12_readOr_8 : decode cX12_readOr 8 = .ok (.ireturn, 1) := by decide +kernel
theorem dX12_readOr_9 : decode cX12_readOr 9 = .ok (.aload_n 0, 1) := by decide +kernel
theorem dX12_readOr_10 : decode cX12_readOr 10 = .ok (.getfield 433, 3) := by decide +kernel
theorem dX12_readOr_13 : decode cX12_readOr 13 = .ok (.istore_n 1, 1) := by decide +kernel
theorem dX12_readOr_14 : decode cX12_readOr 14 = .ok (.aload_n 0, 1) := by decide +kernel
theorem dX12_readOr_15 : decode cX12_readOr 15 = .ok (.bipush 10, 2) := by decide +kernel
theorem dX12_readOr_17 : decode cX12_readOr 17 = .ok (.invokevirtual 229, 3) := by decide +kernel
theorem dX12_readOr_20 : decode cX12_readOr 20 = .ok (.ifCond .eq 31, 3) := by decide +kernel
theorem dX12_readOr_23 : decode cX12_readOr 23 = .ok (.aload_n 0, 1) := by decide +kernel
theorem dX12_readOr_24 : decode cX12_readOr 24 = .ok (.invokevirtual 178, 3) := by decide +kernel
theorem dX12_readOr_27 : decode cX12_readOr 27 = .ok (.aload_n 0, 1) := by decide +kernel
theorem dX12_readOr_28 : decode cX12_readOr 28 = .ok (.invokevirtual 430, 3) := by decide +kernel
theorem dX12_readOr_31 : decode cX12_readOr 31 = .ok (.ifCond .ne 5, 3) := by decide +kernel
theorem dX12_readOr_34 : decode cX12_readOr 34 = .ok (.iconst 0, 1) := by decide +kernel
theorem dX12_readOr_35 : decode cX12_readOr 35 = .ok (.ireturn, 1) := by decide +kernel
theorem dX12_readOr_36 : decode cX12_readOr 36 = .ok (.aload_n 0, 1) := by decide +kernel
theorem dX12_readOr_37 : decode cX12_readOr 37 = .ok (.iconst 3, 1) := by decide +kernel
theorem dX12_readOr_38 : decode cX12_readOr 38 = .ok (.iload_n 1, 1) := by decide +kernel
theorem dX12_readOr_39 : decode cX12_readOr 39 = .ok (.aload_n 0, 1) := by decide +kernel
theorem dX12_readOr_40 : decode cX12_readOr 40 = .ok (.getfield 433, 3) := by decide +kernel
theorem dX12_readOr_43 : decode cX12_readOr 43 = .ok (.iconst 0, 1) := by decide +kernel
theorem dX12_readOr_44 : decode cX12_readOr 44 = .ok (.invokevirtual 436, 3) := by decide +kernel
theorem dX12_readOr_47 : decode cX12_readOr 47 = .ok (.istore_n 1, 1) := by decide +kernel
theorem dX12_readOr_48 : decode cX12_readOr 48 = .ok (.goto (-34), 3) := by decide +kernel
theorem dX12_readOr_51 : decode cX12_readOr 51 = .ok (.aload_n 0, 1) := by decide +kernel
theorem dX12_readOr_52 : decode cX12_readOr 52 = .ok (.iload_n 1, 1) := by decide +kernel
theorem dX12_readOr_53 : decode cX12_readOr 53 = .ok (.putfield 433, 3) := by decide +kernel
theorem dX12_readOr_56 : decode cX12_readOr 56 = .ok (.iconst 1, 1) := by decide +kernel
theorem dX12_readOr_57 : decode cX12_readOr 57 = .ok (.ireturn, 1) := by decide +kernel
theorem dX12_readAnd_0 : decode cX12_readAnd 0 = .ok (.aload_n 0, 1) := by decide +kernel
theorem dX12_readAnd_1 : decode cX12_readAnd 1 = .ok (.invokevirtual 440, 3) := by decide +kernel
theorem dX12_readAnd_4 : decode cX12_readAnd 4 = .ok (.ifCond .ne 5, 3) := by decide +kernel
theorem dX12_readAnd_7 : decode cX12_readAnd 7 = .ok (.iconst 0, 1) := by decide +kernel
theorem dX12_readAnd_8 : decode cX12_readAnd 8 = .ok (.ireturn, 1) := by decide +kernel
theorem dX12_readAnd_9 : decode cX12_readAnd 9 = .ok (.aload_n 0, 1) := by decide +kernel
theorem dX12_readAnd_10 : decode cX12_readAnd 10 = .ok (.getfield 433, 3) := by decide +kernel
theorem dX12_readAnd_13 : decode cX12_readAnd 13 = .ok (.istore_n 1, 1) := by decide +kernel
theorem dX12_readAnd_14 : decode cX12_readAnd 14 = .ok (.aload_n 0, 1) := by decide +kernel
theorem dX12_readAnd_15 : decode cX12_readAnd 15 = .ok (.bipush 11, 2) := by decide +kernel
theorem dX12_readAnd_17 : decode cX12_readAnd 17 = .ok (.invokevirtual 229, 3) := by decide +kernel
theorem dX12_readAnd_20 : decode cX12_readAnd 20 = .ok (.ifCond .eq 31, 3) := by decide +kernel
theorem dX12_readAnd_23 : decode cX12_readAnd 23 = .ok (.aload_n 0, 1) := by decide +kernel
theorem dX12_readAnd_24 : decode cX12_readAnd 24 = .ok (.invokevirtual 178, 3) := by decide +kernel
theorem dX12_readAnd_27 : decode cX12_readAnd 27 = .ok (.aload_n 0, 1) := by decide +kernel
theorem dX12_readAnd_28 : decode cX12_readAnd 28 = .ok (.invokevirtual 440, 3) := by decide +kernel
theorem dX12_readAnd_31 : decode cX12_readAnd 31 = .ok (.ifCond .ne 5, 3) := by decide +kernel
theorem dX12_readAnd_34 : decode cX12_readAnd 34 = .ok (.iconst 0, 1) := by decide +kernel
theorem dX12_readAnd_35 : decode cX12_readAnd 35 = .ok (.ireturn, 1) := by decide +kernel
theorem dX12_readAnd_36 : decode cX12_readAnd 36 = .ok (.aload_n 0, 1) := by decide +kernel
theorem dX12_readAnd_37 : decode cX12_readAnd 37 = .ok (.iconst 2, 1) := by decide +kernel
theorem dX12_readAnd_38 : decode cX12_readAnd 38 = .ok (.iload_n 1, 1) := by decide +kernel
theorem dX12_readAnd_39 : decode cX12_readAnd 39 = .ok (.aload_n 0, 1) := by decide +kernel
theorem dX12_readAnd_40 : decode cX12_readAnd 40 = .ok (.getfield 433, 3) := by decide +kernel
theorem dX12_readAnd_43 : decode cX12_readAnd 43 = .ok (.iconst 0, 1) := by decide +kernel
theorem dX12_readAnd_44 : decode cX12_readAnd 44 = .ok (.invokevirtual 436, 3) := by decide +kernel
theorem dX12_readAnd_47 : decode cX12_readAnd 47 = .ok (.istore_n 1, 1) := by decide +kernel
theorem dX12_readAnd_48 : decode cX12_readAnd 48 = .ok (.goto (-34), 3) := by decide +kernel
theorem dX12_readAnd_51 : decode cX12_readAnd 51 = .ok (.aload_n 0, 1) := by decide +kernel
theorem dX12_readAnd_52 : decode cX12_readAnd 52 = .ok (.iload_n 1, 1) := by decide +kernel
theorem dX12_readAnd_53 : decode cX12_readAnd 53 = .ok (.putfield 433, 3) := by decide +kernel
theorem dX12_readAnd_56 : decode cX12_readAnd 56 = .ok (.iconst 1, 1) := by decide +kernel
theorem dX12_readAnd_57 : decode cX12_readAnd 57 = .ok (.ireturn, 1) := by decide +kernel
theorem dX12_whatAtHand_0 : decode cX12_whatAtHand 0 = .ok (.bipush 17, 2) := by decide +kernel
theorem dX12_whatAtHand_2 : decode cX12_whatAtHand 2 = .ok (.istore_n 1, 1) := by decide +kernel
theorem dX12_whatAtHand_3 : decode cX12_whatAtHand 3 = .ok (.iload_n 1, 1) := by decide +kernel
theorem dX12_whatAtHand_4 : decode cX12_whatAtHand 4 = .ok (.bipush 24, 2) := by decide +kernel
theorem dX12_whatAtHand_6 : decode cX12_whatAtHand 6 = .ok (.if_icmp .gt 22, 3) := by decide +kernel
theorem dX12_whatAtHand_9 : decode cX12_whatAtHand 9 = .ok (.aload_n 0, 1) := by decide +kernel
theorem dX12_whatAtHand_10 : decode cX12_whatAtHand 10 = .ok (.iload_n 1, 1) := by decide +kernel
theorem dX12_whatAtHand_11 : decode cX12_whatAtHand 11 = .ok (.invokevirtual 229, 3) := by decide +kernel
theorem dX12_whatAtHand_14 : decode cX12_whatAtHand 14 = .ok (.ifCond .eq 8, 3) := by decide +kernel
theorem dX12_whatAtHand_17 : decode cX12_whatAtHand 17 = .ok (.iload_n 1, 1) := by decide +kernel
theorem dX12_whatAtHand_18 : decode cX12_whatAtHand 18 = .ok (.bipush 17, 2) := by decide +kernel
theorem dX12_whatAtHand_20 : decode cX12_whatAtHand 20 = .ok (.isub, 1) := by decide +kernel
theorem dX12_whatAtHand_21 : decode cX12_whatAtHand 21 = .ok (.ireturn, 1) := by decide +kernel
theorem dX12_whatAtHand_22 : decode cX12_whatAtHand 22 = .ok (.iinc 1 1, 3) := by decide +kernel
theorem dX12_whatAtHand_25 : decode cX12_whatAtHand 25 = .ok (.goto (-22), 3) := by decide +kernel
theorem dX12_whatAtHand_28 : decode cX12_whatAtHand 28 = .ok (.iconst (-1), 1) := by decide +kernel
theorem dX12_whatAtHand_29 : decode cX12_whatAtHand 29 = .ok (.ireturn, 1) := by decide +kernel
theorem dX12_readOne_0 : decode cX12_readOne 0 = .ok (.aload_n 0, 1) := by decide +kernel
theorem dX12_readOne_1 : decode cX12_readOne 1 = .ok (.bipush 40, 2) := by decide +kernel
theorem dX12_readOne_3 : decode cX12_readOne 3 = .ok (.invokevirtual 181, 3) := by decide +kernel
theorem dX12_readOne_6 : decode cX12_readOne 6 = .ok (.istore_n 1, 1) := by decide +kernel
theorem dX12_readOne_7 : decode cX12_readOne 7 = .ok (.aload_n 0, 1) := by decide +kernel
theorem dX12_readOne_8 : decode cX12_readOne 8 = .ok (.bipush 12, 2) := by decide +kernel
theorem dX12_readOne_10 : decode cX12_readOne 10 = .ok (.invokevirtual 229, 3) := by decide +kernel
theorem dX12_readOne_13 : decode cX12_readOne 13 = .ok (.istore_n 2, 1) := by decide +kernel
theorem dX12_readOne_14 : decode cX12_readOne 14 = .ok (.aload_n 0, 1) := by decide +kernel
theorem dX12_readOne_15 : decode cX12_readOne 15 = .ok (.invokevirtual 443, 3) := by decide +kernel
theorem dX12_readOne_18 : decode cX12_readOne 18 = .ok (.istore_n 3, 1) := by decide +kernel
theorem dX12_readOne_19 : decode cX12_readOne 19 = .ok (.aload_n 0, 1) := by decide +kernel
theorem dX12_readOne_20 : decode cX12_readOne 20 = .ok (.bipush 13, 2) := by decide +kernel
theorem dX12_readOne_22 : decode cX12_readOne 22 = .ok (.invokevirtual 229, 3) := by decide +kernel
theorem dX12_readOne_25 : decode cX12_readOne 25 = .ok (.ifCond .eq 7, 3) := by decide +kernel
theorem dX12_readOne_28 : decode cX12_readOne 28 = .ok (.iconst 5, 1) := by decide +kernel
theorem dX12_readOne_29 : decode cX12_readOne 29 = .ok (.goto 46, 3) := by decide +kernel
theorem dX12_readOne_32 : decode cX12_readOne 32 = .ok (.aload_n 0, 1) := by decide +kernel
theorem dX12_readOne_33 : decode cX12_readOne 33 = .ok (.bipush 14, 2) := by decide +kernel
theorem dX12_readOne_35 : decode cX12_readOne 35 = .ok (.invokevirtual 229, 3) := by decide +kernel
theorem dX12_readOne_38 : decode cX12_readOne 38 = .ok (.ifCond .eq 8, 3) := by decide +kernel
theorem dX12_readOne_41 : decode cX12_readOne 41 = .ok (.bipush 6, 2) := by decide +kernel
theorem dX12_readOne_43 : decode cX12_readOne 43 = .ok (.goto 32, 3) := by decide +kernel
theorem dX12_readOne_46 : decode cX12_readOne 46 = .ok (.aload_n 0, 1) := by decide +kernel
theorem dX12_readOne_47 : decode cX12_readOne 47 = .ok (.bipush 15, 2) := by decide +kernel
theorem dX12_readOne_49 : decode cX12_readOne 49 = .ok (.invokevirtual 229, 3) := by decide +kernel
theorem dX12_readOne_52 : decode cX12_readOne 52 = .ok (.ifCond .eq 8, 3) := by decide +kernel
theorem dX12_readOne_55 : decode cX12_readOne 55 = .ok (.bipush 7, 2) := by decide +kernel
theorem dX12_readOne_57 : decode cX12_readOne 57 = .ok (.goto 18, 3) := by decide +kernel
theorem dX12_readOne_60 : decode cX12_readOne 60 = .ok (.aload_n 0, 1) := by decide +kernel
theorem dX12_readOne_61 : decode cX12_readOne 61 = .ok (.bipush 16, 2) := by decide +kernel
theorem dX12_readOne_63 : decode cX12_readOne 63 = .ok (.invokevirtual 229, 3) := by decide +kernel
theorem dX12_readOne_66 : decode cX12_readOne 66 = .ok (.ifCond .eq 8, 3) := by decide +kernel
theorem dX12_readOne_69 : decode cX12_readOne 69 = .ok (.bipush 8, 2) := by decide +kernel
theorem dX12_readOne_71 : decode cX12_readOne 71 = .ok (.goto 4, 3) := by decide +kernel
theorem dX12_readOne_74 : decode cX12_readOne 74 = .ok (.iconst 0, 1) := by decide +kernel
theorem dX12_readOne_75 : decode cX12_readOne 75 = .ok (.istore 4, 2) := by decide +kernel
theorem dX12_readOne_77 : decode cX12_readOne 77 = .ok (.iload_n 1, 1) := by decide +kernel
theorem dX12_readOne_78 : decode cX12_readOne 78 = .ok (.ifCond .ne 23, 3) := by decide +kernel
theorem dX12_readOne_81 : decode cX12_readOne 81 = .ok (.iload_n 2, 1) := by decide +kernel
theorem dX12_readOne_82 : decode cX12_readOne 82 = .ok (.ifCond .ne 19, 3) := by decide +kernel
theorem dX12_readOne_85 : decode cX12_readOne 85 = .ok (.iload_n 3, 1) := by decide +kernel
theorem dX12_readOne_86 : decode cX12_readOne 86 = .ok (.iconst (-1), 1) := by decide +kernel
theorem dX12_readOne_87 : decode cX12_readOne 87 = .ok (.if_icmp .ne 14, 3) := by decide +kernel
theorem dX12_readOne_90 : decode cX12_readOne 90 = .ok (.iload 4, 2) := by decide +kernel
theorem dX12_readOne_92 : decode cX12_readOne 92 = .ok (.ifCond .ne 9, 3) := by decide +kernel
theorem dX12_readOne_95 : decode cX12_readOne 95 = .ok (.aload_n 0, 1) := by decide +kernel
theorem dX12_readOne_96 : decode cX12_readOne 96 = .ok (.iconst 1, 1) := by decide +kernel
theorem dX12_readOne_97 : decode cX12_readOne 97 = .ok (.invokevirtual 168, 3) := by decide +kernel
theorem dX12_readOne_100 : decode cX12_readOne 100 = .ok (.ireturn, 1) := by decide +kernel
theorem dX12_readOne_101 : decode cX12_readOne 101 = .ok (.aload_n 0, 1) := by decide +kernel
theorem dX12_readOne_102 : decode cX12_readOne 102 = .ok (.getfield 446, 3) := by decide +kernel
theorem dX12_readOne_105 : decode cX12_readOne 105 = .ok (.bipush 20, 2) := by decide +kernel
theorem dX12_readOne_107 : decode cX12_readOne 107 = .ok (.if_icmp .eq 12, 3) := by decide +kernel
theorem dX12_readOne_110 : decode cX12_readOne 110 = .ok (.aload_n 0, 1) := by decide +kernel
theorem dX12_readOne_111 : decode cX12_readOne 111 = .ok (.getfield 449, 3) := by decide +kernel
theorem dX12_readOne_114 : decode cX12_readOne 114 = .ok (.bipush 8, 2) := by decide +kernel
theorem dX12_readOne_116 : decode cX12_readOne 116 = .ok (.if_icmp .ne 9, 3) := by decide +kernel
theorem dX12_readOne_119 : decode cX12_readOne 119 = .ok (.aload_n 0, 1) := by decide +kernel
theorem dX12_readOne_120 : decode cX12_readOne 120 = .ok (.iconst 4, 1) := by decide +kernel
theorem dX12_readOne_121 : decode cX12_readOne 121 = .ok (.invokevirtual 168, 3) := by decide +kernel
theorem dX12_readOne_124 : decode cX12_readOne 124 = .ok (.ireturn, 1) := by decide +kernel
theorem dX12_readOne_125 : decode cX12_readOne 125 = .ok (.aload_n 0, 1) := by decide +kernel
theorem dX12_readOne_126 : decode cX12_readOne 126 = .ok (.dup, 1) := by decide +kernel
theorem dX12_readOne_127 : decode cX12_readOne 127 = .ok (.getfield 446, 3) := by decide +kernel
theorem dX12_readOne_130 : decode cX12_readOne 130 = .ok (.iconst 1, 1) := by decide +kernel
theorem dX12_readOne_131 : decode cX12_readOne 131 = .ok (.iadd, 1) := by decide +kernel
theorem dX12_readOne_132 : decode cX12_readOne 132 = .ok (.putfield 446, 3) := by decide +kernel
theorem dX12_readOne_135 : decode cX12_readOne 135 = .ok (.aload_n 0, 1) := by decide +kernel
theorem dX12_readOne_136 : decode cX12_readOne 136 = .ok (.dup, 1) := by decide +kernel
theorem dX12_readOne_137 : decode cX12_readOne 137 = .ok (.getfield 449, 3) := by decide +kernel
theorem dX12_readOne_140 : decode cX12_readOne 140 = .ok (.iconst 1, 1) := by decide +kernel
theorem dX12_readOne_141 : decode cX12_readOne 141 = .ok (.iadd, 1) := by decide +kernel
theorem dX12_readOne_142 : decode cX12_readOne 142 = .ok (.putfield 449, 3) := by decide +kernel
theorem dX12_readOne_145 : decode cX12_readOne 145 = .ok (.aload_n 0, 1) := by decide +kernel
theorem dX12_readOne_146 : decode cX12_readOne 146 = .ok (.invokevirtual 178, 3) := by decide +kernel
theorem dX12_readOne_149 : decode cX12_readOne 149 = .ok (.iload_n 1, 1) := by decide +kernel
theorem dX12_readOne_150 : decode cX12_readOne 150 = .ok (.ifCond .eq 10, 3) := by decide +kernel
theorem dX12_readOne_153 : decode cX12_readOne 153 = .ok (.aload_n 0, 1) := by decide +kernel
theorem dX12_readOne_154 : decode cX12_readOne 154 = .ok (.invokevirtual 452, 3) := by decide +kernel
theorem dX12_readOne_157 : decode cX12_readOne 157 = .ok (.goto 33, 3) := by decide +kernel
theorem dX12_readOne_160 : decode cX12_readOne 160 = .ok (.iload_n 2, 1) := by decide +kernel
theorem dX12_readOne_161 : decode cX12_readOne 161 = .ok (.ifCond .eq 10, 3) := by decide +kernel
theorem dX12_readOne_164 : decode cX12_readOne 164 = .ok (.aload_n 0, 1) := by decide +kernel
theorem dX12_readOne_165 : decode cX12_readOne 165 = .ok (.invokevirtual 455, 3) := by decide +kernel
theorem dX12_readOne_168 : decode cX12_readOne 168 = .ok (.goto 22, 3) := by decide +kernel
theorem dX12_readOne_171 : decode cX12_readOne 171 = .ok (.iload_n 3, 1) := by decide +kernel
theorem dX12_readOne_172 : decode cX12_readOne 172 = .ok (.iconst (-1), 1) := by decide +kernel
theorem dX12_readOne_173 : decode cX12_readOne 173 = .ok (.if_icmp .eq 11, 3) := by decide +kernel
theorem dX12_readOne_176 : decode cX12_readOne 176 = .ok (.aload_n 0, 1) := by decide +kernel
theorem dX12_readOne_177 : decode cX12_readOne 177 = .ok (.iload_n 3, 1) := by decide +kernel
theorem dX12_readOne_178 : decode cX12_readOne 178 = .ok (.invokevirtual 458, 3) := by decide +kernel
theorem dX12_readOne_181 : decode cX12_readOne 181 = .ok (.goto 9, 3) := by decide +kernel
theorem dX12_readOne_184 : decode cX12_readOne 184 = .ok (.aload_n 0, 1) := by decide +kernel
theorem dX12_readOne_185 : decode cX12_readOne 185 = .ok (.iload 4, 2) := by decide +kernel
theorem dX12_readOne_187 : decode cX12_readOne 187 = .ok (.invokevirtual 461, 3) := by decide +kernel
theorem dX12_readOne_190 : decode cX12_readOne 190 = .ok (.istore 5, 2) := by decide +kernel
theorem dX12_readOne_192 : decode cX12_readOne 192 = .ok (.aload_n 0, 1) := by decide +kernel
theorem dX12_readOne_193 : decode cX12_readOne 193 = .ok (.dup, 1) := by decide +kernel
theorem dX12_readOne_194 : decode cX12_readOne 194 = .ok (.getfield 449, 3) := by decide +kernel
theorem dX12_readOne_197 : decode cX12_readOne 197 = .ok (.iconst 1, 1) := by decide +kernel
theorem dX12_readOne_198 : decode cX12_readOne 198 = .ok (.isub, 1) := by decide +kernel
theorem dX12_readOne_199 : decode cX12_readOne 199 = .ok (.putfield 449, 3) := by decide +kernel
theorem dX12_readOne_202 : decode cX12_readOne 202 = .ok (.iload 5, 2) := by decide +kernel
theorem dX12_readOne_204 : decode cX12_readOne 204 = .ok (.ireturn, 1) := by decide +kernel
theorem dX12_readNot_0 : decode cX12_readNot 0 = .ok (.aload_n 0, 1) := by decide +kernel
theorem dX12_readNot_1 : decode cX12_readNot 1 = .ok (.invokevirtual 440, 3) := by decide +kernel
theorem dX12_readNot_4 : decode cX12_readNot 4 = .ok (.ifCond .ne 5, 3) := by decide +kernel
theorem dX12_readNot_7 : decode cX12_readNot 7 = .ok (.iconst 0, 1) := by decide +kernel
theorem dX12_readNot_8 : decode cX12_readNot 8 = .ok (.ireturn, 1) := by decide +kernel
theorem dX12_readNot_9 : decode cX12_readNot 9 = .ok (.aload_n 0, 1) := by decide +kernel
theorem dX12_readNot_10 : decode cX12_readNot 10 = .ok (.aload_n 0, 1) := by decide +kernel
theorem dX12_readNot_11 : decode cX12_readNot 11 = .ok (.iconst 1, 1) := by decide +kernel
theorem dX12_readNot_12 : decode cX12_readNot 12 = .ok (.aload_n 0, 1) := by decide +kernel
theorem dX12_readNot_13 : decode cX12_readNot 13 = .ok (.getfield 433, 3) := by decide +kernel
theorem dX12_readNot_16 : decode cX12_readNot 16 = .ok (.iconst 0, 1) := by decide +kernel
theorem dX12_readNot_17 : decode cX12_readNot 17 = .ok (.iconst 0, 1) := by decide +kernel
theorem dX12_readNot_18 : decode cX12_readNot 18 = .ok (.invokevirtual 436, 3) := by decide +kernel
theorem dX12_readNot_21 : decode cX12_readNot 21 = .ok (.putfield 433, 3) := by decide +kernel
theorem dX12_readNot_24 : decode cX12_readNot 24 = .ok (.iconst 1, 1) := by decide +kernel
theorem dX12_readNot_25 : decode cX12_readNot 25 = .ok (.ireturn, 1) := by decide +kernel
theorem dX12_readBracket_0 : decode cX12_readBracket 0 = .ok (.aload_n 0, 1) := by decide +kernel
theorem dX12_readBracket_1 : decode cX12_readBracket 1 = .ok (.invokevirtual 464, 3) := by decide +kernel
theorem dX12_readBracket_4 : decode cX12_readBracket 4 = .ok (.ifCond .ne 5, 3) := by decide +kernel
theorem dX12_readBracket_7 : decode cX12_readBracket 7 = .ok (.iconst 0, 1) := by decide +kernel
theorem dX12_readBracket_8 : decode cX12_readBracket 8 = .ok (.ireturn, 1) := by decide +kernel
theorem dX12_readBracket_9 : decode cX12_readBracket 9 = .ok (.aload_n 0, 1) := by decide +kernel
theorem dX12_readBracket_10 : decode cX12_readBracket 10 = .ok (.bipush 41, 2) := by decide +kernel
theorem dX12_readBracket_12 : decode cX12_readBracket 12 = .ok (.invokevirtual 181, 3) := by decide +kernel
theorem dX12_readBracket_15 : decode cX12_readBracket 15 = .ok (.ifCond .ne 9, 3) := by decide +kernel
theorem dX12_readBracket_18 : decode cX12_readBracket 18 = .ok (.aload_n 0, 1) := by decide +kernel
theorem dX12_readBracket_19 : decode cX12_readBracket 19 = .ok (.iconst 1, 1) := by decide +kernel
theorem dX12_readBracket_20 : decode cX12_readBracket 20 = .ok (.invokevirtual 168, 3) := by decide +kernel
theorem dX12_readBracket_23 : decode cX12_readBracket 23 = .ok (.ireturn, 1) := by decide +kernel
theorem dX12_readBracket_24 : decode cX12_readBracket 24 = .ok (.aload_n 0, 1) := by decide +kernel
theorem dX12_readBracket_25 : decode cX12_readBracket 25 = .ok (.invokevirtual 178, 3) := by decide +kernel
theorem dX12_readBracket_28 : decode cX12_readBracket 28 = .ok (.iconst 1, 1) := by decide +kernel
theorem dX12_readBracket_29 : decode cX12_readBracket 29 = .ok (.ireturn, 1) := by decide +kernel
theorem dX12_readWhat_0 : decode cX12_readWhat 0 = .ok (.aload_n 0, 1) := by decide +kernel
theorem dX12_readWhat_1 : decode cX12_readWhat 1 = .ok (.bipush 60, 2) := by decide +kernel
theorem dX12_readWhat_3 : decode cX12_readWhat 3 = .ok (.invokevirtual 181, 3) := by decide +kernel
theorem dX12_readWhat_6 : decode cX12_readWhat 6 = .ok (.ifCond .ne 27, 3) := by decide +kernel
theorem dX12_readWhat_9 : decode cX12_readWhat 9 = .ok (.aload_n 0, 1) := by decide +kernel
theorem dX12_readWhat_10 : decode cX12_readWhat 10 = .ok (.bipush 61, 2) := by decide +kernel
theorem dX12_readWhat_12 : decode cX12_readWhat 12 = .ok (.invokevirtual 181, 3) := by decide +kernel
theorem dX12_readWhat_15 : decode cX12_readWhat 15 = .ok (.ifCond .ne 18, 3) := by decide +kernel
theorem dX12_readWhat_18 : decode cX12_readWhat 18 = .ok (.aload_n 0, 1) := by decide +kernel
theorem dX12_readWhat_19 : decode cX12_readWhat 19 = .ok (.bipush 62, 2) := by decide +kernel
theorem dX12_readWhat_21 : decode cX12_readWhat 21 = .ok (.invokevirtual 181, 3) := by decide +kernel
theorem dX12_readWhat_24 : decode cX12_readWhat 24 = .ok (.ifCond .ne 9, 3) := by decide +kernel
theorem dX12_readWhat_27 : decode cX12_readWhat 27 = .ok (.aload_n 0, 1) := by decide +kernel
theorem dX12_readWhat_28 : decode cX12_readWhat 28 = .ok (.iconst 1, 1) := by decide +kernel
theorem dX12_readWhat_29 : decode cX12_readWhat 29 = .ok (.invokevirtual 168, 3) := by decide +kernel
theorem dX12_readWhat_32 : decode cX12_readWhat 32 = .ok (.ireturn, 1) := by decide +kernel
theorem dX12_readWhat_33 : decode cX12_readWhat 33 = .ok (.aload_n 0, 1) := by decide +kernel
theorem dX12_readWhat_34 : decode cX12_readWhat 34 = .ok (.getfield 144, 3) := by decide +kernel
theorem dX12_readWhat_37 : decode cX12_readWhat 37 = .ok (.istore_n 2, 1) := by decide +kernel
theorem dX12_readWhat_38 : decode cX12_readWhat 38 = .ok (.aload_n 0, 1) := by decide +kernel
theorem dX12_readWhat_39 : decode cX12_readWhat 39 = .ok (.invokevirtual 178, 3) := by decide +kernel
theorem dX12_readWhat_42 : decode cX12_readWhat 42 = .ok (.aload_n 0, 1) := by decide +kernel
theorem dX12_readWhat_43 : decode cX12_readWhat 43 = .ok (.iconst 0, 1) := by decide +kernel
theorem dX12_readWhat_44 : decode cX12_readWhat 44 = .ok (.sipush 999, 3) := by decide +kernel
theorem dX12_readWhat_47 : decode cX12_readWhat 47 = .ok (.invokevirtual 235, 3) := by decide +kernel
theorem dX12_readWhat_50 : decode cX12_readWhat 50 = .ok (.ifCond .ne 5, 3) := by decide +kernel
theorem dX12_readWhat_53 : decode cX12_readWhat 53 = .ok (.iconst 0, 1) := by decide +kernel
theorem dX12_readWhat_54 : decode cX12_readWhat 54 = .ok (.ireturn, 1) := by decide +kernel
theorem dX12_readWhat_55 : decode cX12_readWhat 55 = .ok (.aload_n 0, 1) := by decide +kernel
theorem dX12_readWhat_56 : decode cX12_readWhat 56 = .ok (.aload_n 0, 1) := by decide +kernel
theorem dX12_readWhat_57 : decode cX12_readWhat 57 = .ok (.iconst 4, 1) := by decide +kernel
theorem dX12_readWhat_58 : decode cX12_readWhat 58 = .ok (.iload_n 1, 1) := by decide +kernel
theorem dX12_readWhat_59 : decode cX12_readWhat 59 = .ok (.aload_n 0, 1) := by decide +kernel
theorem dX12_readWhat_60 : decode cX12_readWhat 60 = .ok (.getfield 175, 3) := by decide +kernel
theorem dX12_readWhat_63 : decode cX12_readWhat 63 = .ok (.iload_n 2, 1) := by decide +kernel
theorem dX12_readWhat_64 : decode cX12_readWhat 64 = .ok (.invokevirtual 436, 3) := by decide +kernel
theorem dX12_readWhat_67 : decode cX12_readWhat 67 = .ok (.putfield 433, 3) := by decide +kernel
theorem dX12_readWhat_70 : decode cX12_readWhat 70 = .ok (.iconst 1, 1) := by decide +kernel
theorem dX12_readWhat_71 : decode cX12_readWhat 71 = .ok (.ireturn, 1) := by decide +kernel
theorem dX12_readPlain_0 : decode cX12_readPlain 0 = .ok (.iconst 0, 1) := by decide +kernel
theorem dX12_readPlain_1 : decode cX12_readPlain 1 = .ok (.istore_n 2, 1) := by decide +kernel
theorem dX12_readPlain_2 : decode cX12_readPlain 2 = .ok (.iload_n 1, 1) := by decide +kernel
theorem dX12_readPlain_3 : decode cX12_readPlain 3 = .ok (.bipush 6, 2) := by decide +kernel
theorem dX12_readPlain_5 : decode cX12_readPlain 5 = .ok (.if_icmp .ne 19, 3) := by decide +kernel
theorem dX12_readPlain_8 : decode cX12_readPlain 8 = .ok (.aload_n 0, 1) := by decide +kernel
theorem dX12_readPlain_9 : decode cX12_readPlain 9 = .ok (.iconst 0, 1) := by decide +kernel
theorem dX12_readPlain_10 : decode cX12_readPlain 10 = .ok (.iconst 5, 1) := by decide +kernel
theorem dX12_readPlain_11 : decode cX12_readPlain 11 = .ok (.invokevirtual 235, 3) := by decide +kernel
theorem dX12_readPlain_14 : decode cX12_readPlain 14 = .ok (.ifCond .ne 5, 3) := by decide +kernel
theorem dX12_readPlain_17 : decode cX12_readPlain 17 = .ok (.iconst 0, 1) := by decide +kernel
theorem dX12_readPlain_18 : decode cX12_readPlain 18 = .ok (.ireturn, 1) := by decide +kernel
theorem dX12_readPlain_19 : decode cX12_readPlain 19 = .ok (.aload_n 0, 1) := by decide +kernel
theorem dX12_readPlain_20 : decode cX12_readPlain 20 = .ok (.getfield 175, 3) := by decide +kernel
theorem dX12_readPlain_23 : decode cX12_readPlain 23 = .ok (.istore_n 2, 1) := by decide +kernel
theorem dX12_readPlain_24 : decode cX12_readPlain 24 = .ok (.iload_n 1, 1) := by decide +kernel
theorem dX12_readPlain_25 : decode cX12_readPlain 25 = .ok (.iconst 5, 1) := by decide +kernel
theorem dX12_readPlain_26 : decode cX12_readPlain 26 = .ok (.if_icmp .ne 70, 3) := by decide +kernel
theorem dX12_readPlain_29 : decode cX12_readPlain 29 = .ok (.aload_n 0, 1) := by decide +kernel
theorem dX12_readPlain_30 : decode cX12_readPlain 30 = .ok (.invokevirtual 218, 3) := by decide +kernel
theorem dX12_readPlain_33 : decode cX12_readPlain 33 = .ok (.ifCond .ne 9, 3) := by decide +kernel
theorem dX12_readPlain_36 : decode cX12_readPlain 36 = .ok (.aload_n 0, 1) := by decide +kernel
theorem dX12_readPlain_37 : decode cX12_readPlain 37 = .ok (.iconst 1, 1) := by decide +kernel
theorem dX12_readPlain_38 : decode cX12_readPlain 38 = .ok (.invokevirtual 168, 3) := by decide +kernel
theorem dX12_readPlain_41 : decode cX12_readPlain 41 = .ok (.ireturn, 1) := by decide +kernel
theorem dX12_readPlain_42 : decode cX12_readPlain 42 = .ok (.iconst (-1), 1) := by decide +kernel
theorem dX12_readPlain_43 : decode cX12_readPlain 43 = .ok (.istore_n 2, 1) := by decide +kernel
theorem dX12_readPlain_44 : decode cX12_readPlain 44 = .ok (.iconst 0, 1) := by decide +kernel
theorem dX12_readPlain_45 : decode cX12_readPlain 45 = .ok (.istore_n 3, 1) := by decide +kernel
theorem dX12_readPlain_46 : decode cX12_readPlain 46 = .ok (.iload_n 3, 1) := by decide +kernel
theorem dX12_readPlain_47 : decode cX12_readPlain 47 = .ok (.aload_n 0, 1) := by decide +kernel
theorem dX12_readPlain_48 : decode cX12_readPlain 48 = .ok (.getfield 13, 3) := by decide +kernel
theorem dX12_readPlain_51 : decode cX12_readPlain 51 = .ok (.iconst 2, 1) := by decide +kernel
theorem dX12_readPlain_52 : decode cX12_readPlain 52 = .ok (.iaload, 1) := by decide +kernel
theorem dX12_readPlain_53 : decode cX12_readPlain 53 = .ok (.if_icmp .ge 28, 3) := by decide +kernel
theorem dX12_readPlain_56 : decode cX12_readPlain 56 = .ok (.aload_n 0, 1) := by decide +kernel
theorem dX12_readPlain_57 : decode cX12_readPlain 57 = .ok (.getfield 22, 3) := by decide +kernel
theorem dX12_readPlain_60 : decode cX12_readPlain 60 = .ok (.bipush 12, 2) := by decide +kernel
theorem dX12_readPlain_62 : decode cX12_readPlain 62 = .ok (.iload_n 3, 1) := by decide +kernel
theorem dX12_readPlain_63 : decode cX12_readPlain 63 = .ok (.iadd, 1) := by decide +kernel
theorem dX12_readPlain_64 : decode cX12_readPlain 64 = .ok (.laload, 1) := by decide +kernel
theorem dX12_readPlain_65 : decode cX12_readPlain 65 = .ok (.aload_n 0, 1) := by decide +kernel
theorem dX12_readPlain_66 : decode cX12_readPlain 66 = .ok (.getfield 147, 3) := by decide +kernel
theorem dX12_readPlain_69 : decode cX12_readPlain 69 = .ok (.lcmp, 1) := by decide +kernel
theorem dX12_readPlain_70 : decode cX12_readPlain 70 = .ok (.ifCond .ne 5, 3) := by decide +kernel
theorem dX12_readPlain_73 : decode cX12_readPlain 73 = .ok (.iload_n 3, 1) := by decide +kernel
theorem dX12_readPlain_74 : decode cX12_readPlain 74 = .ok (.istore_n 2, 1) := by decide +kernel
theorem dX12_readPlain_75 : decode cX12_readPlain 75 = .ok (.iinc 3 1, 3) := by decide +kernel
theorem dX12_readPlain_78 : decode cX12_readPlain 78 = .ok (.goto (-32), 3) := by decide +kernel
theorem dX12_readPlain_81 : decode cX12_readPlain 81 = .ok (.iload_n 2, 1) := by decide +kernel
theorem dX12_readPlain_82 : decode cX12_readPlain 82 = .ok (.iconst (-1), 1) := by decide +kernel
theorem dX12_readPlain_83 : decode cX12_readPlain 83 = .ok (.if_icmp .ne 9, 3) := by decide +kernel
theorem dX12_readPlain_86 : decode cX12_readPlain 86 = .ok (.aload_n 0, 1) := by decide +kernel
theorem dX12_readPlain_87 : decode cX12_readPlain 87 = .ok (.iconst 3, 1) := by decide +kernel
theorem dX12_readPlain_88 : decode cX12_readPlain 88 = .ok (.invokevirtual 168, 3) := by decide +kernel
theorem dX12_readPlain_91 : decode cX12_readPlain 91 = .ok (.ireturn, 1) := by decide +kernel
theorem dX12_readPlain_92 : decode cX12_readPlain 92 = .ok (.aload_n 0, 1) := by decide +kernel
theorem dX12_readPlain_93 : decode cX12_readPlain 93 = .ok (.invokevirtual 178, 3) := by decide +kernel
theorem dX12_readPlain_96 : decode cX12_readPlain 96 = .ok (.aload_n 0, 1) := by decide +kernel
theorem dX12_readPlain_97 : decode cX12_readPlain 97 = .ok (.aload_n 0, 1) := by decide +kernel
theorem dX12_readPlain_98 : decode cX12_readPlain 98 = .ok (.iload_n 1, 1) := by decide +kernel
theorem dX12_readPlain_99 : decode cX12_readPlain 99 = .ok (.iload_n 2, 1) := by decide +kernel
theorem dX12_readPlain_100 : decode cX12_readPlain 100 = .ok (.iconst 0, 1) := by decide +kernel
theorem dX12_readPlain_101 : decode cX12_readPlain 101 = .ok (.iconst 0, 1) := by decide +kernel
theorem dX12_readPlain_102 : decode cX12_readPlain 102 = .ok (.invokevirtual 436, 3) := by decide +kernel
theorem dX12_readPlain_105 : decode cX12_readPlain 105 = .ok (.putfield 433, 3) := by decide +kernel
theorem dX12_readPlain_108 : decode cX12_readPlain 108 = .ok (.iconst 1, 1) := by decide +kernel
theorem dX12_readPlain_109 : decode cX12_readPlain 109 = .ok (.ireturn, 1) := by decide +kernel
theorem dX12_rule_0 : decode cX12_rule 0 = .ok (.aload_n 0, 1) := by decide +kernel
theorem dX12_rule_1 : decode cX12_rule 1 = .ok (.invokevirtual 259, 3) := by decide +kernel
theorem dX12_rule_4 : decode cX12_rule 4 = .ok (.aload_n 0, 1) := by decide +kernel
theorem dX12_rule_5 : decode cX12_rule 5 = .ok (.sipush 200, 3) := by decide +kernel
theorem dX12_rule_8 : decode cX12_rule 8 = .ok (.invokevirtual 262, 3) := by decide +kernel
theorem dX12_rule_11 : decode cX12_rule 11 = .ok (.aload_n 0, 1) := by decide +kernel
theorem dX12_rule_12 : decode cX12_rule 12 = .ok (.iconst 0, 1) := by decide +kernel
theorem dX12_rule_13 : decode cX12_rule 13 = .ok (.putfield 427, 3) := by decide +kernel
theorem dX12_rule_16 : decode cX12_rule 16 = .ok (.aload_n 0, 1) := by decide +kernel
theorem dX12_rule_17 : decode cX12_rule 17 = .ok (.iconst 0, 1) := by decide +kernel
theorem dX12_rule_18 : decode cX12_rule 18 = .ok (.putfield 446, 3) := by decide +kernel
theorem dX12_rule_21 : decode cX12_rule 21 = .ok (.aload_n 0, 1) := by decide +kernel
theorem dX12_rule_22 : decode cX12_rule 22 = .ok (.iconst 0, 1) := by decide +kernel
theorem dX12_rule_23 : decode cX12_rule 23 = .ok (.putfield 449, 3) := by decide +kernel
theorem dX12_rule_26 : decode cX12_rule 26 = .ok (.aload_n 0, 1) := by decide +kernel
theorem dX12_rule_27 : decode cX12_rule 27 = .ok (.invokevirtual 464, 3) := by decide +kernel
theorem dX12_rule_30 : decode cX12_rule 30 = .ok (.ifCond .ne 10, 3) := by decide +kernel
theorem dX12_rule_33 : decode cX12_rule 33 = .ok (.iconst (-1), 1) := by decide +kernel
theorem dX12_rule_34 : decode cX12_rule 34 = .ok (.aload_n 0, 1) := by decide +kernel
theorem dX12_rule_35 : decode cX12_rule 35 = .ok (.getfield 165, 3) := by decide +kernel
theorem dX12_rule_38 : decode cX12_rule 38 = .ok (.isub, 1) := by decide +kernel
theorem dX12_rule_39 : decode cX12_rule 39 = .ok (.ireturn, 1) := by decide +kernel
theorem dX12_rule_40 : decode cX12_rule 40 = .ok (.aload_n 0, 1) := by decide +kernel
theorem dX12_rule_41 : decode cX12_rule 41 = .ok (.getfield 134, 3) := by decide +kernel
theorem dX12_rule_44 : decode cX12_rule 44 = .ok (.ifCond .eq 16, 3) := by decide +kernel
theorem dX12_rule_47 : decode cX12_rule 47 = .ok (.aload_n 0, 1) := by decide +kernel
theorem dX12_rule_48 : decode cX12_rule 48 = .ok (.iconst 1, 1) := by decide +kernel
theorem dX12_rule_49 : decode cX12_rule 49 = .ok (.invokevirtual 168, 3) := by decide +kernel
theorem dX12_rule_52 : decode cX12_rule 52 = .ok (.pop, 1) := by decide +kernel
theorem dX12_rule_53 : decode cX12_rule 53 = .ok (.iconst (-1), 1) := by decide +kernel
theorem dX12_rule_54 : decode cX12_rule 54 = .ok (.aload_n 0, 1) := by decide +kernel
theorem dX12_rule_55 : decode cX12_rule 55 = .ok (.getfield 165, 3) := by decide +kernel
theorem dX12_rule_58 : decode cX12_rule 58 = .ok (.isub, 1) := by decide +kernel
theorem dX12_rule_59 : decode cX12_rule 59 = .ok (.ireturn, 1) := by decide +kernel
theorem dX12_rule_60 : decode cX12_rule 60 = .ok (.aload_n 0, 1) := by decide +kernel
theorem dX12_rule_61 : decode cX12_rule 61 = .ok (.getfield 13, 3) := by decide +kernel
theorem dX12_rule_64 : decode cX12_rule 64 = .ok (.sipush 135, 3) := by decide +kernel
theorem dX12_rule_67 : decode cX12_rule 67 = .ok (.iconst 1, 1) := by decide +kernel
theorem dX12_rule_68 : decode cX12_rule 68 = .ok (.iastore, 1) := by decide +kernel
theorem dX12_rule_69 : decode cX12_rule 69 = .ok (.aload_n 0, 1) := by decide +kernel
theorem dX12_rule_70 : decode cX12_rule 70 = .ok (.getfield 13, 3) := by decide +kernel
theorem dX12_rule_73 : decode cX12_rule 73 = .ok (.sipush 136, 3) := by decide +kernel
theorem dX12_rule_76 : decode cX12_rule 76 = .ok (.aload_n 0, 1) := by decide +kernel
theorem dX12_rule_77 : decode cX12_rule 77 = .ok (.getfield 433, 3) := by decide +kernel
theorem dX12_rule_80 : decode cX12_rule 80 = .ok (.iastore, 1) := by decide +kernel
theorem dX12_rule_81 : decode cX12_rule 81 = .ok (.iconst 0, 1) := by decide +kernel
theorem dX12_rule_82 : decode cX12_rule 82 = .ok (.istore_n 1, 1) := by decide +kernel
theorem dX12_rule_83 : decode cX12_rule 83 = .ok (.iload_n 1, 1) := by decide +kernel
theorem dX12_rule_84 : decode cX12_rule 84 = .ok (.sipush 240, 3) := by decide +kernel
theorem dX12_rule_87 : decode cX12_rule 87 = .ok (.if_icmp .ge 25, 3) := by decide +kernel
theorem dX12_rule_90 : decode cX12_rule 90 = .ok (.aload_n 0, 1) := by decide +kernel
theorem dX12_rule_91 : decode cX12_rule 91 = .ok (.getfield 13, 3) := by decide +kernel
theorem dX12_rule_94 : decode cX12_rule 94 = .ok (.sipush 2000, 3) := by decide +kernel
theorem dX12_rule_97 : decode cX12_rule 97 = .ok (.iload_n 1, 1) := by decide +kernel
theorem dX12_rule_98 : decode cX12_rule 98 = .ok (.iadd, 1) := by decide +kernel
theorem dX12_rule_99 : decode cX12_rule 99 = .ok (.aload_n 0, 1) := by decide +kernel
theorem dX12_rule_100 : decode cX12_rule 100 = .ok (.getfield 108, 3) := by decide +kernel
theorem dX12_rule_103 : decode cX12_rule 103 = .ok (.iload_n 1, 1) := by decide +kernel
theorem dX12_rule_104 : decode cX12_rule 104 = .ok (.iaload, 1) := by decide +kernel
theorem dX12_rule_105 : decode cX12_rule 105 = .ok (.iastore, 1) := by decide +kernel
theorem dX12_rule_106 : decode cX12_rule 106 = .ok (.iinc 1 1, 3) := by decide +kernel
theorem dX12_rule_109 : decode cX12_rule 109 = .ok (.goto (-26), 3) := by decide +kernel
theorem dX12_rule_112 : decode cX12_rule 112 = .ok (.aload_n 0, 1) := by decide +kernel
theorem dX12_rule_113 : decode cX12_rule 113 = .ok (.getfield 446, 3) := by decide +kernel
theorem dX12_rule_116 : decode cX12_rule 116 = .ok (.ireturn, 1) := by decide +kernel
theorem dX12_valueOf_0 : decode cX12_valueOf 0 = .ok (.iload_n 1, 1) := by decide +kernel
theorem dX12_valueOf_1 : decode cX12_valueOf 1 = .ok (.tableswitch 106 0 6 #[43, 56, 69, 77, 84, 91, 98], 43) := by decide +kernel
theorem dX12_valueOf_44 : decode cX12_valueOf 44 = .ok (.aload_n 0, 1) := by decide +kernel
theorem dX12_valueOf_45 : decode cX12_valueOf 45 = .ok (.invokevirtual 271, 3) := by decide +kernel
theorem dX12_valueOf_48 : decode cX12_valueOf 48 = .ok (.aload_n 0, 1) := by decide +kernel
theorem dX12_valueOf_49 : decode cX12_valueOf 49 = .ok (.iload_n 2, 1) := by decide +kernel
theorem dX12_valueOf_50 : decode cX12_valueOf 50 = .ok (.bipush 6, 2) := by decide +kernel
theorem dX12_valueOf_52 : decode cX12_valueOf 52 = .ok (.invokevirtual 284, 3) := by decide +kernel
theorem dX12_valueOf_55 : decode cX12_valueOf 55 = .ok (.isub, 1) := by decide +kernel
theorem dX12_valueOf_56 : decode cX12_valueOf 56 = .ok (.ireturn, 1) := by decide +kernel
theorem dX12_valueOf_57 : decode cX12_valueOf 57 = .ok (.aload_n 0, 1) := by decide +kernel
theorem dX12_valueOf_58 : decode cX12_valueOf 58 = .ok (.invokevirtual 271, 3) := by decide +kernel
theorem dX12_valueOf_61 : decode cX12_valueOf 61 = .ok (.aload_n 0, 1) := by decide +kernel
theorem dX12_valueOf_62 : decode cX12_valueOf 62 = .ok (.iload_n 2, 1) := by decide +kernel
theorem dX12_valueOf_63 : decode cX12_valueOf 63 = .ok (.bipush 7, 2) := by decide +kernel
theorem dX12_valueOf_65 : decode cX12_valueOf 65 = .ok (.invokevirtual 284, 3) := by decide +kernel
theorem dX12_valueOf_68 : decode cX12_valueOf 68 = .ok (.isub, 1) := by decide +kernel
theorem dX12_valueOf_69 : decode cX12_valueOf 69 = .ok (.ireturn, 1) := by decide +kernel
theorem dX12_valueOf_70 : decode cX12_valueOf 70 = .ok (.aload_n 0, 1) := by decide +kernel
theorem dX12_valueOf_71 : decode cX12_valueOf 71 = .ok (.iload_n 2, 1) := by decide +kernel
theorem dX12_valueOf_72 : decode cX12_valueOf 72 = .ok (.bipush 8, 2) := by decide +kernel
theorem dX12_valueOf_74 : decode cX12_valueOf 74 = .ok (.invokevirtual 284, 3) := by decide +kernel
theorem dX12_valueOf_77 : decode cX12_valueOf 77 = .ok (.ireturn, 1) := by decide +kernel
theorem dX12_valueOf_78 : decode cX12_valueOf 78 = .ok (.aload_n 0, 1) := by decide +kernel
theorem dX12_valueOf_79 : decode cX12_valueOf 79 = .ok (.iload_n 2, 1) := by decide +kernel
theorem dX12_valueOf_80 : decode cX12_valueOf 80 = .ok (.iconst 2, 1) := by decide +kernel
theorem dX12_valueOf_81 : decode cX12_valueOf 81 = .ok (.invokevirtual 284, 3) := by decide +kernel
theorem dX12_valueOf_84 : decode cX12_valueOf 84 = .ok (.ireturn, 1) := by decide +kernel
theorem dX12_valueOf_85 : decode cX12_valueOf 85 = .ok (.aload_n 0, 1) := by decide +kernel
theorem dX12_valueOf_86 : decode cX12_valueOf 86 = .ok (.iload_n 2, 1) := by decide +kernel
theorem dX12_valueOf_87 : decode cX12_valueOf 87 = .ok (.iconst 3, 1) := by decide +kernel
theorem dX12_valueOf_88 : decode cX12_valueOf 88 = .ok (.invokevirtual 284, 3) := by decide +kernel
theorem dX12_valueOf_91 : decode cX12_valueOf 91 = .ok (.ireturn, 1) := by decide +kernel
theorem dX12_valueOf_92 : decode cX12_valueOf 92 = .ok (.aload_n 0, 1) := by decide +kernel
theorem dX12_valueOf_93 : decode cX12_valueOf 93 = .ok (.iload_n 2, 1) := by decide +kernel
theorem dX12_valueOf_94 : decode cX12_valueOf 94 = .ok (.iconst 5, 1) := by decide +kernel
theorem dX12_valueOf_95 : decode cX12_valueOf 95 = .ok (.invokevirtual 284, 3) := by decide +kernel
theorem dX12_valueOf_98 : decode cX12_valueOf 98 = .ok (.ireturn, 1) := by decide +kernel
theorem dX12_valueOf_99 : decode cX12_valueOf 99 = .ok (.aload_n 0, 1) := by decide +kernel
theorem dX12_valueOf_100 : decode cX12_valueOf 100 = .ok (.iload_n 2, 1) := by decide +kernel
theorem dX12_valueOf_101 : decode cX12_valueOf 101 = .ok (.bipush 9, 2) := by decide +kernel
theorem dX12_valueOf_103 : decode cX12_valueOf 103 = .ok (.invokevirtual 284, 3) := by decide +kernel
theorem dX12_valueOf_106 : decode cX12_valueOf 106 = .ok (.ireturn, 1) := by decide +kernel
theorem dX12_valueOf_107 : decode cX12_valueOf 107 = .ok (.iconst 0, 1) := by decide +kernel
theorem dX12_valueOf_108 : decode cX12_valueOf 108 = .ok (.istore_n 3, 1) := by decide +kernel
theorem dX12_valueOf_109 : decode cX12_valueOf 109 = .ok (.iconst 0, 1) := by decide +kernel
theorem dX12_valueOf_110 : decode cX12_valueOf 110 = .ok (.istore 4, 2) := by decide +kernel
theorem dX12_valueOf_112 : decode cX12_valueOf 112 = .ok (.iload 4, 2) := by decide +kernel
theorem dX12_valueOf_114 : decode cX12_valueOf 114 = .ok (.aload_n 0, 1) := by decide +kernel
theorem dX12_valueOf_115 : decode cX12_valueOf 115 = .ok (.invokevirtual 268, 3) := by decide +kernel
theorem dX12_valueOf_118 : decode cX12_valueOf 118 = .ok (.if_icmp .ge 40, 3) := by decide +kernel
theorem dX12_valueOf_121 : decode cX12_valueOf 121 = .ok (.aload_n 0, 1) := by decide +kernel
theorem dX12_valueOf_122 : decode cX12_valueOf 122 = .ok (.iload_n 2, 1) := by decide +kernel
theorem dX12_valueOf_123 : decode cX12_valueOf 123 = .ok (.bipush 9, 2) := by decide +kernel
theorem dX12_valueOf_125 : decode cX12_valueOf 125 = .ok (.invokevirtual 284, 3) := by decide +kernel
theorem dX12_valueOf_128 : decode cX12_valueOf 128 = .ok (.ifCond .le 30, 3) := by decide +kernel
theorem dX12_valueOf_131 : decode cX12_valueOf 131 = .ok (.aload_n 0, 1) := by decide +kernel
theorem dX12_valueOf_132 : decode cX12_valueOf 132 = .ok (.iload 4, 2) := by decide +kernel
theorem dX12_valueOf_134 : decode cX12_valueOf 134 = .ok (.bipush 9, 2) := by decide +kernel
theorem dX12_valueOf_136 : decode cX12_valueOf 136 = .ok (.invokevirtual 284, 3) := by decide +kernel
theorem dX12_valueOf_139 : decode cX12_valueOf 139 = .ok (.aload_n 0, 1) := by decide +kernel
theorem dX12_valueOf_140 : decode cX12_valueOf 140 = .ok (.iload_n 2, 1) := by decide +kernel
theorem dX12_valueOf_141 : decode cX12_valueOf 141 = .ok (.bipush 9, 2) := by decide +kernel
theorem dX12_valueOf_143 : decode cX12_valueOf 143 = .ok (.invokevirtual 284, 3) := by decide +kernel
theorem dX12_valueOf_146 : decode cX12_valueOf 146 = .ok (.if_icmp .ne 6, 3) := by decide +kernel
theorem dX12_valueOf_149 : decode cX12_valueOf 149 = .ok (.iinc 3 1, 3) := by decide +kernel
theorem dX12_valueOf_152 : decode cX12_valueOf 152 = .ok (.iinc 4 1, 3) := by decide +kernel
theorem dX12_valueOf_155 : decode cX12_valueOf 155 = .ok (.goto (-43), 3) := by decide +kernel
theorem dX12_valueOf_158 : decode cX12_valueOf 158 = .ok (.iload_n 3, 1) := by decide +kernel
theorem dX12_valueOf_159 : decode cX12_valueOf 159 = .ok (.ireturn, 1) := by decide +kernel
theorem dX12_isSo_0 : decode cX12_isSo 0 = .ok (.sipush 2000, 3) := by decide +kernel
theorem dX12_isSo_3 : decode cX12_isSo 3 = .ok (.iconst 4, 1) := by decide +kernel
theorem dX12_isSo_4 : decode cX12_isSo 4 = .ok (.iload_n 1, 1) := by decide +kernel
theorem dX12_isSo_5 : decode cX12_isSo 5 = .ok (.imul, 1) := by decide +kernel
theorem dX12_isSo_6 : decode cX12_isSo 6 = .ok (.iadd, 1) := by decide +kernel
theorem dX12_isSo_7 : decode cX12_isSo 7 = .ok (.istore_n 3, 1) := by decide +kernel
theorem dX12_isSo_8 : decode cX12_isSo 8 = .ok (.aload_n 0, 1) := by decide +kernel
theorem dX12_isSo_9 : decode cX12_isSo 9 = .ok (.getfield 13, 3) := by decide +kernel
theorem dX12_isSo_12 : decode cX12_isSo 12 = .ok (.iload_n 3, 1) := by decide +kernel
theorem dX12_isSo_13 : decode cX12_isSo 13 = .ok (.iaload, 1) := by decide +kernel
theorem dX12_isSo_14 : decode cX12_isSo 14 = .ok (.tableswitch 212 1 8 #[46, 68, 106, 212, 144, 167, 189, 206], 46) := by decide +kernel
theorem dX12_isSo_60 : decode cX12_isSo 60 = .ok (.aload_n 0, 1) := by decide +kernel
theorem dX12_isSo_61 : decode cX12_isSo 61 = .ok (.aload_n 0, 1) := by decide +kernel
theorem dX12_isSo_62 : decode cX12_isSo 62 = .ok (.getfield 13, 3) := by decide +kernel
theorem dX12_isSo_65 : decode cX12_isSo 65 = .ok (.iload_n 3, 1) := by decide +kernel
theorem dX12_isSo_66 : decode cX12_isSo 66 = .ok (.iconst 1, 1) := by decide +kernel
theorem dX12_isSo_67 : decode cX12_isSo 67 = .ok (.iadd, 1) := by decide +kernel
theorem dX12_isSo_68 : decode cX12_isSo 68 = .ok (.iaload, 1) := by decide +kernel
theorem dX12_isSo_69 : decode cX12_isSo 69 = .ok (.iload_n 2, 1) := by decide +kernel
theorem dX12_isSo_70 : decode cX12_isSo 70 = .ok (.invokevirtual 467, 3) := by decide +kernel
theorem dX12_isSo_73 : decode cX12_isSo 73 = .ok (.ifCond .ne 7, 3) := by decide +kernel
theorem dX12_isSo_76 : decode cX12_isSo 76 = .ok (.iconst 1, 1) := by decide +kernel
theorem dX12_isSo_77 : decode cX12_isSo 77 = .ok (.goto 4, 3) := by decide +kernel
theorem dX12_isSo_80 : decode cX12_isSo 80 = .ok (.iconst 0, 1) := by decide +kernel
theorem dX12_isSo_81 : decode cX12_isSo 81 = .ok (.ireturn, 1) := by decide +kernel
theorem dX12_isSo_82 : decode cX12_isSo 82 = .ok (.aload_n 0, 1) := by decide +kernel
theorem dX12_isSo_83 : decode cX12_isSo 83 = .ok (.aload_n 0, 1) := by decide +kernel
theorem dX12_isSo_84 : decode cX12_isSo 84 = .ok (.getfield 13, 3) := by decide +kernel
theorem dX12_isSo_87 : decode cX12_isSo 87 = .ok (.iload_n 3, 1) := by decide +kernel
theorem dX12_isSo_88 : decode cX12_isSo 88 = .ok (.iconst 1, 1) := by decide +kernel
theorem dX12_isSo_89 : decode cX12_isSo 89 = .ok (.iadd, 1) := by decide +kernel
theorem dX12_isSo_90 : decode cX12_isSo 90 = .ok (.iaload, 1) := by decide +kernel
theorem dX12_isSo_91 : decode cX12_isSo 91 = .ok (.iload_n 2, 1) := by decide +kernel
theorem dX12_isSo_92 : decode cX12_isSo 92 = .ok (.invokevirtual 467, 3) := by decide +kernel
theorem dX12_isSo_95 : decode cX12_isSo 95 = .ok (.ifCond .eq 23, 3) := by decide +kernel
theorem dX12_isSo_98 : decode cX12_isSo 98 = .ok (.aload_n 0, 1) := by decide +kernel
theorem dX12_isSo_99 : decode cX12_isSo 99 = .ok (.aload_n 0, 1) := by decide +kernel
theorem dX12_isSo_100 : decode cX12_isSo 100 = .ok (.getfield 13, 3) := by decide +kernel
theorem dX12_isSo_103 : decode cX12_isSo 103 = .ok (.iload_n 3, 1) := by decide +kernel
theorem dX12_isSo_104 : decode cX12_isSo 104 = .ok (.iconst 2, 1) := by decide +kernel
theorem dX12_isSo_105 : decode cX12_isSo 105 = .ok (.iadd, 1) := by decide +kernel
theorem dX12_isSo_106 : decode cX12_isSo 106 = .ok (.iaload, 1) := by decide +kernel
theorem dX12_isSo_107 : decode cX12_isSo 107 = .ok (.iload_n 2, 1) := by decide +kernel
theorem dX12_isSo_108 : decode cX12_isSo 108 = .ok (.invokevirtual 467, 3) := by decide +kernel
theorem dX12_isSo_111 : decode cX12_isSo 111 = .ok (.ifCond .eq 7, 3) := by decide +kernel
theorem dX12_isSo_114 : decode cX12_isSo 114 = .ok (.iconst 1, 1) := by decide +kernel
theorem dX12_isSo_115 : decode cX12_isSo 115 = .ok (.goto 4, 3) := by decide +kernel
theorem dX12_isSo_118 : decode cX12_isSo 118 = .ok (.iconst 0, 1) := by decide +kernel
theorem dX12_isSo_119 : decode cX12_isSo 119 = .ok (.ireturn, 1) := by decide +kernel
theorem dX12_isSo_120 : decode cX12_isSo 120 = .ok (.aload_n 0, 1) := by decide +kernel
theorem dX12_isSo_121 : decode cX12_isSo 121 = .ok (.aload_n 0, 1) := by decide +kernel
theorem dX12_isSo_122 : decode cX12_isSo 122 = .ok (.getfield 13, 3) := by decide +kernel
theorem dX12_isSo_125 : decode cX12_isSo 125 = .ok (.iload_n 3, 1) := by decide +kernel
theorem dX12_isSo_126 : decode cX12_isSo 126 = .ok (.iconst 1, 1) := by decide +kernel
theorem dX12_isSo_127 : decode cX12_isSo 127 = .ok (.iadd, 1) := by decide +kernel
theorem dX12_isSo_128 : decode cX12_isSo 128 = .ok (.iaload, 1) := by decide +kernel
theorem dX12_isSo_129 : decode cX12_isSo 129 = .ok (.iload_n 2, 1) := by decide +kernel
theorem dX12_isSo_130 : decode cX12_isSo 130 = .ok (.invokevirtual 467, 3) := by decide +kernel
theorem dX12_isSo_133 : decode cX12_isSo 133 = .ok (.ifCond .ne 19, 3) := by decide +kernel
theorem dX12_isSo_136 : decode cX12_isSo 136 = .ok (.aload_n 0, 1) := by decide +kernel
theorem dX12_isSo_137 : decode cX12_isSo 137 = .ok (.aload_n 0, 1) := by decide +kernel
theorem dX12_isSo_138 : decode cX12_isSo 138 = .ok (.getfield 13, 3) := by decide +kernel
theorem dX12_isSo_141 : decode cX12_isSo 141 = .ok (.iload_n 3, 1) := by decide +kernel
theorem dX12_isSo_142 : decode cX12_isSo 142 = .ok (.iconst 2, 1) := by decide +kernel
theorem dX12_isSo_143 : decode cX12_isSo 143 = .ok (.iadd, 1) := by decide +kernel
theorem dX12_isSo_144 : decode cX12_isSo 144 = .ok (.iaload, 1) := by decide +kernel
theorem dX12_isSo_145 : decode cX12_isSo 145 = .ok (.iload_n 2, 1) := by decide +kernel
theorem dX12_isSo_146 : decode cX12_isSo 146 = .ok (.invokevirtual 467, 3) := by decide +kernel
theorem dX12_isSo_149 : decode cX12_isSo 149 = .ok (.ifCond .eq 7, 3) := by decide +kernel
theorem dX12_isSo_152 : decode cX12_isSo 152 = .ok (.iconst 1, 1) := by decide +kernel
theorem dX12_isSo_153 : decode cX12_isSo 153 = .ok (.goto 4, 3) := by decide +kernel
theorem dX12_isSo_156 : decode cX12_isSo 156 = .ok (.iconst 0, 1) := by decide +kernel
theorem dX12_isSo_157 : decode cX12_isSo 157 = .ok (.ireturn, 1) := by decide +kernel
theorem dX12_isSo_158 : decode cX12_isSo 158 = .ok (.aload_n 0, 1) := by decide +kernel
theorem dX12_isSo_159 : decode cX12_isSo 159 = .ok (.iload_n 2, 1) := by decide +kernel
theorem dX12_isSo_160 : decode cX12_isSo 160 = .ok (.iconst 0, 1) := by decide +kernel
theorem dX12_isSo_161 : decode cX12_isSo 161 = .ok (.invokevirtual 284, 3) := by decide +kernel
theorem dX12_isSo_164 : decode cX12_isSo 164 = .ok (.aload_n 0, 1) := by decide +kernel
theorem dX12_isSo_165 : decode cX12_isSo 165 = .ok (.getfield 13, 3) := by decide +kernel
theorem dX12_isSo_168 : decode cX12_isSo 168 = .ok (.iload_n 3, 1) := by decide +kernel
theorem dX12_isSo_169 : decode cX12_isSo 169 = .ok (.iconst 1, 1) := by decide +kernel
theorem dX12_isSo_170 : decode cX12_isSo 170 = .ok (.iadd, 1) := by decide +kernel
theorem dX12_isSo_171 : decode cX12_isSo 171 = .ok (.iaload, 1) := by decide +kernel
theorem dX12_isSo_172 : decode cX12_isSo 172 = .ok (.if_icmp .ne 7, 3) := by decide +kernel
theorem dX12_isSo_175 : decode cX12_isSo 175 = .ok (.iconst 1, 1) := by decide +kernel
theorem dX12_isSo_176 : decode cX12_isSo 176 = .ok (.goto 4, 3) := by decide +kernel
theorem dX12_isSo_179 : decode cX12_isSo 179 = .ok (.iconst 0, 1) := by decide +kernel
theorem dX12_isSo_180 : decode cX12_isSo 180 = .ok (.ireturn, 1) := by decide +kernel
theorem dX12_isSo_181 : decode cX12_isSo 181 = .ok (.aload_n 0, 1) := by decide +kernel
theorem dX12_isSo_182 : decode cX12_isSo 182 = .ok (.iload_n 2, 1) := by decide +kernel
theorem dX12_isSo_183 : decode cX12_isSo 183 = .ok (.invokevirtual 291, 3) := by decide +kernel
theorem dX12_isSo_186 : decode cX12_isSo 186 = .ok (.aload_n 0, 1) := by decide +kernel
theorem dX12_isSo_187 : decode cX12_isSo 187 = .ok (.getfield 13, 3) := by decide +kernel
theorem dX12_isSo_190 : decode cX12_isSo 190 = .ok (.iload_n 3, 1) := by decide +kernel
theorem dX12_isSo_191 : decode cX12_isSo 191 = .ok (.iconst 1, 1) := by decide +kernel
theorem dX12_isSo_192 : decode cX12_isSo 192 = .ok (.iadd, 1) := by decide +kernel
theorem dX12_isSo_193 : decode cX12_isSo 193 = .ok (.iaload, 1) := by decide +kernel
theorem dX12_isSo_194 : decode cX12_isSo 194 = .ok (.if_icmp .ne 7, 3) := by decide +kernel
theorem dX12_isSo_197 : decode cX12_isSo 197 = .ok (.iconst 1, 1) := by decide +kernel
theorem dX12_isSo_198 : decode cX12_isSo 198 = .ok (.goto 4, 3) := by decide +kernel
theorem dX12_isSo_201 : decode cX12_isSo 201 = .ok (.iconst 0, 1) := by decide +kernel
theorem dX12_isSo_202 : decode cX12_isSo 202 = .ok (.ireturn, 1) := by decide +kernel
theorem dX12_isSo_203 : decode cX12_isSo 203 = .ok (.aload_n 0, 1) := by decide +kernel
theorem dX12_isSo_204 : decode cX12_isSo 204 = .ok (.iload_n 2, 1) := by decide +kernel
theorem dX12_isSo_205 : decode cX12_isSo 205 = .ok (.bipush 10, 2) := by decide +kernel
theorem dX12_isSo_207 : decode cX12_isSo 207 = .ok (.invokevirtual 284, 3) := by decide +kernel
theorem dX12_isSo_210 : decode cX12_isSo 210 = .ok (.iconst 1, 1) := by decide +kernel
theorem dX12_isSo_211 : decode cX12_isSo 211 = .ok (.if_icmp .ne 7, 3) := by decide +kernel
theorem dX12_isSo_214 : decode cX12_isSo 214 = .ok (.iconst 1, 1) := by decide +kernel
theorem dX12_isSo_215 : decode cX12_isSo 215 = .ok (.goto 4, 3) := by decide +kernel
theorem dX12_isSo_218 : decode cX12_isSo 218 = .ok (.iconst 0, 1) := by decide +kernel
theorem dX12_isSo_219 : decode cX12_isSo 219 = .ok (.ireturn, 1) := by decide +kernel
theorem dX12_isSo_220 : decode cX12_isSo 220 = .ok (.aload_n 0, 1) := by decide +kernel
theorem dX12_isSo_221 : decode cX12_isSo 221 = .ok (.iload_n 2, 1) := by decide +kernel
theorem dX12_isSo_222 : decode cX12_isSo 222 = .ok (.invokevirtual 380, 3) := by decide +kernel
theorem dX12_isSo_225 : decode cX12_isSo 225 = .ok (.ireturn, 1) := by decide +kernel
theorem dX12_isSo_226 : decode cX12_isSo 226 = .ok (.aload_n 0, 1) := by decide +kernel
theorem dX12_isSo_227 : decode cX12_isSo 227 = .ok (.aload_n 0, 1) := by decide +kernel
theorem dX12_isSo_228 : decode cX12_isSo 228 = .ok (.getfield 13, 3) := by decide +kernel
theorem dX12_isSo_231 : decode cX12_isSo 231 = .ok (.iload_n 3, 1) := by decide +kernel
theorem dX12_isSo_232 : decode cX12_isSo 232 = .ok (.iconst 1, 1) := by decide +kernel
theorem dX12_isSo_233 : decode cX12_isSo 233 = .ok (.iadd, 1) := by decide +kernel
theorem dX12_isSo_234 : decode cX12_isSo 234 = .ok (.iaload, 1) := by decide +kernel
theorem dX12_isSo_235 : decode cX12_isSo 235 = .ok (.iload_n 2, 1) := by decide +kernel
theorem dX12_isSo_236 : decode cX12_isSo 236 = .ok (.invokevirtual 470, 3) := by decide +kernel
theorem dX12_isSo_239 : decode cX12_isSo 239 = .ok (.istore 4, 2) := by decide +kernel
theorem dX12_isSo_241 : decode cX12_isSo 241 = .ok (.aload_n 0, 1) := by decide +kernel
theorem dX12_isSo_242 : decode cX12_isSo 242 = .ok (.getfield 13, 3) := by decide +kernel
theorem dX12_isSo_245 : decode cX12_isSo 245 = .ok (.iload_n 3, 1) := by decide +kernel
theorem dX12_isSo_246 : decode cX12_isSo 246 = .ok (.iconst 3, 1) := by decide +kernel
theorem dX12_isSo_247 : decode cX12_isSo 247 = .ok (.iadd, 1) := by decide +kernel
theorem dX12_isSo_248 : decode cX12_isSo 248 = .ok (.iaload, 1) := by decide +kernel
theorem dX12_isSo_249 : decode cX12_isSo 249 = .ok (.bipush 60, 2) := by decide +kernel
theorem dX12_isSo_251 : decode cX12_isSo 251 = .ok (.if_icmp .ne 24, 3) := by decide +kernel
theorem dX12_isSo_254 : decode cX12_isSo 254 = .ok (.iload 4, 2) := by decide +kernel
theorem dX12_isSo_256 : decode cX12_isSo 256 = .ok (.aload_n 0, 1) := by decide +kernel
theorem dX12_isSo_257 : decode cX12_isSo 257 = .ok (.getfield 13, 3) := by decide +kernel
theorem dX12_isSo_260 : decode cX12_isSo 260 = .ok (.iload_n 3, 1) := by decide +kernel
theorem dX12_isSo_261 : decode cX12_isSo 261 = .ok (.iconst 2, 1) := by decide +kernel
theorem dX12_isSo_262 : decode cX12_isSo 262 = .ok (.iadd, 1) := by decide +kernel
theorem dX12_isSo_263 : decode cX12_isSo 263 = .ok (.iaload, 1) := by decide +kernel
theorem dX12_isSo_264 : decode cX12_isSo 264 = .ok (.if_icmp .ge 7, 3) := by decide +kernel
theorem dX12_isSo_267 : decode cX12_isSo 267 = .ok (.iconst 1, 1) := by decide +kernel
theorem dX12_isSo_268 : decode cX12_isSo 268 = .ok (.goto 59, 3) := by decide +kernel
theorem dX12_isSo_271 : decode cX12_isSo 271 = .ok (.iconst 0, 1) := by decide +kernel
theorem dX12_isSo_272 : decode cX12_isSo 272 = .ok (.goto 55, 3) := by decide +kernel
theorem dX12_isSo_275 : decode cX12_isSo 275 = .ok (.aload_n 0, 1) := by decide +kernel
theorem dX12_isSo_276 : decode cX12_isSo 276 = .ok (.getfield 13, 3) := by decide +kernel
theorem dX12_isSo_279 : decode cX12_isSo 279 = .ok (.iload_n 3, 1) := by decide +kernel
theorem dX12_isSo_280 : decode cX12_isSo 280 = .ok (.iconst 3, 1) := by decide +kernel
theorem dX12_isSo_281 : decode cX12_isSo 281 = .ok (.iadd, 1) := by decide +kernel
theorem dX12_isSo_282 : decode cX12_isSo 282 = .ok (.iaload, 1) := by decide +kernel
theorem dX12_isSo_283 : decode cX12_isSo 283 = .ok (.bipush 61, 2) := by decide +kernel
theorem dX12_isSo_285 : decode cX12_isSo 285 = .ok (.if_icmp .ne 24, 3) := by decide +kernel
theorem dX12_isSo_288 : decode cX12_isSo 288 = .ok (.iload 4, 2) := by decide +kernel
theorem dX12_isSo_290 : decode cX12_isSo 290 = .ok (.aload_n 0, 1) := by decide +kernel
theorem dX12_isSo_291 : decode cX12_isSo 291 = .ok (.getfield 13, 3) := by decide +kernel
theorem dX12_isSo_294 : decode cX12_isSo 294 = .ok (.iload_n 3, 1) := by decide +kernel
theorem dX12_isSo_295 : decode cX12_isSo 295 = .ok (.iconst 2, 1) := by decide +kernel
theorem dX12_isSo_296 : decode cX12_isSo 296 = .ok (.iadd, 1) := by decide +kernel
theorem dX12_isSo_297 : decode cX12_isSo 297 = .ok (.iaload, 1) := by decide +kernel
theorem dX12_isSo_298 : decode cX12_isSo 298 = .ok (.if_icmp .ne 7, 3) := by decide +kernel
theorem dX12_isSo_301 : decode cX12_isSo 301 = .ok (.iconst 1, 1) := by decide +kernel
theorem dX12_isSo_302 : decode cX12_isSo 302 = .ok (.goto 25, 3) := by decide +kernel
theorem dX12_isSo_305 : decode cX12_isSo 305 = .ok (.iconst 0, 1) := by decide +kernel
theorem dX12_isSo_306 : decode cX12_isSo 306 = .ok (.goto 21, 3) := by decide +kernel
theorem dX12_isSo_309 : decode cX12_isSo 309 = .ok (.iload 4, 2) := by decide +kernel
theorem dX12_isSo_311 : decode cX12_isSo 311 = .ok (.aload_n 0, 1) := by decide +kernel
theorem dX12_isSo_312 : decode cX12_isSo 312 = .ok (.getfield 13, 3) := by decide +kernel
theorem dX12_isSo_315 : decode cX12_isSo 315 = .ok (.iload_n 3, 1) := by decide +kernel
theorem dX12_isSo_316 : decode cX12_isSo 316 = .ok (.iconst 2, 1) := by decide +kernel
theorem dX12_isSo_317 : decode cX12_isSo 317 = .ok (.iadd, 1) := by decide +kernel
theorem dX12_isSo_318 : decode cX12_isSo 318 = .ok (.iaload, 1) := by decide +kernel
theorem dX12_isSo_319 : decode cX12_isSo 319 = .ok (.if_icmp .le 7, 3) := by decide +kernel
theorem dX12_isSo_322 : decode cX12_isSo 322 = .ok (.iconst 1, 1) := by decide +kernel
theorem dX12_isSo_323 : decode cX12_isSo 323 = .ok (.goto 4, 3) := by decide +kernel
theorem dX12_isSo_326 : decode cX12_isSo 326 = .ok (.iconst 0, 1) := by decide +kernel
theorem dX12_isSo_327 : decode cX12_isSo 327 = .ok (.ireturn, 1) := by decide +kernel
theorem dX12_meets_0 : decode cX12_meets 0 = .ok (.aload_n 0, 1) := by decide +kernel
theorem dX12_meets_1 : decode cX12_meets 1 = .ok (.iconst 0, 1) := by decide +kernel
theorem dX12_meets_2 : decode cX12_meets 2 = .ok (.putfield 111, 3) := by decide +kernel
theorem dX12_meets_5 : decode cX12_meets 5 = .ok (.aload_n 0, 1) := by decide +kernel
theorem dX12_meets_6 : decode cX12_meets 6 = .ok (.invokevirtual 259, 3) := by decide +kernel
theorem dX12_meets_9 : decode cX12_meets 9 = .ok (.aload_n 0, 1) := by decide +kernel
theorem dX12_meets_10 : decode cX12_meets 10 = .ok (.getfield 13, 3) := by decide +kernel
theorem dX12_meets_13 : decode cX12_meets 13 = .ok (.sipush 135, 3) := by decide +kernel
theorem dX12_meets_16 : decode cX12_meets 16 = .ok (.iaload, 1) := by decide +kernel
theorem dX12_meets_17 : decode cX12_meets 17 = .ok (.ifCond .eq 8, 3) := by decide +kernel
theorem dX12_meets_20 : decode cX12_meets 20 = .ok (.iload_n 1, 1) := by decide +kernel
theorem dX12_meets_21 : decode cX12_meets 21 = .ok (.iconst (-1), 1) := by decide +kernel
theorem dX12_meets_22 : decode cX12_meets 22 = .ok (.if_icmp .ge 5, 3) := by decide +kernel
theorem dX12_meets_25 : decode cX12_meets 25 = .ok (.iconst (-1), 1) := by decide +kernel
theorem dX12_meets_26 : decode cX12_meets 26 = .ok (.ireturn, 1) := by decide +kernel
theorem dX12_meets_27 : decode cX12_meets 27 = .ok (.iconst 0, 1) := by decide +kernel
theorem dX12_meets_28 : decode cX12_meets 28 = .ok (.istore_n 2, 1) := by decide +kernel
theorem dX12_meets_29 : decode cX12_meets 29 = .ok (.iconst 0, 1) := by decide +kernel
theorem dX12_meets_30 : decode cX12_meets 30 = .ok (.istore_n 3, 1) := by decide +kernel
theorem dX12_meets_31 : decode cX12_meets 31 = .ok (.iload_n 3, 1) := by decide +kernel
theorem dX12_meets_32 : decode cX12_meets 32 = .ok (.aload_n 0, 1) := by decide +kernel
theorem dX12_meets_33 : decode cX12_meets 33 = .ok (.invokevirtual 268, 3) := by decide +kernel
theorem dX12_meets_36 : decode cX12_meets 36 = .ok (.if_icmp .ge 38, 3) := by decide +kernel
theorem dX12_meets_39 : decode cX12_meets 39 = .ok (.aload_n 0, 1) := by decide +kernel
theorem dX12_meets_40 : decode cX12_meets 40 = .ok (.aload_n 0, 1) := by decide +kernel
theorem dX12_meets_41 : decode cX12_meets 41 = .ok (.getfield 13, 3) := by decide +kernel
theorem dX12_meets_44 : decode cX12_meets 44 = .ok (.sipush 136, 3) := by decide +kernel
theorem dX12_meets_47 : decode cX12_meets 47 = .ok (.iaload, 1) := by decide +kernel
theorem dX12_meets_48 : decode cX12_meets 48 = .ok (.iload_n 3, 1) := by decide +kernel
theorem dX12_meets_49 : decode cX12_meets 49 = .ok (.invokevirtual 467, 3) := by decide +kernel
theorem dX12_meets_52 : decode cX12_meets 52 = .ok (.ifCond .ne 6, 3) := by decide +kernel
theorem dX12_meets_55 : decode cX12_meets 55 = .ok (.goto 13, 3) := by decide +kernel
theorem dX12_meets_58 : decode cX12_meets 58 = .ok (.iload_n 2, 1) := by decide +kernel
theorem dX12_meets_59 : decode cX12_meets 59 = .ok (.iload_n 1, 1) := by decide +kernel
theorem dX12_meets_60 : decode cX12_meets 60 = .ok (.if_icmp .ne 5, 3) := by decide +kernel
theorem dX12_meets_63 : decode cX12_meets 63 = .ok (.iload_n 3, 1) := by decide +kernel
theorem dX12_meets_64 : decode cX12_meets 64 = .ok (.ireturn, 1) := by decide +kernel
theorem dX12_meets_65 : decode cX12_meets 65 = .ok (.iinc 2 1, 3) := by decide +kernel
theorem dX12_meets_68 : decode cX12_meets 68 = .ok (.iinc 3 1, 3) := by decide +kernel
theorem dX12_meets_71 : decode cX12_meets 71 = .ok (.goto (-40), 3) := by decide +kernel
theorem dX12_meets_74 : decode cX12_meets 74 = .ok (.iload_n 1, 1) := by decide +kernel
theorem dX12_meets_75 : decode cX12_meets 75 = .ok (.iconst (-1), 1) := by decide +kernel
theorem dX12_meets_76 : decode cX12_meets 76 = .ok (.if_icmp .ne 7, 3) := by decide +kernel
theorem dX12_meets_79 : decode cX12_meets 79 = .ok (.iload_n 2, 1) := by decide +kernel
theorem dX12_meets_80 : decode cX12_meets 80 = .ok (.goto 4, 3) := by decide +kernel
theorem dX12_meets_83 : decode cX12_meets 83 = .ok (.iconst (-1), 1) := by decide +kernel
theorem dX12_meets_84 : decode cX12_meets 84 = .ok (.ireturn, 1) := by decide +kernel
theorem dX12_image_0 : decode cX12_image 0 = .ok (.aload_n 0, 1) := by decide +kernel
theorem dX12_image_1 : decode cX12_image 1 = .ok (.iconst 0, 1) := by decide +kernel
theorem dX12_image_2 : decode cX12_image 2 = .ok (.putfield 111, 3) := by decide +kernel
theorem dX12_image_5 : decode cX12_image 5 = .ok (.aload_n 0, 1) := by decide +kernel
theorem dX12_image_6 : decode cX12_image 6 = .ok (.invokevirtual 259, 3) := by decide +kernel
theorem dX12_image_9 : decode cX12_image 9 = .ok (.iload_n 1, 1) := by decide +kernel
theorem dX12_image_10 : decode cX12_image 10 = .ok (.iconst 0, 1) := by decide +kernel
theorem dX12_image_11 : decode cX12_image 11 = .ok (.iconst 1, 1) := by decide +kernel
theorem dX12_image_12 : decode cX12_image 12 = .ok (.invokestatic 171, 3) := by decide +kernel
theorem dX12_image_15 : decode cX12_image 15 = .ok (.ifCond .ne 5, 3) := by decide +kernel
theorem dX12_image_18 : decode cX12_image 18 = .ok (.iconst 0, 1) := by decide +kernel
theorem dX12_image_19 : decode cX12_image 19 = .ok (.ireturn, 1) := by decide +kernel
theorem dX12_image_20 : decode cX12_image 20 = .ok (.iconst 0, 1) := by decide +kernel
theorem dX12_image_21 : decode cX12_image 21 = .ok (.istore_n 2, 1) := by decide +kernel
theorem dX12_image_22 : decode cX12_image 22 = .ok (.iload_n 2, 1) := by decide +kernel
theorem dX12_image_23 : decode cX12_image 23 = .ok (.sipush 2560, 3) := by decide +kernel
theorem dX12_image_26 : decode cX12_image 26 = .ok (.if_icmp .ge 27, 3) := by decide +kernel
theorem dX12_image_29 : decode cX12_image 29 = .ok (.aload_n 0, 1) := by decide +kernel
theorem dX12_image_30 : decode cX12_image 30 = .ok (.getfield 19, 3) := by decide +kernel
theorem dX12_image_33 : decode cX12_image 33 = .ok (.sipush 2560, 3) := by decide +kernel
theorem dX12_image_36 : decode cX12_image 36 = .ok (.iload_n 1, 1) := by decide +kernel
theorem dX12_image_37 : decode cX12_image 37 = .ok (.imul, 1) := by decide +kernel
theorem dX12_image_38 : decode cX12_image 38 = .ok (.iload_n 2, 1) := by decide +kernel
theorem dX12_image_39 : decode cX12_image 39 = .ok (.iadd, 1) := by decide +kernel
theorem dX12_image_40 : decode cX12_image 40 = .ok (.aload_n 0, 1) := by decide +kernel
theorem dX12_image_41 : decode cX12_image 41 = .ok (.getfield 13, 3) := by decide +kernel
theorem dX12_image_44 : decode cX12_image 44 = .ok (.iload_n 2, 1) := by decide +kernel
theorem dX12_image_45 : decode cX12_image 45 = .ok (.iaload, 1) := by decide +kernel
theorem dX12_image_46 : decode cX12_image 46 = .ok (.iastore, 1) := by decide +kernel
theorem dX12_image_47 : decode cX12_image 47 = .ok (.iinc 2 1, 3) := by decide +kernel
theorem dX12_image_50 : decode cX12_image 50 = .ok (.goto (-28), 3) := by decide +kernel
theorem dX12_image_53 : decode cX12_image 53 = .ok (.iconst 0, 1) := by decide +kernel
theorem dX12_image_54 : decode cX12_image 54 = .ok (.istore_n 2, 1) := by decide +kernel
theorem dX12_image_55 : decode cX12_image 55 = .ok (.iload_n 2, 1) := by decide +kernel
theorem dX12_image_56 : decode cX12_image 56 = .ok (.bipush 24, 2) := by decide +kernel
theorem dX12_image_58 : decode cX12_image 58 = .ok (.if_icmp .ge 26, 3) := by decide +kernel
theorem dX12_image_61 : decode cX12_image 61 = .ok (.aload_n 0, 1) := by decide +kernel
theorem dX12_image_62 : decode cX12_image 62 = .ok (.getfield 29, 3) := by decide +kernel
theorem dX12_image_65 : decode cX12_image 65 = .ok (.bipush 24, 2) := by decide +kernel
theorem dX12_image_67 : decode cX12_image 67 = .ok (.iload_n 1, 1) := by decide +kernel
theorem dX12_image_68 : decode cX12_image 68 = .ok (.imul, 1) := by decide +kernel
theorem dX12_image_69 : decode cX12_image 69 = .ok (.iload_n 2, 1) := by decide +kernel
theorem dX12_image_70 : decode cX12_image 70 = .ok (.iadd, 1) := by decide +kernel
theorem dX12_image_71 : decode cX12_image 71 = .ok (.aload_n 0, 1) := by decide +kernel
theorem dX12_image_72 : decode cX12_image 72 = .ok (.getfield 22, 3) := by decide +kernel
theorem dX12_image_75 : decode cX12_image 75 = .ok (.iload_n 2, 1) := by decide +kernel
theorem dX12_image_76 : decode cX12_image 76 = .ok (.laload, 1) := by decide +kernel
theorem dX12_image_77 : decode cX12_image 77 = .ok (.lastore, 1) := by decide +kernel
theorem dX12_image_78 : decode cX12_image 78 = .ok (.iinc 2 1, 3) := by decide +kernel
theorem dX12_image_81 : decode cX12_image 81 = .ok (.goto (-26), 3) := by decide +kernel
theorem dX12_image_84 : decode cX12_image 84 = .ok (.aload_n 0, 1) := by decide +kernel
theorem dX12_image_85 : decode cX12_image 85 = .ok (.getfield 32, 3) := by decide +kernel
theorem dX12_image_88 : decode cX12_image 88 = .ok (.iload_n 1, 1) := by decide +kernel
theorem dX12_image_89 : decode cX12_image 89 = .ok (.iconst 1, 1) := by decide +kernel
theorem dX12_image_90 : decode cX12_image 90 = .ok (.bastore, 1) := by decide +kernel
theorem dX12_image_91 : decode cX12_image 91 = .ok (.iconst 1, 1) := by decide +kernel
theorem dX12_image_92 : decode cX12_image 92 = .ok (.ireturn, 1) := by decide +kernel
theorem dX12_restore_0 : decode cX12_restore 0 = .ok (.aload_n 0, 1) := by decide +kernel
theorem dX12_restore_1 : decode cX12_restore 1 = .ok (.iconst 0, 1) := by decide +kernel
theorem dX12_restore_2 : decode cX12_restore 2 = .ok (.putfield 111, 3) := by decide +kernel
theorem dX12_restore_5 : decode cX12_restore 5 = .ok (.aload_n 0, 1) := by decide +kernel
theorem dX12_restore_6 : decode cX12_restore 6 = .ok (.invokevirtual 259, 3) := by decide +kernel
theorem dX12_restore_9 : decode cX12_restore 9 = .ok (.iload_n 1, 1) := by decide +kernel
theorem dX12_restore_10 : decode cX12_restore 10 = .ok (.iconst 0, 1) := by decide +kernel
theorem dX12_restore_11 : decode cX12_restore 11 = .ok (.iconst 1, 1) := by decide +kernel
theorem dX12_restore_12 : decode cX12_restore 12 = .ok (.invokestatic 171, 3) := by decide +kernel
theorem dX12_restore_15 : decode cX12_restore 15 = .ok (.ifCond .eq 12, 3) := by decide +kernel
theorem dX12_restore_18 : decode cX12_restore 18 = .ok (.aload_n 0, 1) := by decide +kernel
theorem dX12_restore_19 : decode cX12_restore 19 = .ok (.getfield 32, 3) := by decide +kernel
theorem dX12_restore_22 : decode cX12_restore 22 = .ok (.iload_n 1, 1) := by decide +kernel
theorem dX12_restore_23 : decode cX12_restore 23 = .ok (.baload, 1) := by decide +kernel
theorem dX12_restore_24 : decode cX12_restore 24 = .ok (.ifCond .ne 5, 3) := by decide +kernel
theorem dX12_restore_27 : decode cX12_restore 27 = .ok (.iconst 0, 1) := by decide +kernel
theorem dX12_restore_28 : decode cX12_restore 28 = .ok (.ireturn, 1) := by decide +kernel
theorem dX12_restore_29 : decode cX12_restore 29 = .ok (.iconst 0, 1) := by decide +kernel
theorem dX12_restore_30 : decode cX12_restore 30 = .ok (.istore_n 2, 1) := by decide +kernel
theorem dX12_restore_31 : decode cX12_restore 31 = .ok (.iload_n 2, 1) := by decide +kernel
theorem dX12_restore_32 : decode cX12_restore 32 = .ok (.sipush 2560, 3) := by decide +kernel
theorem dX12_restore_35 : decode cX12_restore 35 = .ok (.if_icmp .ge 27, 3) := by decide +kernel
theorem dX12_restore_38 : decode cX12_restore 38 = .ok (.aload_n 0, 1) := by decide +kernel
theorem dX12_restore_39 : decode cX12_restore 39 = .ok (.getfield 13, 3) := by decide +kernel
theorem dX12_restore_42 : decode cX12_restore 42 = .ok (.iload_n 2, 1) := by decide +kernel
theorem dX12_restore_43 : decode cX12_restore 43 = .ok (.aload_n 0, 1) := by decide +kernel
theorem dX12_restore_44 : decode cX12_restore 44 = .ok (.getfield 19, 3) := by decide +kernel
theorem dX12_restore_47 : decode cX12_restore 47 = .ok (.sipush 2560, 3) := by decide +kernel
theorem dX12_restore_50 : decode cX12_restore 50 = .ok (.iload_n 1, 1) := by decide +kernel
theorem dX12_restore_51 : decode cX12_restore 51 = .ok (.imul, 1) := by decide +kernel
theorem dX12_restore_52 : decode cX12_restore 52 = .ok (.iload_n 2, 1) := by decide +kernel
theorem dX12_restore_53 : decode cX12_restore 53 = .ok (.iadd, 1) := by decide +kernel
theorem dX12_restore_54 : decode cX12_restore 54 = .ok (.iaload, 1) := by decide +kernel
theorem dX12_restore_55 : decode cX12_restore 55 = .ok (.iastore, 1) := by decide +kernel
theorem dX12_restore_56 : decode cX12_restore 56 = .ok (.iinc 2 1, 3) := by decide +kernel
theorem dX12_restore_59 : decode cX12_restore 59 = .ok (.goto (-28), 3) := by decide +kernel
theorem dX12_restore_62 : decode cX12_restore 62 = .ok (.iconst 0, 1) := by decide +kernel
theorem dX12_restore_63 : decode cX12_restore 63 = .ok (.istore_n 2, 1) := by decide +kernel
theorem dX12_restore_64 : decode cX12_restore 64 = .ok (.iload_n 2, 1) := by decide +kernel
theorem dX12_restore_65 : decode cX12_restore 65 = .ok (.bipush 24, 2) := by decide +kernel
theorem dX12_restore_67 : decode cX12_restore 67 = .ok (.if_icmp .ge 26, 3) := by decide +kernel
theorem dX12_restore_70 : decode cX12_restore 70 = .ok (.aload_n 0, 1) := by decide +kernel
theorem dX12_restore_71 : decode cX12_restore 71 = .ok (.getfield 22, 3) := by decide +kernel
theorem dX12_restore_74 : decode cX12_restore 74 = .ok (.iload_n 2, 1) := by decide +kernel
theorem dX12_restore_75 : decode cX12_restore 75 = .ok (.aload_n 0, 1) := by decide +kernel
theorem dX12_restore_76 : decode cX12_restore 76 = .ok (.getfield 29, 3) := by decide +kernel
theorem dX12_restore_79 : decode cX12_restore 79 = .ok (.bipush 24, 2) := by decide +kernel
theorem dX12_restore_81 : decode cX12_restore 81 = .ok (.iload_n 1, 1) := by decide +kernel
theorem dX12_restore_82 : decode cX12_restore 82 = .ok (.imul, 1) := by decide +kernel
theorem dX12_restore_83 : decode cX12_restore 83 = .ok (.iload_n 2, 1) := by decide +kernel
theorem dX12_restore_84 : decode cX12_restore 84 = .ok (.iadd, 1) := by decide +kernel
theorem dX12_restore_85 : decode cX12_restore 85 = .ok (.laload, 1) := by decide +kernel
theorem dX12_restore_86 : decode cX12_restore 86 = .ok (.lastore, 1) := by decide +kernel
theorem dX12_restore_87 : decode cX12_restore 87 = .ok (.iinc 2 1, 3) := by decide +kernel
theorem dX12_restore_90 : decode cX12_restore 90 = .ok (.goto (-26), 3) := by decide +kernel
theorem dX12_restore_93 : decode cX12_restore 93 = .ok (.iconst 1, 1) := by decide +kernel
theorem dX12_restore_94 : decode cX12_restore 94 = .ok (.ireturn, 1) := by decide +kernel
theorem dX12_count_0 : decode cX12_count 0 = .ok (.aload_n 0, 1) := by decide +kernel
theorem dX12_count_1 : decode cX12_count 1 = .ok (.iconst 0, 1) := by decide +kernel
theorem dX12_count_2 : decode cX12_count 2 = .ok (.putfield 111, 3) := by decide +kernel
theorem dX12_count_5 : decode cX12_count 5 = .ok (.aload_n 0, 1) := by decide +kernel
theorem dX12_count_6 : decode cX12_count 6 = .ok (.invokevirtual 259, 3) := by decide +kernel
theorem dX12_count_9 : decode cX12_count 9 = .ok (.iload_n 1, 1) := by decide +kernel
theorem dX12_count_10 : decode cX12_count 10 = .ok (.tableswitch 124 0 9 #[54, 61, 68, 75, 82, 87, 96, 101, 110, 119], 54) := by decide +kernel
theorem dX12_count_64 : decode cX12_count 64 = .ok (.aload_n 0, 1) := by decide +kernel
theorem dX12_count_65 : decode cX12_count 65 = .ok (.getfield 13, 3) := by decide +kernel
theorem dX12_count_68 : decode cX12_count 68 = .ok (.iconst 0, 1) := by decide +kernel
theorem dX12_count_69 : decode cX12_count 69 = .ok (.iaload, 1) := by decide +kernel
theorem dX12_count_70 : decode cX12_count 70 = .ok (.ireturn, 1) := by decide +kernel
theorem dX12_count_71 : decode cX12_count 71 = .ok (.aload_n 0, 1) := by decide +kernel
theorem dX12_count_72 : decode cX12_count 72 = .ok (.getfield 13, 3) := by decide +kernel
theorem dX12_count_75 : decode cX12_count 75 = .ok (.iconst 1, 1) := by decide +kernel
theorem dX12_count_76 : decode cX12_count 76 = .ok (.iaload, 1) := by decide +kernel
theorem dX12_count_77 : decode cX12_count 77 = .ok (.ireturn, 1) := by decide +kernel
theorem dX12_count_78 : decode cX12_count 78 = .ok (.aload_n 0, 1) := by decide +kernel
theorem dX12_count_79 : decode cX12_count 79 = .ok (.getfield 13, 3) := by decide +kernel
theorem dX12_count_82 : decode cX12_count 82 = .ok (.iconst 2, 1) := by decide +kernel
theorem dX12_count_83 : decode cX12_count 83 = .ok (.iaload, 1) := by decide +kernel
theorem dX12_count_84 : decode cX12_count 84 = .ok (.ireturn, 1) := by decide +kernel
theorem dX12_count_85 : decode cX12_count 85 = .ok (.aload_n 0, 1) := by decide +kernel
theorem dX12_count_86 : decode cX12_count 86 = .ok (.getfield 13, 3) := by decide +kernel
theorem dX12_count_89 : decode cX12_count 89 = .ok (.iconst 3, 1) := by decide +kernel
theorem dX12_count_90 : decode cX12_count 90 = .ok (.iaload, 1) := by decide +kernel
theorem dX12_count_91 : decode cX12_count 91 = .ok (.ireturn, 1) := by decide +kernel
theorem dX12_count_92 : decode cX12_count 92 = .ok (.aload_n 0, 1) := by decide +kernel
theorem dX12_count_93 : decode cX12_count 93 = .ok (.invokevirtual 268, 3) := by decide +kernel
theorem dX12_count_96 : decode cX12_count 96 = .ok (.ireturn, 1) := by decide +kernel
theorem dX12_count_97 : decode cX12_count 97 = .ok (.aload_n 0, 1) := by decide +kernel
theorem dX12_count_98 : decode cX12_count 98 = .ok (.getfield 13, 3) := by decide +kernel
theorem dX12_count_101 : decode cX12_count 101 = .ok (.sipush 132, 3) := by decide +kernel
theorem dX12_count_104 : decode cX12_count 104 = .ok (.iaload, 1) := by decide +kernel
theorem dX12_count_105 : decode cX12_count 105 = .ok (.ireturn, 1) := by decide +kernel
theorem dX12_count_106 : decode cX12_count 106 = .ok (.aload_n 0, 1) := by decide +kernel
theorem dX12_count_107 : decode cX12_count 107 = .ok (.invokevirtual 271, 3) := by decide +kernel
theorem dX12_count_110 : decode cX12_count 110 = .ok (.ireturn, 1) := by decide +kernel
theorem dX12_count_111 : decode cX12_count 111 = .ok (.aload_n 0, 1) := by decide +kernel
theorem dX12_count_112 : decode cX12_count 112 = .ok (.getfield 13, 3) := by decide +kernel
theorem dX12_count_115 : decode cX12_count 115 = .ok (.sipush 133, 3) := by decide +kernel
theorem dX12_count_118 : decode cX12_count 118 = .ok (.iaload, 1) := by decide +kernel
theorem dX12_count_119 : decode cX12_count 119 = .ok (.ireturn, 1) := by decide +kernel
theorem dX12_count_120 : decode cX12_count 120 = .ok (.aload_n 0, 1) := by decide +kernel
theorem dX12_count_121 : decode cX12_count 121 = .ok (.getfield 13, 3) := by decide +kernel
theorem dX12_count_124 : decode cX12_count 124 = .ok (.sipush 134, 3) := by decide +kernel
theorem dX12_count_127 : decode cX12_count 127 = .ok (.iaload, 1) := by decide +kernel
theorem dX12_count_128 : decode cX12_count 128 = .ok (.ireturn, 1) := by decide +kernel
theorem dX12_count_129 : decode cX12_count 129 = .ok (.aload_n 0, 1) := by decide +kernel
theorem dX12_count_130 : decode cX12_count 130 = .ok (.getfield 115, 3) := by decide +kernel
theorem dX12_count_133 : decode cX12_count 133 = .ok (.ireturn, 1) := by decide +kernel
theorem dX12_count_134 : decode cX12_count 134 = .ok (.iconst (-1), 1) := by decide +kernel
theorem dX12_count_135 : decode cX12_count 135 = .ok (.ireturn, 1) := by decide +kernel
