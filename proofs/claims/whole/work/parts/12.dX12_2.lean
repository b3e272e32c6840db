theorem dX12_takesStain_53 : decode cX12_takesStain 53 = .ok (.invokestatic 171, 3) := by decide +kernel
theorem dX12_takesStain_56 : decode cX12_takesStain 56 = .ok (.ifCond .eq 19, 3) := by decide +kernel
theorem dX12_takesStain_59 : decode cX12_takesStain 59 = .ok (.iload_n 2, 1) := by decide +kernel
theorem dX12_takesStain_60 : decode cX12_takesStain 60 = .ok (.aload_n 0, 1) := by decide +kernel
theorem dX12_takesStain_61 : decode cX12_takesStain 61 = .ok (.getfield 13, 3) := by decide +kernel
theorem dX12_takesStain_64 : decode cX12_takesStain 64 = .ok (.iconst 0, 1) := by decide +kernel
theorem dX12_takesStain_65 : decode cX12_takesStain 65 = .ok (.iaload, 1) := by decide +kernel
theorem dX12_takesStain_66 : decode cX12_takesStain 66 = .ok (.if_icmp .ne 9, 3) := by decide +kernel
theorem dX12_takesStain_69 : decode cX12_takesStain 69 = .ok (.iload_n 3, 1) := by decide +kernel
theorem dX12_takesStain_70 : decode cX12_takesStain 70 = .ok (.bipush 20, 2) := by decide +kernel
theorem dX12_takesStain_72 : decode cX12_takesStain 72 = .ok (.if_icmp .eq 5, 3) := by decide +kernel
theorem dX12_takesStain_75 : decode cX12_takesStain 75 = .ok (.iconst 0, 1) := by decide +kernel
theorem dX12_takesStain_76 : decode cX12_takesStain 76 = .ok (.ireturn, 1) := by decide +kernel
theorem dX12_takesStain_77 : decode cX12_takesStain 77 = .ok (.aload_n 0, 1) := by decide +kernel
theorem dX12_takesStain_78 : decode cX12_takesStain 78 = .ok (.iconst 0, 1) := by decide +kernel
theorem dX12_takesStain_79 : decode cX12_takesStain 79 = .ok (.putfield 339, 3) := by decide +kernel
theorem dX12_takesStain_82 : decode cX12_takesStain 82 = .ok (.iconst 0, 1) := by decide +kernel
theorem dX12_takesStain_83 : decode cX12_takesStain 83 = .ok (.istore 4, 2) := by decide +kernel
theorem dX12_takesStain_85 : decode cX12_takesStain 85 = .ok (.iload 4, 2) := by decide +kernel
theorem dX12_takesStain_87 : decode cX12_takesStain 87 = .ok (.aload_n 0, 1) := by decide +kernel
theorem dX12_takesStain_88 : decode cX12_takesStain 88 = .ok (.getfield 13, 3) := by decide +kernel
theorem dX12_takesStain_91 : decode cX12_takesStain 91 = .ok (.iconst 1, 1) := by decide +kernel
theorem dX12_takesStain_92 : decode cX12_takesStain 92 = .ok (.iaload, 1) := by decide +kernel
theorem dX12_takesStain_93 : decode cX12_takesStain 93 = .ok (.if_icmp .ge 47, 3) := by decide +kernel
theorem dX12_takesStain_96 : decode cX12_takesStain 96 = .ok (.aload_n 0, 1) := by decide +kernel
theorem dX12_takesStain_97 : decode cX12_takesStain 97 = .ok (.iload_n 1, 1) := by decide +kernel
theorem dX12_takesStain_98 : decode cX12_takesStain 98 = .ok (.iconst 3, 1) := by decide +kernel
theorem dX12_takesStain_99 : decode cX12_takesStain 99 = .ok (.invokevirtual 274, 3) := by decide +kernel
theorem dX12_takesStain_102 : decode cX12_takesStain 102 = .ok (.iload 4, 2) := by decide +kernel
theorem dX12_takesStain_104 : decode cX12_takesStain 104 = .ok (.invokestatic 225, 3) := by decide +kernel
theorem dX12_takesStain_107 : decode cX12_takesStain 107 = .ok (.ifCond .eq 6, 3) := by decide +kernel
theorem dX12_takesStain_110 : decode cX12_takesStain 110 = .ok (.goto 24, 3) := by decide +kernel
theorem dX12_takesStain_113 : decode cX12_takesStain 113 = .ok (.aload_n 0, 1) := by decide +kernel
theorem dX12_takesStain_114 : decode cX12_takesStain 114 = .ok (.getfield 81, 3) := by decide +kernel
theorem dX12_takesStain_117 : decode cX12_takesStain 117 = .ok (.aload_n 0, 1) := by decide +kernel
theorem dX12_takesStain_118 : decode cX12_takesStain 118 = .ok (.getfield 339, 3) := by decide +kernel
theorem dX12_takesStain_121 : decode cX12_takesStain 121 = .ok (.iload 4, 2) := by decide +kernel
theorem dX12_takesStain_123 : decode cX12_takesStain 123 = .ok (.iastore, 1) := by decide +kernel
theorem dX12_takesStain_124 : decode cX12_takesStain 124 = .ok (.aload_n 0, 1) := by decide +kernel
theorem dX12_takesStain_125 : decode cX12_takesStain 125 = .ok (.dup, 1) := by decide +kernel
theorem dX12_takesStain_126 : decode cX12_takesStain 126 = .ok (.getfield 339, 3) := by decide +kernel
theorem dX12_takesStain_129 : decode cX12_takesStain 129 = .ok (.iconst 1, 1) := by decide +kernel
theorem dX12_takesStain_130 : decode cX12_takesStain 130 = .ok (.iadd, 1) := by decide +kernel
theorem dX12_takesStain_131 : decode cX12_takesStain 131 = .ok (.putfield 339, 3) := by decide +kernel
theorem dX12_takesStain_134 : decode cX12_takesStain 134 = .ok (.iinc 4 1, 3) := by decide +kernel
theorem dX12_takesStain_137 : decode cX12_takesStain 137 = .ok (.goto (-52), 3) := by decide +kernel
theorem dX12_takesStain_140 : decode cX12_takesStain 140 = .ok (.iconst 1, 1) := by decide +kernel
theorem dX12_takesStain_141 : decode cX12_takesStain 141 = .ok (.ireturn, 1) := by decide +kernel
theorem dX12_fails_0 : decode cX12_fails 0 = .ok (.lconst 0, 1) := by decide +kernel
theorem dX12_fails_1 : decode cX12_fails 1 = .ok (.lstore_n 2, 1) := by decide +kernel
theorem dX12_fails_2 : decode cX12_fails 2 = .ok (.iconst 0, 1) := by decide +kernel
theorem dX12_fails_3 : decode cX12_fails 3 = .ok (.istore 4, 2) := by decide +kernel
theorem dX12_fails_5 : decode cX12_fails 5 = .ok (.iload 4, 2) := by decide +kernel
theorem dX12_fails_7 : decode cX12_fails 7 = .ok (.aload_n 0, 1) := by decide +kernel
theorem dX12_fails_8 : decode cX12_fails 8 = .ok (.getfield 13, 3) := by decide +kernel
theorem dX12_fails_11 : decode cX12_fails 11 = .ok (.iconst 0, 1) := by decide +kernel
theorem dX12_fails_12 : decode cX12_fails 12 = .ok (.iaload, 1) := by decide +kernel
theorem dX12_fails_13 : decode cX12_fails 13 = .ok (.if_icmp .ge 86, 3) := by decide +kernel
theorem dX12_fails_16 : decode cX12_fails 16 = .ok (.aload_n 0, 1) := by decide +kernel
theorem dX12_fails_17 : decode cX12_fails 17 = .ok (.getfield 7, 3) := by decide +kernel
theorem dX12_fails_20 : decode cX12_fails 20 = .ok (.iload 4, 2) := by decide +kernel
theorem dX12_fails_22 : decode cX12_fails 22 = .ok (.iaload, 1) := by decide +kernel
theorem dX12_fails_23 : decode cX12_fails 23 = .ok (.i2l, 1) := by decide +kernel
theorem dX12_fails_24 : decode cX12_fails 24 = .ok (.lstore 5, 2) := by decide +kernel
theorem dX12_fails_26 : decode cX12_fails 26 = .ok (.iconst 0, 1) := by decide +kernel
theorem dX12_fails_27 : decode cX12_fails 27 = .ok (.istore 7, 2) := by decide +kernel
theorem dX12_fails_29 : decode cX12_fails 29 = .ok (.iload 7, 2) := by decide +kernel
theorem dX12_fails_31 : decode cX12_fails 31 = .ok (.bipush 6, 2) := by decide +kernel
theorem dX12_fails_33 : decode cX12_fails 33 = .ok (.if_icmp .ge 55, 3) := by decide +kernel
theorem dX12_fails_36 : decode cX12_fails 36 = .ok (.lload 5, 2) := by decide +kernel
theorem dX12_fails_38 : decode cX12_fails 38 = .ok (.iload 7, 2) := by decide +kernel
theorem dX12_fails_40 : decode cX12_fails 40 = .ok (.aload_n 0, 1) := by decide +kernel
theorem dX12_fails_41 : decode cX12_fails 41 = .ok (.getfield 339, 3) := by decide +kernel
theorem dX12_fails_44 : decode cX12_fails 44 = .ok (.if_icmp .ge 32, 3) := by decide +kernel
theorem dX12_fails_47 : decode cX12_fails 47 = .ok (.iload_n 1, 1) := by decide +kernel
theorem dX12_fails_48 : decode cX12_fails 48 = .ok (.iload 7, 2) := by decide +kernel
theorem dX12_fails_50 : decode cX12_fails 50 = .ok (.invokestatic 225, 3) := by decide +kernel
theorem dX12_fails_53 : decode cX12_fails 53 = .ok (.ifCond .eq 23, 3) := by decide +kernel
theorem dX12_fails_56 : decode cX12_fails 56 = .ok (.bipush 20, 2) := by decide +kernel
theorem dX12_fails_58 : decode cX12_fails 58 = .ok (.aload_n 0, 1) := by decide +kernel
theorem dX12_fails_59 : decode cX12_fails 59 = .ok (.aload_n 0, 1) := by decide +kernel
theorem dX12_fails_60 : decode cX12_fails 60 = .ok (.getfield 81, 3) := by decide +kernel
theorem dX12_fails_63 : decode cX12_fails 63 = .ok (.iload 7, 2) := by decide +kernel
theorem dX12_fails_65 : decode cX12_fails 65 = .ok (.iaload, 1) := by decide +kernel
theorem dX12_fails_66 : decode cX12_fails 66 = .ok (.iload 4, 2) := by decide +kernel
theorem dX12_fails_68 : decode cX12_fails 68 = .ok (.invokevirtual 342, 3) := by decide +kernel
theorem dX12_fails_71 : decode cX12_fails 71 = .ok (.isub, 1) := by decide +kernel
theorem dX12_fails_72 : decode cX12_fails 72 = .ok (.i2l, 1) := by decide +kernel
theorem dX12_fails_73 : decode cX12_fails 73 = .ok (.goto 6, 3) := by decide +kernel
theorem dX12_fails_76 : decode cX12_fails 76 = .ok (.ldc2_w 345, 3) := by decide +kernel
theorem dX12_fails_79 : decode cX12_fails 79 = .ok (.lmul, 1) := by decide +kernel
theorem dX12_fails_80 : decode cX12_fails 80 = .ok (.lstore 5, 2) := by decide +kernel
theorem dX12_fails_82 : decode cX12_fails 82 = .ok (.iinc 7 1, 3) := by decide +kernel
theorem dX12_fails_85 : decode cX12_fails 85 = .ok (.goto (-56), 3) := by decide +kernel
theorem dX12_fails_88 : decode cX12_fails 88 = .ok (.lload_n 2, 1) := by decide +kernel
theorem dX12_fails_89 : decode cX12_fails 89 = .ok (.lload 5, 2) := by decide +kernel
theorem dX12_fails_91 : decode cX12_fails 91 = .ok (.ladd, 1) := by decide +kernel
theorem dX12_fails_92 : decode cX12_fails 92 = .ok (.lstore_n 2, 1) := by decide +kernel
theorem dX12_fails_93 : decode cX12_fails 93 = .ok (.iinc 4 1, 3) := by decide +kernel
theorem dX12_fails_96 : decode cX12_fails 96 = .ok (.goto (-91), 3) := by decide +kernel
theorem dX12_fails_99 : decode cX12_fails 99 = .ok (.lload_n 2, 1) := by decide +kernel
theorem dX12_fails_100 : decode cX12_fails 100 = .ok (.lreturn, 1) := by decide +kernel
theorem dX12_tryOrder_0 : decode cX12_tryOrder 0 = .ok (.aload_n 0, 1) := by decide +kernel
theorem dX12_tryOrder_1 : decode cX12_tryOrder 1 = .ok (.getfield 347, 3) := by decide +kernel
theorem dX12_tryOrder_4 : decode cX12_tryOrder 4 = .ok (.lconst 0, 1) := by decide +kernel
theorem dX12_tryOrder_5 : decode cX12_tryOrder 5 = .ok (.lcmp, 1) := by decide +kernel
theorem dX12_tryOrder_6 : decode cX12_tryOrder 6 = .ok (.ifCond .lt 13, 3) := by decide +kernel
theorem dX12_tryOrder_9 : decode cX12_tryOrder 9 = .ok (.lload_n 3, 1) := by decide +kernel
theorem dX12_tryOrder_10 : decode cX12_tryOrder 10 = .ok (.aload_n 0, 1) := by decide +kernel
theorem dX12_tryOrder_11 : decode cX12_tryOrder 11 = .ok (.getfield 347, 3) := by decide +kernel
theorem dX12_tryOrder_14 : decode cX12_tryOrder 14 = .ok (.lcmp, 1) := by decide +kernel
theorem dX12_tryOrder_15 : decode cX12_tryOrder 15 = .ok (.ifCond .le 4, 3) := by decide +kernel
theorem dX12_tryOrder_18 : decode cX12_tryOrder 18 = .ok (.return_, 1) := by decide +kernel
theorem dX12_tryOrder_19 : decode cX12_tryOrder 19 = .ok (.iload_n 1, 1) := by decide +kernel
theorem dX12_tryOrder_20 : decode cX12_tryOrder 20 = .ok (.aload_n 0, 1) := by decide +kernel
theorem dX12_tryOrder_21 : decode cX12_tryOrder 21 = .ok (.getfield 339, 3) := by decide +kernel
theorem dX12_tryOrder_24 : decode cX12_tryOrder 24 = .ok (.if_icmp .ne 62, 3) := by decide +kernel
theorem dX12_tryOrder_27 : decode cX12_tryOrder 27 = .ok (.aload_n 0, 1) := by decide +kernel
theorem dX12_tryOrder_28 : decode cX12_tryOrder 28 = .ok (.getfield 347, 3) := by decide +kernel
theorem dX12_tryOrder_31 : decode cX12_tryOrder 31 = .ok (.lconst 0, 1) := by decide +kernel
theorem dX12_tryOrder_32 : decode cX12_tryOrder 32 = .ok (.lcmp, 1) := by decide +kernel
theorem dX12_tryOrder_33 : decode cX12_tryOrder 33 = .ok (.ifCond .lt 13, 3) := by decide +kernel
theorem dX12_tryOrder_36 : decode cX12_tryOrder 36 = .ok (.lload_n 3, 1) := by decide +kernel
theorem dX12_tryOrder_37 : decode cX12_tryOrder 37 = .ok (.aload_n 0, 1) := by decide +kernel
theorem dX12_tryOrder_38 : decode cX12_tryOrder 38 = .ok (.getfield 347, 3) := by decide +kernel
theorem dX12_tryOrder_41 : decode cX12_tryOrder 41 = .ok (.lcmp, 1) := by decide +kernel
theorem dX12_tryOrder_42 : decode cX12_tryOrder 42 = .ok (.ifCond .lt 4, 3) := by decide +kernel
theorem dX12_tryOrder_45 : decode cX12_tryOrder 45 = .ok (.return_, 1) := by decide +kernel
theorem dX12_tryOrder_46 : decode cX12_tryOrder 46 = .ok (.aload_n 0, 1) := by decide +kernel
theorem dX12_tryOrder_47 : decode cX12_tryOrder 47 = .ok (.lload_n 3, 1) := by decide +kernel
theorem dX12_tryOrder_48 : decode cX12_tryOrder 48 = .ok (.putfield 347, 3) := by decide +kernel
theorem dX12_tryOrder_51 : decode cX12_tryOrder 51 = .ok (.iconst 0, 1) := by decide +kernel
theorem dX12_tryOrder_52 : decode cX12_tryOrder 52 = .ok (.istore 5, 2) := by decide +kernel
theorem dX12_tryOrder_54 : decode cX12_tryOrder 54 = .ok (.iload 5, 2) := by decide +kernel
theorem dX12_tryOrder_56 : decode cX12_tryOrder 56 = .ok (.iload_n 1, 1) := by decide +kernel
theorem dX12_tryOrder_57 : decode cX12_tryOrder 57 = .ok (.if_icmp .ge 28, 3) := by decide +kernel
theorem dX12_tryOrder_60 : decode cX12_tryOrder 60 = .ok (.aload_n 0, 1) := by decide +kernel
theorem dX12_tryOrder_61 : decode cX12_tryOrder 61 = .ok (.getfield 78, 3) := by decide +kernel
theorem dX12_tryOrder_64 : decode cX12_tryOrder 64 = .ok (.iload 5, 2) := by decide +kernel
theorem dX12_tryOrder_66 : decode cX12_tryOrder 66 = .ok (.aload_n 0, 1) := by decide +kernel
theorem dX12_tryOrder_67 : decode cX12_tryOrder 67 = .ok (.getfield 81, 3) := by decide +kernel
theorem dX12_tryOrder_70 : decode cX12_tryOrder 70 = .ok (.aload_n 0, 1) := by decide +kernel
theorem dX12_tryOrder_71 : decode cX12_tryOrder 71 = .ok (.getfield 75, 3) := by decide +kernel
theorem dX12_tryOrder_74 : decode cX12_tryOrder 74 = .ok (.iload 5, 2) := by decide +kernel
theorem dX12_tryOrder_76 : decode cX12_tryOrder 76 = .ok (.iaload, 1) := by decide +kernel
theorem dX12_tryOrder_77 : decode cX12_tryOrder 77 = .ok (.iaload, 1) := by decide +kernel
theorem dX12_tryOrder_78 : decode cX12_tryOrder 78 = .ok (.iastore, 1) := by decide +kernel
theorem dX12_tryOrder_79 : decode cX12_tryOrder 79 = .ok (.iinc 5 1, 3) := by decide +kernel
theorem dX12_tryOrder_82 : decode cX12_tryOrder 82 = .ok (.goto (-28), 3) := by decide +kernel
theorem dX12_tryOrder_85 : decode cX12_tryOrder 85 = .ok (.return_, 1) := by decide +kernel
theorem dX12_tryOrder_86 : decode cX12_tryOrder 86 = .ok (.aload_n 0, 1) := by decide +kernel
theorem dX12_tryOrder_87 : decode cX12_tryOrder 87 = .ok (.iload_n 2, 1) := by decide +kernel
theorem dX12_tryOrder_88 : decode cX12_tryOrder 88 = .ok (.invokevirtual 350, 3) := by decide +kernel
theorem dX12_tryOrder_91 : decode cX12_tryOrder 91 = .ok (.lstore 5, 2) := by decide +kernel
theorem dX12_tryOrder_93 : decode cX12_tryOrder 93 = .ok (.iconst 0, 1) := by decide +kernel
theorem dX12_tryOrder_94 : decode cX12_tryOrder 94 = .ok (.istore 7, 2) := by decide +kernel
theorem dX12_tryOrder_96 : decode cX12_tryOrder 96 = .ok (.iload 7, 2) := by decide +kernel
theorem dX12_tryOrder_98 : decode cX12_tryOrder 98 = .ok (.aload_n 0, 1) := by decide +kernel
theorem dX12_tryOrder_99 : decode cX12_tryOrder 99 = .ok (.getfield 339, 3) := by decide +kernel
theorem dX12_tryOrder_102 : decode cX12_tryOrder 102 = .ok (.if_icmp .ge 66, 3) := by decide +kernel
theorem dX12_tryOrder_105 : decode cX12_tryOrder 105 = .ok (.iload_n 2, 1) := by decide +kernel
theorem dX12_tryOrder_106 : decode cX12_tryOrder 106 = .ok (.iload 7, 2) := by decide +kernel
theorem dX12_tryOrder_108 : decode cX12_tryOrder 108 = .ok (.invokestatic 225, 3) := by decide +kernel
theorem dX12_tryOrder_111 : decode cX12_tryOrder 111 = .ok (.ifCond .eq 6, 3) := by decide +kernel
theorem dX12_tryOrder_114 : decode cX12_tryOrder 114 = .ok (.goto 48, 3) := by decide +kernel
theorem dX12_tryOrder_117 : decode cX12_tryOrder 117 = .ok (.aload_n 0, 1) := by decide +kernel
theorem dX12_tryOrder_118 : decode cX12_tryOrder 118 = .ok (.getfield 75, 3) := by decide +kernel
theorem dX12_tryOrder_121 : decode cX12_tryOrder 121 = .ok (.iload_n 1, 1) := by decide +kernel
theorem dX12_tryOrder_122 : decode cX12_tryOrder 122 = .ok (.iload 7, 2) := by decide +kernel
theorem dX12_tryOrder_124 : decode cX12_tryOrder 124 = .ok (.iastore, 1) := by decide +kernel
theorem dX12_tryOrder_125 : decode cX12_tryOrder 125 = .ok (.aload_n 0, 1) := by decide +kernel
theorem dX12_tryOrder_126 : decode cX12_tryOrder 126 = .ok (.iload_n 1, 1) := by decide +kernel
theorem dX12_tryOrder_127 : decode cX12_tryOrder 127 = .ok (.iconst 1, 1) := by decide +kernel
theorem dX12_tryOrder_128 : decode cX12_tryOrder 128 = .ok (.iadd, 1) := by decide +kernel
theorem dX12_tryOrder_129 : decode cX12_tryOrder 129 = .ok (.iload_n 2, 1) := by decide +kernel
theorem dX12_tryOrder_130 : decode cX12_tryOrder 130 = .ok (.iconst 1, 1) := by decide +kernel
theorem dX12_tryOrder_131 : decode cX12_tryOrder 131 = .ok (.iload 7, 2) := by decide +kernel
theorem dX12_tryOrder_133 : decode cX12_tryOrder 133 = .ok (.ishl, 1) := by decide +kernel
theorem dX12_tryOrder_134 : decode cX12_tryOrder 134 = .ok (.ior, 1) := by decide +kernel
theorem dX12_tryOrder_135 : decode cX12_tryOrder 135 = .ok (.lload_n 3, 1) := by decide +kernel
theorem dX12_tryOrder_136 : decode cX12_tryOrder 136 = .ok (.aload_n 0, 1) := by decide +kernel
theorem dX12_tryOrder_137 : decode cX12_tryOrder 137 = .ok (.getfield 13, 3) := by decide +kernel
theorem dX12_tryOrder_140 : decode cX12_tryOrder 140 = .ok (.bipush 10, 2) := by decide +kernel
theorem dX12_tryOrder_142 : decode cX12_tryOrder 142 = .ok (.bipush 8, 2) := by decide +kernel
theorem dX12_tryOrder_144 : decode cX12_tryOrder 144 = .ok (.aload_n 0, 1) := by decide +kernel
theorem dX12_tryOrder_145 : decode cX12_tryOrder 145 = .ok (.getfield 81, 3) := by decide +kernel
theorem dX12_tryOrder_148 : decode cX12_tryOrder 148 = .ok (.iload 7, 2) := by decide +kernel
theorem dX12_tryOrder_150 : decode cX12_tryOrder 150 = .ok (.iaload, 1) := by decide +kernel
theorem dX12_tryOrder_151 : decode cX12_tryOrder 151 = .ok (.imul, 1) := by decide +kernel
theorem dX12_tryOrder_152 : decode cX12_tryOrder 152 = .ok (.iadd, 1) := by decide +kernel
theorem dX12_tryOrder_153 : decode cX12_tryOrder 153 = .ok (.iaload, 1) := by decide +kernel
theorem dX12_tryOrder_154 : decode cX12_tryOrder 154 = .ok (.i2l, 1) := by decide +kernel
theorem dX12_tryOrder_155 : decode cX12_tryOrder 155 = .ok (.lload 5, 2) := by decide +kernel
theorem dX12_tryOrder_157 : decode cX12_tryOrder 157 = .ok (.lmul, 1) := by decide +kernel
theorem dX12_tryOrder_158 : decode cX12_tryOrder 158 = .ok (.ladd, 1) := by decide +kernel
theorem dX12_tryOrder_159 : decode cX12_tryOrder 159 = .ok (.invokevirtual 353, 3) := by decide +kernel
theorem dX12_tryOrder_162 : decode cX12_tryOrder 162 = .ok (.iinc 7 1, 3) := by decide +kernel
theorem dX12_tryOrder_165 : decode cX12_tryOrder 165 = .ok (.goto (-69), 3) := by decide +kernel
theorem dX12_tryOrder_168 : decode cX12_tryOrder 168 = .ok (.return_, 1) := by decide +kernel
theorem dX12_best_0 : decode cX12_best 0 = .ok (.aload_n 0, 1) := by decide +kernel
theorem dX12_best_1 : decode cX12_best 1 = .ok (.iconst 0, 1) := by decide +kernel
theorem dX12_best_2 : decode cX12_best 2 = .ok (.putfield 111, 3) := by decide +kernel
theorem dX12_best_5 : decode cX12_best 5 = .ok (.aload_n 0, 1) := by decide +kernel
theorem dX12_best_6 : decode cX12_best 6 = .ok (.iload_n 1, 1) := by decide +kernel
theorem dX12_best_7 : decode cX12_best 7 = .ok (.invokevirtual 357, 3) := by decide +kernel
theorem dX12_best_10 : decode cX12_best 10 = .ok (.ifCond .ne 7, 3) := by decide +kernel
theorem dX12_best_13 : decode cX12_best 13 = .ok (.ldc2_w 327, 3) := by decide +kernel
theorem dX12_best_16 : decode cX12_best 16 = .ok (.lreturn, 1) := by decide +kernel
theorem dX12_best_17 : decode cX12_best 17 = .ok (.aload_n 0, 1) := by decide +kernel
theorem dX12_best_18 : decode cX12_best 18 = .ok (.ldc2_w 327, 3) := by decide +kernel
theorem dX12_best_21 : decode cX12_best 21 = .ok (.putfield 347, 3) := by decide +kernel
theorem dX12_best_24 : decode cX12_best 24 = .ok (.aload_n 0, 1) := by decide +kernel
theorem dX12_best_25 : decode cX12_best 25 = .ok (.iconst 0, 1) := by decide +kernel
theorem dX12_best_26 : decode cX12_best 26 = .ok (.iconst 0, 1) := by decide +kernel
theorem dX12_best_27 : decode cX12_best 27 = .ok (.lconst 0, 1) := by decide +kernel
theorem dX12_best_28 : decode cX12_best 28 = .ok (.invokevirtual 353, 3) := by decide +kernel
theorem dX12_best_31 : decode cX12_best 31 = .ok (.aload_n 0, 1) := by decide +kernel
theorem dX12_best_32 : decode cX12_best 32 = .ok (.aload_n 0, 1) := by decide +kernel
theorem dX12_best_33 : decode cX12_best 33 = .ok (.getfield 339, 3) := by decide +kernel
theorem dX12_best_36 : decode cX12_best 36 = .ok (.putfield 360, 3) := by decide +kernel
theorem dX12_best_39 : decode cX12_best 39 = .ok (.aload_n 0, 1) := by decide +kernel
theorem dX12_best_40 : decode cX12_best 40 = .ok (.getfield 347, 3) := by decide +kernel
theorem dX12_best_43 : decode cX12_best 43 = .ok (.lreturn, 1) := by decide +kernel
theorem dX12_bestAt_0 : decode cX12_bestAt 0 = .ok (.aload_n 0, 1) := by decide +kernel
theorem dX12_bestAt_1 : decode cX12_bestAt 1 = .ok (.iconst 0, 1) := by decide +kernel
theorem dX12_bestAt_2 : decode cX12_bestAt 2 = .ok (.putfield 111, 3) := by decide +kernel
theorem dX12_bestAt_5 : decode cX12_bestAt 5 = .ok (.iload_n 1, 1) := by decide +kernel
theorem dX12_bestAt_6 : decode cX12_bestAt 6 = .ok (.ifCond .lt 20, 3) := by decide +kernel
theorem dX12_bestAt_9 : decode cX12_bestAt 9 = .ok (.iload_n 1, 1) := by decide +kernel
theorem dX12_bestAt_10 : decode cX12_bestAt 10 = .ok (.aload_n 0, 1) := by decide +kernel
theorem dX12_bestAt_11 : decode cX12_bestAt 11 = .ok (.getfield 360, 3) := by decide +kernel
theorem dX12_bestAt_14 : decode cX12_bestAt 14 = .ok (.if_icmp .ge 12, 3) := by decide +kernel
theorem dX12_bestAt_17 : decode cX12_bestAt 17 = .ok (.aload_n 0, 1) := by decide +kernel
theorem dX12_bestAt_18 : decode cX12_bestAt 18 = .ok (.getfield 78, 3) := by decide +kernel
theorem dX12_bestAt_21 : decode cX12_bestAt 21 = .ok (.iload_n 1, 1) := by decide +kernel
theorem dX12_bestAt_22 : decode cX12_bestAt 22 = .ok (.iaload, 1) := by decide +kernel
theorem dX12_bestAt_23 : decode cX12_bestAt 23 = .ok (.goto 4, 3) := by decide +kernel
theorem dX12_bestAt_26 : decode cX12_bestAt 26 = .ok (.iconst (-1), 1) := by decide +kernel
theorem dX12_bestAt_27 : decode cX12_bestAt 27 = .ok (.ireturn, 1) := by decide +kernel
theorem dX12_bits_0 : decode cX12_bits 0 = .ok (.iconst 0, 1) := by decide +kernel
theorem dX12_bits_1 : decode cX12_bits 1 = .ok (.istore_n 1, 1) := by decide +kernel
theorem dX12_bits_2 : decode cX12_bits 2 = .ok (.iload_n 0, 1) := by decide +kernel
theorem dX12_bits_3 : decode cX12_bits 3 = .ok (.istore_n 2, 1) := by decide +kernel
theorem dX12_bits_4 : decode cX12_bits 4 = .ok (.iload_n 2, 1) := by decide +kernel
theorem dX12_bits_5 : decode cX12_bits 5 = .ok (.ifCond .eq 15, 3) := by decide +kernel
theorem dX12_bits_8 : decode cX12_bits 8 = .ok (.iinc 1 1, 3) := by decide +kernel
theorem dX12_bits_11 : decode cX12_bits 11 = .ok (.iload_n 2, 1) := by decide +kernel
theorem dX12_bits_12 : decode cX12_bits 12 = .ok (.iload_n 2, 1) := by decide +kernel
theorem dX12_bits_13 : decode cX12_bits 13 = .ok (.iconst 1, 1) := by decide +kernel
theorem dX12_bits_14 : decode cX12_bits 14 = .ok (.isub, 1) := by decide +kernel
theorem dX12_bits_15 : decode cX12_bits 15 = .ok (.iand, 1) := by decide +kernel
theorem dX12_bits_16 : decode cX12_bits 16 = .ok (.istore_n 2, 1) := by decide +kernel
theorem dX12_bits_17 : decode cX12_bits 17 = .ok (.goto (-13), 3) := by decide +kernel
theorem dX12_bits_20 : decode cX12_bits 20 = .ok (.iload_n 1, 1) := by decide +kernel
theorem dX12_bits_21 : decode cX12_bits 21 = .ok (.ireturn, 1) := by decide +kernel
theorem dX12_out_0 : decode cX12_out 0 = .ok (.aload_n 0, 1) := by decide +kernel
theorem dX12_out_1 : decode cX12_out 1 = .ok (.iconst 0, 1) := by decide +kernel
theorem dX12_out_2 : decode cX12_out 2 = .ok (.putfield 111, 3) := by decide +kernel
theorem dX12_out_5 : decode cX12_out 5 = .ok (.aload_n 0, 1) := by decide +kernel
theorem dX12_out_6 : decode cX12_out 6 = .ok (.iload_n 1, 1) := by decide +kernel
theorem dX12_out_7 : decode cX12_out 7 = .ok (.invokevirtual 357, 3) := by decide +kernel
theorem dX12_out_10 : decode cX12_out 10 = .ok (.istore_n 3, 1) := by decide +kernel
theorem dX12_out_11 : decode cX12_out 11 = .ok (.iload_n 3, 1) := by decide +kernel
theorem dX12_out_12 : decode cX12_out 12 = .ok (.ifCond .eq 13, 3) := by decide +kernel
theorem dX12_out_15 : decode cX12_out 15 = .ok (.iload_n 2, 1) := by decide +kernel
theorem dX12_out_16 : decode cX12_out 16 = .ok (.iconst 0, 1) := by decide +kernel
theorem dX12_out_17 : decode cX12_out 17 = .ok (.bipush 6, 2) := by decide +kernel
theorem dX12_out_19 : decode cX12_out 19 = .ok (.invokestatic 171, 3) := by decide +kernel
theorem dX12_out_22 : decode cX12_out 22 = .ok (.ifCond .ne 7, 3) := by decide +kernel
theorem dX12_out_25 : decode cX12_out 25 = .ok (.ldc2_w 327, 3) := by decide +kernel
theorem dX12_out_28 : decode cX12_out 28 = .ok (.lreturn, 1) := by decide +kernel
theorem dX12_out_29 : decode cX12_out 29 = .ok (.lconst 0, 1) := by decide +kernel
theorem dX12_out_30 : decode cX12_out 30 = .ok (.lstore 4, 2) := by decide +kernel
theorem dX12_out_32 : decode cX12_out 32 = .ok (.iconst 0, 1) := by decide +kernel
theorem dX12_out_33 : decode cX12_out 33 = .ok (.istore 6, 2) := by decide +kernel
theorem dX12_out_35 : decode cX12_out 35 = .ok (.iload 6, 2) := by decide +kernel
theorem dX12_out_37 : decode cX12_out 37 = .ok (.iconst 1, 1) := by decide +kernel
theorem dX12_out_38 : decode cX12_out 38 = .ok (.aload_n 0, 1) := by decide +kernel
theorem dX12_out_39 : decode cX12_out 39 = .ok (.getfield 339, 3) := by decide +kernel
theorem dX12_out_42 : decode cX12_out 42 = .ok (.ishl, 1) := by decide +kernel
theorem dX12_out_43 : decode cX12_out 43 = .ok (.if_icmp .ge 42, 3) := by decide +kernel
theorem dX12_out_46 : decode cX12_out 46 = .ok (.ldc2_w 363, 3) := by decide +kernel
theorem dX12_out_49 : decode cX12_out 49 = .ok (.aload_n 0, 1) := by decide +kernel
theorem dX12_out_50 : decode cX12_out 50 = .ok (.iload 6, 2) := by decide +kernel
theorem dX12_out_52 : decode cX12_out 52 = .ok (.invokevirtual 350, 3) := by decide +kernel
theorem dX12_out_55 : decode cX12_out 55 = .ok (.lsub, 1) := by decide +kernel
theorem dX12_out_56 : decode cX12_out 56 = .ok (.lstore 7, 2) := by decide +kernel
theorem dX12_out_58 : decode cX12_out 58 = .ok (.iload 6, 2) := by decide +kernel
theorem dX12_out_60 : decode cX12_out 60 = .ok (.invokestatic 365, 3) := by decide +kernel
theorem dX12_out_63 : decode cX12_out 63 = .ok (.iload_n 2, 1) := by decide +kernel
theorem dX12_out_64 : decode cX12_out 64 = .ok (.if_icmp .gt 15, 3) := by decide +kernel
theorem dX12_out_67 : decode cX12_out 67 = .ok (.lload 7, 2) := by decide +kernel
theorem dX12_out_69 : decode cX12_out 69 = .ok (.lload 4, 2) := by decide +kernel
theorem dX12_out_71 : decode cX12_out 71 = .ok (.lcmp, 1) := by decide +kernel
theorem dX12_out_72 : decode cX12_out 72 = .ok (.ifCond .le 7, 3) := by decide +kernel
theorem dX12_out_75 : decode cX12_out 75 = .ok (.lload 7, 2) := by decide +kernel
theorem dX12_out_77 : decode cX12_out 77 = .ok (.lstore 4, 2) := by decide +kernel
theorem dX12_out_79 : decode cX12_out 79 = .ok (.iinc 6 1, 3) := by decide +kernel
theorem dX12_out_82 : decode cX12_out 82 = .ok (.goto (-47), 3) := by decide +kernel
theorem dX12_out_85 : decode cX12_out 85 = .ok (.lload 4, 2) := by decide +kernel
theorem dX12_out_87 : decode cX12_out 87 = .ok (.lreturn, 1) := by decide +kernel
theorem dX12_isTwice_0 : decode cX12_isTwice 0 = .ok (.iconst (-1), 1) := by decide +kernel
theorem dX12_isTwice_1 : decode cX12_isTwice 1 = .ok (.istore_n 2, 1) := by decide +kernel
theorem dX12_isTwice_2 : decode cX12_isTwice 2 = .ok (.iconst 0, 1) := by decide +kernel
theorem dX12_isTwice_3 : decode cX12_isTwice 3 = .ok (.istore_n 3, 1) := by decide +kernel
theorem dX12_isTwice_4 : decode cX12_isTwice 4 = .ok (.iload_n 3, 1) := by decide +kernel
theorem dX12_isTwice_5 : decode cX12_isTwice 5 = .ok (.aload_n 0, 1) := by decide +kernel
theorem dX12_isTwice_6 : decode cX12_isTwice 6 = .ok (.getfield 13, 3) := by decide +kernel
theorem dX12_isTwice_9 : decode cX12_isTwice 9 = .ok (.sipush 132, 3) := by decide +kernel
theorem dX12_isTwice_12 : decode cX12_isTwice 12 = .ok (.iaload, 1) := by decide +kernel
theorem dX12_isTwice_13 : decode cX12_isTwice 13 = .ok (.if_icmp .ge 67, 3) := by decide +kernel
theorem dX12_isTwice_16 : decode cX12_isTwice 16 = .ok (.sipush 640, 3) := by decide +kernel
theorem dX12_isTwice_19 : decode cX12_isTwice 19 = .ok (.iconst 3, 1) := by decide +kernel
theorem dX12_isTwice_20 : decode cX12_isTwice 20 = .ok (.iload_n 3, 1) := by decide +kernel
theorem dX12_isTwice_21 : decode cX12_isTwice 21 = .ok (.imul, 1) := by decide +kernel
theorem dX12_isTwice_22 : decode cX12_isTwice 22 = .ok (.iadd, 1) := by decide +kernel
theorem dX12_isTwice_23 : decode cX12_isTwice 23 = .ok (.istore 4, 2) := by decide +kernel
theorem dX12_isTwice_25 : decode cX12_isTwice 25 = .ok (.aload_n 0, 1) := by decide +kernel
theorem dX12_isTwice_26 : decode cX12_isTwice 26 = .ok (.getfield 13, 3) := by decide +kernel
theorem dX12_isTwice_29 : decode cX12_isTwice 29 = .ok (.iload 4, 2) := by decide +kernel
theorem dX12_isTwice_31 : decode cX12_isTwice 31 = .ok (.iaload, 1) := by decide +kernel
theorem dX12_isTwice_32 : decode cX12_isTwice 32 = .ok (.bipush 8, 2) := by decide +kernel
theorem dX12_isTwice_34 : decode cX12_isTwice 34 = .ok (.iload_n 1, 1) := by decide +kernel
theorem dX12_isTwice_35 : decode cX12_isTwice 35 = .ok (.imul, 1) := by decide +kernel
theorem dX12_isTwice_36 : decode cX12_isTwice 36 = .ok (.iconst 1, 1) := by decide +kernel
theorem dX12_isTwice_37 : decode cX12_isTwice 37 = .ok (.iadd, 1) := by decide +kernel
theorem dX12_isTwice_38 : decode cX12_isTwice 38 = .ok (.if_icmp .eq 6, 3) := by decide +kernel
theorem dX12_isTwice_41 : decode cX12_isTwice 41 = .ok (.goto 33, 3) := by decide +kernel
theorem dX12_isTwice_44 : decode cX12_isTwice 44 = .ok (.iload_n 2, 1) := by decide +kernel
theorem dX12_isTwice_45 : decode cX12_isTwice 45 = .ok (.iconst (-1), 1) := by decide +kernel
theorem dX12_isTwice_46 : decode cX12_isTwice 46 = .ok (.if_icmp .eq 18, 3) := by decide +kernel
theorem dX12_isTwice_49 : decode cX12_isTwice 49 = .ok (.aload_n 0, 1) := by decide +kernel
theorem dX12_isTwice_50 : decode cX12_isTwice 50 = .ok (.getfield 13, 3) := by decide +kernel
theorem dX12_isTwice_53 : decode cX12_isTwice 53 = .ok (.iload 4, 2) := by decide +kernel
theorem dX12_isTwice_55 : decode cX12_isTwice 55 = .ok (.iconst 1, 1) := by decide +kernel
theorem dX12_isTwice_56 : decode cX12_isTwice 56 = .ok (.iadd, 1) := by decide +kernel
theorem dX12_isTwice_57 : decode cX12_isTwice 57 = .ok (.iaload, 1) := by decide +kernel
theorem dX12_isTwice_58 : decode cX12_isTwice 58 = .ok (.iload_n 2, 1) := by decide +kernel
theorem dX12_isTwice_59 : decode cX12_isTwice 59 = .ok (.if_icmp .eq 5, 3) := by decide +kernel
theorem dX12_isTwice_62 : decode cX12_isTwice 62 = .ok (.iconst 1, 1) := by decide +kernel
theorem dX12_isTwice_63 : decode cX12_isTwice 63 = .ok (.ireturn, 1) := by decide +kernel
theorem dX12_isTwice_64 : decode cX12_isTwice 64 = .ok (.aload_n 0, 1) := by decide +kernel
theorem dX12_isTwice_65 : decode cX12_isTwice 65 = .ok (.getfield 13, 3) := by decide +kernel
theorem dX12_isTwice_68 : decode cX12_isTwice 68 = .ok (.iload 4, 2) := by decide +kernel
theorem dX12_isTwice_70 : decode cX12_isTwice 70 = .ok (.iconst 1, 1) := by decide +kernel
theorem dX12_isTwice_71 : decode cX12_isTwice 71 = .ok (.iadd, 1) := by decide +kernel
theorem dX12_isTwice_72 : decode cX12_isTwice 72 = .ok (.iaload, 1) := by decide +kernel
theorem dX12_isTwice_73 : decode cX12_isTwice 73 = .ok (.istore_n 2, 1) := by decide +kernel
theorem dX12_isTwice_74 : decode cX12_isTwice 74 = .ok (.iinc 3 1, 3) := by decide +kernel
theorem dX12_isTwice_77 : decode cX12_isTwice 77 = .ok (.goto (-73), 3) := by decide +kernel
theorem dX12_isTwice_80 : decode cX12_isTwice 80 = .ok (.iconst 0, 1) := by decide +kernel
theorem dX12_isTwice_81 : decode cX12_isTwice 81 = .ok (.ireturn, 1) := by decide +kernel
theorem dX12_twice_0 : decode cX12_twice 0 = .ok (.aload_n 0, 1) := by decide +kernel
theorem dX12_twice_1 : decode cX12_twice 1 = .ok (.iconst 0, 1) := by decide +kernel
theorem dX12_twice_2 : decode cX12_twice 2 = .ok (.putfield 111, 3) := by decide +kernel
theorem dX12_twice_5 : decode cX12_twice 5 = .ok (.aload_n 0, 1) := by decide +kernel
theorem dX12_twice_6 : decode cX12_twice 6 = .ok (.invokevirtual 259, 3) := by decide +kernel
theorem dX12_twice_9 : decode cX12_twice 9 = .ok (.iload_n 1, 1) := by decide +kernel
theorem dX12_twice_10 : decode cX12_twice 10 = .ok (.iconst (-1), 1) := by decide +kernel
theorem dX12_twice_11 : decode cX12_twice 11 = .ok (.if_icmp .eq 14, 3) := by decide +kernel
theorem dX12_twice_14 : decode cX12_twice 14 = .ok (.aload_n 0, 1) := by decide +kernel
theorem dX12_twice_15 : decode cX12_twice 15 = .ok (.iload_n 1, 1) := by decide +kernel
theorem dX12_twice_16 : decode cX12_twice 16 = .ok (.invokevirtual 278, 3) := by decide +kernel
theorem dX12_twice_19 : decode cX12_twice 19 = .ok (.ifCond .ne 6, 3) := by decide +kernel
theorem dX12_twice_22 : decode cX12_twice 22 = .ok (.bipush (-2), 2) := by decide +kernel
theorem dX12_twice_24 : decode cX12_twice 24 = .ok (.ireturn, 1) := by decide +kernel
theorem dX12_twice_25 : decode cX12_twice 25 = .ok (.iload_n 1, 1) := by decide +kernel
theorem dX12_twice_26 : decode cX12_twice 26 = .ok (.iconst (-1), 1) := by decide +kernel
theorem dX12_twice_27 : decode cX12_twice 27 = .ok (.if_icmp .eq 17, 3) := by decide +kernel
theorem dX12_twice_30 : decode cX12_twice 30 = .ok (.aload_n 0, 1) := by decide +kernel
theorem dX12_twice_31 : decode cX12_twice 31 = .ok (.iload_n 1, 1) := by decide +kernel
theorem dX12_twice_32 : decode cX12_twice 32 = .ok (.invokevirtual 368, 3) := by decide +kernel
theorem dX12_twice_35 : decode cX12_twice 35 = .ok (.ifCond .eq 7, 3) := by decide +kernel
theorem dX12_twice_38 : decode cX12_twice 38 = .ok (.iconst 1, 1) := by decide +kernel
theorem dX12_twice_39 : decode cX12_twice 39 = .ok (.goto 4, 3) := by decide +kernel
theorem dX12_twice_42 : decode cX12_twice 42 = .ok (.iconst 0, 1) := by decide +kernel
theorem dX12_twice_43 : decode cX12_twice 43 = .ok (.ireturn, 1) := by decide +kernel
theorem dX12_twice_44 : decode cX12_twice 44 = .ok (.iconst 0, 1) := by decide +kernel
theorem dX12_twice_45 : decode cX12_twice 45 = .ok (.istore_n 2, 1) := by decide +kernel
theorem dX12_twice_46 : decode cX12_twice 46 = .ok (.iconst 0, 1) := by decide +kernel
theorem dX12_twice_47 : decode cX12_twice 47 = .ok (.istore_n 3, 1) := by decide +kernel
theorem dX12_twice_48 : decode cX12_twice 48 = .ok (.iload_n 3, 1) := by decide +kernel
theorem dX12_twice_49 : decode cX12_twice 49 = .ok (.aload_n 0, 1) := by decide +kernel
theorem dX12_twice_50 : decode cX12_twice 50 = .ok (.invokevirtual 268, 3) := by decide +kernel
theorem dX12_twice_53 : decode cX12_twice 53 = .ok (.if_icmp .ge 20, 3) := by decide +kernel
theorem dX12_twice_56 : decode cX12_twice 56 = .ok (.aload_n 0, 1) := by decide +kernel
theorem dX12_twice_57 : decode cX12_twice 57 = .ok (.iload_n 3, 1) := by decide +kernel
theorem dX12_twice_58 : decode cX12_twice 58 = .ok (.invokevirtual 368, 3) := by decide +kernel
theorem dX12_twice_61 : decode cX12_twice 61 = .ok (.ifCond .eq 6, 3) := by decide +kernel
theorem dX12_twice_64 : decode cX12_twice 64 = .ok (.iinc 2 1, 3) := by decide +kernel
theorem dX12_twice_67 : decode cX12_twice 67 = .ok (.iinc 3 1, 3) := by decide +kernel
theorem dX12_twice_70 : decode cX12_twice 70 = .ok (.goto (-22), 3) := by decide +kernel
theorem dX12_twice_73 : decode cX12_twice 73 = .ok (.iload_n 2, 1) := by decide +kernel
theorem dX12_twice_74 : decode cX12_twice 74 = .ok (.ireturn, 1) := by decide +kernel
theorem dX12_contract_0 : decode cX12_contract 0 = .ok (.aload_n 0, 1) := by decide +kernel
theorem dX12_contract_1 : decode cX12_contract 1 = .ok (.iconst 0, 1) := by decide +kernel
theorem dX12_contract_2 : decode cX12_contract 2 = .ok (.putfield 111, 3) := by decide +kernel
theorem dX12_contract_5 : decode cX12_contract 5 = .ok (.aload_n 0, 1) := by decide +kernel
theorem dX12_contract_6 : decode cX12_contract 6 = .ok (.invokevirtual 259, 3) := by decide +kernel
theorem dX12_contract_9 : decode cX12_contract 9 = .ok (.iload_n 1, 1) := by decide +kernel
theorem dX12_contract_10 : decode cX12_contract 10 = .ok (.iconst 0, 1) := by decide +kernel
theorem dX12_contract_11 : decode cX12_contract 11 = .ok (.bipush 39, 2) := by decide +kernel
theorem dX12_contract_13 : decode cX12_contract 13 = .ok (.invokestatic 171, 3) := by decide +kernel
theorem dX12_contract_16 : decode cX12_contract 16 = .ok (.ifCond .eq 24, 3) := by decide +kernel
theorem dX12_contract_19 : decode cX12_contract 19 = .ok (.iload_n 2, 1) := by decide +kernel
theorem dX12_contract_20 : decode cX12_contract 20 = .ok (.iconst 0, 1) := by decide +kernel
theorem dX12_contract_21 : decode cX12_contract 21 = .ok (.bipush 30, 2) := by decide +kernel
theorem dX12_contract_23 : decode cX12_contract 23 = .ok (.invokestatic 171, 3) := by decide +kernel
theorem dX12_contract_26 : decode cX12_contract 26 = .ok (.ifCond .eq 14, 3) := by decide +kernel
theorem dX12_contract_29 : decode cX12_contract 29 = .ok (.iload_n 3, 1) := by decide +kernel
theorem dX12_contract_30 : decode cX12_contract 30 = .ok (.iconst 0, 1) := by decide +kernel
theorem dX12_contract_31 : decode cX12_contract 31 = .ok (.sipush 999, 3) := by decide +kernel
theorem dX12_contract_34 : decode cX12_contract 34 = .ok (.invokestatic 171, 3) := by decide +kernel
theorem dX12_contract_37 : decode cX12_contract 37 = .ok (.ifCond .ne 5, 3) := by decide +kernel
theorem dX12_contract_40 : decode cX12_contract 40 = .ok (.iconst 0, 1) := by decide +kernel
theorem dX12_contract_41 : decode cX12_contract 41 = .ok (.ireturn, 1) := by decide +kernel
theorem dX12_contract_42 : decode cX12_contract 42 = .ok (.aload_n 0, 1) := by decide +kernel
theorem dX12_contract_43 : decode cX12_contract 43 = .ok (.getfield 13, 3) := by decide +kernel
theorem dX12_contract_46 : decode cX12_contract 46 = .ok (.sipush 2340, 3) := by decide +kernel
theorem dX12_contract_49 : decode cX12_contract 49 = .ok (.iload_n 1, 1) := by decide +kernel
theorem dX12_contract_50 : decode cX12_contract 50 = .ok (.iadd, 1) := by decide +kernel
theorem dX12_contract_51 : decode cX12_contract 51 = .ok (.sipush 1000, 3) := by decide +kernel
theorem dX12_contract_54 : decode cX12_contract 54 = .ok (.iload_n 2, 1) := by decide +kernel
theorem dX12_contract_55 : decode cX12_contract 55 = .ok (.imul, 1) := by decide +kernel
theorem dX12_contract_56 : decode cX12_contract 56 = .ok (.iload_n 3, 1) := by decide +kernel
theorem dX12_contract_57 : decode cX12_contract 57 = .ok (.iadd, 1) := by decide +kernel
theorem dX12_contract_58 : decode cX12_contract 58 = .ok (.iastore, 1) := by decide +kernel
theorem dX12_contract_59 : decode cX12_contract 59 = .ok (.iconst 1, 1) := by decide +kernel
theorem dX12_contract_60 : decode cX12_contract 60 = .ok (.ireturn, 1) := by decide +kernel
theorem dX12_cameTo_0 : decode cX12_cameTo 0 = .ok (.iconst (-1), 1) := by decide +kernel
theorem dX12_cameTo_1 : decode cX12_cameTo 1 = .ok (.istore_n 2, 1) := by decide +kernel
theorem dX12_cameTo_2 : decode cX12_cameTo 2 = .ok (.iconst 0, 1) := by decide +kernel
theorem dX12_cameTo_3 : decode cX12_cameTo 3 = .ok (.istore_n 3, 1) := by decide +kernel
theorem dX12_cameTo_4 : decode cX12_cameTo 4 = .ok (.iload_n 3, 1) := by decide +kernel
theorem dX12_cameTo_5 : decode cX12_cameTo 5 = .ok (.aload_n 0, 1) := by decide +kernel
theorem dX12_cameTo_6 : decode cX12_cameTo 6 = .ok (.getfield 13, 3) := by decide +kernel
theorem dX12_cameTo_9 : decode cX12_cameTo 9 = .ok (.sipush 132, 3) := by decide +kernel
theorem dX12_cameTo_12 : decode cX12_cameTo 12 = .ok (.iaload, 1) := by decide +kernel
theorem dX12_cameTo_13 : decode cX12_cameTo 13 = .ok (.if_icmp .ge 62, 3) := by decide +kernel
theorem dX12_cameTo_16 : decode cX12_cameTo 16 = .ok (.sipush 640, 3) := by decide +kernel
theorem dX12_cameTo_19 : decode cX12_cameTo 19 = .ok (.iconst 3, 1) := by decide +kernel
theorem dX12_cameTo_20 : decode cX12_cameTo 20 = .ok (.iload_n 3, 1) := by decide +kernel
theorem dX12_cameTo_21 : decode cX12_cameTo 21 = .ok (.imul, 1) := by decide +kernel
theorem dX12_cameTo_22 : decode cX12_cameTo 22 = .ok (.iadd, 1) := by decide +kernel
theorem dX12_cameTo_23 : decode cX12_cameTo 23 = .ok (.istore 4, 2) := by decide +kernel
theorem dX12_cameTo_25 : decode cX12_cameTo 25 = .ok (.aload_n 0, 1) := by decide +kernel
theorem dX12_cameTo_26 : decode cX12_cameTo 26 = .ok (.getfield 13, 3) := by decide +kernel
theorem dX12_cameTo_29 : decode cX12_cameTo 29 = .ok (.iload 4, 2) := by decide +kernel
theorem dX12_cameTo_31 : decode cX12_cameTo 31 = .ok (.iaload, 1) := by decide +kernel
theorem dX12_cameTo_32 : decode cX12_cameTo 32 = .ok (.bipush 8, 2) := by decide +kernel
theorem dX12_cameTo_34 : decode cX12_cameTo 34 = .ok (.iload_n 1, 1) := by decide +kernel
theorem dX12_cameTo_35 : decode cX12_cameTo 35 = .ok (.imul, 1) := by decide +kernel
theorem dX12_cameTo_36 : decode cX12_cameTo 36 = .ok (.iconst 2, 1) := by decide +kernel
theorem dX12_cameTo_37 : decode cX12_cameTo 37 = .ok (.iadd, 1) := by decide +kernel
theorem dX12_cameTo_38 : decode cX12_cameTo 38 = .ok (.if_icmp .ne 31, 3) := by decide +kernel
theorem dX12_cameTo_41 : decode cX12_cameTo 41 = .ok (.iload_n 2, 1) := by decide +kernel
theorem dX12_cameTo_42 : decode cX12_cameTo 42 = .ok (.iconst (-1), 1) := by decide +kernel
theorem dX12_cameTo_43 : decode cX12_cameTo 43 = .ok (.if_icmp .eq 16, 3) := by decide +kernel
theorem dX12_cameTo_46 : decode cX12_cameTo 46 = .ok (.aload_n 0, 1) := by decide +kernel
theorem dX12_cameTo_47 : decode cX12_cameTo 47 = .ok (.getfield 13, 3) := by decide +kernel
theorem dX12_cameTo_50 : decode cX12_cameTo 50 = .ok (.iload 4, 2) := by decide +kernel
theorem dX12_cameTo_52 : decode cX12_cameTo 52 = .ok (.iconst 1, 1) := by decide +kernel
theorem dX12_cameTo_53 : decode cX12_cameTo 53 = .ok (.iadd, 1) := by decide +kernel
theorem dX12_cameTo_54 : decode cX12_cameTo 54 = .ok (.iaload, 1) := by decide +kernel
theorem dX12_cameTo_55 : decode cX12_cameTo 55 = .ok (.iload_n 2, 1) := by decide +kernel
theorem dX12_cameTo_56 : decode cX12_cameTo 56 = .ok (.if_icmp .ge 13, 3) := by decide +kernel
theorem dX12_cameTo_59 : decode cX12_cameTo 59 = .ok (.aload_n 0, 1) := by decide +kernel
theorem dX12_cameTo_60 : decode cX12_cameTo 60 = .ok (.getfield 13, 3) := by decide +kernel
theorem dX12_cameTo_63 : decode cX12_cameTo 63 = .ok (.iload 4, 2) := by decide +kernel
theorem dX12_cameTo_65 : decode cX12_cameTo 65 = .ok (.iconst 1, 1) := by decide +kernel
theorem dX12_cameTo_66 : decode cX12_cameTo 66 = .ok (.iadd, 1) := by decide +kernel
theorem dX12_cameTo_67 : decode cX12_cameTo 67 = .ok (.iaload, 1) := by decide +kernel
theorem dX12_cameTo_68 : decode cX12_cameTo 68 = .ok (.istore_n 2, 1) := by decide +kernel
theorem dX12_cameTo_69 : decode cX12_cameTo 69 = .ok (.iinc 3 1, 3) := by decide +kernel
theorem dX12_cameTo_72 : decode cX12_cameTo 72 = .ok (.goto (-68), 3) := by decide +kernel
theorem dX12_cameTo_75 : decode cX12_cameTo 75 = .ok (.iload_n 2, 1) := by decide +kernel
theorem dX12_cameTo_76 : decode cX12_cameTo 76 = .ok (.iconst (-1), 1) := by decide +kernel
theorem dX12_cameTo_77 : decode cX12_cameTo 77 = .ok (.if_icmp .ne 18, 3) := by decide +kernel
theorem dX12_cameTo_80 : decode cX12_cameTo 80 = .ok (.aload_n 0, 1) := by decide +kernel
theorem dX12_cameTo_81 : decode cX12_cameTo 81 = .ok (.iload_n 1, 1) := by decide +kernel
theorem dX12_cameTo_82 : decode cX12_cameTo 82 = .ok (.invokevirtual 324, 3) := by decide +kernel
theorem dX12_cameTo_85 : decode cX12_cameTo 85 = .ok (.ifCond .eq 10, 3) := by decide +kernel
theorem dX12_cameTo_88 : decode cX12_cameTo 88 = .ok (.aload_n 0, 1) := by decide +kernel
theorem dX12_cameTo_89 : decode cX12_cameTo 89 = .ok (.invokevirtual 271, 3) := by decide +kernel
theorem dX12_cameTo_92 : decode cX12_cameTo 92 = .ok (.goto 4, 3) := by decide +kernel
theorem dX12_cameTo_95 : decode cX12_cameTo 95 = .ok (.iload_n 2, 1) := by decide +kernel
theorem dX12_cameTo_96 : decode cX12_cameTo 96 = .ok (.ireturn, 1) := by decide +kernel
theorem dX12_owed_0 : decode cX12_owed 0 = .ok (.aload_n 0, 1) := by decide +kernel
theorem dX12_owed_1 : decode cX12_owed 1 = .ok (.iconst 0, 1) := by decide +kernel
theorem dX12_owed_2 : decode cX12_owed 2 = .ok (.putfield 111, 3) := by decide +kernel
theorem dX12_owed_5 : decode cX12_owed 5 = .ok (.aload_n 0, 1) := by decide +kernel
theorem dX12_owed_6 : decode cX12_owed 6 = .ok (.invokevirtual 259, 3) := by decide +kernel
theorem dX12_owed_9 : decode cX12_owed 9 = .ok (.iload_n 1, 1) := by decide +kernel
theorem dX12_owed_10 : decode cX12_owed 10 = .ok (.iconst 0, 1) := by decide +kernel
theorem dX12_owed_11 : decode cX12_owed 11 = .ok (.bipush 39, 2) := by decide +kernel
theorem dX12_owed_13 : decode cX12_owed 13 = .ok (.invokestatic 171, 3) := by decide +kernel
theorem dX12_owed_16 : decode cX12_owed 16 = .ok (.ifCond .eq 17, 3) := by decide +kernel
theorem dX12_owed_19 : decode cX12_owed 19 = .ok (.aload_n 0, 1) := by decide +kernel
theorem dX12_owed_20 : decode cX12_owed 20 = .ok (.getfield 13, 3) := by decide +kernel
theorem dX12_owed_23 : decode cX12_owed 23 = .ok (.sipush 2340, 3) := by decide +kernel
theorem dX12_owed_26 : decode cX12_owed 26 = .ok (.iload_n 1, 1) := by decide +kernel
theorem dX12_owed_27 : decode cX12_owed 27 = .ok (.iadd, 1) := by decide +kernel
theorem dX12_owed_28 : decode cX12_owed 28 = .ok (.iaload, 1) := by decide +kernel
theorem dX12_owed_29 : decode cX12_owed 29 = .ok (.iconst (-1), 1) := by decide +kernel
theorem dX12_owed_30 : decode cX12_owed 30 = .ok (.if_icmp .ne 5, 3) := by decide +kernel
theorem dX12_owed_33 : decode cX12_owed 33 = .ok (.iconst (-1), 1) := by decide +kernel
theorem dX12_owed_34 : decode cX12_owed 34 = .ok (.ireturn, 1) := by decide +kernel
theorem dX12_owed_35 : decode cX12_owed 35 = .ok (.iconst 0, 1) := by decide +kernel
theorem dX12_owed_36 : decode cX12_owed 36 = .ok (.istore_n 2, 1) := by decide +kernel
theorem dX12_owed_37 : decode cX12_owed 37 = .ok (.iconst 0, 1) := by decide +kernel
theorem dX12_owed_38 : decode cX12_owed 38 = .ok (.istore_n 3, 1) := by decide +kernel
theorem dX12_owed_39 : decode cX12_owed 39 = .ok (.iload_n 3, 1) := by decide +kernel
theorem dX12_owed_40 : decode cX12_owed 40 = .ok (.aload_n 0, 1) := by decide +kernel
theorem dX12_owed_41 : decode cX12_owed 41 = .ok (.invokevirtual 268, 3) := by decide +kernel
theorem dX12_owed_44 : decode cX12_owed 44 = .ok (.if_icmp .ge 77, 3) := by decide +kernel
theorem dX12_owed_47 : decode cX12_owed 47 = .ok (.aload_n 0, 1) := by decide +kernel
theorem dX12_owed_48 : decode cX12_owed 48 = .ok (.iload_n 3, 1) := by decide +kernel
theorem dX12_owed_49 : decode cX12_owed 49 = .ok (.iconst 5, 1) := by decide +kernel
theorem dX12_owed_50 : decode cX12_owed 50 = .ok (.invokevirtual 284, 3) := by decide +kernel
theorem dX12_owed_53 : decode cX12_owed 53 = .ok (.iload_n 1, 1) := by decide +kernel
theorem dX12_owed_54 : decode cX12_owed 54 = .ok (.if_icmp .eq 6, 3) := by decide +kernel
theorem dX12_owed_57 : decode cX12_owed 57 = .ok (.goto 58, 3) := by decide +kernel
theorem dX12_owed_60 : decode cX12_owed 60 = .ok (.aload_n 0, 1) := by decide +kernel
theorem dX12_owed_61 : decode cX12_owed 61 = .ok (.iload_n 3, 1) := by decide +kernel
theorem dX12_owed_62 : decode cX12_owed 62 = .ok (.invokevirtual 371, 3) := by decide +kernel
theorem dX12_owed_65 : decode cX12_owed 65 = .ok (.aload_n 0, 1) := by decide +kernel
theorem dX12_owed_66 : decode cX12_owed 66 = .ok (.iload_n 3, 1) := by decide +kernel
theorem dX12_owed_67 : decode cX12_owed 67 = .ok (.bipush 6, 2) := by decide +kernel
theorem dX12_owed_69 : decode cX12_owed 69 = .ok (.invokevirtual 284, 3) := by decide +kernel
theorem dX12_owed_72 : decode cX12_owed 72 = .ok (.isub, 1) := by decide +kernel
theorem dX12_owed_73 : decode cX12_owed 73 = .ok (.aload_n 0, 1) := by decide +kernel
theorem dX12_owed_74 : decode cX12_owed 74 = .ok (.getfield 13, 3) := by decide +kernel
theorem dX12_owed_77 : decode cX12_owed 77 = .ok (.sipush 2340, 3) := by decide +kernel
theorem dX12_owed_80 : decode cX12_owed 80 = .ok (.iload_n 1, 1) := by decide +kernel
theorem dX12_owed_81 : decode cX12_owed 81 = .ok (.iadd, 1) := by decide +kernel
theorem dX12_owed_82 : decode cX12_owed 82 = .ok (.iaload, 1) := by decide +kernel
theorem dX12_owed_83 : decode cX12_owed 83 = .ok (.sipush 1000, 3) := by decide +kernel
theorem dX12_owed_86 : decode cX12_owed 86 = .ok (.idiv, 1) := by decide +kernel
theorem dX12_owed_87 : decode cX12_owed 87 = .ok (.isub, 1) := by decide +kernel
theorem dX12_owed_88 : decode cX12_owed 88 = .ok (.istore 4, 2) := by decide +kernel
theorem dX12_owed_90 : decode cX12_owed 90 = .ok (.iload 4, 2) := by decide +kernel
theorem dX12_owed_92 : decode cX12_owed 92 = .ok (.ifCond .le 23, 3) := by decide +kernel
theorem dX12_owed_95 : decode cX12_owed 95 = .ok (.iload_n 2, 1) := by decide +kernel
theorem dX12_owed_96 : decode cX12_owed 96 = .ok (.iload 4, 2) := by decide +kernel
theorem dX12_owed_98 : decode cX12_owed 98 = .ok (.aload_n 0, 1) := by decide +kernel
theorem dX12_owed_99 : decode cX12_owed 99 = .ok (.getfield 13, 3) := by decide +kernel
theorem dX12_owed_102 : decode cX12_owed 102 = .ok (.sipush 2340, 3) := by decide +kernel
theorem dX12_owed_105 : decode cX12_owed 105 = .ok (.iload_n 1, 1) := by decide +kernel
theorem dX12_owed_106 : decode cX12_owed 106 = .ok (.iadd, 1) := by decide +kernel
theorem dX12_owed_107 : decode cX12_owed 107 = .ok (.iaload, 1) := by decide +kernel
theorem dX12_owed_108 : decode cX12_owed 108 = .ok (.sipush 1000, 3) := by decide +kernel
theorem dX12_owed_111 : decode cX12_owed 111 = .ok (.irem, 1) := by decide +kernel
theorem dX12_owed_112 : decode cX12_owed 112 = .ok (.imul, 1) := by decide +kernel
theorem dX12_owed_113 : decode cX12_owed 113 = .ok (.iadd, 1) := by decide +kernel
theorem dX12_owed_114 : decode cX12_owed 114 = .ok (.istore_n 2, 1) := by decide +kernel
theorem dX12_owed_115 : decode cX12_owed 115 = .ok (.iinc 3 1, 3) := by decide +kernel
theorem dX12_owed_118 : decode cX12_owed 118 = .ok (.goto (-79), 3) := by decide +kernel
theorem dX12_owed_121 : decode cX12_owed 121 = .ok (.iload_n 2, 1) := by decide +kernel
theorem dX12_owed_122 : decode cX12_owed 122 = .ok (.ireturn, 1) := by decide +kernel
theorem dX12_drum_0 : decode cX12_drum 0 = .ok (.aload_n 0, 1) := by decide +kernel
theorem dX12_drum_1 : decode cX12_drum 1 = .ok (.iconst 0, 1) := by decide +kernel
theorem dX12_drum_2 : decode cX12_drum 2 = .ok (.putfield 111, 3) := by decide +kernel
theorem dX12_drum_5 : decode cX12_drum 5 = .ok (.aload_n 0, 1) := by decide +kernel
theorem dX12_drum_6 : decode cX12_drum 6 = .ok (.invokevirtual 259, 3) := by decide +kernel
theorem dX12_drum_9 : decode cX12_drum 9 = .ok (.iload_n 1, 1) := by decide +kernel
theorem dX12_drum_10 : decode cX12_drum 10 = .ok (.iconst 1, 1) := by decide +kernel
theorem dX12_drum_11 : decode cX12_drum 11 = .ok (.bipush 99, 2) := by decide +kernel
theorem dX12_drum_13 : decode cX12_drum 13 = .ok (.invokestatic 171, 3) := by decide +kernel
theorem dX12_drum_16 : decode cX12_drum 16 = .ok (.ifCond .eq 19, 3) := by decide +kernel
theorem dX12_drum_19 : decode cX12_drum 19 = .ok (.iload_n 2, 1) := by decide +kernel
theorem dX12_drum_20 : decode cX12_drum 20 = .ok (.iconst 0, 1) := by decide +kernel
theorem dX12_drum_21 : decode cX12_drum 21 = .ok (.aload_n 0, 1) := by decide +kernel
theorem dX12_drum_22 : decode cX12_drum 22 = .ok (.getfield 13, 3) := by decide +kernel
theorem dX12_drum_25 : decode cX12_drum 25 = .ok (.iconst 3, 1) := by decide +kernel
theorem dX12_drum_26 : decode cX12_drum 26 = .ok (.iaload, 1) := by decide +kernel
theorem dX12_drum_27 : decode cX12_drum 27 = .ok (.iconst 1, 1) := by decide +kernel
theorem dX12_drum_28 : decode cX12_drum 28 = .ok (.isub, 1) := by decide +kernel
theorem dX12_drum_29 : decode cX12_drum 29 = .ok (.invokestatic 171, 3) := by decide +kernel
theorem dX12_drum_32 : decode cX12_drum 32 = .ok (.ifCond .ne 5, 3) := by decide +kernel
theorem dX12_drum_35 : decode cX12_drum 35 = .ok (.iconst 0, 1) := by decide +kernel
theorem dX12_drum_36 : decode cX12_drum 36 = .ok (.ireturn, 1) := by decide +kernel
theorem dX12_drum_37 : decode cX12_drum 37 = .ok (.aload_n 0, 1) := by decide +kernel
theorem dX12_drum_38 : decode cX12_drum 38 = .ok (.getfield 13, 3) := by decide +kernel
theorem dX12_drum_41 : decode cX12_drum 41 = .ok (.sipush 2240, 3) := by decide +kernel
theorem dX12_drum_44 : decode cX12_drum 44 = .ok (.iload_n 1, 1) := by decide +kernel
theorem dX12_drum_45 : decode cX12_drum 45 = .ok (.iadd, 1) := by decide +kernel
theorem dX12_drum_46 : decode cX12_drum 46 = .ok (.iload_n 2, 1) := by decide +kernel
theorem dX12_drum_47 : decode cX12_drum 47 = .ok (.iastore, 1) := by decide +kernel
theorem dX12_drum_48 : decode cX12_drum 48 = .ok (.iconst 1, 1) := by decide +kernel
theorem dX12_drum_49 : decode cX12_drum 49 = .ok (.ireturn, 1) := by decide +kernel
theorem dX12_isRun_0 : decode cX12_isRun 0 = .ok (.aload_n 0, 1) := by decide +kernel
theorem dX12_isRun_1 : decode cX12_isRun 1 = .ok (.iload_n 1, 1) := by decide +kernel
theorem dX12_isRun_2 : decode cX12_isRun 2 = .ok (.iconst 1, 1) := by decide +kernel
theorem dX12_isRun_3 : decode cX12_isRun 3 = .ok (.invokevirtual 284, 3) := by decide +kernel
theorem dX12_isRun_6 : decode cX12_isRun 6 = .ok (.iconst 2, 1) := by decide +kernel
theorem dX12_isRun_7 : decode cX12_isRun 7 = .ok (.if_icmp .eq 13, 3) := by decide +kernel
theorem dX12_isRun_10 : decode cX12_isRun 10 = .ok (.aload_n 0, 1) := by decide +kernel
theorem dX12_isRun_11 : decode cX12_isRun 11 = .ok (.iload_n 1, 1) := by decide +kernel
theorem dX12_isRun_12 : decode cX12_isRun 12 = .ok (.bipush 9, 2) := by decide +kernel
theorem dX12_isRun_14 : decode cX12_isRun 14 = .ok (.invokevirtual 284, 3) := by decide +kernel
theorem dX12_isRun_17 : decode cX12_isRun 17 = .ok (.ifCond .ne 5, 3) := by decide +kernel
theorem dX12_isRun_20 : decode cX12_isRun 20 = .ok (.iconst 0, 1) := by decide +kernel
theorem dX12_isRun_21 : decode cX12_isRun 21 = .ok (.ireturn, 1) := by decide +kernel
theorem dX12_isRun_22 : decode cX12_isRun 22 = .ok (.iconst 0, 1) := by decide +kernel
theorem dX12_isRun_23 : decode cX12_isRun 23 = .ok (.istore_n 2, 1) := by decide +kernel
theorem dX12_isRun_24 : decode cX12_isRun 24 = .ok (.iload_n 2, 1) := by decide +kernel
theorem dX12_isRun_25 : decode cX12_isRun 25 = .ok (.aload_n 0, 1) := by decide +kernel
theorem dX12_isRun_26 : decode cX12_isRun 26 = .ok (.invokevirtual 268, 3) := by decide +kernel
theorem dX12_isRun_29 : decode cX12_isRun 29 = .ok (.if_icmp .ge 53, 3) := by decide +kernel
theorem dX12_isRun_32 : decode cX12_isRun 32 = .ok (.aload_n 0, 1) := by decide +kernel
theorem dX12_isRun_33 : decode cX12_isRun 33 = .ok (.iload_n 2, 1) := by decide +kernel
theorem dX12_isRun_34 : decode cX12_isRun 34 = .ok (.bipush 9, 2) := by decide +kernel
theorem dX12_isRun_36 : decode cX12_isRun 36 = .ok (.invokevirtual 284, 3) := by decide +kernel
theorem dX12_isRun_39 : decode cX12_isRun 39 = .ok (.aload_n 0, 1) := by decide +kernel
theorem dX12_isRun_40 : decode cX12_isRun 40 = .ok (.iload_n 1, 1) := by decide +kernel
theorem dX12_isRun_41 : decode cX12_isRun 41 = .ok (.bipush 9, 2) := by decide +kernel
theorem dX12_isRun_43 : decode cX12_isRun 43 = .ok (.invokevirtual 284, 3) := by decide +kernel
theorem dX12_isRun_46 : decode cX12_isRun 46 = .ok (.if_icmp .ne 30, 3) := by decide +kernel
theorem dX12_isRun_49 : decode cX12_isRun 49 = .ok (.aload_n 0, 1) := by decide +kernel
theorem dX12_isRun_50 : decode cX12_isRun 50 = .ok (.iload_n 2, 1) := by decide +kernel
theorem dX12_isRun_51 : decode cX12_isRun 51 = .ok (.iconst 1, 1) := by decide +kernel
theorem dX12_isRun_52 : decode cX12_isRun 52 = .ok (.invokevirtual 284, 3) := by decide +kernel
theorem dX12_isRun_55 : decode cX12_isRun 55 = .ok (.iconst 2, 1) := by decide +kernel
theorem dX12_isRun_56 : decode cX12_isRun 56 = .ok (.if_icmp .ne 20, 3) := by decide +kernel
theorem dX12_isRun_59 : decode cX12_isRun 59 = .ok (.aload_n 0, 1) := by decide +kernel
theorem dX12_isRun_60 : decode cX12_isRun 60 = .ok (.aload_n 0, 1) := by decide +kernel
theorem dX12_isRun_61 : decode cX12_isRun 61 = .ok (.iload_n 2, 1) := by decide +kernel
theorem dX12_isRun_62 : decode cX12_isRun 62 = .ok (.iconst 0, 1) := by decide +kernel
theorem dX12_isRun_63 : decode cX12_isRun 63 = .ok (.invokevirtual 284, 3) := by decide +kernel
theorem dX12_isRun_66 : decode cX12_isRun 66 = .ok (.iconst 2, 1) := by decide +kernel
theorem dX12_isRun_67 : decode cX12_isRun 67 = .ok (.invokevirtual 274, 3) := by decide +kernel
theorem dX12_isRun_70 : decode cX12_isRun 70 = .ok (.iconst 1, 1) := by decide +kernel
theorem dX12_isRun_71 : decode cX12_isRun 71 = .ok (.if_icmp .ne 5, 3) := by decide +kernel
theorem dX12_isRun_74 : decode cX12_isRun 74 = .ok (.iconst 1, 1) := by decide +kernel
theorem dX12_isRun_75 : decode cX12_isRun 75 = .ok (.ireturn, 1) := by decide +kernel
theorem dX12_isRun_76 : decode cX12_isRun 76 = .ok (.iinc 2 1, 3) := by decide +kernel
theorem dX12_isRun_79 : decode cX12_isRun 79 = .ok (.goto (-55), 3) := by decide +kernel
theorem dX12_isRun_82 : decode cX12_isRun 82 = .ok (.iconst 0, 1) := by decide +kernel
theorem dX12_isRun_83 : decode cX12_isRun 83 = .ok (.ireturn, 1) := by decide +kernel
theorem dX12_run_0 : decode cX12_run 0 = .ok (.aload_n 0, 1) := by decide +kernel
theorem dX12_run_1 : decode cX12_run 1 = .ok (.iconst 0, 1) := by decide +kernel
theorem dX12_run_2 : decode cX12_run 2 = .ok (.putfield 111, 3) := by decide +kernel
theorem dX12_run_5 : decode cX12_run 5 = .ok (.aload_n 0, 1) := by decide +kernel
theorem dX12_run_6 : decode cX12_run 6 = .ok (.invokevirtual 259, 3) := by decide +kernel
theorem dX12_run_9 : decode cX12_run 9 = .ok (.iload_n 1, 1) := by decide +kernel
theorem dX12_run_10 : decode cX12_run 10 = .ok (.iconst (-1), 1) := by decide +kernel
theorem dX12_run_11 : decode cX12_run 11 = .ok (.if_icmp .ge 5, 3) := by decide +kernel
theorem dX12_run_14 : decode cX12_run 14 = .ok (.iconst (-1), 1) := by decide +kernel
theorem dX12_run_15 : decode cX12_run 15 = .ok (.ireturn, 1) := by decide +kernel
theorem dX12_run_16 : decode cX12_run 16 = .ok (.iconst 0, 1) := by decide +kernel
theorem dX12_run_17 : decode cX12_run 17 = .ok (.istore_n 2, 1) := by decide +kernel
theorem dX12_run_18 : decode cX12_run 18 = .ok (.iconst 0, 1) := by decide +kernel
theorem dX12_run_19 : decode cX12_run 19 = .ok (.istore_n 3, 1) := by decide +kernel
theorem dX12_run_20 : decode cX12_run 20 = .ok (.iload_n 3, 1) := by decide +kernel
theorem dX12_run_21 : decode cX12_run 21 = .ok (.aload_n 0, 1) := by decide +kernel
theorem dX12_run_22 : decode cX12_run 22 = .ok (.invokevirtual 268, 3) := by decide +kernel
theorem dX12_run_25 : decode cX12_run 25 = .ok (.if_icmp .ge 30, 3) := by decide +kernel
theorem dX12_run_28 : decode cX12_run 28 = .ok (.aload_n 0, 1) := by decide +kernel
theorem dX12_run_29 : decode cX12_run 29 = .ok (.iload_n 3, 1) := by decide +kernel
theorem dX12_run_30 : decode cX12_run 30 = .ok (.invokevirtual 374, 3) := by decide +kernel
theorem dX12_run_33 : decode cX12_run 33 = .ok (.ifCond .ne 6, 3) := by decide +kernel
theorem dX12_run_36 : decode cX12_run 36 = .ok (.goto 13, 3) := by decide +kernel
theorem dX12_run_39 : decode cX12_run 39 = .ok (.iload_n 2, 1) := by decide +kernel
theorem dX12_run_40 : decode cX12_run 40 = .ok (.iload_n 1, 1) := by decide +kernel
theorem dX12_run_41 : decode cX12_run 41 = .ok (.if_icmp .ne 5, 3) := by decide +kernel
theorem dX12_run_44 : decode cX12_run 44 = .ok (.iload_n 3, 1) := by decide +kernel
theorem dX12_run_45 : decode cX12_run 45 = .ok (.ireturn, 1) := by decide +kernel
theorem dX12_run_46 : decode cX12_run 46 = .ok (.iinc 2 1, 3) := by decide +kernel
theorem dX12_run_49 : decode cX12_run 49 = .ok (.iinc 3 1, 3) := by decide +kernel
theorem dX12_run_52 : decode cX12_run 52 = .ok (.goto (-32), 3) := by decide +kernel
theorem dX12_run_55 : decode cX12_run 55 = .ok (.iload_n 1, 1) := by decide +kernel
theorem dX12_run_56 : decode cX12_run 56 = .ok (.iconst (-1), 1) := by decide +kernel
theorem dX12_run_57 : decode cX12_run 57 = .ok (.if_icmp .ne 7, 3) := by decide +kernel
theorem dX12_run_60 : decode cX12_run 60 = .ok (.iload_n 2, 1) := by decide +kernel
theorem dX12_run_61 : decode cX12_run 61 = .ok (.goto 4, 3) := by decide +kernel
theorem dX12_run_64 : decode cX12_run 64 = .ok (.iconst (-1), 1) := by decide +kernel
theorem dX12_run_65 : decode cX12_run 65 = .ok (.ireturn, 1) := by decide +kernel
theorem dX12_recall_0 : decode cX12_recall 0 = .ok (.aload_n 0, 1) := by decide +kernel
theorem dX12_recall_1 : decode cX12_recall 1 = .ok (.iconst 0, 1) := by decide +kernel
theorem dX12_recall_2 : decode cX12_recall 2 = .ok (.putfield 111, 3) := by decide +kernel
theorem dX12_recall_5 : decode cX12_recall 5 = .ok (.aload_n 0, 1) := by decide +kernel
theorem dX12_recall_6 : decode cX12_recall 6 = .ok (.invokevirtual 259, 3) := by decide +kernel
theorem dX12_recall_9 : decode cX12_recall 9 = .ok (.iload_n 1, 1) := by decide +kernel
theorem dX12_recall_10 : decode cX12_recall 10 = .ok (.iconst 0, 1) := by decide +kernel
theorem dX12_recall_11 : decode cX12_recall 11 = .ok (.aload_n 0, 1) := by decide +kernel
theorem dX12_recall_12 : decode cX12_recall 12 = .ok (.getfield 13, 3) := by decide +kernel
theorem dX12_recall_15 : decode cX12_recall 15 = .ok (.iconst 2, 1) := by decide +kernel
theorem dX12_recall_16 : decode cX12_recall 16 = .ok (.iaload, 1) := by decide +kernel
theorem dX12_recall_17 : decode cX12_recall 17 = .ok (.iconst 1, 1) := by decide +kernel
theorem dX12_recall_18 : decode cX12_recall 18 = .ok (.isub, 1) := by decide +kernel
theorem dX12_recall_19 : decode cX12_recall 19 = .ok (.invokestatic 171, 3) := by decide +kernel
theorem dX12_recall_22 : decode cX12_recall 22 = .ok (.ifCond .eq 13, 3) := by decide +kernel
theorem dX12_recall_25 : decode cX12_recall 25 = .ok (.iload_n 2, 1) := by decide +kernel
theorem dX12_recall_26 : decode cX12_recall 26 = .ok (.iconst 0, 1) := by decide +kernel
theorem dX12_recall_27 : decode cX12_recall 27 = .ok (.bipush 9, 2) := by decide +kernel
theorem dX12_recall_29 : decode cX12_recall 29 = .ok (.invokestatic 171, 3) := by decide +kernel
theorem dX12_recall_32 : decode cX12_recall 32 = .ok (.ifCond .ne 5, 3) := by decide +kernel
theorem dX12_recall_35 : decode cX12_recall 35 = .ok (.iconst (-1), 1) := by decide +kernel
theorem dX12_recall_36 : decode cX12_recall 36 = .ok (.ireturn, 1) := by decide +kernel
theorem dX12_recall_37 : decode cX12_recall 37 = .ok (.aload_n 0, 1) := by decide +kernel
theorem dX12_recall_38 : decode cX12_recall 38 = .ok (.iconst 0, 1) := by decide +kernel
theorem dX12_recall_39 : decode cX12_recall 39 = .ok (.putfield 377, 3) := by decide +kernel
theorem dX12_recall_42 : decode cX12_recall 42 = .ok (.iconst 0, 1) := by decide +kernel
theorem dX12_recall_43 : decode cX12_recall 43 = .ok (.istore_n 3, 1) := by decide +kernel
theorem dX12_recall_44 : decode cX12_recall 44 = .ok (.iload_n 3, 1) := by decide +kernel
theorem dX12_recall_45 : decode cX12_recall 45 = .ok (.aload_n 0, 1) := by decide +kernel
theorem dX12_recall_46 : decode cX12_recall 46 = .ok (.invokevirtual 268, 3) := by decide +kernel
theorem dX12_recall_49 : decode cX12_recall 49 = .ok (.if_icmp .ge 98, 3) := by decide +kernel
theorem dX12_recall_52 : decode cX12_recall 52 = .ok (.aload_n 0, 1) := by decide +kernel
theorem dX12_recall_53 : decode cX12_recall 53 = .ok (.iload_n 3, 1) := by decide +kernel
theorem dX12_recall_54 : decode cX12_recall 54 = .ok (.bipush 9, 2) := by decide +kernel
theorem dX12_recall_56 : decode cX12_recall 56 = .ok (.invokevirtual 284, 3) := by decide +kernel
theorem dX12_recall_59 : decode cX12_recall 59 = .ok (.istore 4, 2) := by decide +kernel
theorem dX12_recall_61 : decode cX12_recall 61 = .ok (.aload_n 0, 1) := by decide +kernel
theorem dX12_recall_62 : decode cX12_recall 62 = .ok (.iload_n 3, 1) := by decide +kernel
theorem dX12_recall_63 : decode cX12_recall 63 = .ok (.iconst 0, 1) := by decide +kernel
theorem dX12_recall_64 : decode cX12_recall 64 = .ok (.invokevirtual 284, 3) := by decide +kernel
theorem dX12_recall_67 : decode cX12_recall 67 = .ok (.iload_n 1, 1) := by decide +kernel
theorem dX12_recall_68 : decode cX12_recall 68 = .ok (.if_icmp .ne 73, 3) := by decide +kernel
theorem dX12_recall_71 : decode cX12_recall 71 = .ok (.iload 4, 2) := by decide +kernel
theorem dX12_recall_73 : decode cX12_recall 73 = .ok (.ifCond .eq 68, 3) := by decide +kernel
theorem dX12_recall_76 : decode cX12_recall 76 = .ok (.aload_n 0, 1) := by decide +kernel
theorem dX12_recall_77 : decode cX12_recall 77 = .ok (.getfield 13, 3) := by decide +kernel
theorem dX12_recall_80 : decode cX12_recall 80 = .ok (.sipush 2240, 3) := by decide +kernel
theorem dX12_recall_83 : decode cX12_recall 83 = .ok (.iload 4, 2) := by decide +kernel
theorem dX12_recall_85 : decode cX12_recall 85 = .ok (.iadd, 1) := by decide +kernel
theorem dX12_recall_86 : decode cX12_recall 86 = .ok (.iaload, 1) := by decide +kernel
theorem dX12_recall_87 : decode cX12_recall 87 = .ok (.iconst (-1), 1) := by decide +kernel
theorem dX12_recall_88 : decode cX12_recall 88 = .ok (.if_icmp .eq 53, 3) := by decide +kernel
theorem dX12_recall_91 : decode cX12_recall 91 = .ok (.aload_n 0, 1) := by decide +kernel
theorem dX12_recall_92 : decode cX12_recall 92 = .ok (.getfield 13, 3) := by decide +kernel
theorem dX12_recall_95 : decode cX12_recall 95 = .ok (.bipush 110, 2) := by decide +kernel
theorem dX12_recall_97 : decode cX12_recall 97 = .ok (.iconst 2, 1) := by decide +kernel
theorem dX12_recall_98 : decode cX12_recall 98 = .ok (.aload_n 0, 1) := by decide +kernel
theorem dX12_recall_99 : decode cX12_recall 99 = .ok (.getfield 13, 3) := by decide +kernel
theorem dX12_recall_102 : decode cX12_recall 102 = .ok (.sipush 2240, 3) := by decide +kernel
theorem dX12_recall_105 : decode cX12_recall 105 = .ok (.iload 4, 2) := by decide +kernel
theorem dX12_recall_107 : decode cX12_recall 107 = .ok (.iadd, 1) := by decide +kernel
theorem dX12_recall_108 : decode cX12_recall 108 = .ok (.iaload, 1) := by decide +kernel
theorem dX12_recall_109 : decode cX12_recall 109 = .ok (.imul, 1) := by decide +kernel
theorem dX12_recall_110 : decode cX12_recall 110 = .ok (.iadd, 1) := by decide +kernel
theorem dX12_recall_111 : decode cX12_recall 111 = .ok (.iconst 1, 1) := by decide +kernel
theorem dX12_recall_112 : decode cX12_recall 112 = .ok (.iadd, 1) := by decide +kernel
theorem dX12_recall_113 : decode cX12_recall 113 = .ok (.iaload, 1) := by decide +kernel
theorem dX12_recall_114 : decode cX12_recall 114 = .ok (.iload_n 2, 1) := by decide +kernel
theorem dX12_recall_115 : decode cX12_recall 115 = .ok (.if_icmp .gt 6, 3) := by decide +kernel
theorem dX12_recall_118 : decode cX12_recall 118 = .ok (.goto 23, 3) := by decide +kernel
theorem dX12_recall_121 : decode cX12_recall 121 = .ok (.aload_n 0, 1) := by decide +kernel
theorem dX12_recall_122 : decode cX12_recall 122 = .ok (.getfield 84, 3) := by decide +kernel
theorem dX12_recall_125 : decode cX12_recall 125 = .ok (.aload_n 0, 1) := by decide +kernel
theorem dX12_recall_126 : decode cX12_recall 126 = .ok (.getfield 377, 3) := by decide +kernel
theorem dX12_recall_129 : decode cX12_recall 129 = .ok (.iload_n 3, 1) := by decide +kernel
theorem dX12_recall_130 : decode cX12_recall 130 = .ok (.iastore, 1) := by decide +kernel
theorem dX12_recall_131 : decode cX12_recall 131 = .ok (.aload_n 0, 1) := by decide +kernel
theorem dX12_recall_132 : decode cX12_recall 132 = .ok (.dup, 1) := by decide +kernel
theorem dX12_recall_133 : decode cX12_recall 133 = .ok (.getfield 377, 3) := by decide +kernel
theorem dX12_recall_136 : decode cX12_recall 136 = .ok (.iconst 1, 1) := by decide +kernel
theorem dX12_recall_137 : decode cX12_recall 137 = .ok (.iadd, 1) := by decide +kernel
theorem dX12_recall_138 : decode cX12_recall 138 = .ok (.putfield 377, 3) := by decide +kernel
theorem dX12_recall_141 : decode cX12_recall 141 = .ok (.iinc 3 1, 3) := by decide +kernel
theorem dX12_recall_144 : decode cX12_recall 144 = .ok (.goto (-100), 3) := by decide +kernel
theorem dX12_recall_147 : decode cX12_recall 147 = .ok (.aload_n 0, 1) := by decide +kernel
theorem dX12_recall_148 : decode cX12_recall 148 = .ok (.getfield 377, 3) := by decide +kernel
theorem dX12_recall_151 : decode cX12_recall 151 = .ok (.ireturn, 1) := by decide +kernel
theorem dX12_recalled_0 : decode cX12_recalled 0 = .ok (.aload_n 0, 1) := by decide +kernel
theorem dX12_recalled_1 : decode cX12_recalled 1 = .ok (.iconst 0, 1) := by decide +kernel
theorem dX12_recalled_2 : decode cX12_recalled 2 = .ok (.putfield 111, 3) := by decide +kernel
theorem dX12_recalled_5 : decode cX12_recalled 5 = .ok (.iload_n 1, 1) := by decide +kernel
theorem dX12_recalled_6 : decode cX12_recalled 6 = .ok (.ifCond .lt 20, 3) := by decide +kernel
theorem dX12_recalled_9 : decode cX12_recalled 9 = .ok (.iload_n 1, 1) := by decide +kernel
theorem dX12_recalled_10 : decode cX12_recalled 10 = .ok (.aload_n 0, 1) := by decide +kernel
theorem dX12_recalled_11 : decode cX12_recalled 11 = .ok (.getfield 377, 3) := by decide +kernel
theorem dX12_recalled_14 : decode cX12_recalled 14 = .ok (.if_icmp .ge 12, 3) := by decide +kernel
theorem dX12_recalled_17 : decode cX12_recalled 17 = .ok (.aload_n 0, 1) := by decide +kernel
theorem dX12_recalled_18 : decode cX12_recalled 18 = .ok (.getfield 84, 3) := by decide +kernel
theorem dX12_recalled_21 : decode cX12_recalled 21 = .ok (.iload_n 1, 1) := by decide +kernel
theorem dX12_recalled_22 : decode cX12_recalled 22 = .ok (.iaload, 1) := by decide +kernel
theorem dX12_recalled_23 : decode cX12_recalled 23 = .ok (.goto 4, 3) := by decide +kernel
theorem dX12_recalled_26 : decode cX12_recalled 26 = .ok (.iconst (-1), 1) := by decide +kernel
theorem dX12_recalled_27 : decode cX12_recalled 27 = .ok (.ireturn, 1) := by decide +kernel
theorem dX12_loaded_0 : decode cX12_loaded 0 = .ok (.aload_n 0, 1) := by decide +kernel
theorem dX12_loaded_1 : decode cX12_loaded 1 = .ok (.iconst 0, 1) := by decide +kernel
theorem dX12_loaded_2 : decode cX12_loaded 2 = .ok (.putfield 111, 3) := by decide +kernel
theorem dX12_loaded_5 : decode cX12_loaded 5 = .ok (.aload_n 0, 1) := by decide +kernel
theorem dX12_loaded_6 : decode cX12_loaded 6 = .ok (.invokevirtual 259, 3) := by decide +kernel
theorem dX12_loaded_9 : decode cX12_loaded 9 = .ok (.aload_n 0, 1) := by decide +kernel
theorem dX12_loaded_10 : decode cX12_loaded 10 = .ok (.iload_n 1, 1) := by decide +kernel
theorem dX12_loaded_11 : decode cX12_loaded 11 = .ok (.invokevirtual 278, 3) := by decide +kernel
theorem dX12_loaded_14 : decode cX12_loaded 14 = .ok (.ifCond .eq 13, 3) := by decide +kernel
theorem dX12_loaded_17 : decode cX12_loaded 17 = .ok (.iload_n 2, 1) := by decide +kernel
theorem dX12_loaded_18 : decode cX12_loaded 18 = .ok (.iconst 1, 1) := by decide +kernel
theorem dX12_loaded_19 : decode cX12_loaded 19 = .ok (.bipush 99, 2) := by decide +kernel
theorem dX12_loaded_21 : decode cX12_loaded 21 = .ok (.invokestatic 171, 3) := by decide +kernel
theorem dX12_loaded_24 : decode cX12_loaded 24 = .ok (.ifCond .ne 5, 3) := by decide +kernel
theorem dX12_loaded_27 : decode cX12_loaded 27 = .ok (.iconst 0, 1) := by decide +kernel
theorem dX12_loaded_28 : decode cX12_loaded 28 = .ok (.ireturn, 1) := by decide +kernel
theorem dX12_loaded_29 : decode cX12_loaded 29 = .ok (.aload_n 0, 1) := by decide +kernel
theorem dX12_loaded_30 : decode cX12_loaded 30 = .ok (.getfield 13, 3) := by decide +kernel
theorem dX12_loaded_33 : decode cX12_loaded 33 = .ok (.sipush 160, 3) := by decide +kernel
theorem dX12_loaded_36 : decode cX12_loaded 36 = .ok (.bipush 12, 2) := by decide +kernel
theorem dX12_loaded_38 : decode cX12_loaded 38 = .ok (.iload_n 1, 1) := by decide +kernel
theorem dX12_loaded_39 : decode cX12_loaded 39 = .ok (.imul, 1) := by decide +kernel
theorem dX12_loaded_40 : decode cX12_loaded 40 = .ok (.iadd, 1) := by decide +kernel
theorem dX12_loaded_41 : decode cX12_loaded 41 = .ok (.bipush 9, 2) := by decide +kernel
theorem dX12_loaded_43 : decode cX12_loaded 43 = .ok (.iadd, 1) := by decide +kernel
theorem dX12_loaded_44 : decode cX12_loaded 44 = .ok (.iload_n 2, 1) := by decide +kernel
theorem dX12_loaded_45 : decode cX12_loaded 45 = .ok (.iastore, 1) := by decide +kernel
theorem dX12_loaded_46 : decode cX12_loaded 46 = .ok (.iconst 1, 1) := by decide +kernel
theorem dX12_loaded_47 : decode cX12_loaded 47 = .ok (.ireturn, 1) := by decide +kernel
theorem dX12_isClaimed_0 : decode cX12_isClaimed 0 = .ok (.iconst 0, 1) := by decide +kernel
theorem dX12_isClaimed_1 : decode cX12_isClaimed 1 = .ok (.istore_n 2, 1) := by decide +kernel
theorem dX12_isClaimed_2 : decode cX12_isClaimed 2 = .ok (.iload_n 2, 1) := by decide +kernel
theorem dX12_isClaimed_3 : decode cX12_isClaimed 3 = .ok (.aload_n 0, 1) := by decide +kernel
theorem dX12_isClaimed_4 : decode cX12_isClaimed 4 = .ok (.getfield 13, 3) := by decide +kernel
theorem dX12_isClaimed_7 : decode cX12_isClaimed 7 = .ok (.sipush 133, 3) := by decide +kernel
theorem dX12_isClaimed_10 : decode cX12_isClaimed 10 = .ok (.iaload, 1) := by decide +kernel
theorem dX12_isClaimed_11 : decode cX12_isClaimed 11 = .ok (.if_icmp .ge 25, 3) := by decide +kernel
theorem dX12_isClaimed_14 : decode cX12_isClaimed 14 = .ok (.aload_n 0, 1) := by decide +kernel
theorem dX12_isClaimed_15 : decode cX12_isClaimed 15 = .ok (.getfield 13, 3) := by decide +kernel
theorem dX12_isClaimed_18 : decode cX12_isClaimed 18 = .ok (.sipush 140, 3) := by decide +kernel
theorem dX12_isClaimed_21 : decode cX12_isClaimed 21 = .ok (.iload_n 2, 1) := by decide +kernel
theorem dX12_isClaimed_22 : decode cX12_isClaimed 22 = .ok (.iadd, 1) := by decide +kernel
theorem dX12_isClaimed_23 : decode cX12_isClaimed 23 = .ok (.iaload, 1) := by decide +kernel
theorem dX12_isClaimed_24 : decode cX12_isClaimed 24 = .ok (.iload_n 1, 1) := by decide +kernel
theorem dX12_isClaimed_25 : decode cX12_isClaimed 25 = .ok (.if_icmp .ne 5, 3) := by decide +kernel
theorem dX12_isClaimed_28 : decode cX12_isClaimed 28 = .ok (.iconst 1, 1) := by decide +kernel
theorem dX12_isClaimed_29 : decode cX12_isClaimed 29 = .ok (.ireturn, 1) := by decide +kernel
theorem dX12_isClaimed_30 : decode cX12_isClaimed 30 = .ok (.iinc 2 1, 3) := by decide +kernel
theorem dX12_isClaimed_33 : decode cX12_isClaimed 33 = .ok (.goto (-31), 3) := by decide +kernel
theorem dX12_isClaimed_36 : decode cX12_isClaimed 36 = .ok (.iconst 0, 1) := by decide +kernel
theorem dX12_isClaimed_37 : decode cX12_isClaimed 37 = .ok (.ireturn, 1) := by decide +kernel
theorem dX12_claim_0 : decode cX12_claim 0 = .ok (.aload_n 0, 1) := by decide +kernel
theorem dX12_claim_1 : decode cX12_claim 1 = .ok (.iconst 0, 1) := by decide +kernel
theorem dX12_claim_2 : decode cX12_claim 2 = .ok (.putfield 111, 3) := by decide +kernel
theorem dX12_claim_5 : decode cX12_claim 5 = .ok (.aload_n 0, 1) := by decide +kernel
theorem dX12_claim_6 : decode cX12_claim 6 = .ok (.invokevirtual 259, 3) := by decide +kernel
theorem dX12_claim_9 : decode cX12_claim 9 = .ok (.aload_n 0, 1) := by decide +kernel
theorem dX12_claim_10 : decode cX12_claim 10 = .ok (.iload_n 1, 1) := by decide +kernel
theorem dX12_claim_11 : decode cX12_claim 11 = .ok (.invokevirtual 278, 3) := by decide +kernel
theorem dX12_claim_14 : decode cX12_claim 14 = .ok (.ifCond .eq 37, 3) := by decide +kernel
theorem dX12_claim_17 : decode cX12_claim 17 = .ok (.aload_n 0, 1) := by decide +kernel
theorem dX12_claim_18 : decode cX12_claim 18 = .ok (.getfield 13, 3) := by decide +kernel
theorem dX12_claim_21 : decode cX12_claim 21 = .ok (.sipush 133, 3) := by decide +kernel
theorem dX12_claim_24 : decode cX12_claim 24 = .ok (.iaload, 1) := by decide +kernel
theorem dX12_claim_25 : decode cX12_claim 25 = .ok (.bipush 12, 2) := by decide +kernel
theorem dX12_claim_27 : decode cX12_claim 27 = .ok (.if_icmp .eq 24, 3) := by decide +kernel
theorem dX12_claim_30 : decode cX12_claim 30 = .ok (.aload_n 0, 1) := by decide +kernel
theorem dX12_claim_31 : decode cX12_claim 31 = .ok (.iload_n 1, 1) := by decide +kernel
theorem dX12_claim_32 : decode cX12_claim 32 = .ok (.invokevirtual 380, 3) := by decide +kernel
theorem dX12_claim_35 : decode cX12_claim 35 = .ok (.ifCond .ne 16, 3) := by decide +kernel
theorem dX12_claim_38 : decode cX12_claim 38 = .ok (.aload_n 0, 1) := by decide +kernel
theorem dX12_claim_39 : decode cX12_claim 39 = .ok (.iload_n 1, 1) := by decide +kernel
theorem dX12_claim_40 : decode cX12_claim 40 = .ok (.invokevirtual 291, 3) := by decide +kernel
theorem dX12_claim_43 : decode cX12_claim 43 = .ok (.iconst 1, 1) := by decide +kernel
theorem dX12_claim_44 : decode cX12_claim 44 = .ok (.iconst 3, 1) := by decide +kernel
theorem dX12_claim_45 : decode cX12_claim 45 = .ok (.invokestatic 171, 3) := by decide +kernel
theorem dX12_claim_48 : decode cX12_claim 48 = .ok (.ifCond .ne 5, 3) := by decide +kernel
theorem dX12_claim_51 : decode cX12_claim 51 = .ok (.iconst (-1), 1) := by decide +kernel
theorem dX12_claim_52 : decode cX12_claim 52 = .ok (.ireturn, 1) := by decide +kernel
theorem dX12_claim_53 : decode cX12_claim 53 = .ok (.aload_n 0, 1) := by decide +kernel
theorem dX12_claim_54 : decode cX12_claim 54 = .ok (.getfield 13, 3) := by decide +kernel
theorem dX12_claim_57 : decode cX12_claim 57 = .ok (.sipush 140, 3) := by decide +kernel
theorem dX12_claim_60 : decode cX12_claim 60 = .ok (.aload_n 0, 1) := by decide +kernel
theorem dX12_claim_61 : decode cX12_claim 61 = .ok (.getfield 13, 3) := by decide +kernel
theorem dX12_claim_64 : decode cX12_claim 64 = .ok (.sipush 133, 3) := by decide +kernel
theorem dX12_claim_67 : decode cX12_claim 67 = .ok (.iaload, 1) := by decide +kernel
theorem dX12_claim_68 : decode cX12_claim 68 = .ok (.iadd, 1) := by decide +kernel
theorem dX12_claim_69 : decode cX12_claim 69 = .ok (.iload_n 1, 1) := by decide +kernel
theorem dX12_claim_70 : decode cX12_claim 70 = .ok (.iastore, 1) := by decide +kernel
theorem dX12_claim_71 : decode cX12_claim 71 = .ok (.aload_n 0, 1) := by decide +kernel
theorem dX12_claim_72 : decode cX12_claim 72 = .ok (.getfield 13, 3) := by decide +kernel
theorem dX12_claim_75 : decode cX12_claim 75 = .ok (.sipush 133, 3) := by decide +kernel
theorem dX12_claim_78 : decode cX12_claim 78 = .ok (.dup2, 1) := by decide +kernel
theorem dX12_claim_79 : decode cX12_claim 79 = .ok (.iaload, 1) := by decide +kernel
theorem dX12_claim_80 : decode cX12_claim 80 = .ok (.iconst 1, 1) := by decide +kernel
theorem dX12_claim_81 : decode cX12_claim 81 = .ok (.iadd, 1) := by decide +kernel
theorem dX12_claim_82 : decode cX12_claim 82 = .ok (.iastore, 1) := by decide +kernel
theorem dX12_claim_83 : decode cX12_claim 83 = .ok (.aload_n 0, 1) := by decide +kernel
theorem dX12_claim_84 : decode cX12_claim 84 = .ok (.getfield 13, 3) := by decide +kernel
theorem dX12_claim_87 : decode cX12_claim 87 = .ok (.sipush 133, 3) := by decide +kernel
theorem dX12_claim_90 : decode cX12_claim 90 = .ok (.iaload, 1) := by decide +kernel
theorem dX12_claim_91 : decode cX12_claim 91 = .ok (.ireturn, 1) := by decide +kernel
theorem dX12_hasCause_0 : decode cX12_hasCause 0 = .ok (.iload_n 2, 1) := by decide +kernel
theorem dX12_hasCause_1 : decode cX12_hasCause 1 = .ok (.bipush 100, 2) := by decide +kernel
theorem dX12_hasCause_3 : decode cX12_hasCause 3 = .ok (.if_icmp .ge 24, 3) := by decide +kernel
theorem dX12_hasCause_6 : decode cX12_hasCause 6 = .ok (.iload_n 2, 1) := by decide +kernel
theorem dX12_hasCause_7 : decode cX12_hasCause 7 = .ok (.ifCond .le 18, 3) := by decide +kernel
theorem dX12_hasCause_10 : decode cX12_hasCause 10 = .ok (.aload_n 0, 1) := by decide +kernel
theorem dX12_hasCause_11 : decode cX12_hasCause 11 = .ok (.iload_n 1, 1) := by decide +kernel
theorem dX12_hasCause_12 : decode cX12_hasCause 12 = .ok (.bipush 9, 2) := by decide +kernel
theorem dX12_hasCause_14 : decode cX12_hasCause 14 = .ok (.invokevirtual 284, 3) := by decide +kernel
theorem dX12_hasCause_17 : decode cX12_hasCause 17 = .ok (.iload_n 2, 1) := by decide +kernel
theorem dX12_hasCause_18 : decode cX12_hasCause 18 = .ok (.if_icmp .ne 7, 3) := by decide +kernel
theorem dX12_hasCause_21 : decode cX12_hasCause 21 = .ok (.iconst 1, 1) := by decide +kernel
theorem dX12_hasCause_22 : decode cX12_hasCause 22 = .ok (.goto 4, 3) := by decide +kernel
theorem dX12_hasCause_25 : decode cX12_hasCause 25 = .ok (.iconst 0, 1) := by decide +kernel
theorem dX12_hasCause_26 : decode cX12_hasCause 26 = .ok (.ireturn, 1) := by decide +kernel
theorem dX12_hasCause_27 : decode cX12_hasCause 27 = .ok (.iload_n 2, 1) := by decide +kernel
theorem dX12_hasCause_28 : decode cX12_hasCause 28 = .ok (.sipush 200, 3) := by decide +kernel
theorem dX12_hasCause_31 : decode cX12_hasCause 31 = .ok (.if_icmp .ge 24, 3) := by decide +kernel
theorem dX12_hasCause_34 : decode cX12_hasCause 34 = .ok (.aload_n 0, 1) := by decide +kernel
theorem dX12_hasCause_35 : decode cX12_hasCause 35 = .ok (.iload_n 1, 1) := by decide +kernel
theorem dX12_hasCause_36 : decode cX12_hasCause 36 = .ok (.iconst 0, 1) := by decide +kernel
theorem dX12_hasCause_37 : decode cX12_hasCause 37 = .ok (.invokevirtual 284, 3) := by decide +kernel
theorem dX12_hasCause_40 : decode cX12_hasCause 40 = .ok (.iload_n 2, 1) := by decide +kernel
theorem dX12_hasCause_41 : decode cX12_hasCause 41 = .ok (.bipush 100, 2) := by decide +kernel
theorem dX12_hasCause_43 : decode cX12_hasCause 43 = .ok (.isub, 1) := by decide +kernel
theorem dX12_hasCause_44 : decode cX12_hasCause 44 = .ok (.if_icmp .ne 7, 3) := by decide +kernel
theorem dX12_hasCause_47 : decode cX12_hasCause 47 = .ok (.iconst 1, 1) := by decide +kernel
theorem dX12_hasCause_48 : decode cX12_hasCause 48 = .ok (.goto 26, 3) := by decide +kernel
theorem dX12_hasCause_51 : decode cX12_hasCause 51 = .ok (.iconst 0, 1) := by decide +kernel
theorem dX12_hasCause_52 : decode cX12_hasCause 52 = .ok (.goto 22, 3) := by decide +kernel
theorem dX12_hasCause_55 : decode cX12_hasCause 55 = .ok (.aload_n 0, 1) := by decide +kernel
theorem dX12_hasCause_56 : decode cX12_hasCause 56 = .ok (.iload_n 1, 1) := by decide +kernel
theorem dX12_hasCause_57 : decode cX12_hasCause 57 = .ok (.iconst 5, 1) := by decide +kernel
theorem dX12_hasCause_58 : decode cX12_hasCause 58 = .ok (.invokevirtual 284, 3) := by decide +kernel
theorem dX12_hasCause_61 : decode cX12_hasCause 61 = .ok (.iload_n 2, 1) := by decide +kernel
theorem dX12_hasCause_62 : decode cX12_hasCause 62 = .ok (.sipush 200, 3) := by decide +kernel
theorem dX12_hasCause_65 : decode cX12_hasCause 65 = .ok (.isub, 1) := by decide +kernel
theorem dX12_hasCause_66 : decode cX12_hasCause 66 = .ok (.if_icmp .ne 7, 3) := by decide +kernel
theorem dX12_hasCause_69 : decode cX12_hasCause 69 = .ok (.iconst 1, 1) := by decide +kernel
theorem dX12_hasCause_70 : decode cX12_hasCause 70 = .ok (.goto 4, 3) := by decide +kernel
theorem dX12_hasCause_73 : decode cX12_hasCause 73 = .ok (.iconst 0, 1) := by decide +kernel
theorem dX12_hasCause_74 : decode cX12_hasCause 74 = .ok (.ireturn, 1) := by decide +kernel
theorem dX12_isPossible_0 : decode cX12_isPossible 0 = .ok (.iconst 0, 1) := by decide +kernel
theorem dX12_isPossible_1 : decode cX12_isPossible 1 = .ok (.istore_n 2, 1) := by decide +kernel
theorem dX12_isPossible_2 : decode cX12_isPossible 2 = .ok (.iconst 0, 1) := by decide +kernel
theorem dX12_isPossible_3 : decode cX12_isPossible 3 = .ok (.istore_n 3, 1) := by decide +kernel
theorem dX12_isPossible_4 : decode cX12_isPossible 4 = .ok (.iload_n 3, 1) := by decide +kernel
theorem dX12_isPossible_5 : decode cX12_isPossible 5 = .ok (.aload_n 0, 1) := by decide +kernel
theorem dX12_isPossible_6 : decode cX12_isPossible 6 = .ok (.invokevirtual 268, 3) := by decide +kernel
theorem dX12_isPossible_9 : decode cX12_isPossible 9 = .ok (.if_icmp .ge 46, 3) := by decide +kernel
theorem dX12_isPossible_12 : decode cX12_isPossible 12 = .ok (.aload_n 0, 1) := by decide +kernel
theorem dX12_isPossible_13 : decode cX12_isPossible 13 = .ok (.iload_n 3, 1) := by decide +kernel
theorem dX12_isPossible_14 : decode cX12_isPossible 14 = .ok (.iload_n 1, 1) := by decide +kernel
theorem dX12_isPossible_15 : decode cX12_isPossible 15 = .ok (.invokevirtual 383, 3) := by decide +kernel
theorem dX12_isPossible_18 : decode cX12_isPossible 18 = .ok (.ifCond .eq 31, 3) := by decide +kernel
theorem dX12_isPossible_21 : decode cX12_isPossible 21 = .ok (.aload_n 0, 1) := by decide +kernel
theorem dX12_isPossible_22 : decode cX12_isPossible 22 = .ok (.iload_n 3, 1) := by decide +kernel
theorem dX12_isPossible_23 : decode cX12_isPossible 23 = .ok (.invokevirtual 291, 3) := by decide +kernel
theorem dX12_isPossible_26 : decode cX12_isPossible 26 = .ok (.iconst 1, 1) := by decide +kernel
theorem dX12_isPossible_27 : decode cX12_isPossible 27 = .ok (.iconst 3, 1) := by decide +kernel
theorem dX12_isPossible_28 : decode cX12_isPossible 28 = .ok (.invokestatic 171, 3) := by decide +kernel
theorem dX12_isPossible_31 : decode cX12_isPossible 31 = .ok (.ifCond .ne 6, 3) := by decide +kernel
theorem dX12_isPossible_34 : decode cX12_isPossible 34 = .ok (.goto 15, 3) := by decide +kernel
theorem dX12_isPossible_37 : decode cX12_isPossible 37 = .ok (.aload_n 0, 1) := by decide +kernel
theorem dX12_isPossible_38 : decode cX12_isPossible 38 = .ok (.iload_n 3, 1) := by decide +kernel
theorem dX12_isPossible_39 : decode cX12_isPossible 39 = .ok (.invokevirtual 380, 3) := by decide +kernel
theorem dX12_isPossible_42 : decode cX12_isPossible 42 = .ok (.ifCond .ne 5, 3) := by decide +kernel
theorem dX12_isPossible_45 : decode cX12_isPossible 45 = .ok (.iconst 0, 1) := by decide +kernel
theorem dX12_isPossible_46 : decode cX12_isPossible 46 = .ok (.ireturn, 1) := by decide +kernel
theorem dX12_isPossible_47 : decode cX12_isPossible 47 = .ok (.iconst 1, 1) := by decide +kernel
theorem dX12_isPossible_48 : decode cX12_isPossible 48 = .ok (.istore_n 2, 1) := by decide +kernel
theorem dX12_isPossible_49 : decode cX12_isPossible 49 = .ok (.iinc 3 1, 3) := by decide +kernel
theorem dX12_isPossible_52 : decode cX12_isPossible 52 = .ok (.goto (-48), 3) := by decide +kernel
theorem dX12_isPossible_55 : decode cX12_isPossible 55 = .ok (.iload_n 2, 1) := by decide +kernel
theorem dX12_isPossible_56 : decode cX12_isPossible 56 = .ok (.ireturn, 1) := by decide +kernel
theorem dX12_possible_0 : decode cX12_possible 0 = .ok (.aload_n 0, 1) := by decide +kernel
theorem dX12_possible_1 : decode cX12_possible 1 = .ok (.iconst 0, 1) := by decide +kernel
theorem dX12_possible_2 : decode cX12_possible 2 = .ok (.putfield 111, 3) := by decide +kernel
theorem dX12_possible_5 : decode cX12_possible 5 = .ok (.aload_n 0, 1) := by decide +kernel
theorem dX12_possible_6 : decode cX12_possible 6 = .ok (.invokevirtual 259, 3) := by decide +kernel
theorem dX12_possible_9 : decode cX12_possible 9 = .ok (.iload_n 1, 1) := by decide +kernel
theorem dX12_possible_10 : decode cX12_possible 10 = .ok (.ifCond .lt 15, 3) := by decide +kernel
theorem dX12_possible_13 : decode cX12_possible 13 = .ok (.aload_n 0, 1) := by decide +kernel
theorem dX12_possible_14 : decode cX12_possible 14 = .ok (.iload_n 1, 1) := by decide +kernel
theorem dX12_possible_15 : decode cX12_possible 15 = .ok (.invokevirtual 386, 3) := by decide +kernel
theorem dX12_possible_18 : decode cX12_possible 18 = .ok (.ifCond .eq 7, 3) := by decide +kernel
theorem dX12_possible_21 : decode cX12_possible 21 = .ok (.iconst 1, 1) := by decide +kernel
theorem dX12_possible_22 : decode cX12_possible 22 = .ok (.goto 4, 3) := by decide +kernel
theorem dX12_possible_25 : decode cX12_possible 25 = .ok (.iconst 0, 1) := by decide +kernel
theorem dX12_possible_26 : decode cX12_possible 26 = .ok (.ireturn, 1) := by decide +kernel
theorem dX12_chooses_0 : decode cX12_chooses 0 = .ok (.iload_n 3, 1) := by decide +kernel
theorem dX12_chooses_1 : decode cX12_chooses 1 = .ok (.ifCond .ne 39, 3) := by decide +kernel
theorem dX12_chooses_4 : decode cX12_chooses 4 = .ok (.aload_n 0, 1) := by decide +kernel
theorem dX12_chooses_5 : decode cX12_chooses 5 = .ok (.iload_n 1, 1) := by decide +kernel
theorem dX12_chooses_6 : decode cX12_chooses 6 = .ok (.putfield 389, 3) := by decide +kernel
theorem dX12_chooses_9 : decode cX12_chooses 9 = .ok (.iconst 0, 1) := by decide +kernel
theorem dX12_chooses_10 : decode cX12_chooses 10 = .ok (.istore 5, 2) := by decide +kernel
theorem dX12_chooses_12 : decode cX12_chooses 12 = .ok (.iload 5, 2) := by decide +kernel
theorem dX12_chooses_14 : decode cX12_chooses 14 = .ok (.iload_n 1, 1) := by decide +kernel
theorem dX12_chooses_15 : decode cX12_chooses 15 = .ok (.if_icmp .ge 23, 3) := by decide +kernel
theorem dX12_chooses_18 : decode cX12_chooses 18 = .ok (.aload_n 0, 1) := by decide +kernel
theorem dX12_chooses_19 : decode cX12_chooses 19 = .ok (.getfield 96, 3) := by decide +kernel
theorem dX12_chooses_22 : decode cX12_chooses 22 = .ok (.iload 5, 2) := by decide +kernel
theorem dX12_chooses_24 : decode cX12_chooses 24 = .ok (.aload_n 0, 1) := by decide +kernel
theorem dX12_chooses_25 : decode cX12_chooses 25 = .ok (.getfield 93, 3) := by decide +kernel
theorem dX12_chooses_28 : decode cX12_chooses 28 = .ok (.iload 5, 2) := by decide +kernel
theorem dX12_chooses_30 : decode cX12_chooses 30 = .ok (.iaload, 1) := by decide +kernel
theorem dX12_chooses_31 : decode cX12_chooses 31 = .ok (.iastore, 1) := by decide +kernel
theorem dX12_chooses_32 : decode cX12_chooses 32 = .ok (.iinc 5 1, 3) := by decide +kernel
theorem dX12_chooses_35 : decode cX12_chooses 35 = .ok (.goto (-23), 3) := by decide +kernel
theorem dX12_chooses_38 : decode cX12_chooses 38 = .ok (.iconst 1, 1) := by decide +kernel
theorem dX12_chooses_39 : decode cX12_chooses 39 = .ok (.ireturn, 1) := by decide +kernel
theorem dX12_chooses_40 : decode cX12_chooses 40 = .ok (.iconst 0, 1) := by decide +kernel
theorem dX12_chooses_41 : decode cX12_chooses 41 = .ok (.istore 5, 2) := by decide +kernel
theorem dX12_chooses_43 : decode cX12_chooses 43 = .ok (.iload_n 2, 1) := by decide +kernel
theorem dX12_chooses_44 : decode cX12_chooses 44 = .ok (.istore 6, 2) := by decide +kernel
theorem dX12_chooses_46 : decode cX12_chooses 46 = .ok (.iload 6, 2) := by decide +kernel
theorem dX12_chooses_48 : decode cX12_chooses 48 = .ok (.aload_n 0, 1) := by decide +kernel
theorem dX12_chooses_49 : decode cX12_chooses 49 = .ok (.getfield 392, 3) := by decide +kernel
theorem dX12_chooses_52 : decode cX12_chooses 52 = .ok (.if_icmp .ge 21, 3) := by decide +kernel
theorem dX12_chooses_55 : decode cX12_chooses 55 = .ok (.iload 5, 2) := by decide +kernel
theorem dX12_chooses_57 : decode cX12_chooses 57 = .ok (.aload_n 0, 1) := by decide +kernel
theorem dX12_chooses_58 : decode cX12_chooses 58 = .ok (.getfield 90, 3) := by decide +kernel
theorem dX12_chooses_61 : decode cX12_chooses 61 = .ok (.iload 6, 2) := by decide +kernel
theorem dX12_chooses_63 : decode cX12_chooses 63 = .ok (.iaload, 1) := by decide +kernel
theorem dX12_chooses_64 : decode cX12_chooses 64 = .ok (.ior, 1) := by decide +kernel
theorem dX12_chooses_65 : decode cX12_chooses 65 = .ok (.istore 5, 2) := by decide +kernel
theorem dX12_chooses_67 : decode cX12_chooses 67 = .ok (.iinc 6 1, 3) := by decide +kernel
theorem dX12_chooses_70 : decode cX12_chooses 70 = .ok (.goto (-24), 3) := by decide +kernel
theorem dX12_chooses_73 : decode cX12_chooses 73 = .ok (.iload 4, 2) := by decide +kernel
theorem dX12_chooses_75 : decode cX12_chooses 75 = .ok (.ifCond .eq 12, 3) := by decide +kernel
theorem dX12_chooses_78 : decode cX12_chooses 78 = .ok (.iload_n 3, 1) := by decide +kernel
theorem dX12_chooses_79 : decode cX12_chooses 79 = .ok (.iload 5, 2) := by decide +kernel
theorem dX12_chooses_81 : decode cX12_chooses 81 = .ok (.iconst (-1), 1) := by decide +kernel
theorem dX12_chooses_82 : decode cX12_chooses 82 = .ok (.ixor, 1) := by decide +kernel
theorem dX12_chooses_83 : decode cX12_chooses 83 = .ok (.iand, 1) := by decide +kernel
theorem dX12_chooses_84 : decode cX12_chooses 84 = .ok (.ifCond .eq 5, 3) := by decide +kernel
theorem dX12_chooses_87 : decode cX12_chooses 87 = .ok (.iconst 0, 1) := by decide +kernel
theorem dX12_chooses_88 : decode cX12_chooses 88 = .ok (.ireturn, 1) := by decide +kernel
theorem dX12_chooses_89 : decode cX12_chooses 89 = .ok (.iload_n 2, 1) := by decide +kernel
theorem dX12_chooses_90 : decode cX12_chooses 90 = .ok (.istore 6, 2) := by decide +kernel
theorem dX12_chooses_92 : decode cX12_chooses 92 = .ok (.iload 6, 2) := by decide +kernel
theorem dX12_chooses_94 : decode cX12_chooses 94 = .ok (.aload_n 0, 1) := by decide +kernel
theorem dX12_chooses_95 : decode cX12_chooses 95 = .ok (.getfield 392, 3) := by decide +kernel
theorem dX12_chooses_98 : decode cX12_chooses 98 = .ok (.if_icmp .ge 53, 3) := by decide +kernel
theorem dX12_chooses_101 : decode cX12_chooses 101 = .ok (.aload_n 0, 1) := by decide +kernel
theorem dX12_chooses_102 : decode cX12_chooses 102 = .ok (.getfield 93, 3) := by decide +kernel
theorem dX12_chooses_105 : decode cX12_chooses 105 = .ok (.iload_n 1, 1) := by decide +kernel
theorem dX12_chooses_106 : decode cX12_chooses 106 = .ok (.aload_n 0, 1) := by decide +kernel
theorem dX12_chooses_107 : decode cX12_chooses 107 = .ok (.getfield 87, 3) := by decide +kernel
theorem dX12_chooses_110 : decode cX12_chooses 110 = .ok (.iload 6, 2) := by decide +kernel
theorem dX12_chooses_112 : decode cX12_chooses 112 = .ok (.iaload, 1) := by decide +kernel
theorem dX12_chooses_113 : decode cX12_chooses 113 = .ok (.iastore, 1) := by decide +kernel
theorem dX12_chooses_114 : decode cX12_chooses 114 = .ok (.aload_n 0, 1) := by decide +kernel
theorem dX12_chooses_115 : decode cX12_chooses 115 = .ok (.iload_n 1, 1) := by decide +kernel
theorem dX12_chooses_116 : decode cX12_chooses 116 = .ok (.iconst 1, 1) := by decide +kernel
theorem dX12_chooses_117 : decode cX12_chooses 117 = .ok (.iadd, 1) := by decide +kernel
theorem dX12_chooses_118 : decode cX12_chooses 118 = .ok (.iload 6, 2) := by decide +kernel
theorem dX12_chooses_120 : decode cX12_chooses 120 = .ok (.iconst 1, 1) := by decide +kernel
theorem dX12_chooses_121 : decode cX12_chooses 121 = .ok (.iadd, 1) := by decide +kernel
theorem dX12_chooses_122 : decode cX12_chooses 122 = .ok (.iload_n 3, 1) := by decide +kernel
theorem dX12_chooses_123 : decode cX12_chooses 123 = .ok (.aload_n 0, 1) := by decide +kernel
theorem dX12_chooses_124 : decode cX12_chooses 124 = .ok (.getfield 90, 3) := by decide +kernel
theorem dX12_chooses_127 : decode cX12_chooses 127 = .ok (.iload 6, 2) := by decide +kernel
theorem dX12_chooses_129 : decode cX12_chooses 129 = .ok (.iaload, 1) := by decide +kernel
theorem dX12_chooses_130 : decode cX12_chooses 130 = .ok (.iconst (-1), 1) := by decide +kernel
theorem dX12_chooses_131 : decode cX12_chooses 131 = .ok (.ixor, 1) := by decide +kernel
theorem dX12_chooses_132 : decode cX12_chooses 132 = .ok (.iand, 1) := by decide +kernel
theorem dX12_chooses_133 : decode cX12_chooses 133 = .ok (.iload 4, 2) := by decide +kernel
theorem dX12_chooses_135 : decode cX12_chooses 135 = .ok (.iconst 1, 1) := by decide +kernel
theorem dX12_chooses_136 : decode cX12_chooses 136 = .ok (.isub, 1) := by decide +kernel
theorem dX12_chooses_137 : decode cX12_chooses 137 = .ok (.invokevirtual 395, 3) := by decide +kernel
theorem dX12_chooses_140 : decode cX12_chooses 140 = .ok (.ifCond .eq 5, 3) := by decide +kernel
theorem dX12_chooses_143 : decode cX12_chooses 143 = .ok (.iconst 1, 1) := by decide +kernel
theorem dX12_chooses_144 : decode cX12_chooses 144 = .ok (.ireturn, 1) := by decide +kernel
theorem dX12_chooses_145 : decode cX12_chooses 145 = .ok (.iinc 6 1, 3) := by decide +kernel
theorem dX12_chooses_148 : decode cX12_chooses 148 = .ok (.goto (-56), 3) := by decide +kernel
theorem dX12_chooses_151 : decode cX12_chooses 151 = .ok (.iconst 0, 1) := by decide +kernel
theorem dX12_chooses_152 : decode cX12_chooses 152 = .ok (.ireturn, 1) := by decide +kernel
theorem dX12_addCause_0 : decode cX12_addCause 0 = .ok (.aload_n 0, 1) := by decide +kernel
theorem dX12_addCause_1 : decode cX12_addCause 1 = .ok (.iload_n 1, 1) := by decide +kernel
theorem dX12_addCause_2 : decode cX12_addCause 2 = .ok (.invokevirtual 386, 3) := by decide +kernel
theorem dX12_addCause_5 : decode cX12_addCause 5 = .ok (.ifCond .ne 4, 3) := by decide +kernel
theorem dX12_addCause_8 : decode cX12_addCause 8 = .ok (.return_, 1) := by decide +kernel
theorem dX12_addCause_9 : decode cX12_addCause 9 = .ok (.iconst 0, 1) := by decide +kernel
theorem dX12_addCause_10 : decode cX12_addCause 10 = .ok (.istore_n 2, 1) := by decide +kernel
theorem dX12_addCause_11 : decode cX12_addCause 11 = .ok (.iload_n 2, 1) := by decide +kernel
theorem dX12_addCause_12 : decode cX12_addCause 12 = .ok (.aload_n 0, 1) := by decide +kernel
theorem dX12_addCause_13 : decode cX12_addCause 13 = .ok (.getfield 392, 3) := by decide +kernel
theorem dX12_addCause_16 : decode cX12_addCause 16 = .ok (.if_icmp .ge 20, 3) := by decide +kernel
theorem dX12_addCause_19 : decode cX12_addCause 19 = .ok (.aload_n 0, 1) := by decide +kernel
theorem dX12_addCause_20 : decode cX12_addCause 20 = .ok (.getfield 87, 3) := by decide +kernel
theorem dX12_addCause_23 : decode cX12_addCause 23 = .ok (.iload_n 2, 1) := by decide +kernel
theorem dX12_addCause_24 : decode cX12_addCause 24 = .ok (.iaload, 1) := by decide +kernel
theorem dX12_addCause_25 : decode cX12_addCause 25 = .ok (.iload_n 1, 1) := by decide +kernel
theorem dX12_addCause_26 : decode cX12_addCause 26 = .ok (.if_icmp .ne 4, 3) := by decide +kernel
theorem dX12_addCause_29 : decode cX12_addCause 29 = .ok (.return_, 1) := by decide +kernel
theorem dX12_addCause_30 : decode cX12_addCause 30 = .ok (.iinc 2 1, 3) := by decide +kernel
theorem dX12_addCause_33 : decode cX12_addCause 33 = .ok (.goto (-22), 3) := by decide +kernel
theorem dX12_addCause_36 : decode cX12_addCause 36 = .ok (.aload_n 0, 1) := by decide +kernel
theorem dX12_addCause_37 : decode cX12_addCause 37 = .ok (.getfield 392, 3) := by decide +kernel
theorem dX12_addCause_40 : decode cX12_addCause 40 = .ok (.istore_n 2, 1) := by decide +kernel
theorem dX12_addCause_41 : decode cX12_addCause 41 = .ok (.iload_n 2, 1) := by decide +kernel
theorem dX12_addCause_42 : decode cX12_addCause 42 = .ok (.ifCond .le 49, 3) := by decide +kernel
theorem dX12_addCause_45 : decode cX12_addCause 45 = .ok (.aload_n 0, 1) := by decide +kernel
theorem dX12_addCause_46 : decode cX12_addCause 46 = .ok (.getfield 87, 3) := by decide +kernel
theorem dX12_addCause_49 : decode cX12_addCause 49 = .ok (.iload_n 2, 1) := by decide +kernel
theorem dX12_addCause_50 : decode cX12_addCause 50 = .ok (.iconst 1, 1) := by decide +kernel
theorem dX12_addCause_51 : decode cX12_addCause 51 = .ok (.isub, 1) := by decide +kernel
theorem dX12_addCause_52 : decode cX12_addCause 52 = .ok (.iaload, 1) := by decide +kernel
theorem dX12_addCause_53 : decode cX12_addCause 53 = .ok (.iload_n 1, 1) := by decide +kernel
theorem dX12_addCause_54 : decode cX12_addCause 54 = .ok (.if_icmp .le 37, 3) := by decide +kernel
theorem dX12_addCause_57 : decode cX12_addCause 57 = .ok (.aload_n 0, 1) := by decide +kernel
theorem dX12_addCause_58 : decode cX12_addCause 58 = .ok (.getfield 87, 3) := by decide +kernel
theorem dX12_addCause_61 : decode cX12_addCause 61 = .ok (.iload_n 2, 1) := by decide +kernel
theorem dX12_addCause_62 : decode cX12_addCause 62 = .ok (.aload_n 0, 1) := by decide +kernel
theorem dX12_addCause_63 : decode cX12_addCause 63 = .ok (.getfield 87, 3) := by decide +kernel
theorem dX12_addCause_66 : decode cX12_addCause 66 = .ok (.iload_n 2, 1) := by decide +kernel
theorem dX12_addCause_67 : decode cX12_addCause 67 = .ok (.iconst 1, 1) := by decide +kernel
theorem dX12_addCause_68 : decode cX12_addCause 68 = .ok (.isub, 1) := by decide +kernel
theorem dX12_addCause_69 : decode cX12_addCause 69 = .ok (.iaload, 1) := by decide +kernel
theorem dX12_addCause_70 : decode cX12_addCause 70 = .ok (.iastore, 1) := by decide +kernel
theorem dX12_addCause_71 : decode cX12_addCause 71 = .ok (.aload_n 0, 1) := by decide +kernel
theorem dX12_addCause_72 : decode cX12_addCause 72 = .ok (.getfield 90, 3) := by decide +kernel
theorem dX12_addCause_75 : decode cX12_addCause 75 = .ok (.iload_n 2, 1) := by decide +kernel
theorem dX12_addCause_76 : decode cX12_addCause 76 = .ok (.aload_n 0, 1) := by decide +kernel
theorem dX12_addCause_77 : decode cX12_addCause 77 = .ok (.getfield 90, 3) := by decide +kernel
theorem dX12_addCause_80 : decode cX12_addCause 80 = .ok (.iload_n 2, 1) := by decide +kernel
theorem dX12_addCause_81 : decode cX12_addCause 81 = .ok (.iconst 1, 1) := by decide +kernel
theorem dX12_addCause_82 : decode cX12_addCause 82 = .ok (.isub, 1) := by decide +kernel
theorem dX12_addCause_83 : decode cX12_addCause 83 = .ok (.iaload, 1) := by decide +kernel
theorem dX12_addCause_84 : decode cX12_addCause 84 = .ok (.iastore, 1) := by decide +kernel
theorem dX12_addCause_85 : decode cX12_addCause 85 = .ok (.iinc 2 (-1), 3) := by decide +kernel
theorem dX12_addCause_88 : decode cX12_addCause 88 = .ok (.goto (-47), 3) := by decide +kernel
theorem dX12_addCause_91 : decode cX12_addCause 91 = .ok (.aload_n 0, 1) := by decide +kernel
theorem dX12_addCause_92 : decode cX12_addCause 92 = .ok (.getfield 87, 3) := by decide +kernel
theorem dX12_addCause_95 : decode cX12_addCause 95 = .ok (.iload_n 2, 1) := by decide +kernel
theorem dX12_addCause_96 : decode cX12_addCause 96 = .ok (.iload_n 1, 1) := by decide +kernel
theorem dX12_addCause_97 : decode cX12_addCause 97 = .ok (.iastore, 1) := by decide +kernel
theorem dX12_addCause_98 : decode cX12_addCause 98 = .ok (.aload_n 0, 1) := by decide +kernel
theorem dX12_addCause_99 : decode cX12_addCause 99 = .ok (.getfield 90, 3) := by decide +kernel
theorem dX12_addCause_102 : decode cX12_addCause 102 = .ok (.iload_n 2, 1) := by decide +kernel
theorem dX12_addCause_103 : decode cX12_addCause 103 = .ok (.iconst 0, 1) := by decide +kernel
theorem dX12_addCause_104 : decode cX12_addCause 104 = .ok (.iastore, 1) := by decide +kernel
theorem dX12_addCause_105 : decode cX12_addCause 105 = .ok (.iconst 0, 1) := by decide +kernel
theorem dX12_addCause_106 : decode cX12_addCause 106 = .ok (.istore_n 3, 1) := by decide +kernel
theorem dX12_addCause_107 : decode cX12_addCause 107 = .ok (.iload_n 3, 1) := by decide +kernel
theorem dX12_addCause_108 : decode cX12_addCause 108 = .ok (.aload_n 0, 1) := by decide +kernel
theorem dX12_addCause_109 : decode cX12_addCause 109 = .ok (.getfield 13, 3) := by decide +kernel
theorem dX12_addCause_112 : decode cX12_addCause 112 = .ok (.sipush 133, 3) := by decide +kernel
theorem dX12_addCause_115 : decode cX12_addCause 115 = .ok (.iaload, 1) := by decide +kernel
theorem dX12_addCause_116 : decode cX12_addCause 116 = .ok (.if_icmp .ge 39, 3) := by decide +kernel
theorem dX12_addCause_119 : decode cX12_addCause 119 = .ok (.aload_n 0, 1) := by decide +kernel
theorem dX12_addCause_120 : decode cX12_addCause 120 = .ok (.aload_n 0, 1) := by decide +kernel
theorem dX12_addCause_121 : decode cX12_addCause 121 = .ok (.getfield 13, 3) := by decide +kernel
theorem dX12_addCause_124 : decode cX12_addCause 124 = .ok (.sipush 140, 3) := by decide +kernel
theorem dX12_addCause_127 : decode cX12_addCause 127 = .ok (.iload_n 3, 1) := by decide +kernel
theorem dX12_addCause_128 : decode cX12_addCause 128 = .ok (.iadd, 1) := by decide +kernel
theorem dX12_addCause_129 : decode cX12_addCause 129 = .ok (.iaload, 1) := by decide +kernel
theorem dX12_addCause_130 : decode cX12_addCause 130 = .ok (.iload_n 1, 1) := by decide +kernel
theorem dX12_addCause_131 : decode cX12_addCause 131 = .ok (.invokevirtual 383, 3) := by decide +kernel
theorem dX12_addCause_134 : decode cX12_addCause 134 = .ok (.ifCond .eq 15, 3) := by decide +kernel
theorem dX12_addCause_137 : decode cX12_addCause 137 = .ok (.aload_n 0, 1) := by decide +kernel
theorem dX12_addCause_138 : decode cX12_addCause 138 = .ok (.getfield 90, 3) := by decide +kernel
theorem dX12_addCause_141 : decode cX12_addCause 141 = .ok (.iload_n 2, 1) := by decide +kernel
theorem dX12_addCause_142 : decode cX12_addCause 142 = .ok (.dup2, 1) := by decide +kernel
theorem dX12_addCause_143 : decode cX12_addCause 143 = .ok (.iaload, 1) := by decide +kernel
theorem dX12_addCause_144 : decode cX12_addCause 144 = .ok (.iconst 1, 1) := by decide +kernel
theorem dX12_addCause_145 : decode cX12_addCause 145 = .ok (.iload_n 3, 1) := by decide +kernel
theorem dX12_addCause_146 : decode cX12_addCause 146 = .ok (.ishl, 1) := by decide +kernel
theorem dX12_addCause_147 : decode cX12_addCause 147 = .ok (.ior, 1) := by decide +kernel
theorem dX12_addCause_148 : decode cX12_addCause 148 = .ok (.iastore, 1) := by decide +kernel
theorem dX12_addCause_149 : decode cX12_addCause 149 = .ok (.iinc 3 1, 3) := by decide +kernel
theorem dX12_addCause_152 : decode cX12_addCause 152 = .ok (.goto (-45), 3) := by decide +kernel
theorem dX12_addCause_155 : decode cX12_addCause 155 = .ok (.aload_n 0, 1) := by decide +kernel
theorem dX12_addCause_156 : decode cX12_addCause 156 = .ok (.dup, 1) := by decide +kernel
theorem dX12_addCause_157 : decode cX12_addCause 157 = .ok (.getfield 392, 3) := by decide +kernel
theorem dX12_addCause_160 : decode cX12_addCause 160 = .ok (.iconst 1, 1) := by decide +kernel
theorem dX12_addCause_161 : decode cX12_addCause 161 = .ok (.iadd, 1) := by decide +kernel
theorem dX12_addCause_162 : decode cX12_addCause 162 = .ok (.putfield 392, 3) := by decide +kernel
theorem dX12_addCause_165 : decode cX12_addCause 165 = .ok (.return_, 1) := by decide +kernel
theorem dX12_causes_0 : decode cX12_causes 0 = .ok (.aload_n 0, 1) := by decide +kernel
theorem dX12_causes_1 : decode cX12_causes 1 = .ok (.iconst 0, 1) := by decide +kernel
theorem dX12_causes_2 : decode cX12_causes 2 = .ok (.putfield 111, 3) := by decide +kernel
theorem dX12_causes_5 : decode cX12_causes 5 = .ok (.aload_n 0, 1) := by decide +kernel
theorem dX12_causes_6 : decode cX12_causes 6 = .ok (.invokevirtual 259, 3) := by decide +kernel
theorem dX12_causes_9 : decode cX12_causes 9 = .ok (.aload_n 0, 1) := by decide +kernel
theorem dX12_causes_10 : decode cX12_causes 10 = .ok (.iconst 0, 1) := by decide +kernel
theorem dX12_causes_11 : decode cX12_causes 11 = .ok (.putfield 392, 3) := by decide +kernel
theorem dX12_causes_14 : decode cX12_causes 14 = .ok (.iconst 0, 1) := by decide +kernel
theorem dX12_causes_15 : decode cX12_causes 15 = .ok (.istore_n 1, 1) := by decide +kernel
theorem dX12_causes_16 : decode cX12_causes 16 = .ok (.iload_n 1, 1) := by decide +kernel
theorem dX12_causes_17 : decode cX12_causes 17 = .ok (.aload_n 0, 1) := by decide +kernel
theorem dX12_causes_18 : decode cX12_causes 18 = .ok (.getfield 13, 3) := by decide +kernel
theorem dX12_causes_21 : decode cX12_causes 21 = .ok (.sipush 133, 3) := by decide +kernel
theorem dX12_causes_24 : decode cX12_causes 24 = .ok (.iaload, 1) := by decide +kernel
theorem dX12_causes_25 : decode cX12_causes 25 = .ok (.if_icmp .ge 58, 3) := by decide +kernel
theorem dX12_causes_28 : decode cX12_causes 28 = .ok (.aload_n 0, 1) := by decide +kernel
theorem dX12_causes_29 : decode cX12_causes 29 = .ok (.getfield 13, 3) := by decide +kernel
theorem dX12_causes_32 : decode cX12_causes 32 = .ok (.sipush 140, 3) := by decide +kernel
theorem dX12_causes_35 : decode cX12_causes 35 = .ok (.iload_n 1, 1) := by decide +kernel
theorem dX12_causes_36 : decode cX12_causes 36 = .ok (.iadd, 1) := by decide +kernel
theorem dX12_causes_37 : decode cX12_causes 37 = .ok (.iaload, 1) := by decide +kernel
theorem dX12_causes_38 : decode cX12_causes 38 = .ok (.istore_n 2, 1) := by decide +kernel
theorem dX12_causes_39 : decode cX12_causes 39 = .ok (.aload_n 0, 1) := by decide +kernel
theorem dX12_causes_40 : decode cX12_causes 40 = .ok (.aload_n 0, 1) := by decide +kernel
theorem dX12_causes_41 : decode cX12_causes 41 = .ok (.iload_n 2, 1) := by decide +kernel
theorem dX12_causes_42 : decode cX12_causes 42 = .ok (.bipush 9, 2) := by decide +kernel
theorem dX12_causes_44 : decode cX12_causes 44 = .ok (.invokevirtual 284, 3) := by decide +kernel
theorem dX12_causes_47 : decode cX12_causes 47 = .ok (.invokevirtual 399, 3) := by decide +kernel
theorem dX12_causes_50 : decode cX12_causes 50 = .ok (.aload_n 0, 1) := by decide +kernel
theorem dX12_causes_51 : decode cX12_causes 51 = .ok (.bipush 100, 2) := by decide +kernel
theorem dX12_causes_53 : decode cX12_causes 53 = .ok (.aload_n 0, 1) := by decide +kernel
theorem dX12_causes_54 : decode cX12_causes 54 = .ok (.iload_n 2, 1) := by decide +kernel
theorem dX12_causes_55 : decode cX12_causes 55 = .ok (.iconst 0, 1) := by decide +kernel
theorem dX12_causes_56 : decode cX12_causes 56 = .ok (.invokevirtual 284, 3) := by decide +kernel
theorem dX12_causes_59 : decode cX12_causes 59 = .ok (.iadd, 1) := by decide +kernel
theorem dX12_causes_60 : decode cX12_causes 60 = .ok (.invokevirtual 399, 3) := by decide +kernel
theorem dX12_causes_63 : decode cX12_causes 63 = .ok (.aload_n 0, 1) := by decide +kernel
theorem dX12_causes_64 : decode cX12_causes 64 = .ok (.sipush 200, 3) := by decide +kernel
theorem dX12_causes_67 : decode cX12_causes 67 = .ok (.aload_n 0, 1) := by decide +kernel
theorem dX12_causes_68 : decode cX12_causes 68 = .ok (.iload_n 2, 1) := by decide +kernel
theorem dX12_causes_69 : decode cX12_causes 69 = .ok (.iconst 5, 1) := by decide +kernel
theorem dX12_causes_70 : decode cX12_causes 70 = .ok (.invokevirtual 284, 3) := by decide +kernel
theorem dX12_causes_73 : decode cX12_causes 73 = .ok (.iadd, 1) := by decide +kernel
theorem dX12_causes_74 : decode cX12_causes 74 = .ok (.invokevirtual 399, 3) := by decide +kernel
theorem dX12_causes_77 : decode cX12_causes 77 = .ok (.iinc 1 1, 3) := by decide +kernel
theorem dX12_causes_80 : decode cX12_causes 80 = .ok (.goto (-64), 3) := by decide +kernel
theorem dX12_causes_83 : decode cX12_causes 83 = .ok (.iconst 1, 1) := by decide +kernel
theorem dX12_causes_84 : decode cX12_causes 84 = .ok (.aload_n 0, 1) := by decide +kernel
theorem dX12_causes_85 : decode cX12_causes 85 = .ok (.getfield 13, 3) := by decide +kernel
theorem dX12_causes_88 : decode cX12_causes 88 = .ok (.sipush 133, 3) := by decide +kernel
theorem dX12_causes_91 : decode cX12_causes 91 = .ok (.iaload, 1) := by decide +kernel
theorem dX12_causes_92 : decode cX12_causes 92 = .ok (.ishl, 1) := by decide +kernel
theorem dX12_causes_93 : decode cX12_causes 93 = .ok (.iconst 1, 1) := by decide +kernel
theorem dX12_causes_94 : decode cX12_causes 94 = .ok (.isub, 1) := by decide +kernel
theorem dX12_causes_95 : decode cX12_causes 95 = .ok (.istore_n 1, 1) := by decide +kernel
theorem dX12_causes_96 : decode cX12_causes 96 = .ok (.iconst 0, 1) := by decide +kernel
theorem dX12_causes_97 : decode cX12_causes 97 = .ok (.istore_n 2, 1) := by decide +kernel
theorem dX12_causes_98 : decode cX12_causes 98 = .ok (.iload_n 2, 1) := by decide +kernel
theorem dX12_causes_99 : decode cX12_causes 99 = .ok (.bipush 12, 2) := by decide +kernel
theorem dX12_causes_101 : decode cX12_causes 101 = .ok (.if_icmp .gt 25, 3) := by decide +kernel
theorem dX12_causes_104 : decode cX12_causes 104 = .ok (.aload_n 0, 1) := by decide +kernel
theorem dX12_causes_105 : decode cX12_causes 105 = .ok (.iconst 0, 1) := by decide +kernel
theorem dX12_causes_106 : decode cX12_causes 106 = .ok (.iconst 0, 1) := by decide +kernel
theorem dX12_causes_107 : decode cX12_causes 107 = .ok (.iload_n 1, 1) := by decide +kernel
theorem dX12_causes_108 : decode cX12_causes 108 = .ok (.iload_n 2, 1) := by decide +kernel
theorem dX12_causes_109 : decode cX12_causes 109 = .ok (.invokevirtual 395, 3) := by decide +kernel
theorem dX12_causes_112 : decode cX12_causes 112 = .ok (.ifCond .eq 8, 3) := by decide +kernel
theorem dX12_causes_115 : decode cX12_causes 115 = .ok (.aload_n 0, 1) := by decide +kernel
theorem dX12_causes_116 : decode cX12_causes 116 = .ok (.getfield 389, 3) := by decide +kernel
theorem dX12_causes_119 : decode cX12_causes 119 = .ok (.ireturn, 1) := by decide +kernel
theorem dX12_causes_120 : decode cX12_causes 120 = .ok (.iinc 2 1, 3) := by decide +kernel
theorem dX12_causes_123 : decode cX12_causes 123 = .ok (.goto (-25), 3) := by decide +kernel
theorem dX12_causes_126 : decode cX12_causes 126 = .ok (.iconst (-1), 1) := by decide +kernel
theorem dX12_causes_127 : decode cX12_causes 127 = .ok (.ireturn, 1) := by decide +kernel
theorem dX12_cause_0 : decode cX12_cause 0 = .ok (.aload_n 0, 1) := by decide +kernel
theorem dX12_cause_1 : decode cX12_cause 1 = .ok (.iconst 0, 1) := by decide +kernel
theorem dX12_cause_2 : decode cX12_cause 2 = .ok (.putfield 111, 3) := by decide +kernel
theorem dX12_cause_5 : decode cX12_cause 5 = .ok (.iload_n 1, 1) := by decide +kernel
theorem dX12_cause_6 : decode cX12_cause 6 = .ok (.ifCond .lt 20, 3) := by decide +kernel
theorem dX12_cause_9 : decode cX12_cause 9 = .ok (.iload_n 1, 1) := by decide +kernel
theorem dX12_cause_10 : decode cX12_cause 10 = .ok (.aload_n 0, 1) := by decide +kernel
theorem dX12_cause_11 : decode cX12_cause 11 = .ok (.getfield 389, 3) := by decide +kernel
theorem dX12_cause_14 : decode cX12_cause 14 = .ok (.if_icmp .ge 12, 3) := by decide +kernel
theorem dX12_cause_17 : decode cX12_cause 17 = .ok (.aload_n 0, 1) := by decide +kernel
theorem dX12_cause_18 : decode cX12_cause 18 = .ok (.getfield 96, 3) := by decide +kernel
theorem dX12_cause_21 : decode cX12_cause 21 = .ok (.iload_n 1, 1) := by decide +kernel
theorem dX12_cause_22 : decode cX12_cause 22 = .ok (.iaload, 1) := by decide +kernel
theorem dX12_cause_23 : decode cX12_cause 23 = .ok (.goto 4, 3) := by decide +kernel
theorem dX12_cause_26 : decode cX12_cause 26 = .ok (.iconst (-1), 1) := by decide +kernel
theorem dX12_cause_27 : decode cX12_cause 27 = .ok (.ireturn, 1) := by decide +kernel
theorem dX12_solvent_0 : decode cX12_solvent 0 = .ok (.aload_n 0, 1) := by decide +kernel
theorem dX12_solvent_1 : decode cX12_solvent 1 = .ok (.iconst 0, 1) := by decide +kernel
theorem dX12_solvent_2 : decode cX12_solvent 2 = .ok (.putfield 111, 3) := by decide +kernel
theorem dX12_solvent_5 : decode cX12_solvent 5 = .ok (.aload_n 0, 1) := by decide +kernel
theorem dX12_solvent_6 : decode cX12_solvent 6 = .ok (.invokevirtual 259, 3) := by decide +kernel
theorem dX12_solvent_9 : decode cX12_solvent 9 = .ok (.iload_n 1, 1) := by decide +kernel
theorem dX12_solvent_10 : decode cX12_solvent 10 = .ok (.iconst 0, 1) := by decide +kernel
theorem dX12_solvent_11 : decode cX12_solvent 11 = .ok (.sipush 30000, 3) := by decide +kernel
theorem dX12_solvent_14 : decode cX12_solvent 14 = .ok (.invokestatic 171, 3) := by decide +kernel
theorem dX12_solvent_17 : decode cX12_solvent 17 = .ok (.ifCond .eq 39, 3) := by decide +kernel
theorem dX12_solvent_20 : decode cX12_solvent 20 = .ok (.iload_n 2, 1) := by decide +kernel
theorem dX12_solvent_21 : decode cX12_solvent 21 = .ok (.iconst 0, 1) := by decide +kernel
theorem dX12_solvent_22 : decode cX12_solvent 22 = .ok (.sipush 30000, 3) := by decide +kernel
theorem dX12_solvent_25 : decode cX12_solvent 25 = .ok (.invokestatic 171, 3) := by decide +kernel
theorem dX12_solvent_28 : decode cX12_solvent 28 = .ok (.ifCond .eq 28, 3) := by decide +kernel
theorem dX12_solvent_31 : decode cX12_solvent 31 = .ok (.iload_n 3, 1) := by decide +kernel
theorem dX12_solvent_32 : decode cX12_solvent 32 = .ok (.iconst 0, 1) := by decide +kernel
theorem dX12_solvent_33 : decode cX12_solvent 33 = .ok (.sipush 30000, 3) := by decide +kernel
theorem dX12_solvent_36 : decode cX12_solvent 36 = .ok (.invokestatic 171, 3) := by decide +kernel
theorem dX12_solvent_39 : decode cX12_solvent 39 = .ok (.ifCond .eq 17, 3) := by decide +kernel
theorem dX12_solvent_42 : decode cX12_solvent 42 = .ok (.aload_n 0, 1) := by decide +kernel
theorem dX12_solvent_43 : decode cX12_solvent 43 = .ok (.getfield 13, 3) := by decide +kernel
theorem dX12_solvent_46 : decode cX12_solvent 46 = .ok (.sipush 134, 3) := by decide +kernel
theorem dX12_solvent_49 : decode cX12_solvent 49 = .ok (.iaload, 1) := by decide +kernel
theorem dX12_solvent_50 : decode cX12_solvent 50 = .ok (.sipush 200, 3) := by decide +kernel
theorem dX12_solvent_53 : decode cX12_solvent 53 = .ok (.if_icmp .ne 5, 3) := by decide +kernel
theorem dX12_solvent_56 : decode cX12_solvent 56 = .ok (.iconst (-1), 1) := by decide +kernel
theorem dX12_solvent_57 : decode cX12_solvent 57 = .ok (.ireturn, 1) := by decide +kernel
theorem dX12_solvent_58 : decode cX12_solvent 58 = .ok (.sipush 1400, 3) := by decide +kernel
theorem dX12_solvent_61 : decode cX12_solvent 61 = .ok (.iconst 3, 1) := by decide +kernel
theorem dX12_solvent_62 : decode cX12_solvent 62 = .ok (.aload_n 0, 1) := by decide +kernel
theorem dX12_solvent_63 : decode cX12_solvent 63 = .ok (.getfield 13, 3) := by decide +kernel
theorem dX12_solvent_66 : decode cX12_solvent 66 = .ok (.sipush 134, 3) := by decide +kernel
theorem dX12_solvent_69 : decode cX12_solvent 69 = .ok (.iaload, 1) := by decide +kernel
theorem dX12_solvent_70 : decode cX12_solvent 70 = .ok (.imul, 1) := by decide +kernel
theorem dX12_solvent_71 : decode cX12_solvent 71 = .ok (.iadd, 1) := by decide +kernel
theorem dX12_solvent_72 : decode cX12_solvent 72 = .ok (.istore 4, 2) := by decide +kernel
theorem dX12_solvent_74 : decode cX12_solvent 74 = .ok (.aload_n 0, 1) := by decide +kernel
theorem dX12_solvent_75 : decode cX12_solvent 75 = .ok (.getfield 13, 3) := by decide +kernel
theorem dX12_solvent_78 : decode cX12_solvent 78 = .ok (.iload 4, 2) := by decide +kernel
theorem dX12_solvent_80 : decode cX12_solvent 80 = .ok (.iload_n 1, 1) := by decide +kernel
theorem dX12_solvent_81 : decode cX12_solvent 81 = .ok (.iastore, 1) := by decide +kernel
theorem dX12_solvent_82 : decode cX12_solvent 82 = .ok (.aload_n 0, 1) := by decide +kernel
theorem dX12_solvent_83 : decode cX12_solvent 83 = .ok (.getfield 13, 3) := by decide +kernel
theorem dX12_solvent_86 : decode cX12_solvent 86 = .ok (.iload 4, 2) := by decide +kernel
theorem dX12_solvent_88 : decode cX12_solvent 88 = .ok (.iconst 1, 1) := by decide +kernel
theorem dX12_solvent_89 : decode cX12_solvent 89 = .ok (.iadd, 1) := by decide +kernel
theorem dX12_solvent_90 : decode cX12_solvent 90 = .ok (.iload_n 2, 1) := by decide +kernel
theorem dX12_solvent_91 : decode cX12_solvent 91 = .ok (.iastore, 1) := by decide +kernel
theorem dX12_solvent_92 : decode cX12_solvent 92 = .ok (.aload_n 0, 1) := by decide +kernel
theorem dX12_solvent_93 : decode cX12_solvent 93 = .ok (.getfield 13, 3) := by decide +kernel
theorem dX12_solvent_96 : decode cX12_solvent 96 = .ok (.iload 4, 2) := by decide +kernel
theorem dX12_solvent_98 : decode cX12_solvent 98 = .ok (.iconst 2, 1) := by decide +kernel
theorem dX12_solvent_99 : decode cX12_solvent 99 = .ok (.iadd, 1) := by decide +kernel
theorem dX12_solvent_100 : decode cX12_solvent 100 = .ok (.iload_n 3, 1) := by decide +kernel
theorem dX12_solvent_101 : decode cX12_solvent 101 = .ok (.iastore, 1) := by decide +kernel
theorem dX12_solvent_102 : decode cX12_solvent 102 = .ok (.aload_n 0, 1) := by decide +kernel
theorem dX12_solvent_103 : decode cX12_solvent 103 = .ok (.getfield 13, 3) := by decide +kernel
theorem dX12_solvent_106 : decode cX12_solvent 106 = .ok (.sipush 134, 3) := by decide +kernel
theorem dX12_solvent_109 : decode cX12_solvent 109 = .ok (.dup2, 1) := by decide +kernel
theorem dX12_solvent_110 : decode cX12_solvent 110 = .ok (.iaload, 1) := by decide +kernel
theorem dX12_solvent_111 : decode cX12_solvent 111 = .ok (.iconst 1, 1) := by decide +kernel
theorem dX12_solvent_112 : decode cX12_solvent 112 = .ok (.iadd, 1) := by decide +kernel
theorem dX12_solvent_113 : decode cX12_solvent 113 = .ok (.iastore, 1) := by decide +kernel
theorem dX12_solvent_114 : decode cX12_solvent 114 = .ok (.aload_n 0, 1) := by decide +kernel
theorem dX12_solvent_115 : decode cX12_solvent 115 = .ok (.getfield 13, 3) := by decide +kernel
theorem dX12_solvent_118 : decode cX12_solvent 118 = .ok (.sipush 134, 3) := by decide +kernel
theorem dX12_solvent_121 : decode cX12_solvent 121 = .ok (.iaload, 1) := by decide +kernel
theorem dX12_solvent_122 : decode cX12_solvent 122 = .ok (.iconst 1, 1) := by decide +kernel
theorem dX12_solvent_123 : decode cX12_solvent 123 = .ok (.isub, 1) := by decide +kernel
theorem dX12_solvent_124 : decode cX12_solvent 124 = .ok (.ireturn, 1) := by decide +kernel
theorem dX12_lostOn_0 : decode cX12_lostOn 0 = .ok (.iload_n 1, 1) := by decide +kernel
theorem dX12_lostOn_1 : decode cX12_lostOn 1 = .ok (.ifCond .ne 7, 3) := by decide +kernel
theorem dX12_lostOn_4 : decode cX12_lostOn 4 = .ok (.iconst 0, 1) := by decide +kernel
theorem dX12_lostOn_5 : decode cX12_lostOn 5 = .ok (.goto 17, 3) := by decide +kernel
theorem dX12_lostOn_8 : decode cX12_lostOn 8 = .ok (.aload_n 0, 1) := by decide +kernel
theorem dX12_lostOn_9 : decode cX12_lostOn 9 = .ok (.getfield 13, 3) := by decide +kernel
theorem dX12_lostOn_12 : decode cX12_lostOn 12 = .ok (.sipush 1400, 3) := by decide +kernel
theorem dX12_lostOn_15 : decode cX12_lostOn 15 = .ok (.iconst 3, 1) := by decide +kernel
theorem dX12_lostOn_16 : decode cX12_lostOn 16 = .ok (.iload_n 1, 1) := by decide +kernel
theorem dX12_lostOn_17 : decode cX12_lostOn 17 = .ok (.imul, 1) := by decide +kernel
theorem dX12_lostOn_18 : decode cX12_lostOn 18 = .ok (.iadd, 1) := by decide +kernel
theorem dX12_lostOn_19 : decode cX12_lostOn 19 = .ok (.iconst 1, 1) := by decide +kernel
theorem dX12_lostOn_20 : decode cX12_lostOn 20 = .ok (.isub, 1) := by decide +kernel
theorem dX12_lostOn_21 : decode cX12_lostOn 21 = .ok (.iaload, 1) := by decide +kernel
theorem dX12_lostOn_22 : decode cX12_lostOn 22 = .ok (.istore_n 2, 1) := by decide +kernel
theorem dX12_lostOn_23 : decode cX12_lostOn 23 = .ok (.iload_n 2, 1) := by decide +kernel
theorem dX12_lostOn_24 : decode cX12_lostOn 24 = .ok (.aload_n 0, 1) := by decide +kernel
theorem dX12_lostOn_25 : decode cX12_lostOn 25 = .ok (.getfield 13, 3) := by decide +kernel
theorem dX12_lostOn_28 : decode cX12_lostOn 28 = .ok (.sipush 1400, 3) := by decide +kernel
theorem dX12_lostOn_31 : decode cX12_lostOn 31 = .ok (.iconst 3, 1) := by decide +kernel
theorem dX12_lostOn_32 : decode cX12_lostOn 32 = .ok (.iload_n 1, 1) := by decide +kernel
theorem dX12_lostOn_33 : decode cX12_lostOn 33 = .ok (.imul, 1) := by decide +kernel
theorem dX12_lostOn_34 : decode cX12_lostOn 34 = .ok (.iadd, 1) := by decide +kernel
theorem dX12_lostOn_35 : decode cX12_lostOn 35 = .ok (.iaload, 1) := by decide +kernel
theorem dX12_lostOn_36 : decode cX12_lostOn 36 = .ok (.iadd, 1) := by decide +kernel
theorem dX12_lostOn_37 : decode cX12_lostOn 37 = .ok (.aload_n 0, 1) := by decide +kernel
theorem dX12_lostOn_38 : decode cX12_lostOn 38 = .ok (.getfield 13, 3) := by decide +kernel
theorem dX12_lostOn_41 : decode cX12_lostOn 41 = .ok (.sipush 1400, 3) := by decide +kernel
theorem dX12_lostOn_44 : decode cX12_lostOn 44 = .ok (.iconst 3, 1) := by decide +kernel
theorem dX12_lostOn_45 : decode cX12_lostOn 45 = .ok (.iload_n 1, 1) := by decide +kernel
theorem dX12_lostOn_46 : decode cX12_lostOn 46 = .ok (.imul, 1) := by decide +kernel
theorem dX12_lostOn_47 : decode cX12_lostOn 47 = .ok (.iadd, 1) := by decide +kernel
theorem dX12_lostOn_48 : decode cX12_lostOn 48 = .ok (.iconst 2, 1) := by decide +kernel
theorem dX12_lostOn_49 : decode cX12_lostOn 49 = .ok (.iadd, 1) := by decide +kernel
theorem dX12_lostOn_50 : decode cX12_lostOn 50 = .ok (.iaload, 1) := by decide +kernel
theorem dX12_lostOn_51 : decode cX12_lostOn 51 = .ok (.isub, 1) := by decide +kernel
theorem dX12_lostOn_52 : decode cX12_lostOn 52 = .ok (.ireturn, 1) := by decide +kernel
theorem dX12_lost_0 : decode cX12_lost 0 = .ok (.aload_n 0, 1) := by decide +kernel
theorem dX12_lost_1 : decode cX12_lost 1 = .ok (.invokevirtual 259, 3) := by decide +kernel
theorem dX12_lost_4 : decode cX12_lost 4 = .ok (.iload_n 1, 1) := by decide +kernel
theorem dX12_lost_5 : decode cX12_lost 5 = .ok (.ifCond .lt 15, 3) := by decide +kernel
theorem dX12_lost_8 : decode cX12_lost 8 = .ok (.iload_n 1, 1) := by decide +kernel
theorem dX12_lost_9 : decode cX12_lost 9 = .ok (.aload_n 0, 1) := by decide +kernel
theorem dX12_lost_10 : decode cX12_lost 10 = .ok (.getfield 13, 3) := by decide +kernel
theorem dX12_lost_13 : decode cX12_lost 13 = .ok (.sipush 134, 3) := by decide +kernel
theorem dX12_lost_16 : decode cX12_lost 16 = .ok (.iaload, 1) := by decide +kernel
theorem dX12_lost_17 : decode cX12_lost 17 = .ok (.if_icmp .lt 8, 3) := by decide +kernel
theorem dX12_lost_20 : decode cX12_lost 20 = .ok (.aload_n 0, 1) := by decide +kernel
theorem dX12_lost_21 : decode cX12_lost 21 = .ok (.invokevirtual 281, 3) := by decide +kernel
theorem dX12_lost_24 : decode cX12_lost 24 = .ok (.ireturn, 1) := by decide +kernel
theorem dX12_lost_25 : decode cX12_lost 25 = .ok (.aload_n 0, 1) := by decide +kernel
theorem dX12_lost_26 : decode cX12_lost 26 = .ok (.iconst 0, 1) := by decide +kernel
theorem dX12_lost_27 : decode cX12_lost 27 = .ok (.putfield 111, 3) := by decide +kernel
theorem dX12_lost_30 : decode cX12_lost 30 = .ok (.aload_n 0, 1) := by decide +kernel
theorem dX12_lost_31 : decode cX12_lost 31 = .ok (.iload_n 1, 1) := by decide +kernel
theorem dX12_lost_32 : decode cX12_lost 32 = .ok (.invokevirtual 402, 3) := by decide +kernel
theorem dX12_lost_35 : decode cX12_lost 35 = .ok (.ireturn, 1) := by decide +kernel
theorem dX12_broken_0 : decode cX12_broken 0 = .ok (.aload_n 0, 1) := by decide +kernel
theorem dX12_broken_1 : decode cX12_broken 1 = .ok (.iconst 0, 1) := by decide +kernel
theorem dX12_broken_2 : decode cX12_broken 2 = .ok (.putfield 111, 3) := by decide +kernel
theorem dX12_broken_5 : decode cX12_broken 5 = .ok (.aload_n 0, 1) := by decide +kernel
theorem dX12_broken_6 : decode cX12_broken 6 = .ok (.invokevirtual 259, 3) := by decide +kernel
theorem dX12_broken_9 : decode cX12_broken 9 = .ok (.iconst 0, 1) := by decide +kernel
theorem dX12_broken_10 : decode cX12_broken 10 = .ok (.istore_n 1, 1) := by decide +kernel
theorem dX12_broken_11 : decode cX12_broken 11 = .ok (.iload_n 1, 1) := by decide +kernel
theorem dX12_broken_12 : decode cX12_broken 12 = .ok (.aload_n 0, 1) := by decide +kernel
theorem dX12_broken_13 : decode cX12_broken 13 = .ok (.getfield 13, 3) := by decide +kernel
theorem dX12_broken_16 : decode cX12_broken 16 = .ok (.sipush 134, 3) := by decide +kernel
theorem dX12_broken_19 : decode cX12_broken 19 = .ok (.iaload, 1) := by decide +kernel
theorem dX12_broken_20 : decode cX12_broken 20 = .ok (.if_icmp .ge 83, 3) := by decide +kernel
theorem dX12_broken_23 : decode cX12_broken 23 = .ok (.iconst 0, 1) := by decide +kernel
theorem dX12_broken_24 : decode cX12_broken 24 = .ok (.istore_n 2, 1) := by decide +kernel
theorem dX12_broken_25 : decode cX12_broken 25 = .ok (.iconst 0, 1) := by decide +kernel
theorem dX12_broken_26 : decode cX12_broken 26 = .ok (.istore_n 3, 1) := by decide +kernel
theorem dX12_broken_27 : decode cX12_broken 27 = .ok (.iload_n 1, 1) := by decide +kernel
theorem dX12_broken_28 : decode cX12_broken 28 = .ok (.bipush 6, 2) := by decide +kernel
theorem dX12_broken_30 : decode cX12_broken 30 = .ok (.if_icmp .ge 7, 3) := by decide +kernel
theorem dX12_broken_33 : decode cX12_broken 33 = .ok (.iconst 0, 1) := by decide +kernel
theorem dX12_broken_34 : decode cX12_broken 34 = .ok (.goto 7, 3) := by decide +kernel
theorem dX12_broken_37 : decode cX12_broken 37 = .ok (.iload_n 1, 1) := by decide +kernel
theorem dX12_broken_38 : decode cX12_broken 38 = .ok (.bipush 6, 2) := by decide +kernel
theorem dX12_broken_40 : decode cX12_broken 40 = .ok (.isub, 1) := by decide +kernel
theorem dX12_broken_41 : decode cX12_broken 41 = .ok (.istore 4, 2) := by decide +kernel
theorem dX12_broken_43 : decode cX12_broken 43 = .ok (.iload 4, 2) := by decide +kernel
theorem dX12_broken_45 : decode cX12_broken 45 = .ok (.iload_n 1, 1) := by decide +kernel
theorem dX12_broken_46 : decode cX12_broken 46 = .ok (.if_icmp .gt 36, 3) := by decide +kernel
theorem dX12_broken_49 : decode cX12_broken 49 = .ok (.iload_n 2, 1) := by decide +kernel
theorem dX12_broken_50 : decode cX12_broken 50 = .ok (.aload_n 0, 1) := by decide +kernel
theorem dX12_broken_51 : decode cX12_broken 51 = .ok (.iload 4, 2) := by decide +kernel
theorem dX12_broken_53 : decode cX12_broken 53 = .ok (.invokevirtual 402, 3) := by decide +kernel
theorem dX12_broken_56 : decode cX12_broken 56 = .ok (.iadd, 1) := by decide +kernel
theorem dX12_broken_57 : decode cX12_broken 57 = .ok (.istore_n 2, 1) := by decide +kernel
theorem dX12_broken_58 : decode cX12_broken 58 = .ok (.iload_n 3, 1) := by decide +kernel
theorem dX12_broken_59 : decode cX12_broken 59 = .ok (.aload_n 0, 1) := by decide +kernel
theorem dX12_broken_60 : decode cX12_broken 60 = .ok (.getfield 13, 3) := by decide +kernel
theorem dX12_broken_63 : decode cX12_broken 63 = .ok (.sipush 1400, 3) := by decide +kernel
theorem dX12_broken_66 : decode cX12_broken 66 = .ok (.iconst 3, 1) := by decide +kernel
theorem dX12_broken_67 : decode cX12_broken 67 = .ok (.iload 4, 2) := by decide +kernel
theorem dX12_broken_69 : decode cX12_broken 69 = .ok (.imul, 1) := by decide +kernel
theorem dX12_broken_70 : decode cX12_broken 70 = .ok (.iadd, 1) := by decide +kernel
theorem dX12_broken_71 : decode cX12_broken 71 = .ok (.iconst 1, 1) := by decide +kernel
theorem dX12_broken_72 : decode cX12_broken 72 = .ok (.iadd, 1) := by decide +kernel
theorem dX12_broken_73 : decode cX12_broken 73 = .ok (.iaload, 1) := by decide +kernel
theorem dX12_broken_74 : decode cX12_broken 74 = .ok (.iadd, 1) := by decide +kernel
theorem dX12_broken_75 : decode cX12_broken 75 = .ok (.istore_n 3, 1) := by decide +kernel
theorem dX12_broken_76 : decode cX12_broken 76 = .ok (.iinc 4 1, 3) := by decide +kernel
theorem dX12_broken_79 : decode cX12_broken 79 = .ok (.goto (-36), 3) := by decide +kernel
theorem dX12_broken_82 : decode cX12_broken 82 = .ok (.iload_n 2, 1) := by decide +kernel
theorem dX12_broken_83 : decode cX12_broken 83 = .ok (.aload_n 0, 1) := by decide +kernel
theorem dX12_broken_84 : decode cX12_broken 84 = .ok (.getfield 13, 3) := by decide +kernel
theorem dX12_broken_87 : decode cX12_broken 87 = .ok (.bipush 6, 2) := by decide +kernel
theorem dX12_broken_89 : decode cX12_broken 89 = .ok (.iaload, 1) := by decide +kernel
theorem dX12_broken_90 : decode cX12_broken 90 = .ok (.iload_n 3, 1) := by decide +kernel
theorem dX12_broken_91 : decode cX12_broken 91 = .ok (.imul, 1) := by decide +kernel
theorem dX12_broken_92 : decode cX12_broken 92 = .ok (.if_icmp .le 5, 3) := by decide +kernel
theorem dX12_broken_95 : decode cX12_broken 95 = .ok (.iload_n 1, 1) := by decide +kernel
theorem dX12_broken_96 : decode cX12_broken 96 = .ok (.ireturn, 1) := by decide +kernel
theorem dX12_broken_97 : decode cX12_broken 97 = .ok (.iinc 1 1, 3) := by decide +kernel
theorem dX12_broken_100 : decode cX12_broken 100 = .ok (.goto (-89), 3) := by decide +kernel
theorem dX12_broken_103 : decode cX12_broken 103 = .ok (.iconst (-1), 1) := by decide +kernel
theorem dX12_broken_104 : decode cX12_broken 104 = .ok (.ireturn, 1) := by decide +kernel
theorem dX12_place_0 : decode cX12_place 0 = .ok (.aload_n 0, 1) := by decide +kernel
theorem dX12_place_1 : decode cX12_place 1 = .ok (.iconst 0, 1) := by decide +kernel
theorem dX12_place_2 : decode cX12_place 2 = .ok (.putfield 111, 3) := by decide +kernel
theorem dX12_place_5 : decode cX12_place 5 = .ok (.aload_n 0, 1) := by decide +kernel
theorem dX12_place_6 : decode cX12_place 6 = .ok (.invokevirtual 259, 3) := by decide +kernel
theorem dX12_place_9 : decode cX12_place 9 = .ok (.iload_n 1, 1) := by decide +kernel
theorem dX12_place_10 : decode cX12_place 10 = .ok (.iconst 0, 1) := by decide +kernel
theorem dX12_place_11 : decode cX12_place 11 = .ok (.bipush 39, 2) := by decide +kernel
theorem dX12_place_13 : decode cX12_place 13 = .ok (.invokestatic 171, 3) := by decide +kernel
theorem dX12_place_16 : decode cX12_place 16 = .ok (.ifCond .eq 23, 3) := by decide +kernel
theorem dX12_place_19 : decode cX12_place 19 = .ok (.iload_n 2, 1) := by decide +kernel
theorem dX12_place_20 : decode cX12_place 20 = .ok (.iconst 0, 1) := by decide +kernel
theorem dX12_place_21 : decode cX12_place 21 = .ok (.bipush 99, 2) := by decide +kernel
theorem dX12_place_23 : decode cX12_place 23 = .ok (.invokestatic 171, 3) := by decide +kernel
theorem dX12_place_26 : decode cX12_place 26 = .ok (.ifCond .eq 13, 3) := by decide +kernel
theorem dX12_place_29 : decode cX12_place 29 = .ok (.iload_n 3, 1) := by decide +kernel
theorem dX12_place_30 : decode cX12_place 30 = .ok (.iconst 0, 1) := by decide +kernel
theorem dX12_place_31 : decode cX12_place 31 = .ok (.bipush 99, 2) := by decide +kernel
theorem dX12_place_33 : decode cX12_place 33 = .ok (.invokestatic 171, 3) := by decide +kernel
theorem dX12_place_36 : decode cX12_place 36 = .ok (.ifCond .ne 5, 3) := by decide +kernel
theorem dX12_place_39 : decode cX12_place 39 = .ok (.iconst 0, 1) := by decide +kernel
theorem dX12_place_40 : decode cX12_place 40 = .ok (.ireturn, 1) := by decide +kernel
theorem dX12_place_41 : decode cX12_place 41 = .ok (.aload_n 0, 1) := by decide +kernel
theorem dX12_place_42 : decode cX12_place 42 = .ok (.getfield 13, 3) := by decide +kernel
theorem dX12_place_45 : decode cX12_place 45 = .ok (.sipush 2440, 3) := by decide +kernel
theorem dX12_place_48 : decode cX12_place 48 = .ok (.iconst 2, 1) := by decide +kernel
theorem dX12_place_49 : decode cX12_place 49 = .ok (.iload_n 1, 1) := by decide +kernel
theorem dX12_place_50 : decode cX12_place 50 = .ok (.imul, 1) := by decide +kernel
theorem dX12_place_51 : decode cX12_place 51 = .ok (.iadd, 1) := by decide +kernel
theorem dX12_place_52 : decode cX12_place 52 = .ok (.iload_n 2, 1) := by decide +kernel
theorem dX12_place_53 : decode cX12_place 53 = .ok (.iastore, 1) := by decide +kernel
theorem dX12_place_54 : decode cX12_place 54 = .ok (.aload_n 0, 1) := by decide +kernel
theorem dX12_place_55 : decode cX12_place 55 = .ok (.getfield 13, 3) := by decide +kernel
theorem dX12_place_58 : decode cX12_place 58 = .ok (.sipush 2440, 3) := by decide +kernel
theorem dX12_place_61 : decode cX12_place 61 = .ok (.iconst 2, 1) := by decide +kernel
theorem dX12_place_62 : decode cX12_place 62 = .ok (.iload_n 1, 1) := by decide +kernel
theorem dX12_place_63 : decode cX12_place 63 = .ok (.imul, 1) := by decide +kernel
theorem dX12_place_64 : decode cX12_place 64 = .ok (.iadd, 1) := by decide +kernel
theorem dX12_place_65 : decode cX12_place 65 = .ok (.iconst 1, 1) := by decide +kernel
theorem dX12_place_66 : decode cX12_place 66 = .ok (.iadd, 1) := by decide +kernel
theorem dX12_place_67 : decode cX12_place 67 = .ok (.iload_n 3, 1) := by decide +kernel
theorem dX12_place_68 : decode cX12_place 68 = .ok (.iastore, 1) := by decide +kernel
theorem dX12_place_69 : decode cX12_place 69 = .ok (.iconst 1, 1) := by decide +kernel
theorem dX12_place_70 : decode cX12_place 70 = .ok (.ireturn, 1) := by decide +kernel
theorem dX12_gap_0 : decode cX12_gap 0 = .ok (.iload_n 0, 1) := by decide +kernel
theorem dX12_gap_1 : decode cX12_gap 1 = .ok (.iload_n 1, 1) := by decide +kernel
theorem dX12_gap_2 : decode cX12_gap 2 = .ok (.if_icmp .le 9, 3) := by decide +kernel
theorem dX12_gap_5 : decode cX12_gap 5 = .ok (.iload_n 0, 1) := by decide +kernel
theorem dX12_gap_6 : decode cX12_gap 6 = .ok (.iload_n 1, 1) := by decide +kernel
theorem dX12_gap_7 : decode cX12_gap 7 = .ok (.isub, 1) := by decide +kernel
theorem dX12_gap_8 : decode cX12_gap 8 = .ok (.goto 6, 3) := by decide +kernel
theorem dX12_gap_11 : decode cX12_gap 11 = .ok (.iload_n 1, 1) := by decide +kernel
theorem dX12_gap_12 : decode cX12_gap 12 = .ok (.iload_n 0, 1) := by decide +kernel
theorem dX12_gap_13 : decode cX12_gap 13 = .ok (.isub, 1) := by decide +kernel
