theorem dX4_init_0 : decode cX4_init 0 = .ok (.aload_n 0, 1) := by decide +kernel
theorem dX4_init_1 : decode cX4_init 1 = .ok (.invokespecial 3, 3) := by decide +kernel
theorem dX4_init_4 : decode cX4_init 4 = .ok (.aload_n 0, 1) := by decide +kernel
theorem dX4_init_5 : decode cX4_init 5 = .ok (.bipush 10, 2) := by decide +kernel
theorem dX4_init_7 : decode cX4_init 7 = .ok (.newarray .int, 2) := by decide +kernel
theorem dX4_init_9 : decode cX4_init 9 = .ok (.putfield 9, 3) := by decide +kernel
theorem dX4_init_12 : decode cX4_init 12 = .ok (.aload_n 0, 1) := by decide +kernel
theorem dX4_init_13 : decode cX4_init 13 = .ok (.bipush 10, 2) := by decide +kernel
theorem dX4_init_15 : decode cX4_init 15 = .ok (.newarray .int, 2) := by decide +kernel
theorem dX4_init_17 : decode cX4_init 17 = .ok (.putfield 15, 3) := by decide +kernel
theorem dX4_init_20 : decode cX4_init 20 = .ok (.aload_n 0, 1) := by decide +kernel
theorem dX4_init_21 : decode cX4_init 21 = .ok (.bipush 10, 2) := by decide +kernel
theorem dX4_init_23 : decode cX4_init 23 = .ok (.newarray .int, 2) := by decide +kernel
theorem dX4_init_25 : decode cX4_init 25 = .ok (.putfield 18, 3) := by decide +kernel
theorem dX4_init_28 : decode cX4_init 28 = .ok (.aload_n 0, 1) := by decide +kernel
theorem dX4_init_29 : decode cX4_init 29 = .ok (.bipush 10, 2) := by decide +kernel
theorem dX4_init_31 : decode cX4_init 31 = .ok (.newarray .int, 2) := by decide +kernel
theorem dX4_init_33 : decode cX4_init 33 = .ok (.putfield 21, 3) := by decide +kernel
theorem dX4_init_36 : decode cX4_init 36 = .ok (.aload_n 0, 1) := by decide +kernel
theorem dX4_init_37 : decode cX4_init 37 = .ok (.sipush 1024, 3) := by decide +kernel
theorem dX4_init_40 : decode cX4_init 40 = .ok (.newarray .int, 2) := by decide +kernel
theorem dX4_init_42 : decode cX4_init 42 = .ok (.putfield 24, 3) := by decide +kernel
theorem dX4_init_45 : decode cX4_init 45 = .ok (.aload_n 0, 1) := by decide +kernel
theorem dX4_init_46 : decode cX4_init 46 = .ok (.sipush 1024, 3) := by decide +kernel
theorem dX4_init_49 : decode cX4_init 49 = .ok (.newarray .int, 2) := by decide +kernel
theorem dX4_init_51 : decode cX4_init 51 = .ok (.putfield 27, 3) := by decide +kernel
theorem dX4_init_54 : decode cX4_init 54 = .ok (.aload_n 0, 1) := by decide +kernel
theorem dX4_init_55 : decode cX4_init 55 = .ok (.sipush 1024, 3) := by decide +kernel
theorem dX4_init_58 : decode cX4_init 58 = .ok (.newarray .int, 2) := by decide +kernel
theorem dX4_init_60 : decode cX4_init 60 = .ok (.putfield 30, 3) := by decide +kernel
theorem dX4_init_63 : decode cX4_init 63 = .ok (.aload_n 0, 1) := by decide +kernel
theorem dX4_init_64 : decode cX4_init 64 = .ok (.sipush 1024, 3) := by decide +kernel
theorem dX4_init_67 : decode cX4_init 67 = .ok (.newarray .int, 2) := by decide +kernel
theorem dX4_init_69 : decode cX4_init 69 = .ok (.putfield 33, 3) := by decide +kernel
theorem dX4_init_72 : decode cX4_init 72 = .ok (.aload_n 0, 1) := by decide +kernel
theorem dX4_init_73 : decode cX4_init 73 = .ok (.sipush 1024, 3) := by decide +kernel
theorem dX4_init_76 : decode cX4_init 76 = .ok (.newarray .int, 2) := by decide +kernel
theorem dX4_init_78 : decode cX4_init 78 = .ok (.putfield 36, 3) := by decide +kernel
theorem dX4_init_81 : decode cX4_init 81 = .ok (.aload_n 0, 1) := by decide +kernel
theorem dX4_init_82 : decode cX4_init 82 = .ok (.iconst 0, 1) := by decide +kernel
theorem dX4_init_83 : decode cX4_init 83 = .ok (.putfield 39, 3) := by decide +kernel
theorem dX4_init_86 : decode cX4_init 86 = .ok (.return_, 1) := by decide +kernel
theorem dX4_forgetAll_0 : decode cX4_forgetAll 0 = .ok (.aload_n 0, 1) := by decide +kernel
theorem dX4_forgetAll_1 : decode cX4_forgetAll 1 = .ok (.iconst 0, 1) := by decide +kernel
theorem dX4_forgetAll_2 : decode cX4_forgetAll 2 = .ok (.putfield 39, 3) := by decide +kernel
theorem dX4_forgetAll_5 : decode cX4_forgetAll 5 = .ok (.return_, 1) := by decide +kernel
theorem dX4_insert_0 : decode cX4_insert 0 = .ok (.aload_n 0, 1) := by decide +kernel
theorem dX4_insert_1 : decode cX4_insert 1 = .ok (.getfield 39, 3) := by decide +kernel
theorem dX4_insert_4 : decode cX4_insert 4 = .ok (.bipush 10, 2) := by decide +kernel
theorem dX4_insert_6 : decode cX4_insert 6 = .ok (.if_icmp .lt 4, 3) := by decide +kernel
theorem dX4_insert_9 : decode cX4_insert 9 = .ok (.return_, 1) := by decide +kernel
theorem dX4_insert_10 : decode cX4_insert 10 = .ok (.aload_n 0, 1) := by decide +kernel
theorem dX4_insert_11 : decode cX4_insert 11 = .ok (.getfield 39, 3) := by decide +kernel
theorem dX4_insert_14 : decode cX4_insert 14 = .ok (.istore 5, 2) := by decide +kernel
theorem dX4_insert_16 : decode cX4_insert 16 = .ok (.iload 5, 2) := by decide +kernel
theorem dX4_insert_18 : decode cX4_insert 18 = .ok (.ifCond .le 86, 3) := by decide +kernel
theorem dX4_insert_21 : decode cX4_insert 21 = .ok (.aload_n 0, 1) := by decide +kernel
theorem dX4_insert_22 : decode cX4_insert 22 = .ok (.getfield 9, 3) := by decide +kernel
theorem dX4_insert_25 : decode cX4_insert 25 = .ok (.iload 5, 2) := by decide +kernel
theorem dX4_insert_27 : decode cX4_insert 27 = .ok (.iconst 1, 1) := by decide +kernel
theorem dX4_insert_28 : decode cX4_insert 28 = .ok (.isub, 1) := by decide +kernel
theorem dX4_insert_29 : decode cX4_insert 29 = .ok (.iaload, 1) := by decide +kernel
theorem dX4_insert_30 : decode cX4_insert 30 = .ok (.iload_n 1, 1) := by decide +kernel
theorem dX4_insert_31 : decode cX4_insert 31 = .ok (.if_icmp .le 73, 3) := by decide +kernel
theorem dX4_insert_34 : decode cX4_insert 34 = .ok (.aload_n 0, 1) := by decide +kernel
theorem dX4_insert_35 : decode cX4_insert 35 = .ok (.getfield 9, 3) := by decide +kernel
theorem dX4_insert_38 : decode cX4_insert 38 = .ok (.iload 5, 2) := by decide +kernel
theorem dX4_insert_40 : decode cX4_insert 40 = .ok (.aload_n 0, 1) := by decide +kernel
theorem dX4_insert_41 : decode cX4_insert 41 = .ok (.getfield 9, 3) := by decide +kernel
theorem dX4_insert_44 : decode cX4_insert 44 = .ok (.iload 5, 2) := by decide +kernel
theorem dX4_insert_46 : decode cX4_insert 46 = .ok (.iconst 1, 1) := by decide +kernel
theorem dX4_insert_47 : decode cX4_insert 47 = .ok (.isub, 1) := by decide +kernel
theorem dX4_insert_48 : decode cX4_insert 48 = .ok (.iaload, 1) := by decide +kernel
theorem dX4_insert_49 : decode cX4_insert 49 = .ok (.iastore, 1) := by decide +kernel
theorem dX4_insert_50 : decode cX4_insert 50 = .ok (.aload_n 0, 1) := by decide +kernel
theorem dX4_insert_51 : decode cX4_insert 51 = .ok (.getfield 15, 3) := by decide +kernel
theorem dX4_insert_54 : decode cX4_insert 54 = .ok (.iload 5, 2) := by decide +kernel
theorem dX4_insert_56 : decode cX4_insert 56 = .ok (.aload_n 0, 1) := by decide +kernel
theorem dX4_insert_57 : decode cX4_insert 57 = .ok (.getfield 15, 3) := by decide +kernel
theorem dX4_insert_60 : decode cX4_insert 60 = .ok (.iload 5, 2) := by decide +kernel
theorem dX4_insert_62 : decode cX4_insert 62 = .ok (.iconst 1, 1) := by decide +kernel
theorem dX4_insert_63 : decode cX4_insert 63 = .ok (.isub, 1) := by decide +kernel
theorem dX4_insert_64 : decode cX4_insert 64 = .ok (.iaload, 1) := by decide +kernel
theorem dX4_insert_65 : decode cX4_insert 65 = .ok (.iastore, 1) := by decide +kernel
theorem dX4_insert_66 : decode cX4_insert 66 = .ok (.aload_n 0, 1) := by decide +kernel
theorem dX4_insert_67 : decode cX4_insert 67 = .ok (.getfield 18, 3) := by decide +kernel
theorem dX4_insert_70 : decode cX4_insert 70 = .ok (.iload 5, 2) := by decide +kernel
theorem dX4_insert_72 : decode cX4_insert 72 = .ok (.aload_n 0, 1) := by decide +kernel
theorem dX4_insert_73 : decode cX4_insert 73 = .ok (.getfield 18, 3) := by decide +kernel
theorem dX4_insert_76 : decode cX4_insert 76 = .ok (.iload 5, 2) := by decide +kernel
theorem dX4_insert_78 : decode cX4_insert 78 = .ok (.iconst 1, 1) := by decide +kernel
theorem dX4_insert_79 : decode cX4_insert 79 = .ok (.isub, 1) := by decide +kernel
theorem dX4_insert_80 : decode cX4_insert 80 = .ok (.iaload, 1) := by decide +kernel
theorem dX4_insert_81 : decode cX4_insert 81 = .ok (.iastore, 1) := by decide +kernel
theorem dX4_insert_82 : decode cX4_insert 82 = .ok (.aload_n 0, 1) := by decide +kernel
theorem dX4_insert_83 : decode cX4_insert 83 = .ok (.getfield 21, 3) := by decide +kernel
theorem dX4_insert_86 : decode cX4_insert 86 = .ok (.iload 5, 2) := by decide +kernel
theorem dX4_insert_88 : decode cX4_insert 88 = .ok (.aload_n 0, 1) := by decide +kernel
theorem dX4_insert_89 : decode cX4_insert 89 = .ok (.getfield 21, 3) := by decide +kernel
theorem dX4_insert_92 : decode cX4_insert 92 = .ok (.iload 5, 2) := by decide +kernel
theorem dX4_insert_94 : decode cX4_insert 94 = .ok (.iconst 1, 1) := by decide +kernel
theorem dX4_insert_95 : decode cX4_insert 95 = .ok (.isub, 1) := by decide +kernel
theorem dX4_insert_96 : decode cX4_insert 96 = .ok (.iaload, 1) := by decide +kernel
theorem dX4_insert_97 : decode cX4_insert 97 = .ok (.iastore, 1) := by decide +kernel
theorem dX4_insert_98 : decode cX4_insert 98 = .ok (.iinc 5 (-1), 3) := by decide +kernel
theorem dX4_insert_101 : decode cX4_insert 101 = .ok (.goto (-85), 3) := by decide +kernel
theorem dX4_insert_104 : decode cX4_insert 104 = .ok (.aload_n 0, 1) := by decide +kernel
theorem dX4_insert_105 : decode cX4_insert 105 = .ok (.getfield 9, 3) := by decide +kernel
theorem dX4_insert_108 : decode cX4_insert 108 = .ok (.iload 5, 2) := by decide +kernel
theorem dX4_insert_110 : decode cX4_insert 110 = .ok (.iload_n 1, 1) := by decide +kernel
theorem dX4_insert_111 : decode cX4_insert 111 = .ok (.iastore, 1) := by decide +kernel
theorem dX4_insert_112 : decode cX4_insert 112 = .ok (.aload_n 0, 1) := by decide +kernel
theorem dX4_insert_113 : decode cX4_insert 113 = .ok (.getfield 15, 3) := by decide +kernel
theorem dX4_insert_116 : decode cX4_insert 116 = .ok (.iload 5, 2) := by decide +kernel
theorem dX4_insert_118 : decode cX4_insert 118 = .ok (.iload_n 2, 1) := by decide +kernel
theorem dX4_insert_119 : decode cX4_insert 119 = .ok (.iastore, 1) := by decide +kernel
theorem dX4_insert_120 : decode cX4_insert 120 = .ok (.aload_n 0, 1) := by decide +kernel
theorem dX4_insert_121 : decode cX4_insert 121 = .ok (.getfield 18, 3) := by decide +kernel
theorem dX4_insert_124 : decode cX4_insert 124 = .ok (.iload 5, 2) := by decide +kernel
theorem dX4_insert_126 : decode cX4_insert 126 = .ok (.iload_n 3, 1) := by decide +kernel
theorem dX4_insert_127 : decode cX4_insert 127 = .ok (.iastore, 1) := by decide +kernel
theorem dX4_insert_128 : decode cX4_insert 128 = .ok (.aload_n 0, 1) := by decide +kernel
theorem dX4_insert_129 : decode cX4_insert 129 = .ok (.getfield 21, 3) := by decide +kernel
theorem dX4_insert_132 : decode cX4_insert 132 = .ok (.iload 5, 2) := by decide +kernel
theorem dX4_insert_134 : decode cX4_insert 134 = .ok (.iload 4, 2) := by decide +kernel
theorem dX4_insert_136 : decode cX4_insert 136 = .ok (.iastore, 1) := by decide +kernel
theorem dX4_insert_137 : decode cX4_insert 137 = .ok (.aload_n 0, 1) := by decide +kernel
theorem dX4_insert_138 : decode cX4_insert 138 = .ok (.dup, 1) := by decide +kernel
theorem dX4_insert_139 : decode cX4_insert 139 = .ok (.getfield 39, 3) := by decide +kernel
theorem dX4_insert_142 : decode cX4_insert 142 = .ok (.iconst 1, 1) := by decide +kernel
theorem dX4_insert_143 : decode cX4_insert 143 = .ok (.iadd, 1) := by decide +kernel
theorem dX4_insert_144 : decode cX4_insert 144 = .ok (.putfield 39, 3) := by decide +kernel
theorem dX4_insert_147 : decode cX4_insert 147 = .ok (.return_, 1) := by decide +kernel
theorem dX4_findFits_0 : decode cX4_findFits 0 = .ok (.aload_n 0, 1) := by decide +kernel
theorem dX4_findFits_1 : decode cX4_findFits 1 = .ok (.getfield 24, 3) := by decide +kernel
theorem dX4_findFits_4 : decode cX4_findFits 4 = .ok (.iconst 0, 1) := by decide +kernel
theorem dX4_findFits_5 : decode cX4_findFits 5 = .ok (.iconst 0, 1) := by decide +kernel
theorem dX4_findFits_6 : decode cX4_findFits 6 = .ok (.iastore, 1) := by decide +kernel
theorem dX4_findFits_7 : decode cX4_findFits 7 = .ok (.aload_n 0, 1) := by decide +kernel
theorem dX4_findFits_8 : decode cX4_findFits 8 = .ok (.getfield 27, 3) := by decide +kernel
theorem dX4_findFits_11 : decode cX4_findFits 11 = .ok (.iconst 0, 1) := by decide +kernel
theorem dX4_findFits_12 : decode cX4_findFits 12 = .ok (.bipush 9, 2) := by decide +kernel
theorem dX4_findFits_14 : decode cX4_findFits 14 = .ok (.iastore, 1) := by decide +kernel
theorem dX4_findFits_15 : decode cX4_findFits 15 = .ok (.aload_n 0, 1) := by decide +kernel
theorem dX4_findFits_16 : decode cX4_findFits 16 = .ok (.getfield 30, 3) := by decide +kernel
theorem dX4_findFits_19 : decode cX4_findFits 19 = .ok (.iconst 0, 1) := by decide +kernel
theorem dX4_findFits_20 : decode cX4_findFits 20 = .ok (.iconst 0, 1) := by decide +kernel
theorem dX4_findFits_21 : decode cX4_findFits 21 = .ok (.iastore, 1) := by decide +kernel
theorem dX4_findFits_22 : decode cX4_findFits 22 = .ok (.iconst 0, 1) := by decide +kernel
theorem dX4_findFits_23 : decode cX4_findFits 23 = .ok (.istore_n 2, 1) := by decide +kernel
theorem dX4_findFits_24 : decode cX4_findFits 24 = .ok (.iload_n 2, 1) := by decide +kernel
theorem dX4_findFits_25 : decode cX4_findFits 25 = .ok (.aload_n 0, 1) := by decide +kernel
theorem dX4_findFits_26 : decode cX4_findFits 26 = .ok (.getfield 39, 3) := by decide +kernel
theorem dX4_findFits_29 : decode cX4_findFits 29 = .ok (.if_icmp .ge 158, 3) := by decide +kernel
theorem dX4_findFits_32 : decode cX4_findFits 32 = .ok (.iconst 0, 1) := by decide +kernel
theorem dX4_findFits_33 : decode cX4_findFits 33 = .ok (.istore_n 3, 1) := by decide +kernel
theorem dX4_findFits_34 : decode cX4_findFits 34 = .ok (.iload_n 3, 1) := by decide +kernel
theorem dX4_findFits_35 : decode cX4_findFits 35 = .ok (.iconst 1, 1) := by decide +kernel
theorem dX4_findFits_36 : decode cX4_findFits 36 = .ok (.iload_n 2, 1) := by decide +kernel
theorem dX4_findFits_37 : decode cX4_findFits 37 = .ok (.ishl, 1) := by decide +kernel
theorem dX4_findFits_38 : decode cX4_findFits 38 = .ok (.if_icmp .ge 143, 3) := by decide +kernel
theorem dX4_findFits_41 : decode cX4_findFits 41 = .ok (.iload_n 3, 1) := by decide +kernel
theorem dX4_findFits_42 : decode cX4_findFits 42 = .ok (.iconst 1, 1) := by decide +kernel
theorem dX4_findFits_43 : decode cX4_findFits 43 = .ok (.iload_n 2, 1) := by decide +kernel
theorem dX4_findFits_44 : decode cX4_findFits 44 = .ok (.ishl, 1) := by decide +kernel
theorem dX4_findFits_45 : decode cX4_findFits 45 = .ok (.ior, 1) := by decide +kernel
theorem dX4_findFits_46 : decode cX4_findFits 46 = .ok (.istore 4, 2) := by decide +kernel
theorem dX4_findFits_48 : decode cX4_findFits 48 = .ok (.aload_n 0, 1) := by decide +kernel
theorem dX4_findFits_49 : decode cX4_findFits 49 = .ok (.getfield 24, 3) := by decide +kernel
theorem dX4_findFits_52 : decode cX4_findFits 52 = .ok (.iload 4, 2) := by decide +kernel
theorem dX4_findFits_54 : decode cX4_findFits 54 = .ok (.aload_n 0, 1) := by decide +kernel
theorem dX4_findFits_55 : decode cX4_findFits 55 = .ok (.getfield 24, 3) := by decide +kernel
theorem dX4_findFits_58 : decode cX4_findFits 58 = .ok (.iload_n 3, 1) := by decide +kernel
theorem dX4_findFits_59 : decode cX4_findFits 59 = .ok (.iaload, 1) := by decide +kernel
theorem dX4_findFits_60 : decode cX4_findFits 60 = .ok (.aload_n 0, 1) := by decide +kernel
theorem dX4_findFits_61 : decode cX4_findFits 61 = .ok (.getfield 18, 3) := by decide +kernel
theorem dX4_findFits_64 : decode cX4_findFits 64 = .ok (.iload_n 2, 1) := by decide +kernel
theorem dX4_findFits_65 : decode cX4_findFits 65 = .ok (.iaload, 1) := by decide +kernel
theorem dX4_findFits_66 : decode cX4_findFits 66 = .ok (.iadd, 1) := by decide +kernel
theorem dX4_findFits_67 : decode cX4_findFits 67 = .ok (.iastore, 1) := by decide +kernel
theorem dX4_findFits_68 : decode cX4_findFits 68 = .ok (.aload_n 0, 1) := by decide +kernel
theorem dX4_findFits_69 : decode cX4_findFits 69 = .ok (.getfield 27, 3) := by decide +kernel
theorem dX4_findFits_72 : decode cX4_findFits 72 = .ok (.iload 4, 2) := by decide +kernel
theorem dX4_findFits_74 : decode cX4_findFits 74 = .ok (.aload_n 0, 1) := by decide +kernel
theorem dX4_findFits_75 : decode cX4_findFits 75 = .ok (.getfield 27, 3) := by decide +kernel
theorem dX4_findFits_78 : decode cX4_findFits 78 = .ok (.iload_n 3, 1) := by decide +kernel
theorem dX4_findFits_79 : decode cX4_findFits 79 = .ok (.iaload, 1) := by decide +kernel
theorem dX4_findFits_80 : decode cX4_findFits 80 = .ok (.aload_n 0, 1) := by decide +kernel
theorem dX4_findFits_81 : decode cX4_findFits 81 = .ok (.getfield 21, 3) := by decide +kernel
theorem dX4_findFits_84 : decode cX4_findFits 84 = .ok (.iload_n 2, 1) := by decide +kernel
theorem dX4_findFits_85 : decode cX4_findFits 85 = .ok (.iaload, 1) := by decide +kernel
theorem dX4_findFits_86 : decode cX4_findFits 86 = .ok (.invokestatic 43, 3) := by decide +kernel
theorem dX4_findFits_89 : decode cX4_findFits 89 = .ok (.iastore, 1) := by decide +kernel
theorem dX4_findFits_90 : decode cX4_findFits 90 = .ok (.aload_n 0, 1) := by decide +kernel
theorem dX4_findFits_91 : decode cX4_findFits 91 = .ok (.getfield 30, 3) := by decide +kernel
theorem dX4_findFits_94 : decode cX4_findFits 94 = .ok (.iload 4, 2) := by decide +kernel
theorem dX4_findFits_96 : decode cX4_findFits 96 = .ok (.aload_n 0, 1) := by decide +kernel
theorem dX4_findFits_97 : decode cX4_findFits 97 = .ok (.getfield 30, 3) := by decide +kernel
theorem dX4_findFits_100 : decode cX4_findFits 100 = .ok (.iload_n 3, 1) := by decide +kernel
theorem dX4_findFits_101 : decode cX4_findFits 101 = .ok (.iaload, 1) := by decide +kernel
theorem dX4_findFits_102 : decode cX4_findFits 102 = .ok (.iconst 1, 1) := by decide +kernel
theorem dX4_findFits_103 : decode cX4_findFits 103 = .ok (.aload_n 0, 1) := by decide +kernel
theorem dX4_findFits_104 : decode cX4_findFits 104 = .ok (.getfield 15, 3) := by decide +kernel
theorem dX4_findFits_107 : decode cX4_findFits 107 = .ok (.iload_n 2, 1) := by decide +kernel
theorem dX4_findFits_108 : decode cX4_findFits 108 = .ok (.iaload, 1) := by decide +kernel
theorem dX4_findFits_109 : decode cX4_findFits 109 = .ok (.ishl, 1) := by decide +kernel
theorem dX4_findFits_110 : decode cX4_findFits 110 = .ok (.ior, 1) := by decide +kernel
theorem dX4_findFits_111 : decode cX4_findFits 111 = .ok (.iastore, 1) := by decide +kernel
theorem dX4_findFits_112 : decode cX4_findFits 112 = .ok (.aload_n 0, 1) := by decide +kernel
theorem dX4_findFits_113 : decode cX4_findFits 113 = .ok (.getfield 30, 3) := by decide +kernel
theorem dX4_findFits_116 : decode cX4_findFits 116 = .ok (.iload 4, 2) := by decide +kernel
theorem dX4_findFits_118 : decode cX4_findFits 118 = .ok (.iaload, 1) := by decide +kernel
theorem dX4_findFits_119 : decode cX4_findFits 119 = .ok (.iconst 1, 1) := by decide +kernel
theorem dX4_findFits_120 : decode cX4_findFits 120 = .ok (.aload_n 0, 1) := by decide +kernel
theorem dX4_findFits_121 : decode cX4_findFits 121 = .ok (.getfield 15, 3) := by decide +kernel
theorem dX4_findFits_124 : decode cX4_findFits 124 = .ok (.iload_n 2, 1) := by decide +kernel
theorem dX4_findFits_125 : decode cX4_findFits 125 = .ok (.iaload, 1) := by decide +kernel
theorem dX4_findFits_126 : decode cX4_findFits 126 = .ok (.ishl, 1) := by decide +kernel
theorem dX4_findFits_127 : decode cX4_findFits 127 = .ok (.if_icmp .ne 7, 3) := by decide +kernel
theorem dX4_findFits_130 : decode cX4_findFits 130 = .ok (.iconst 1, 1) := by decide +kernel
theorem dX4_findFits_131 : decode cX4_findFits 131 = .ok (.goto 4, 3) := by decide +kernel
theorem dX4_findFits_134 : decode cX4_findFits 134 = .ok (.iconst 0, 1) := by decide +kernel
theorem dX4_findFits_135 : decode cX4_findFits 135 = .ok (.istore 5, 2) := by decide +kernel
theorem dX4_findFits_137 : decode cX4_findFits 137 = .ok (.aload_n 0, 1) := by decide +kernel
theorem dX4_findFits_138 : decode cX4_findFits 138 = .ok (.getfield 33, 3) := by decide +kernel
theorem dX4_findFits_141 : decode cX4_findFits 141 = .ok (.iload 4, 2) := by decide +kernel
theorem dX4_findFits_143 : decode cX4_findFits 143 = .ok (.iload 5, 2) := by decide +kernel
theorem dX4_findFits_145 : decode cX4_findFits 145 = .ok (.ifCond .eq 28, 3) := by decide +kernel
theorem dX4_findFits_148 : decode cX4_findFits 148 = .ok (.aload_n 1, 1) := by decide +kernel
theorem dX4_findFits_149 : decode cX4_findFits 149 = .ok (.aload_n 0, 1) := by decide +kernel
theorem dX4_findFits_150 : decode cX4_findFits 150 = .ok (.getfield 24, 3) := by decide +kernel
theorem dX4_findFits_153 : decode cX4_findFits 153 = .ok (.iload 4, 2) := by decide +kernel
theorem dX4_findFits_155 : decode cX4_findFits 155 = .ok (.iaload, 1) := by decide +kernel
theorem dX4_findFits_156 : decode cX4_findFits 156 = .ok (.aload_n 0, 1) := by decide +kernel
theorem dX4_findFits_157 : decode cX4_findFits 157 = .ok (.getfield 27, 3) := by decide +kernel
theorem dX4_findFits_160 : decode cX4_findFits 160 = .ok (.iload 4, 2) := by decide +kernel
theorem dX4_findFits_162 : decode cX4_findFits 162 = .ok (.iaload, 1) := by decide +kernel
theorem dX4_findFits_163 : decode cX4_findFits 163 = .ok (.invokevirtual 49, 3) := by decide +kernel
theorem dX4_findFits_166 : decode cX4_findFits 166 = .ok (.ifCond .eq 7, 3) := by decide +kernel
theorem dX4_findFits_169 : decode cX4_findFits 169 = .ok (.iconst 1, 1) := by decide +kernel
theorem dX4_findFits_170 : decode cX4_findFits 170 = .ok (.goto 4, 3) := by decide +kernel
theorem dX4_findFits_173 : decode cX4_findFits 173 = .ok (.iconst 0, 1) := by decide +kernel
theorem dX4_findFits_174 : decode cX4_findFits 174 = .ok (.iastore, 1) := by decide +kernel
theorem dX4_findFits_175 : decode cX4_findFits 175 = .ok (.iinc 3 1, 3) := by decide +kernel
theorem dX4_findFits_178 : decode cX4_findFits 178 = .ok (.goto (-144), 3) := by decide +kernel
theorem dX4_findFits_181 : decode cX4_findFits 181 = .ok (.iinc 2 1, 3) := by decide +kernel
theorem dX4_findFits_184 : decode cX4_findFits 184 = .ok (.goto (-160), 3) := by decide +kernel
theorem dX4_findFits_187 : decode cX4_findFits 187 = .ok (.return_, 1) := by decide +kernel
theorem dX4_fewestFrom_0 : decode cX4_fewestFrom 0 = .ok (.iconst 1, 1) := by decide +kernel
theorem dX4_fewestFrom_1 : decode cX4_fewestFrom 1 = .ok (.aload_n 0, 1) := by decide +kernel
theorem dX4_fewestFrom_2 : decode cX4_fewestFrom 2 = .ok (.getfield 39, 3) := by decide +kernel
theorem dX4_fewestFrom_5 : decode cX4_fewestFrom 5 = .ok (.ishl, 1) := by decide +kernel
theorem dX4_fewestFrom_6 : decode cX4_fewestFrom 6 = .ok (.iconst 1, 1) := by decide +kernel
theorem dX4_fewestFrom_7 : decode cX4_fewestFrom 7 = .ok (.isub, 1) := by decide +kernel
theorem dX4_fewestFrom_8 : decode cX4_fewestFrom 8 = .ok (.istore_n 3, 1) := by decide +kernel
theorem dX4_fewestFrom_9 : decode cX4_fewestFrom 9 = .ok (.aload_n 0, 1) := by decide +kernel
theorem dX4_fewestFrom_10 : decode cX4_fewestFrom 10 = .ok (.getfield 36, 3) := by decide +kernel
theorem dX4_fewestFrom_13 : decode cX4_fewestFrom 13 = .ok (.bipush 99, 2) := by decide +kernel
theorem dX4_fewestFrom_15 : decode cX4_fewestFrom 15 = .ok (.invokestatic 55, 3) := by decide +kernel
theorem dX4_fewestFrom_18 : decode cX4_fewestFrom 18 = .ok (.aload_n 0, 1) := by decide +kernel
theorem dX4_fewestFrom_19 : decode cX4_fewestFrom 19 = .ok (.getfield 36, 3) := by decide +kernel
theorem dX4_fewestFrom_22 : decode cX4_fewestFrom 22 = .ok (.iconst 0, 1) := by decide +kernel
theorem dX4_fewestFrom_23 : decode cX4_fewestFrom 23 = .ok (.iconst 0, 1) := by decide +kernel
theorem dX4_fewestFrom_24 : decode cX4_fewestFrom 24 = .ok (.iastore, 1) := by decide +kernel
theorem dX4_fewestFrom_25 : decode cX4_fewestFrom 25 = .ok (.iconst 0, 1) := by decide +kernel
theorem dX4_fewestFrom_26 : decode cX4_fewestFrom 26 = .ok (.istore 4, 2) := by decide +kernel
theorem dX4_fewestFrom_28 : decode cX4_fewestFrom 28 = .ok (.iload 4, 2) := by decide +kernel
theorem dX4_fewestFrom_30 : decode cX4_fewestFrom 30 = .ok (.iload_n 3, 1) := by decide +kernel
theorem dX4_fewestFrom_31 : decode cX4_fewestFrom 31 = .ok (.if_icmp .ge 54, 3) := by decide +kernel
theorem dX4_fewestFrom_34 : decode cX4_fewestFrom 34 = .ok (.aload_n 0, 1) := by decide +kernel
theorem dX4_fewestFrom_35 : decode cX4_fewestFrom 35 = .ok (.iload 4, 2) := by decide +kernel
theorem dX4_fewestFrom_37 : decode cX4_fewestFrom 37 = .ok (.invokevirtual 61, 3) := by decide +kernel
theorem dX4_fewestFrom_40 : decode cX4_fewestFrom 40 = .ok (.istore 5, 2) := by decide +kernel
theorem dX4_fewestFrom_42 : decode cX4_fewestFrom 42 = .ok (.aload_n 0, 1) := by decide +kernel
theorem dX4_fewestFrom_43 : decode cX4_fewestFrom 43 = .ok (.getfield 36, 3) := by decide +kernel
theorem dX4_fewestFrom_46 : decode cX4_fewestFrom 46 = .ok (.iload 4, 2) := by decide +kernel
theorem dX4_fewestFrom_48 : decode cX4_fewestFrom 48 = .ok (.iaload, 1) := by decide +kernel
theorem dX4_fewestFrom_49 : decode cX4_fewestFrom 49 = .ok (.bipush 99, 2) := by decide +kernel
theorem dX4_fewestFrom_51 : decode cX4_fewestFrom 51 = .ok (.iload_n 2, 1) := by decide +kernel
theorem dX4_fewestFrom_52 : decode cX4_fewestFrom 52 = .ok (.aload_n 0, 1) := by decide +kernel
theorem dX4_fewestFrom_53 : decode cX4_fewestFrom 53 = .ok (.getfield 9, 3) := by decide +kernel
theorem dX4_fewestFrom_56 : decode cX4_fewestFrom 56 = .ok (.iload 5, 2) := by decide +kernel
theorem dX4_fewestFrom_58 : decode cX4_fewestFrom 58 = .ok (.iaload, 1) := by decide +kernel
theorem dX4_fewestFrom_59 : decode cX4_fewestFrom 59 = .ok (.iload_n 1, 1) := by decide +kernel
theorem dX4_fewestFrom_60 : decode cX4_fewestFrom 60 = .ok (.isub, 1) := by decide +kernel
theorem dX4_fewestFrom_61 : decode cX4_fewestFrom 61 = .ok (.iconst 1, 1) := by decide +kernel
theorem dX4_fewestFrom_62 : decode cX4_fewestFrom 62 = .ok (.iadd, 1) := by decide +kernel
theorem dX4_fewestFrom_63 : decode cX4_fewestFrom 63 = .ok (.imul, 1) := by decide +kernel
theorem dX4_fewestFrom_64 : decode cX4_fewestFrom 64 = .ok (.invokestatic 43, 3) := by decide +kernel
theorem dX4_fewestFrom_67 : decode cX4_fewestFrom 67 = .ok (.if_icmp .ge 12, 3) := by decide +kernel
theorem dX4_fewestFrom_70 : decode cX4_fewestFrom 70 = .ok (.aload_n 0, 1) := by decide +kernel
theorem dX4_fewestFrom_71 : decode cX4_fewestFrom 71 = .ok (.iload 4, 2) := by decide +kernel
theorem dX4_fewestFrom_73 : decode cX4_fewestFrom 73 = .ok (.iload 5, 2) := by decide +kernel
theorem dX4_fewestFrom_75 : decode cX4_fewestFrom 75 = .ok (.iload_n 3, 1) := by decide +kernel
theorem dX4_fewestFrom_76 : decode cX4_fewestFrom 76 = .ok (.invokevirtual 65, 3) := by decide +kernel
theorem dX4_fewestFrom_79 : decode cX4_fewestFrom 79 = .ok (.iinc 4 1, 3) := by decide +kernel
theorem dX4_fewestFrom_82 : decode cX4_fewestFrom 82 = .ok (.goto (-54), 3) := by decide +kernel
theorem dX4_fewestFrom_85 : decode cX4_fewestFrom 85 = .ok (.aload_n 0, 1) := by decide +kernel
theorem dX4_fewestFrom_86 : decode cX4_fewestFrom 86 = .ok (.getfield 36, 3) := by decide +kernel
theorem dX4_fewestFrom_89 : decode cX4_fewestFrom 89 = .ok (.iload_n 3, 1) := by decide +kernel
theorem dX4_fewestFrom_90 : decode cX4_fewestFrom 90 = .ok (.iaload, 1) := by decide +kernel
theorem dX4_fewestFrom_91 : decode cX4_fewestFrom 91 = .ok (.bipush 99, 2) := by decide +kernel
theorem dX4_fewestFrom_93 : decode cX4_fewestFrom 93 = .ok (.if_icmp .lt 7, 3) := by decide +kernel
theorem dX4_fewestFrom_96 : decode cX4_fewestFrom 96 = .ok (.iconst (-1), 1) := by decide +kernel
theorem dX4_fewestFrom_97 : decode cX4_fewestFrom 97 = .ok (.goto 9, 3) := by decide +kernel
theorem dX4_fewestFrom_100 : decode cX4_fewestFrom 100 = .ok (.aload_n 0, 1) := by decide +kernel
theorem dX4_fewestFrom_101 : decode cX4_fewestFrom 101 = .ok (.getfield 36, 3) := by decide +kernel
theorem dX4_fewestFrom_104 : decode cX4_fewestFrom 104 = .ok (.iload_n 3, 1) := by decide +kernel
theorem dX4_fewestFrom_105 : decode cX4_fewestFrom 105 = .ok (.iaload, 1) := by decide +kernel
theorem dX4_fewestFrom_106 : decode cX4_fewestFrom 106 = .ok (.ireturn, 1) := by decide +kernel
theorem dX4_firstOutside_0 : decode cX4_firstOutside 0 = .ok (.iconst 0, 1) := by decide +kernel
theorem dX4_firstOutside_1 : decode cX4_firstOutside 1 = .ok (.istore_n 2, 1) := by decide +kernel
theorem dX4_firstOutside_2 : decode cX4_firstOutside 2 = .ok (.iload_n 2, 1) := by decide +kernel
theorem dX4_firstOutside_3 : decode cX4_firstOutside 3 = .ok (.aload_n 0, 1) := by decide +kernel
theorem dX4_firstOutside_4 : decode cX4_firstOutside 4 = .ok (.getfield 39, 3) := by decide +kernel
theorem dX4_firstOutside_7 : decode cX4_firstOutside 7 = .ok (.iconst 1, 1) := by decide +kernel
theorem dX4_firstOutside_8 : decode cX4_firstOutside 8 = .ok (.isub, 1) := by decide +kernel
theorem dX4_firstOutside_9 : decode cX4_firstOutside 9 = .ok (.if_icmp .ge 17, 3) := by decide +kernel
theorem dX4_firstOutside_12 : decode cX4_firstOutside 12 = .ok (.iload_n 1, 1) := by decide +kernel
theorem dX4_firstOutside_13 : decode cX4_firstOutside 13 = .ok (.iload_n 2, 1) := by decide +kernel
theorem dX4_firstOutside_14 : decode cX4_firstOutside 14 = .ok (.ishr, 1) := by decide +kernel
theorem dX4_firstOutside_15 : decode cX4_firstOutside 15 = .ok (.iconst 1, 1) := by decide +kernel
theorem dX4_firstOutside_16 : decode cX4_firstOutside 16 = .ok (.iand, 1) := by decide +kernel
theorem dX4_firstOutside_17 : decode cX4_firstOutside 17 = .ok (.ifCond .eq 9, 3) := by decide +kernel
theorem dX4_firstOutside_20 : decode cX4_firstOutside 20 = .ok (.iinc 2 1, 3) := by decide +kernel
theorem dX4_firstOutside_23 : decode cX4_firstOutside 23 = .ok (.goto (-21), 3) := by decide +kernel
theorem dX4_firstOutside_26 : decode cX4_firstOutside 26 = .ok (.iload_n 2, 1) := by decide +kernel
theorem dX4_firstOutside_27 : decode cX4_firstOutside 27 = .ok (.ireturn, 1) := by decide +kernel
theorem dX4_addLoads_0 : decode cX4_addLoads 0 = .ok (.aload_n 0, 1) := by decide +kernel
theorem dX4_addLoads_1 : decode cX4_addLoads 1 = .ok (.getfield 36, 3) := by decide +kernel
theorem dX4_addLoads_4 : decode cX4_addLoads 4 = .ok (.iload_n 1, 1) := by decide +kernel
theorem dX4_addLoads_5 : decode cX4_addLoads 5 = .ok (.iaload, 1) := by decide +kernel
theorem dX4_addLoads_6 : decode cX4_addLoads 6 = .ok (.iconst 1, 1) := by decide +kernel
theorem dX4_addLoads_7 : decode cX4_addLoads 7 = .ok (.iadd, 1) := by decide +kernel
theorem dX4_addLoads_8 : decode cX4_addLoads 8 = .ok (.istore 4, 2) := by decide +kernel
theorem dX4_addLoads_10 : decode cX4_addLoads 10 = .ok (.iload_n 3, 1) := by decide +kernel
theorem dX4_addLoads_11 : decode cX4_addLoads 11 = .ok (.iload_n 1, 1) := by decide +kernel
theorem dX4_addLoads_12 : decode cX4_addLoads 12 = .ok (.iconst (-1), 1) := by decide +kernel
theorem dX4_addLoads_13 : decode cX4_addLoads 13 = .ok (.ixor, 1) := by decide +kernel
theorem dX4_addLoads_14 : decode cX4_addLoads 14 = .ok (.iand, 1) := by decide +kernel
theorem dX4_addLoads_15 : decode cX4_addLoads 15 = .ok (.iconst 1, 1) := by decide +kernel
theorem dX4_addLoads_16 : decode cX4_addLoads 16 = .ok (.iload_n 2, 1) := by decide +kernel
theorem dX4_addLoads_17 : decode cX4_addLoads 17 = .ok (.ishl, 1) := by decide +kernel
theorem dX4_addLoads_18 : decode cX4_addLoads 18 = .ok (.iconst (-1), 1) := by decide +kernel
theorem dX4_addLoads_19 : decode cX4_addLoads 19 = .ok (.ixor, 1) := by decide +kernel
theorem dX4_addLoads_20 : decode cX4_addLoads 20 = .ok (.iand, 1) := by decide +kernel
theorem dX4_addLoads_21 : decode cX4_addLoads 21 = .ok (.istore 5, 2) := by decide +kernel
theorem dX4_addLoads_23 : decode cX4_addLoads 23 = .ok (.iload 5, 2) := by decide +kernel
theorem dX4_addLoads_25 : decode cX4_addLoads 25 = .ok (.istore 6, 2) := by decide +kernel
theorem dX4_addLoads_27 : decode cX4_addLoads 27 = .ok (.iload 6, 2) := by decide +kernel
theorem dX4_addLoads_29 : decode cX4_addLoads 29 = .ok (.ifCond .lt 67, 3) := by decide +kernel
theorem dX4_addLoads_32 : decode cX4_addLoads 32 = .ok (.iload 6, 2) := by decide +kernel
theorem dX4_addLoads_34 : decode cX4_addLoads 34 = .ok (.iconst 1, 1) := by decide +kernel
theorem dX4_addLoads_35 : decode cX4_addLoads 35 = .ok (.iload_n 2, 1) := by decide +kernel
theorem dX4_addLoads_36 : decode cX4_addLoads 36 = .ok (.ishl, 1) := by decide +kernel
theorem dX4_addLoads_37 : decode cX4_addLoads 37 = .ok (.ior, 1) := by decide +kernel
theorem dX4_addLoads_38 : decode cX4_addLoads 38 = .ok (.istore 7, 2) := by decide +kernel
theorem dX4_addLoads_40 : decode cX4_addLoads 40 = .ok (.aload_n 0, 1) := by decide +kernel
theorem dX4_addLoads_41 : decode cX4_addLoads 41 = .ok (.getfield 33, 3) := by decide +kernel
theorem dX4_addLoads_44 : decode cX4_addLoads 44 = .ok (.iload 7, 2) := by decide +kernel
theorem dX4_addLoads_46 : decode cX4_addLoads 46 = .ok (.iaload, 1) := by decide +kernel
theorem dX4_addLoads_47 : decode cX4_addLoads 47 = .ok (.ifCond .eq 28, 3) := by decide +kernel
theorem dX4_addLoads_50 : decode cX4_addLoads 50 = .ok (.iload 4, 2) := by decide +kernel
theorem dX4_addLoads_52 : decode cX4_addLoads 52 = .ok (.aload_n 0, 1) := by decide +kernel
theorem dX4_addLoads_53 : decode cX4_addLoads 53 = .ok (.getfield 36, 3) := by decide +kernel
theorem dX4_addLoads_56 : decode cX4_addLoads 56 = .ok (.iload_n 1, 1) := by decide +kernel
theorem dX4_addLoads_57 : decode cX4_addLoads 57 = .ok (.iload 7, 2) := by decide +kernel
theorem dX4_addLoads_59 : decode cX4_addLoads 59 = .ok (.ior, 1) := by decide +kernel
theorem dX4_addLoads_60 : decode cX4_addLoads 60 = .ok (.iaload, 1) := by decide +kernel
theorem dX4_addLoads_61 : decode cX4_addLoads 61 = .ok (.if_icmp .ge 14, 3) := by decide +kernel
theorem dX4_addLoads_64 : decode cX4_addLoads 64 = .ok (.aload_n 0, 1) := by decide +kernel
theorem dX4_addLoads_65 : decode cX4_addLoads 65 = .ok (.getfield 36, 3) := by decide +kernel
theorem dX4_addLoads_68 : decode cX4_addLoads 68 = .ok (.iload_n 1, 1) := by decide +kernel
theorem dX4_addLoads_69 : decode cX4_addLoads 69 = .ok (.iload 7, 2) := by decide +kernel
theorem dX4_addLoads_71 : decode cX4_addLoads 71 = .ok (.ior, 1) := by decide +kernel
theorem dX4_addLoads_72 : decode cX4_addLoads 72 = .ok (.iload 4, 2) := by decide +kernel
theorem dX4_addLoads_74 : decode cX4_addLoads 74 = .ok (.iastore, 1) := by decide +kernel
theorem dX4_addLoads_75 : decode cX4_addLoads 75 = .ok (.iload 6, 2) := by decide +kernel
theorem dX4_addLoads_77 : decode cX4_addLoads 77 = .ok (.ifCond .ne 7, 3) := by decide +kernel
theorem dX4_addLoads_80 : decode cX4_addLoads 80 = .ok (.iconst (-1), 1) := by decide +kernel
theorem dX4_addLoads_81 : decode cX4_addLoads 81 = .ok (.goto 10, 3) := by decide +kernel
theorem dX4_addLoads_84 : decode cX4_addLoads 84 = .ok (.iload 6, 2) := by decide +kernel
theorem dX4_addLoads_86 : decode cX4_addLoads 86 = .ok (.iconst 1, 1) := by decide +kernel
theorem dX4_addLoads_87 : decode cX4_addLoads 87 = .ok (.isub, 1) := by decide +kernel
theorem dX4_addLoads_88 : decode cX4_addLoads 88 = .ok (.iload 5, 2) := by decide +kernel
theorem dX4_addLoads_90 : decode cX4_addLoads 90 = .ok (.iand, 1) := by decide +kernel
theorem dX4_addLoads_91 : decode cX4_addLoads 91 = .ok (.istore 6, 2) := by decide +kernel
theorem dX4_addLoads_93 : decode cX4_addLoads 93 = .ok (.goto (-66), 3) := by decide +kernel
theorem dX4_addLoads_96 : decode cX4_addLoads 96 = .ok (.return_, 1) := by decide +kernel
theorem dX4_latestStart_0 : decode cX4_latestStart 0 = .ok (.aload_n 0, 1) := by decide +kernel
theorem dX4_latestStart_1 : decode cX4_latestStart 1 = .ok (.invokevirtual 69, 3) := by decide +kernel
theorem dX4_latestStart_4 : decode cX4_latestStart 4 = .ok (.ifCond .ne 5, 3) := by decide +kernel
theorem dX4_latestStart_7 : decode cX4_latestStart 7 = .ok (.iconst (-1), 1) := by decide +kernel
theorem dX4_latestStart_8 : decode cX4_latestStart 8 = .ok (.ireturn, 1) := by decide +kernel
theorem dX4_latestStart_9 : decode cX4_latestStart 9 = .ok (.aload_n 0, 1) := by decide +kernel
theorem dX4_latestStart_10 : decode cX4_latestStart 10 = .ok (.getfield 9, 3) := by decide +kernel
theorem dX4_latestStart_13 : decode cX4_latestStart 13 = .ok (.iconst 0, 1) := by decide +kernel
theorem dX4_latestStart_14 : decode cX4_latestStart 14 = .ok (.iaload, 1) := by decide +kernel
theorem dX4_latestStart_15 : decode cX4_latestStart 15 = .ok (.istore_n 3, 1) := by decide +kernel
theorem dX4_latestStart_16 : decode cX4_latestStart 16 = .ok (.iload_n 3, 1) := by decide +kernel
theorem dX4_latestStart_17 : decode cX4_latestStart 17 = .ok (.iload_n 1, 1) := by decide +kernel
theorem dX4_latestStart_18 : decode cX4_latestStart 18 = .ok (.if_icmp .lt 21, 3) := by decide +kernel
theorem dX4_latestStart_21 : decode cX4_latestStart 21 = .ok (.aload_n 0, 1) := by decide +kernel
theorem dX4_latestStart_22 : decode cX4_latestStart 22 = .ok (.iload_n 3, 1) := by decide +kernel
theorem dX4_latestStart_23 : decode cX4_latestStart 23 = .ok (.iload_n 2, 1) := by decide +kernel
theorem dX4_latestStart_24 : decode cX4_latestStart 24 = .ok (.invokevirtual 73, 3) := by decide +kernel
theorem dX4_latestStart_27 : decode cX4_latestStart 27 = .ok (.iconst (-1), 1) := by decide +kernel
theorem dX4_latestStart_28 : decode cX4_latestStart 28 = .ok (.if_icmp .eq 5, 3) := by decide +kernel
theorem dX4_latestStart_31 : decode cX4_latestStart 31 = .ok (.iload_n 3, 1) := by decide +kernel
theorem dX4_latestStart_32 : decode cX4_latestStart 32 = .ok (.ireturn, 1) := by decide +kernel
theorem dX4_latestStart_33 : decode cX4_latestStart 33 = .ok (.iinc 3 (-1), 3) := by decide +kernel
theorem dX4_latestStart_36 : decode cX4_latestStart 36 = .ok (.goto (-20), 3) := by decide +kernel
theorem dX4_latestStart_39 : decode cX4_latestStart 39 = .ok (.iconst (-1), 1) := by decide +kernel
theorem dX4_latestStart_40 : decode cX4_latestStart 40 = .ok (.ireturn, 1) := by decide +kernel
theorem dX4_fitsEach_0 : decode cX4_fitsEach 0 = .ok (.iconst 0, 1) := by decide +kernel
theorem dX4_fitsEach_1 : decode cX4_fitsEach 1 = .ok (.istore_n 1, 1) := by decide +kernel
theorem dX4_fitsEach_2 : decode cX4_fitsEach 2 = .ok (.iload_n 1, 1) := by decide +kernel
theorem dX4_fitsEach_3 : decode cX4_fitsEach 3 = .ok (.aload_n 0, 1) := by decide +kernel
theorem dX4_fitsEach_4 : decode cX4_fitsEach 4 = .ok (.getfield 39, 3) := by decide +kernel
theorem dX4_fitsEach_7 : decode cX4_fitsEach 7 = .ok (.if_icmp .ge 22, 3) := by decide +kernel
theorem dX4_fitsEach_10 : decode cX4_fitsEach 10 = .ok (.aload_n 0, 1) := by decide +kernel
theorem dX4_fitsEach_11 : decode cX4_fitsEach 11 = .ok (.getfield 33, 3) := by decide +kernel
theorem dX4_fitsEach_14 : decode cX4_fitsEach 14 = .ok (.iconst 1, 1) := by decide +kernel
theorem dX4_fitsEach_15 : decode cX4_fitsEach 15 = .ok (.iload_n 1, 1) := by decide +kernel
theorem dX4_fitsEach_16 : decode cX4_fitsEach 16 = .ok (.ishl, 1) := by decide +kernel
theorem dX4_fitsEach_17 : decode cX4_fitsEach 17 = .ok (.iaload, 1) := by decide +kernel
theorem dX4_fitsEach_18 : decode cX4_fitsEach 18 = .ok (.ifCond .ne 5, 3) := by decide +kernel
theorem dX4_fitsEach_21 : decode cX4_fitsEach 21 = .ok (.iconst 0, 1) := by decide +kernel
theorem dX4_fitsEach_22 : decode cX4_fitsEach 22 = .ok (.ireturn, 1) := by decide +kernel
theorem dX4_fitsEach_23 : decode cX4_fitsEach 23 = .ok (.iinc 1 1, 3) := by decide +kernel
theorem dX4_fitsEach_26 : decode cX4_fitsEach 26 = .ok (.goto (-24), 3) := by decide +kernel
theorem dX4_fitsEach_29 : decode cX4_fitsEach 29 = .ok (.iconst 1, 1) := by decide +kernel
theorem dX4_fitsEach_30 : decode cX4_fitsEach 30 = .ok (.ireturn, 1) := by decide +kernel
