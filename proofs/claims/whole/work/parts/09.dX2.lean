theorem dX2_init_0 : decode cX2_init 0 = .ok (.aload_n 0, 1) := by decide +kernel
theorem dX2_init_1 : decode cX2_init 1 = .ok (.invokespecial 3, 3) := by decide +kernel
theorem dX2_init_4 : decode cX2_init 4 = .ok (.aload_n 0, 1) := by decide +kernel
theorem dX2_init_5 : decode cX2_init 5 = .ok (.bipush 32, 2) := by decide +kernel
theorem dX2_init_7 : decode cX2_init 7 = .ok (.newarray .long, 2) := by decide +kernel
theorem dX2_init_9 : decode cX2_init 9 = .ok (.putfield 11, 3) := by decide +kernel
theorem dX2_init_12 : decode cX2_init 12 = .ok (.aload_n 0, 1) := by decide +kernel
theorem dX2_init_13 : decode cX2_init 13 = .ok (.iconst 4, 1) := by decide +kernel
theorem dX2_init_14 : decode cX2_init 14 = .ok (.newarray .int, 2) := by decide +kernel
theorem dX2_init_16 : decode cX2_init 16 = .ok (.putfield 15, 3) := by decide +kernel
theorem dX2_init_19 : decode cX2_init 19 = .ok (.aload_n 0, 1) := by decide +kernel
theorem dX2_init_20 : decode cX2_init 20 = .ok (.bipush 6, 2) := by decide +kernel
theorem dX2_init_22 : decode cX2_init 22 = .ok (.newarray .int, 2) := by decide +kernel
theorem dX2_init_24 : decode cX2_init 24 = .ok (.putfield 19, 3) := by decide +kernel
theorem dX2_init_27 : decode cX2_init 27 = .ok (.aload_n 0, 1) := by decide +kernel
theorem dX2_init_28 : decode cX2_init 28 = .ok (.bipush 36, 2) := by decide +kernel
theorem dX2_init_30 : decode cX2_init 30 = .ok (.newarray .int, 2) := by decide +kernel
theorem dX2_init_32 : decode cX2_init 32 = .ok (.putfield 22, 3) := by decide +kernel
theorem dX2_init_35 : decode cX2_init 35 = .ok (.aload_n 0, 1) := by decide +kernel
theorem dX2_init_36 : decode cX2_init 36 = .ok (.bipush 8, 2) := by decide +kernel
theorem dX2_init_38 : decode cX2_init 38 = .ok (.newarray .int, 2) := by decide +kernel
theorem dX2_init_40 : decode cX2_init 40 = .ok (.putfield 25, 3) := by decide +kernel
theorem dX2_init_43 : decode cX2_init 43 = .ok (.aload_n 0, 1) := by decide +kernel
theorem dX2_init_44 : decode cX2_init 44 = .ok (.bipush 8, 2) := by decide +kernel
theorem dX2_init_46 : decode cX2_init 46 = .ok (.newarray .int, 2) := by decide +kernel
theorem dX2_init_48 : decode cX2_init 48 = .ok (.putfield 28, 3) := by decide +kernel
theorem dX2_init_51 : decode cX2_init 51 = .ok (.aload_n 0, 1) := by decide +kernel
theorem dX2_init_52 : decode cX2_init 52 = .ok (.bipush 8, 2) := by decide +kernel
theorem dX2_init_54 : decode cX2_init 54 = .ok (.newarray .int, 2) := by decide +kernel
theorem dX2_init_56 : decode cX2_init 56 = .ok (.putfield 31, 3) := by decide +kernel
theorem dX2_init_59 : decode cX2_init 59 = .ok (.aload_n 0, 1) := by decide +kernel
theorem dX2_init_60 : decode cX2_init 60 = .ok (.bipush 8, 2) := by decide +kernel
theorem dX2_init_62 : decode cX2_init 62 = .ok (.newarray .int, 2) := by decide +kernel
theorem dX2_init_64 : decode cX2_init 64 = .ok (.putfield 34, 3) := by decide +kernel
theorem dX2_init_67 : decode cX2_init 67 = .ok (.aload_n 0, 1) := by decide +kernel
theorem dX2_init_68 : decode cX2_init 68 = .ok (.iconst 4, 1) := by decide +kernel
theorem dX2_init_69 : decode cX2_init 69 = .ok (.newarray .int, 2) := by decide +kernel
theorem dX2_init_71 : decode cX2_init 71 = .ok (.putfield 37, 3) := by decide +kernel
theorem dX2_init_74 : decode cX2_init 74 = .ok (.aload_n 0, 1) := by decide +kernel
theorem dX2_init_75 : decode cX2_init 75 = .ok (.iconst 4, 1) := by decide +kernel
theorem dX2_init_76 : decode cX2_init 76 = .ok (.newarray .int, 2) := by decide +kernel
theorem dX2_init_78 : decode cX2_init 78 = .ok (.putfield 40, 3) := by decide +kernel
theorem dX2_init_81 : decode cX2_init 81 = .ok (.aload_n 0, 1) := by decide +kernel
theorem dX2_init_82 : decode cX2_init 82 = .ok (.getstatic 43, 3) := by decide +kernel
theorem dX2_init_85 : decode cX2_init 85 = .ok (.invokevirtual 46, 3) := by decide +kernel
theorem dX2_init_88 : decode cX2_init 88 = .ok (.checkcast 47, 3) := by decide +kernel
theorem dX2_init_91 : decode cX2_init 91 = .ok (.putfield 51, 3) := by decide +kernel
theorem dX2_init_94 : decode cX2_init 94 = .ok (.aload_n 0, 1) := by decide +kernel
theorem dX2_init_95 : decode cX2_init 95 = .ok (.iconst 0, 1) := by decide +kernel
theorem dX2_init_96 : decode cX2_init 96 = .ok (.putfield 54, 3) := by decide +kernel
theorem dX2_init_99 : decode cX2_init 99 = .ok (.aload_n 0, 1) := by decide +kernel
theorem dX2_init_100 : decode cX2_init 100 = .ok (.iconst 0, 1) := by decide +kernel
theorem dX2_init_101 : decode cX2_init 101 = .ok (.putfield 58, 3) := by decide +kernel
theorem dX2_init_104 : decode cX2_init 104 = .ok (.return_, 1) := by decide +kernel
theorem dX2_copyFrom_0 : decode cX2_copyFrom 0 = .ok (.aload_n 1, 1) := by decide +kernel
theorem dX2_copyFrom_1 : decode cX2_copyFrom 1 = .ok (.getfield 11, 3) := by decide +kernel
theorem dX2_copyFrom_4 : decode cX2_copyFrom 4 = .ok (.iconst 0, 1) := by decide +kernel
theorem dX2_copyFrom_5 : decode cX2_copyFrom 5 = .ok (.aload_n 0, 1) := by decide +kernel
theorem dX2_copyFrom_6 : decode cX2_copyFrom 6 = .ok (.getfield 11, 3) := by decide +kernel
theorem dX2_copyFrom_9 : decode cX2_copyFrom 9 = .ok (.iconst 0, 1) := by decide +kernel
theorem dX2_copyFrom_10 : decode cX2_copyFrom 10 = .ok (.aload_n 0, 1) := by decide +kernel
theorem dX2_copyFrom_11 : decode cX2_copyFrom 11 = .ok (.getfield 11, 3) := by decide +kernel
theorem dX2_copyFrom_14 : decode cX2_copyFrom 14 = .ok (.arraylength, 1) := by decide +kernel
theorem dX2_copyFrom_15 : decode cX2_copyFrom 15 = .ok (.invokestatic 61, 3) := by decide +kernel
theorem dX2_copyFrom_18 : decode cX2_copyFrom 18 = .ok (.aload_n 1, 1) := by decide +kernel
theorem dX2_copyFrom_19 : decode cX2_copyFrom 19 = .ok (.getfield 15, 3) := by decide +kernel
theorem dX2_copyFrom_22 : decode cX2_copyFrom 22 = .ok (.aload_n 0, 1) := by decide +kernel
theorem dX2_copyFrom_23 : decode cX2_copyFrom 23 = .ok (.getfield 15, 3) := by decide +kernel
theorem dX2_copyFrom_26 : decode cX2_copyFrom 26 = .ok (.invokestatic 67, 3) := by decide +kernel
theorem dX2_copyFrom_29 : decode cX2_copyFrom 29 = .ok (.aload_n 1, 1) := by decide +kernel
theorem dX2_copyFrom_30 : decode cX2_copyFrom 30 = .ok (.getfield 19, 3) := by decide +kernel
theorem dX2_copyFrom_33 : decode cX2_copyFrom 33 = .ok (.aload_n 0, 1) := by decide +kernel
theorem dX2_copyFrom_34 : decode cX2_copyFrom 34 = .ok (.getfield 19, 3) := by decide +kernel
theorem dX2_copyFrom_37 : decode cX2_copyFrom 37 = .ok (.invokestatic 67, 3) := by decide +kernel
theorem dX2_copyFrom_40 : decode cX2_copyFrom 40 = .ok (.aload_n 1, 1) := by decide +kernel
theorem dX2_copyFrom_41 : decode cX2_copyFrom 41 = .ok (.getfield 22, 3) := by decide +kernel
theorem dX2_copyFrom_44 : decode cX2_copyFrom 44 = .ok (.aload_n 0, 1) := by decide +kernel
theorem dX2_copyFrom_45 : decode cX2_copyFrom 45 = .ok (.getfield 22, 3) := by decide +kernel
theorem dX2_copyFrom_48 : decode cX2_copyFrom 48 = .ok (.invokestatic 67, 3) := by decide +kernel
theorem dX2_copyFrom_51 : decode cX2_copyFrom 51 = .ok (.aload_n 1, 1) := by decide +kernel
theorem dX2_copyFrom_52 : decode cX2_copyFrom 52 = .ok (.getfield 25, 3) := by decide +kernel
theorem dX2_copyFrom_55 : decode cX2_copyFrom 55 = .ok (.aload_n 0, 1) := by decide +kernel
theorem dX2_copyFrom_56 : decode cX2_copyFrom 56 = .ok (.getfield 25, 3) := by decide +kernel
theorem dX2_copyFrom_59 : decode cX2_copyFrom 59 = .ok (.invokestatic 67, 3) := by decide +kernel
theorem dX2_copyFrom_62 : decode cX2_copyFrom 62 = .ok (.aload_n 1, 1) := by decide +kernel
theorem dX2_copyFrom_63 : decode cX2_copyFrom 63 = .ok (.getfield 28, 3) := by decide +kernel
theorem dX2_copyFrom_66 : decode cX2_copyFrom 66 = .ok (.aload_n 0, 1) := by decide +kernel
theorem dX2_copyFrom_67 : decode cX2_copyFrom 67 = .ok (.getfield 28, 3) := by decide +kernel
theorem dX2_copyFrom_70 : decode cX2_copyFrom 70 = .ok (.invokestatic 67, 3) := by decide +kernel
theorem dX2_copyFrom_73 : decode cX2_copyFrom 73 = .ok (.aload_n 1, 1) := by decide +kernel
theorem dX2_copyFrom_74 : decode cX2_copyFrom 74 = .ok (.getfield 31, 3) := by decide +kernel
theorem dX2_copyFrom_77 : decode cX2_copyFrom 77 = .ok (.aload_n 0, 1) := by decide +kernel
theorem dX2_copyFrom_78 : decode cX2_copyFrom 78 = .ok (.getfield 31, 3) := by decide +kernel
theorem dX2_copyFrom_81 : decode cX2_copyFrom 81 = .ok (.invokestatic 67, 3) := by decide +kernel
theorem dX2_copyFrom_84 : decode cX2_copyFrom 84 = .ok (.aload_n 1, 1) := by decide +kernel
theorem dX2_copyFrom_85 : decode cX2_copyFrom 85 = .ok (.getfield 34, 3) := by decide +kernel
theorem dX2_copyFrom_88 : decode cX2_copyFrom 88 = .ok (.aload_n 0, 1) := by decide +kernel
theorem dX2_copyFrom_89 : decode cX2_copyFrom 89 = .ok (.getfield 34, 3) := by decide +kernel
theorem dX2_copyFrom_92 : decode cX2_copyFrom 92 = .ok (.invokestatic 67, 3) := by decide +kernel
theorem dX2_copyFrom_95 : decode cX2_copyFrom 95 = .ok (.aload_n 1, 1) := by decide +kernel
theorem dX2_copyFrom_96 : decode cX2_copyFrom 96 = .ok (.getfield 37, 3) := by decide +kernel
theorem dX2_copyFrom_99 : decode cX2_copyFrom 99 = .ok (.aload_n 0, 1) := by decide +kernel
theorem dX2_copyFrom_100 : decode cX2_copyFrom 100 = .ok (.getfield 37, 3) := by decide +kernel
theorem dX2_copyFrom_103 : decode cX2_copyFrom 103 = .ok (.invokestatic 67, 3) := by decide +kernel
theorem dX2_copyFrom_106 : decode cX2_copyFrom 106 = .ok (.aload_n 1, 1) := by decide +kernel
theorem dX2_copyFrom_107 : decode cX2_copyFrom 107 = .ok (.getfield 40, 3) := by decide +kernel
theorem dX2_copyFrom_110 : decode cX2_copyFrom 110 = .ok (.aload_n 0, 1) := by decide +kernel
theorem dX2_copyFrom_111 : decode cX2_copyFrom 111 = .ok (.getfield 40, 3) := by decide +kernel
theorem dX2_copyFrom_114 : decode cX2_copyFrom 114 = .ok (.invokestatic 67, 3) := by decide +kernel
theorem dX2_copyFrom_117 : decode cX2_copyFrom 117 = .ok (.aload_n 1, 1) := by decide +kernel
theorem dX2_copyFrom_118 : decode cX2_copyFrom 118 = .ok (.getfield 51, 3) := by decide +kernel
theorem dX2_copyFrom_121 : decode cX2_copyFrom 121 = .ok (.aload_n 0, 1) := by decide +kernel
theorem dX2_copyFrom_122 : decode cX2_copyFrom 122 = .ok (.getfield 51, 3) := by decide +kernel
theorem dX2_copyFrom_125 : decode cX2_copyFrom 125 = .ok (.invokestatic 67, 3) := by decide +kernel
theorem dX2_copyFrom_128 : decode cX2_copyFrom 128 = .ok (.return_, 1) := by decide +kernel
theorem dX2_forgetAll_0 : decode cX2_forgetAll 0 = .ok (.aload_n 0, 1) := by decide +kernel
theorem dX2_forgetAll_1 : decode cX2_forgetAll 1 = .ok (.getfield 15, 3) := by decide +kernel
theorem dX2_forgetAll_4 : decode cX2_forgetAll 4 = .ok (.iconst 0, 1) := by decide +kernel
theorem dX2_forgetAll_5 : decode cX2_forgetAll 5 = .ok (.invokestatic 71, 3) := by decide +kernel
theorem dX2_forgetAll_8 : decode cX2_forgetAll 8 = .ok (.aload_n 0, 1) := by decide +kernel
theorem dX2_forgetAll_9 : decode cX2_forgetAll 9 = .ok (.getfield 22, 3) := by decide +kernel
theorem dX2_forgetAll_12 : decode cX2_forgetAll 12 = .ok (.iconst 0, 1) := by decide +kernel
theorem dX2_forgetAll_13 : decode cX2_forgetAll 13 = .ok (.invokestatic 71, 3) := by decide +kernel
theorem dX2_forgetAll_16 : decode cX2_forgetAll 16 = .ok (.aload_n 0, 1) := by decide +kernel
theorem dX2_forgetAll_17 : decode cX2_forgetAll 17 = .ok (.getfield 31, 3) := by decide +kernel
theorem dX2_forgetAll_20 : decode cX2_forgetAll 20 = .ok (.iconst 0, 1) := by decide +kernel
theorem dX2_forgetAll_21 : decode cX2_forgetAll 21 = .ok (.invokestatic 71, 3) := by decide +kernel
theorem dX2_forgetAll_24 : decode cX2_forgetAll 24 = .ok (.aload_n 0, 1) := by decide +kernel
theorem dX2_forgetAll_25 : decode cX2_forgetAll 25 = .ok (.getfield 34, 3) := by decide +kernel
theorem dX2_forgetAll_28 : decode cX2_forgetAll 28 = .ok (.iconst 0, 1) := by decide +kernel
theorem dX2_forgetAll_29 : decode cX2_forgetAll 29 = .ok (.invokestatic 71, 3) := by decide +kernel
theorem dX2_forgetAll_32 : decode cX2_forgetAll 32 = .ok (.getstatic 43, 3) := by decide +kernel
theorem dX2_forgetAll_35 : decode cX2_forgetAll 35 = .ok (.aload_n 0, 1) := by decide +kernel
theorem dX2_forgetAll_36 : decode cX2_forgetAll 36 = .ok (.getfield 51, 3) := by decide +kernel
theorem dX2_forgetAll_39 : decode cX2_forgetAll 39 = .ok (.invokestatic 67, 3) := by decide +kernel
theorem dX2_forgetAll_42 : decode cX2_forgetAll 42 = .ok (.aload_n 0, 1) := by decide +kernel
theorem dX2_forgetAll_43 : decode cX2_forgetAll 43 = .ok (.iconst 0, 1) := by decide +kernel
theorem dX2_forgetAll_44 : decode cX2_forgetAll 44 = .ok (.putfield 54, 3) := by decide +kernel
theorem dX2_forgetAll_47 : decode cX2_forgetAll 47 = .ok (.aload_n 0, 1) := by decide +kernel
theorem dX2_forgetAll_48 : decode cX2_forgetAll 48 = .ok (.iconst 0, 1) := by decide +kernel
theorem dX2_forgetAll_49 : decode cX2_forgetAll 49 = .ok (.putfield 58, 3) := by decide +kernel
theorem dX2_forgetAll_52 : decode cX2_forgetAll 52 = .ok (.return_, 1) := by decide +kernel
theorem dX2_readFrom_0 : decode cX2_readFrom 0 = .ok (.aload_n 0, 1) := by decide +kernel
theorem dX2_readFrom_1 : decode cX2_readFrom 1 = .ok (.invokevirtual 77, 3) := by decide +kernel
theorem dX2_readFrom_4 : decode cX2_readFrom 4 = .ok (.aload_n 1, 1) := by decide +kernel
theorem dX2_readFrom_5 : decode cX2_readFrom 5 = .ok (.sipush 900, 3) := by decide +kernel
theorem dX2_readFrom_8 : decode cX2_readFrom 8 = .ok (.invokevirtual 80, 3) := by decide +kernel
theorem dX2_readFrom_11 : decode cX2_readFrom 11 = .ok (.iconst 0, 1) := by decide +kernel
theorem dX2_readFrom_12 : decode cX2_readFrom 12 = .ok (.istore_n 2, 1) := by decide +kernel
theorem dX2_readFrom_13 : decode cX2_readFrom 13 = .ok (.iload_n 2, 1) := by decide +kernel
theorem dX2_readFrom_14 : decode cX2_readFrom 14 = .ok (.sipush 940, 3) := by decide +kernel
theorem dX2_readFrom_17 : decode cX2_readFrom 17 = .ok (.if_icmp .ge 36, 3) := by decide +kernel
theorem dX2_readFrom_20 : decode cX2_readFrom 20 = .ok (.aload_n 1, 1) := by decide +kernel
theorem dX2_readFrom_21 : decode cX2_readFrom 21 = .ok (.getfield 86, 3) := by decide +kernel
theorem dX2_readFrom_24 : decode cX2_readFrom 24 = .ok (.ifCond .eq 29, 3) := by decide +kernel
theorem dX2_readFrom_27 : decode cX2_readFrom 27 = .ok (.aload_n 0, 1) := by decide +kernel
theorem dX2_readFrom_28 : decode cX2_readFrom 28 = .ok (.aload_n 1, 1) := by decide +kernel
theorem dX2_readFrom_29 : decode cX2_readFrom 29 = .ok (.invokevirtual 89, 3) := by decide +kernel
theorem dX2_readFrom_32 : decode cX2_readFrom 32 = .ok (.ifCond .ne 5, 3) := by decide +kernel
theorem dX2_readFrom_35 : decode cX2_readFrom 35 = .ok (.iconst 0, 1) := by decide +kernel
theorem dX2_readFrom_36 : decode cX2_readFrom 36 = .ok (.ireturn, 1) := by decide +kernel
theorem dX2_readFrom_37 : decode cX2_readFrom 37 = .ok (.aload_n 0, 1) := by decide +kernel
theorem dX2_readFrom_38 : decode cX2_readFrom 38 = .ok (.dup, 1) := by decide +kernel
theorem dX2_readFrom_39 : decode cX2_readFrom 39 = .ok (.getfield 58, 3) := by decide +kernel
theorem dX2_readFrom_42 : decode cX2_readFrom 42 = .ok (.iconst 1, 1) := by decide +kernel
theorem dX2_readFrom_43 : decode cX2_readFrom 43 = .ok (.iadd, 1) := by decide +kernel
theorem dX2_readFrom_44 : decode cX2_readFrom 44 = .ok (.putfield 58, 3) := by decide +kernel
theorem dX2_readFrom_47 : decode cX2_readFrom 47 = .ok (.iinc 2 1, 3) := by decide +kernel
theorem dX2_readFrom_50 : decode cX2_readFrom 50 = .ok (.goto (-37), 3) := by decide +kernel
theorem dX2_readFrom_53 : decode cX2_readFrom 53 = .ok (.iconst 1, 1) := by decide +kernel
theorem dX2_readFrom_54 : decode cX2_readFrom 54 = .ok (.ireturn, 1) := by decide +kernel
theorem dX2_readLine_0 : decode cX2_readLine 0 = .ok (.aload_n 1, 1) := by decide +kernel
theorem dX2_readLine_1 : decode cX2_readLine 1 = .ok (.getfield 86, 3) := by decide +kernel
theorem dX2_readLine_4 : decode cX2_readLine 4 = .ok (.iconst 2, 1) := by decide +kernel
theorem dX2_readLine_5 : decode cX2_readLine 5 = .ok (.if_icmp .ne 12, 3) := by decide +kernel
theorem dX2_readLine_8 : decode cX2_readLine 8 = .ok (.aload_n 1, 1) := by decide +kernel
theorem dX2_readLine_9 : decode cX2_readLine 9 = .ok (.getfield 93, 3) := by decide +kernel
theorem dX2_readLine_12 : decode cX2_readLine 12 = .ok (.bipush 7, 2) := by decide +kernel
theorem dX2_readLine_14 : decode cX2_readLine 14 = .ok (.if_icmp .le 9, 3) := by decide +kernel
theorem dX2_readLine_17 : decode cX2_readLine 17 = .ok (.aload_n 1, 1) := by decide +kernel
theorem dX2_readLine_18 : decode cX2_readLine 18 = .ok (.iconst 1, 1) := by decide +kernel
theorem dX2_readLine_19 : decode cX2_readLine 19 = .ok (.invokevirtual 96, 3) := by decide +kernel
theorem dX2_readLine_22 : decode cX2_readLine 22 = .ok (.ireturn, 1) := by decide +kernel
theorem dX2_readLine_23 : decode cX2_readLine 23 = .ok (.aload_n 1, 1) := by decide +kernel
theorem dX2_readLine_24 : decode cX2_readLine 24 = .ok (.getfield 93, 3) := by decide +kernel
theorem dX2_readLine_27 : decode cX2_readLine 27 = .ok (.iconst 3, 1) := by decide +kernel
theorem dX2_readLine_28 : decode cX2_readLine 28 = .ok (.if_icmp .gt 15, 3) := by decide +kernel
theorem dX2_readLine_31 : decode cX2_readLine 31 = .ok (.aload_n 0, 1) := by decide +kernel
theorem dX2_readLine_32 : decode cX2_readLine 32 = .ok (.aload_n 1, 1) := by decide +kernel
theorem dX2_readLine_33 : decode cX2_readLine 33 = .ok (.aload_n 1, 1) := by decide +kernel
theorem dX2_readLine_34 : decode cX2_readLine 34 = .ok (.getfield 93, 3) := by decide +kernel
theorem dX2_readLine_37 : decode cX2_readLine 37 = .ok (.invokevirtual 100, 3) := by decide +kernel
theorem dX2_readLine_40 : decode cX2_readLine 40 = .ok (.goto 14, 3) := by decide +kernel
theorem dX2_readLine_43 : decode cX2_readLine 43 = .ok (.aload_n 0, 1) := by decide +kernel
theorem dX2_readLine_44 : decode cX2_readLine 44 = .ok (.aload_n 1, 1) := by decide +kernel
theorem dX2_readLine_45 : decode cX2_readLine 45 = .ok (.aload_n 1, 1) := by decide +kernel
theorem dX2_readLine_46 : decode cX2_readLine 46 = .ok (.getfield 93, 3) := by decide +kernel
theorem dX2_readLine_49 : decode cX2_readLine 49 = .ok (.iconst 4, 1) := by decide +kernel
theorem dX2_readLine_50 : decode cX2_readLine 50 = .ok (.isub, 1) := by decide +kernel
theorem dX2_readLine_51 : decode cX2_readLine 51 = .ok (.invokevirtual 104, 3) := by decide +kernel
theorem dX2_readLine_54 : decode cX2_readLine 54 = .ok (.istore_n 2, 1) := by decide +kernel
theorem dX2_readLine_55 : decode cX2_readLine 55 = .ok (.iload_n 2, 1) := by decide +kernel
theorem dX2_readLine_56 : decode cX2_readLine 56 = .ok (.ifCond .ne 5, 3) := by decide +kernel
theorem dX2_readLine_59 : decode cX2_readLine 59 = .ok (.iconst 0, 1) := by decide +kernel
theorem dX2_readLine_60 : decode cX2_readLine 60 = .ok (.ireturn, 1) := by decide +kernel
theorem dX2_readLine_61 : decode cX2_readLine 61 = .ok (.aload_n 1, 1) := by decide +kernel
theorem dX2_readLine_62 : decode cX2_readLine 62 = .ok (.bipush 59, 2) := by decide +kernel
theorem dX2_readLine_64 : decode cX2_readLine 64 = .ok (.invokevirtual 107, 3) := by decide +kernel
theorem dX2_readLine_67 : decode cX2_readLine 67 = .ok (.ifCond .ne 9, 3) := by decide +kernel
theorem dX2_readLine_70 : decode cX2_readLine 70 = .ok (.aload_n 1, 1) := by decide +kernel
theorem dX2_readLine_71 : decode cX2_readLine 71 = .ok (.iconst 1, 1) := by decide +kernel
theorem dX2_readLine_72 : decode cX2_readLine 72 = .ok (.invokevirtual 96, 3) := by decide +kernel
theorem dX2_readLine_75 : decode cX2_readLine 75 = .ok (.ireturn, 1) := by decide +kernel
theorem dX2_readLine_76 : decode cX2_readLine 76 = .ok (.aload_n 1, 1) := by decide +kernel
theorem dX2_readLine_77 : decode cX2_readLine 77 = .ok (.invokevirtual 111, 3) := by decide +kernel
theorem dX2_readLine_80 : decode cX2_readLine 80 = .ok (.iconst 1, 1) := by decide +kernel
theorem dX2_readLine_81 : decode cX2_readLine 81 = .ok (.ireturn, 1) := by decide +kernel
theorem dX2_readSetting_0 : decode cX2_readSetting 0 = .ok (.iload_n 2, 1) := by decide +kernel
theorem dX2_readSetting_1 : decode cX2_readSetting 1 = .ok (.iconst 0, 1) := by decide +kernel
theorem dX2_readSetting_2 : decode cX2_readSetting 2 = .ok (.iconst 3, 1) := by decide +kernel
theorem dX2_readSetting_3 : decode cX2_readSetting 3 = .ok (.invokestatic 114, 3) := by decide +kernel
theorem dX2_readSetting_6 : decode cX2_readSetting 6 = .ok (.ifCond .ne 9, 3) := by decide +kernel
theorem dX2_readSetting_9 : decode cX2_readSetting 9 = .ok (.aload_n 1, 1) := by decide +kernel
theorem dX2_readSetting_10 : decode cX2_readSetting 10 = .ok (.iconst 1, 1) := by decide +kernel
theorem dX2_readSetting_11 : decode cX2_readSetting 11 = .ok (.invokevirtual 96, 3) := by decide +kernel
theorem dX2_readSetting_14 : decode cX2_readSetting 14 = .ok (.ireturn, 1) := by decide +kernel
theorem dX2_readSetting_15 : decode cX2_readSetting 15 = .ok (.aload_n 0, 1) := by decide +kernel
theorem dX2_readSetting_16 : decode cX2_readSetting 16 = .ok (.getfield 54, 3) := by decide +kernel
theorem dX2_readSetting_19 : decode cX2_readSetting 19 = .ok (.iload_n 2, 1) := by decide +kernel
theorem dX2_readSetting_20 : decode cX2_readSetting 20 = .ok (.ishr, 1) := by decide +kernel
theorem dX2_readSetting_21 : decode cX2_readSetting 21 = .ok (.iconst 1, 1) := by decide +kernel
theorem dX2_readSetting_22 : decode cX2_readSetting 22 = .ok (.iand, 1) := by decide +kernel
theorem dX2_readSetting_23 : decode cX2_readSetting 23 = .ok (.ifCond .eq 9, 3) := by decide +kernel
theorem dX2_readSetting_26 : decode cX2_readSetting 26 = .ok (.aload_n 1, 1) := by decide +kernel
theorem dX2_readSetting_27 : decode cX2_readSetting 27 = .ok (.iconst 3, 1) := by decide +kernel
theorem dX2_readSetting_28 : decode cX2_readSetting 28 = .ok (.invokevirtual 96, 3) := by decide +kernel
theorem dX2_readSetting_31 : decode cX2_readSetting 31 = .ok (.ireturn, 1) := by decide +kernel
theorem dX2_readSetting_32 : decode cX2_readSetting 32 = .ok (.aload_n 0, 1) := by decide +kernel
theorem dX2_readSetting_33 : decode cX2_readSetting 33 = .ok (.dup, 1) := by decide +kernel
theorem dX2_readSetting_34 : decode cX2_readSetting 34 = .ok (.getfield 54, 3) := by decide +kernel
theorem dX2_readSetting_37 : decode cX2_readSetting 37 = .ok (.iconst 1, 1) := by decide +kernel
theorem dX2_readSetting_38 : decode cX2_readSetting 38 = .ok (.iload_n 2, 1) := by decide +kernel
theorem dX2_readSetting_39 : decode cX2_readSetting 39 = .ok (.ishl, 1) := by decide +kernel
theorem dX2_readSetting_40 : decode cX2_readSetting 40 = .ok (.ior, 1) := by decide +kernel
theorem dX2_readSetting_41 : decode cX2_readSetting 41 = .ok (.putfield 54, 3) := by decide +kernel
theorem dX2_readSetting_44 : decode cX2_readSetting 44 = .ok (.aload_n 1, 1) := by decide +kernel
theorem dX2_readSetting_45 : decode cX2_readSetting 45 = .ok (.invokevirtual 111, 3) := by decide +kernel
theorem dX2_readSetting_48 : decode cX2_readSetting 48 = .ok (.aload_n 1, 1) := by decide +kernel
theorem dX2_readSetting_49 : decode cX2_readSetting 49 = .ok (.getstatic 118, 3) := by decide +kernel
theorem dX2_readSetting_52 : decode cX2_readSetting 52 = .ok (.iload_n 2, 1) := by decide +kernel
theorem dX2_readSetting_53 : decode cX2_readSetting 53 = .ok (.iaload, 1) := by decide +kernel
theorem dX2_readSetting_54 : decode cX2_readSetting 54 = .ok (.getstatic 121, 3) := by decide +kernel
theorem dX2_readSetting_57 : decode cX2_readSetting 57 = .ok (.iload_n 2, 1) := by decide +kernel
theorem dX2_readSetting_58 : decode cX2_readSetting 58 = .ok (.iaload, 1) := by decide +kernel
theorem dX2_readSetting_59 : decode cX2_readSetting 59 = .ok (.invokevirtual 124, 3) := by decide +kernel
theorem dX2_readSetting_62 : decode cX2_readSetting 62 = .ok (.istore_n 3, 1) := by decide +kernel
theorem dX2_readSetting_63 : decode cX2_readSetting 63 = .ok (.aload_n 0, 1) := by decide +kernel
theorem dX2_readSetting_64 : decode cX2_readSetting 64 = .ok (.getfield 51, 3) := by decide +kernel
theorem dX2_readSetting_67 : decode cX2_readSetting 67 = .ok (.iload_n 2, 1) := by decide +kernel
theorem dX2_readSetting_68 : decode cX2_readSetting 68 = .ok (.iload_n 3, 1) := by decide +kernel
theorem dX2_readSetting_69 : decode cX2_readSetting 69 = .ok (.iastore, 1) := by decide +kernel
theorem dX2_readSetting_70 : decode cX2_readSetting 70 = .ok (.iload_n 3, 1) := by decide +kernel
theorem dX2_readSetting_71 : decode cX2_readSetting 71 = .ok (.iconst (-1), 1) := by decide +kernel
theorem dX2_readSetting_72 : decode cX2_readSetting 72 = .ok (.if_icmp .eq 7, 3) := by decide +kernel
theorem dX2_readSetting_75 : decode cX2_readSetting 75 = .ok (.iconst 1, 1) := by decide +kernel
theorem dX2_readSetting_76 : decode cX2_readSetting 76 = .ok (.goto 4, 3) := by decide +kernel
theorem dX2_readSetting_79 : decode cX2_readSetting 79 = .ok (.iconst 0, 1) := by decide +kernel
theorem dX2_readSetting_80 : decode cX2_readSetting 80 = .ok (.ireturn, 1) := by decide +kernel
theorem dX2_readThing_0 : decode cX2_readThing 0 = .ok (.iload_n 2, 1) := by decide +kernel
theorem dX2_readThing_1 : decode cX2_readThing 1 = .ok (.iconst 0, 1) := by decide +kernel
theorem dX2_readThing_2 : decode cX2_readThing 2 = .ok (.iconst 3, 1) := by decide +kernel
theorem dX2_readThing_3 : decode cX2_readThing 3 = .ok (.invokestatic 114, 3) := by decide +kernel
theorem dX2_readThing_6 : decode cX2_readThing 6 = .ok (.ifCond .ne 9, 3) := by decide +kernel
theorem dX2_readThing_9 : decode cX2_readThing 9 = .ok (.aload_n 1, 1) := by decide +kernel
theorem dX2_readThing_10 : decode cX2_readThing 10 = .ok (.iconst 1, 1) := by decide +kernel
theorem dX2_readThing_11 : decode cX2_readThing 11 = .ok (.invokevirtual 96, 3) := by decide +kernel
theorem dX2_readThing_14 : decode cX2_readThing 14 = .ok (.ireturn, 1) := by decide +kernel
theorem dX2_readThing_15 : decode cX2_readThing 15 = .ok (.aload_n 0, 1) := by decide +kernel
theorem dX2_readThing_16 : decode cX2_readThing 16 = .ok (.getfield 15, 3) := by decide +kernel
theorem dX2_readThing_19 : decode cX2_readThing 19 = .ok (.iload_n 2, 1) := by decide +kernel
theorem dX2_readThing_20 : decode cX2_readThing 20 = .ok (.iaload, 1) := by decide +kernel
theorem dX2_readThing_21 : decode cX2_readThing 21 = .ok (.istore_n 3, 1) := by decide +kernel
theorem dX2_readThing_22 : decode cX2_readThing 22 = .ok (.iload_n 3, 1) := by decide +kernel
theorem dX2_readThing_23 : decode cX2_readThing 23 = .ok (.getstatic 128, 3) := by decide +kernel
theorem dX2_readThing_26 : decode cX2_readThing 26 = .ok (.iload_n 2, 1) := by decide +kernel
theorem dX2_readThing_27 : decode cX2_readThing 27 = .ok (.iaload, 1) := by decide +kernel
theorem dX2_readThing_28 : decode cX2_readThing 28 = .ok (.if_icmp .lt 9, 3) := by decide +kernel
theorem dX2_readThing_31 : decode cX2_readThing 31 = .ok (.aload_n 1, 1) := by decide +kernel
theorem dX2_readThing_32 : decode cX2_readThing 32 = .ok (.iconst 4, 1) := by decide +kernel
theorem dX2_readThing_33 : decode cX2_readThing 33 = .ok (.invokevirtual 96, 3) := by decide +kernel
theorem dX2_readThing_36 : decode cX2_readThing 36 = .ok (.ireturn, 1) := by decide +kernel
theorem dX2_readThing_37 : decode cX2_readThing 37 = .ok (.aload_n 1, 1) := by decide +kernel
theorem dX2_readThing_38 : decode cX2_readThing 38 = .ok (.invokevirtual 111, 3) := by decide +kernel
theorem dX2_readThing_41 : decode cX2_readThing 41 = .ok (.aload_n 1, 1) := by decide +kernel
theorem dX2_readThing_42 : decode cX2_readThing 42 = .ok (.getfield 86, 3) := by decide +kernel
theorem dX2_readThing_45 : decode cX2_readThing 45 = .ok (.iconst 3, 1) := by decide +kernel
theorem dX2_readThing_46 : decode cX2_readThing 46 = .ok (.if_icmp .eq 9, 3) := by decide +kernel
theorem dX2_readThing_49 : decode cX2_readThing 49 = .ok (.aload_n 1, 1) := by decide +kernel
theorem dX2_readThing_50 : decode cX2_readThing 50 = .ok (.iconst 1, 1) := by decide +kernel
theorem dX2_readThing_51 : decode cX2_readThing 51 = .ok (.invokevirtual 96, 3) := by decide +kernel
theorem dX2_readThing_54 : decode cX2_readThing 54 = .ok (.ireturn, 1) := by decide +kernel
theorem dX2_readThing_55 : decode cX2_readThing 55 = .ok (.aload_n 0, 1) := by decide +kernel
theorem dX2_readThing_56 : decode cX2_readThing 56 = .ok (.aload_n 1, 1) := by decide +kernel
theorem dX2_readThing_57 : decode cX2_readThing 57 = .ok (.getfield 131, 3) := by decide +kernel
theorem dX2_readThing_60 : decode cX2_readThing 60 = .ok (.invokevirtual 135, 3) := by decide +kernel
theorem dX2_readThing_63 : decode cX2_readThing 63 = .ok (.ifCond .eq 9, 3) := by decide +kernel
theorem dX2_readThing_66 : decode cX2_readThing 66 = .ok (.aload_n 1, 1) := by decide +kernel
theorem dX2_readThing_67 : decode cX2_readThing 67 = .ok (.iconst 3, 1) := by decide +kernel
theorem dX2_readThing_68 : decode cX2_readThing 68 = .ok (.invokevirtual 96, 3) := by decide +kernel
theorem dX2_readThing_71 : decode cX2_readThing 71 = .ok (.ireturn, 1) := by decide +kernel
theorem dX2_readThing_72 : decode cX2_readThing 72 = .ok (.aload_n 0, 1) := by decide +kernel
theorem dX2_readThing_73 : decode cX2_readThing 73 = .ok (.getfield 11, 3) := by decide +kernel
theorem dX2_readThing_76 : decode cX2_readThing 76 = .ok (.iload_n 2, 1) := by decide +kernel
theorem dX2_readThing_77 : decode cX2_readThing 77 = .ok (.bipush 8, 2) := by decide +kernel
theorem dX2_readThing_79 : decode cX2_readThing 79 = .ok (.imul, 1) := by decide +kernel
theorem dX2_readThing_80 : decode cX2_readThing 80 = .ok (.iload_n 3, 1) := by decide +kernel
theorem dX2_readThing_81 : decode cX2_readThing 81 = .ok (.iadd, 1) := by decide +kernel
theorem dX2_readThing_82 : decode cX2_readThing 82 = .ok (.aload_n 1, 1) := by decide +kernel
theorem dX2_readThing_83 : decode cX2_readThing 83 = .ok (.getfield 131, 3) := by decide +kernel
theorem dX2_readThing_86 : decode cX2_readThing 86 = .ok (.lastore, 1) := by decide +kernel
theorem dX2_readThing_87 : decode cX2_readThing 87 = .ok (.aload_n 0, 1) := by decide +kernel
theorem dX2_readThing_88 : decode cX2_readThing 88 = .ok (.getfield 15, 3) := by decide +kernel
theorem dX2_readThing_91 : decode cX2_readThing 91 = .ok (.iload_n 2, 1) := by decide +kernel
theorem dX2_readThing_92 : decode cX2_readThing 92 = .ok (.dup2, 1) := by decide +kernel
theorem dX2_readThing_93 : decode cX2_readThing 93 = .ok (.iaload, 1) := by decide +kernel
theorem dX2_readThing_94 : decode cX2_readThing 94 = .ok (.iconst 1, 1) := by decide +kernel
theorem dX2_readThing_95 : decode cX2_readThing 95 = .ok (.iadd, 1) := by decide +kernel
theorem dX2_readThing_96 : decode cX2_readThing 96 = .ok (.iastore, 1) := by decide +kernel
theorem dX2_readThing_97 : decode cX2_readThing 97 = .ok (.aload_n 1, 1) := by decide +kernel
theorem dX2_readThing_98 : decode cX2_readThing 98 = .ok (.invokevirtual 111, 3) := by decide +kernel
theorem dX2_readThing_101 : decode cX2_readThing 101 = .ok (.iload_n 2, 1) := by decide +kernel
theorem dX2_readThing_102 : decode cX2_readThing 102 = .ok (.tableswitch 47 1 3 #[26, 33, 40], 26) := by decide +kernel
theorem dX2_readThing_128 : decode cX2_readThing 128 = .ok (.aload_n 0, 1) := by decide +kernel
theorem dX2_readThing_129 : decode cX2_readThing 129 = .ok (.aload_n 1, 1) := by decide +kernel
theorem dX2_readThing_130 : decode cX2_readThing 130 = .ok (.iload_n 3, 1) := by decide +kernel
theorem dX2_readThing_131 : decode cX2_readThing 131 = .ok (.invokevirtual 139, 3) := by decide +kernel
theorem dX2_readThing_134 : decode cX2_readThing 134 = .ok (.ireturn, 1) := by decide +kernel
theorem dX2_readThing_135 : decode cX2_readThing 135 = .ok (.aload_n 0, 1) := by decide +kernel
theorem dX2_readThing_136 : decode cX2_readThing 136 = .ok (.aload_n 1, 1) := by decide +kernel
theorem dX2_readThing_137 : decode cX2_readThing 137 = .ok (.iload_n 3, 1) := by decide +kernel
theorem dX2_readThing_138 : decode cX2_readThing 138 = .ok (.invokevirtual 142, 3) := by decide +kernel
theorem dX2_readThing_141 : decode cX2_readThing 141 = .ok (.ireturn, 1) := by decide +kernel
theorem dX2_readThing_142 : decode cX2_readThing 142 = .ok (.aload_n 0, 1) := by decide +kernel
theorem dX2_readThing_143 : decode cX2_readThing 143 = .ok (.aload_n 1, 1) := by decide +kernel
theorem dX2_readThing_144 : decode cX2_readThing 144 = .ok (.iload_n 3, 1) := by decide +kernel
theorem dX2_readThing_145 : decode cX2_readThing 145 = .ok (.invokevirtual 145, 3) := by decide +kernel
theorem dX2_readThing_148 : decode cX2_readThing 148 = .ok (.ireturn, 1) := by decide +kernel
theorem dX2_readThing_149 : decode cX2_readThing 149 = .ok (.iconst 1, 1) := by decide +kernel
theorem dX2_readThing_150 : decode cX2_readThing 150 = .ok (.ireturn, 1) := by decide +kernel
theorem dX2_readAgent_0 : decode cX2_readAgent 0 = .ok (.aload_n 0, 1) := by decide +kernel
theorem dX2_readAgent_1 : decode cX2_readAgent 1 = .ok (.getfield 19, 3) := by decide +kernel
theorem dX2_readAgent_4 : decode cX2_readAgent 4 = .ok (.iload_n 2, 1) := by decide +kernel
theorem dX2_readAgent_5 : decode cX2_readAgent 5 = .ok (.aload_n 1, 1) := by decide +kernel
theorem dX2_readAgent_6 : decode cX2_readAgent 6 = .ok (.iconst 0, 1) := by decide +kernel
theorem dX2_readAgent_7 : decode cX2_readAgent 7 = .ok (.bipush 99, 2) := by decide +kernel
theorem dX2_readAgent_9 : decode cX2_readAgent 9 = .ok (.invokevirtual 124, 3) := by decide +kernel
theorem dX2_readAgent_12 : decode cX2_readAgent 12 = .ok (.iastore, 1) := by decide +kernel
theorem dX2_readAgent_13 : decode cX2_readAgent 13 = .ok (.aload_n 0, 1) := by decide +kernel
theorem dX2_readAgent_14 : decode cX2_readAgent 14 = .ok (.getfield 19, 3) := by decide +kernel
theorem dX2_readAgent_17 : decode cX2_readAgent 17 = .ok (.iload_n 2, 1) := by decide +kernel
theorem dX2_readAgent_18 : decode cX2_readAgent 18 = .ok (.iaload, 1) := by decide +kernel
theorem dX2_readAgent_19 : decode cX2_readAgent 19 = .ok (.iconst (-1), 1) := by decide +kernel
theorem dX2_readAgent_20 : decode cX2_readAgent 20 = .ok (.if_icmp .ne 5, 3) := by decide +kernel
theorem dX2_readAgent_23 : decode cX2_readAgent 23 = .ok (.iconst 0, 1) := by decide +kernel
theorem dX2_readAgent_24 : decode cX2_readAgent 24 = .ok (.ireturn, 1) := by decide +kernel
theorem dX2_readAgent_25 : decode cX2_readAgent 25 = .ok (.iconst 0, 1) := by decide +kernel
theorem dX2_readAgent_26 : decode cX2_readAgent 26 = .ok (.istore_n 3, 1) := by decide +kernel
theorem dX2_readAgent_27 : decode cX2_readAgent 27 = .ok (.iconst 0, 1) := by decide +kernel
theorem dX2_readAgent_28 : decode cX2_readAgent 28 = .ok (.istore 4, 2) := by decide +kernel
theorem dX2_readAgent_30 : decode cX2_readAgent 30 = .ok (.iload 4, 2) := by decide +kernel
theorem dX2_readAgent_32 : decode cX2_readAgent 32 = .ok (.bipush 6, 2) := by decide +kernel
theorem dX2_readAgent_34 : decode cX2_readAgent 34 = .ok (.if_icmp .gt 73, 3) := by decide +kernel
theorem dX2_readAgent_37 : decode cX2_readAgent 37 = .ok (.aload_n 1, 1) := by decide +kernel
theorem dX2_readAgent_38 : decode cX2_readAgent 38 = .ok (.bipush 59, 2) := by decide +kernel
theorem dX2_readAgent_40 : decode cX2_readAgent 40 = .ok (.invokevirtual 107, 3) := by decide +kernel
theorem dX2_readAgent_43 : decode cX2_readAgent 43 = .ok (.ifCond .ne 64, 3) := by decide +kernel
theorem dX2_readAgent_46 : decode cX2_readAgent 46 = .ok (.aload_n 0, 1) := by decide +kernel
theorem dX2_readAgent_47 : decode cX2_readAgent 47 = .ok (.aload_n 1, 1) := by decide +kernel
theorem dX2_readAgent_48 : decode cX2_readAgent 48 = .ok (.iconst 0, 1) := by decide +kernel
theorem dX2_readAgent_49 : decode cX2_readAgent 49 = .ok (.iload_n 3, 1) := by decide +kernel
theorem dX2_readAgent_50 : decode cX2_readAgent 50 = .ok (.invokevirtual 148, 3) := by decide +kernel
theorem dX2_readAgent_53 : decode cX2_readAgent 53 = .ok (.istore 5, 2) := by decide +kernel
theorem dX2_readAgent_55 : decode cX2_readAgent 55 = .ok (.iload 5, 2) := by decide +kernel
theorem dX2_readAgent_57 : decode cX2_readAgent 57 = .ok (.iconst (-1), 1) := by decide +kernel
theorem dX2_readAgent_58 : decode cX2_readAgent 58 = .ok (.if_icmp .ne 5, 3) := by decide +kernel
theorem dX2_readAgent_61 : decode cX2_readAgent 61 = .ok (.iconst 0, 1) := by decide +kernel
theorem dX2_readAgent_62 : decode cX2_readAgent 62 = .ok (.ireturn, 1) := by decide +kernel
theorem dX2_readAgent_63 : decode cX2_readAgent 63 = .ok (.iload_n 3, 1) := by decide +kernel
theorem dX2_readAgent_64 : decode cX2_readAgent 64 = .ok (.iconst 1, 1) := by decide +kernel
theorem dX2_readAgent_65 : decode cX2_readAgent 65 = .ok (.iload 5, 2) := by decide +kernel
theorem dX2_readAgent_67 : decode cX2_readAgent 67 = .ok (.ishl, 1) := by decide +kernel
theorem dX2_readAgent_68 : decode cX2_readAgent 68 = .ok (.ior, 1) := by decide +kernel
theorem dX2_readAgent_69 : decode cX2_readAgent 69 = .ok (.istore_n 3, 1) := by decide +kernel
theorem dX2_readAgent_70 : decode cX2_readAgent 70 = .ok (.aload_n 1, 1) := by decide +kernel
theorem dX2_readAgent_71 : decode cX2_readAgent 71 = .ok (.iconst 0, 1) := by decide +kernel
theorem dX2_readAgent_72 : decode cX2_readAgent 72 = .ok (.bipush 20, 2) := by decide +kernel
theorem dX2_readAgent_74 : decode cX2_readAgent 74 = .ok (.invokevirtual 124, 3) := by decide +kernel
theorem dX2_readAgent_77 : decode cX2_readAgent 77 = .ok (.istore 6, 2) := by decide +kernel
theorem dX2_readAgent_79 : decode cX2_readAgent 79 = .ok (.iload 6, 2) := by decide +kernel
theorem dX2_readAgent_81 : decode cX2_readAgent 81 = .ok (.iconst (-1), 1) := by decide +kernel
theorem dX2_readAgent_82 : decode cX2_readAgent 82 = .ok (.if_icmp .ne 5, 3) := by decide +kernel
theorem dX2_readAgent_85 : decode cX2_readAgent 85 = .ok (.iconst 0, 1) := by decide +kernel
theorem dX2_readAgent_86 : decode cX2_readAgent 86 = .ok (.ireturn, 1) := by decide +kernel
theorem dX2_readAgent_87 : decode cX2_readAgent 87 = .ok (.aload_n 0, 1) := by decide +kernel
theorem dX2_readAgent_88 : decode cX2_readAgent 88 = .ok (.getfield 22, 3) := by decide +kernel
theorem dX2_readAgent_91 : decode cX2_readAgent 91 = .ok (.iload_n 2, 1) := by decide +kernel
theorem dX2_readAgent_92 : decode cX2_readAgent 92 = .ok (.bipush 6, 2) := by decide +kernel
theorem dX2_readAgent_94 : decode cX2_readAgent 94 = .ok (.imul, 1) := by decide +kernel
theorem dX2_readAgent_95 : decode cX2_readAgent 95 = .ok (.iload 5, 2) := by decide +kernel
theorem dX2_readAgent_97 : decode cX2_readAgent 97 = .ok (.iadd, 1) := by decide +kernel
theorem dX2_readAgent_98 : decode cX2_readAgent 98 = .ok (.iload 6, 2) := by decide +kernel
theorem dX2_readAgent_100 : decode cX2_readAgent 100 = .ok (.iastore, 1) := by decide +kernel
theorem dX2_readAgent_101 : decode cX2_readAgent 101 = .ok (.iinc 4 1, 3) := by decide +kernel
theorem dX2_readAgent_104 : decode cX2_readAgent 104 = .ok (.goto (-74), 3) := by decide +kernel
theorem dX2_readAgent_107 : decode cX2_readAgent 107 = .ok (.iconst 1, 1) := by decide +kernel
theorem dX2_readAgent_108 : decode cX2_readAgent 108 = .ok (.ireturn, 1) := by decide +kernel
theorem dX2_readCloth_0 : decode cX2_readCloth 0 = .ok (.aload_n 0, 1) := by decide +kernel
theorem dX2_readCloth_1 : decode cX2_readCloth 1 = .ok (.getfield 25, 3) := by decide +kernel
theorem dX2_readCloth_4 : decode cX2_readCloth 4 = .ok (.iload_n 2, 1) := by decide +kernel
theorem dX2_readCloth_5 : decode cX2_readCloth 5 = .ok (.aload_n 1, 1) := by decide +kernel
theorem dX2_readCloth_6 : decode cX2_readCloth 6 = .ok (.iconst 0, 1) := by decide +kernel
theorem dX2_readCloth_7 : decode cX2_readCloth 7 = .ok (.bipush 9, 2) := by decide +kernel
theorem dX2_readCloth_9 : decode cX2_readCloth 9 = .ok (.invokevirtual 124, 3) := by decide +kernel
theorem dX2_readCloth_12 : decode cX2_readCloth 12 = .ok (.iastore, 1) := by decide +kernel
theorem dX2_readCloth_13 : decode cX2_readCloth 13 = .ok (.aload_n 0, 1) := by decide +kernel
theorem dX2_readCloth_14 : decode cX2_readCloth 14 = .ok (.getfield 25, 3) := by decide +kernel
theorem dX2_readCloth_17 : decode cX2_readCloth 17 = .ok (.iload_n 2, 1) := by decide +kernel
theorem dX2_readCloth_18 : decode cX2_readCloth 18 = .ok (.iaload, 1) := by decide +kernel
theorem dX2_readCloth_19 : decode cX2_readCloth 19 = .ok (.iconst (-1), 1) := by decide +kernel
theorem dX2_readCloth_20 : decode cX2_readCloth 20 = .ok (.if_icmp .ne 5, 3) := by decide +kernel
theorem dX2_readCloth_23 : decode cX2_readCloth 23 = .ok (.iconst 0, 1) := by decide +kernel
theorem dX2_readCloth_24 : decode cX2_readCloth 24 = .ok (.ireturn, 1) := by decide +kernel
theorem dX2_readCloth_25 : decode cX2_readCloth 25 = .ok (.aload_n 0, 1) := by decide +kernel
theorem dX2_readCloth_26 : decode cX2_readCloth 26 = .ok (.getfield 28, 3) := by decide +kernel
theorem dX2_readCloth_29 : decode cX2_readCloth 29 = .ok (.iload_n 2, 1) := by decide +kernel
theorem dX2_readCloth_30 : decode cX2_readCloth 30 = .ok (.aload_n 1, 1) := by decide +kernel
theorem dX2_readCloth_31 : decode cX2_readCloth 31 = .ok (.iconst 0, 1) := by decide +kernel
theorem dX2_readCloth_32 : decode cX2_readCloth 32 = .ok (.sipush 999, 3) := by decide +kernel
theorem dX2_readCloth_35 : decode cX2_readCloth 35 = .ok (.invokevirtual 124, 3) := by decide +kernel
theorem dX2_readCloth_38 : decode cX2_readCloth 38 = .ok (.iastore, 1) := by decide +kernel
theorem dX2_readCloth_39 : decode cX2_readCloth 39 = .ok (.aload_n 0, 1) := by decide +kernel
theorem dX2_readCloth_40 : decode cX2_readCloth 40 = .ok (.getfield 28, 3) := by decide +kernel
theorem dX2_readCloth_43 : decode cX2_readCloth 43 = .ok (.iload_n 2, 1) := by decide +kernel
theorem dX2_readCloth_44 : decode cX2_readCloth 44 = .ok (.iaload, 1) := by decide +kernel
theorem dX2_readCloth_45 : decode cX2_readCloth 45 = .ok (.iconst (-1), 1) := by decide +kernel
theorem dX2_readCloth_46 : decode cX2_readCloth 46 = .ok (.if_icmp .ne 5, 3) := by decide +kernel
theorem dX2_readCloth_49 : decode cX2_readCloth 49 = .ok (.iconst 0, 1) := by decide +kernel
theorem dX2_readCloth_50 : decode cX2_readCloth 50 = .ok (.ireturn, 1) := by decide +kernel
theorem dX2_readCloth_51 : decode cX2_readCloth 51 = .ok (.aload_n 1, 1) := by decide +kernel
theorem dX2_readCloth_52 : decode cX2_readCloth 52 = .ok (.bipush 8, 2) := by decide +kernel
theorem dX2_readCloth_54 : decode cX2_readCloth 54 = .ok (.invokevirtual 154, 3) := by decide +kernel
theorem dX2_readCloth_57 : decode cX2_readCloth 57 = .ok (.ifCond .eq 14, 3) := by decide +kernel
theorem dX2_readCloth_60 : decode cX2_readCloth 60 = .ok (.aload_n 0, 1) := by decide +kernel
theorem dX2_readCloth_61 : decode cX2_readCloth 61 = .ok (.getfield 31, 3) := by decide +kernel
theorem dX2_readCloth_64 : decode cX2_readCloth 64 = .ok (.iload_n 2, 1) := by decide +kernel
theorem dX2_readCloth_65 : decode cX2_readCloth 65 = .ok (.iconst 1, 1) := by decide +kernel
theorem dX2_readCloth_66 : decode cX2_readCloth 66 = .ok (.iastore, 1) := by decide +kernel
theorem dX2_readCloth_67 : decode cX2_readCloth 67 = .ok (.aload_n 1, 1) := by decide +kernel
theorem dX2_readCloth_68 : decode cX2_readCloth 68 = .ok (.invokevirtual 111, 3) := by decide +kernel
theorem dX2_readCloth_71 : decode cX2_readCloth 71 = .ok (.iconst 0, 1) := by decide +kernel
theorem dX2_readCloth_72 : decode cX2_readCloth 72 = .ok (.istore_n 3, 1) := by decide +kernel
theorem dX2_readCloth_73 : decode cX2_readCloth 73 = .ok (.iload_n 3, 1) := by decide +kernel
theorem dX2_readCloth_74 : decode cX2_readCloth 74 = .ok (.bipush 6, 2) := by decide +kernel
theorem dX2_readCloth_76 : decode cX2_readCloth 76 = .ok (.if_icmp .gt 57, 3) := by decide +kernel
theorem dX2_readCloth_79 : decode cX2_readCloth 79 = .ok (.aload_n 1, 1) := by decide +kernel
theorem dX2_readCloth_80 : decode cX2_readCloth 80 = .ok (.bipush 9, 2) := by decide +kernel
theorem dX2_readCloth_82 : decode cX2_readCloth 82 = .ok (.invokevirtual 154, 3) := by decide +kernel
theorem dX2_readCloth_85 : decode cX2_readCloth 85 = .ok (.ifCond .eq 48, 3) := by decide +kernel
theorem dX2_readCloth_88 : decode cX2_readCloth 88 = .ok (.aload_n 1, 1) := by decide +kernel
theorem dX2_readCloth_89 : decode cX2_readCloth 89 = .ok (.invokevirtual 111, 3) := by decide +kernel
theorem dX2_readCloth_92 : decode cX2_readCloth 92 = .ok (.aload_n 0, 1) := by decide +kernel
theorem dX2_readCloth_93 : decode cX2_readCloth 93 = .ok (.aload_n 1, 1) := by decide +kernel
theorem dX2_readCloth_94 : decode cX2_readCloth 94 = .ok (.iconst 1, 1) := by decide +kernel
theorem dX2_readCloth_95 : decode cX2_readCloth 95 = .ok (.aload_n 0, 1) := by decide +kernel
theorem dX2_readCloth_96 : decode cX2_readCloth 96 = .ok (.getfield 34, 3) := by decide +kernel
theorem dX2_readCloth_99 : decode cX2_readCloth 99 = .ok (.iload_n 2, 1) := by decide +kernel
theorem dX2_readCloth_100 : decode cX2_readCloth 100 = .ok (.iaload, 1) := by decide +kernel
theorem dX2_readCloth_101 : decode cX2_readCloth 101 = .ok (.invokevirtual 148, 3) := by decide +kernel
theorem dX2_readCloth_104 : decode cX2_readCloth 104 = .ok (.istore 4, 2) := by decide +kernel
theorem dX2_readCloth_106 : decode cX2_readCloth 106 = .ok (.iload 4, 2) := by decide +kernel
theorem dX2_readCloth_108 : decode cX2_readCloth 108 = .ok (.iconst (-1), 1) := by decide +kernel
theorem dX2_readCloth_109 : decode cX2_readCloth 109 = .ok (.if_icmp .ne 5, 3) := by decide +kernel
theorem dX2_readCloth_112 : decode cX2_readCloth 112 = .ok (.iconst 0, 1) := by decide +kernel
theorem dX2_readCloth_113 : decode cX2_readCloth 113 = .ok (.ireturn, 1) := by decide +kernel
theorem dX2_readCloth_114 : decode cX2_readCloth 114 = .ok (.aload_n 0, 1) := by decide +kernel
theorem dX2_readCloth_115 : decode cX2_readCloth 115 = .ok (.getfield 34, 3) := by decide +kernel
theorem dX2_readCloth_118 : decode cX2_readCloth 118 = .ok (.iload_n 2, 1) := by decide +kernel
theorem dX2_readCloth_119 : decode cX2_readCloth 119 = .ok (.dup2, 1) := by decide +kernel
theorem dX2_readCloth_120 : decode cX2_readCloth 120 = .ok (.iaload, 1) := by decide +kernel
theorem dX2_readCloth_121 : decode cX2_readCloth 121 = .ok (.iconst 1, 1) := by decide +kernel
theorem dX2_readCloth_122 : decode cX2_readCloth 122 = .ok (.iload 4, 2) := by decide +kernel
theorem dX2_readCloth_124 : decode cX2_readCloth 124 = .ok (.ishl, 1) := by decide +kernel
theorem dX2_readCloth_125 : decode cX2_readCloth 125 = .ok (.ior, 1) := by decide +kernel
theorem dX2_readCloth_126 : decode cX2_readCloth 126 = .ok (.iastore, 1) := by decide +kernel
theorem dX2_readCloth_127 : decode cX2_readCloth 127 = .ok (.iinc 3 1, 3) := by decide +kernel
theorem dX2_readCloth_130 : decode cX2_readCloth 130 = .ok (.goto (-57), 3) := by decide +kernel
theorem dX2_readCloth_133 : decode cX2_readCloth 133 = .ok (.iconst 1, 1) := by decide +kernel
theorem dX2_readCloth_134 : decode cX2_readCloth 134 = .ok (.ireturn, 1) := by decide +kernel
theorem dX2_readDrum_0 : decode cX2_readDrum 0 = .ok (.aload_n 0, 1) := by decide +kernel
theorem dX2_readDrum_1 : decode cX2_readDrum 1 = .ok (.getfield 37, 3) := by decide +kernel
theorem dX2_readDrum_4 : decode cX2_readDrum 4 = .ok (.iload_n 2, 1) := by decide +kernel
theorem dX2_readDrum_5 : decode cX2_readDrum 5 = .ok (.aload_n 1, 1) := by decide +kernel
theorem dX2_readDrum_6 : decode cX2_readDrum 6 = .ok (.iconst 1, 1) := by decide +kernel
theorem dX2_readDrum_7 : decode cX2_readDrum 7 = .ok (.bipush 99, 2) := by decide +kernel
theorem dX2_readDrum_9 : decode cX2_readDrum 9 = .ok (.invokevirtual 124, 3) := by decide +kernel
theorem dX2_readDrum_12 : decode cX2_readDrum 12 = .ok (.iastore, 1) := by decide +kernel
theorem dX2_readDrum_13 : decode cX2_readDrum 13 = .ok (.aload_n 0, 1) := by decide +kernel
theorem dX2_readDrum_14 : decode cX2_readDrum 14 = .ok (.getfield 37, 3) := by decide +kernel
theorem dX2_readDrum_17 : decode cX2_readDrum 17 = .ok (.iload_n 2, 1) := by decide +kernel
theorem dX2_readDrum_18 : decode cX2_readDrum 18 = .ok (.iaload, 1) := by decide +kernel
theorem dX2_readDrum_19 : decode cX2_readDrum 19 = .ok (.iconst (-1), 1) := by decide +kernel
theorem dX2_readDrum_20 : decode cX2_readDrum 20 = .ok (.if_icmp .ne 5, 3) := by decide +kernel
theorem dX2_readDrum_23 : decode cX2_readDrum 23 = .ok (.iconst 0, 1) := by decide +kernel
theorem dX2_readDrum_24 : decode cX2_readDrum 24 = .ok (.ireturn, 1) := by decide +kernel
theorem dX2_readDrum_25 : decode cX2_readDrum 25 = .ok (.aload_n 0, 1) := by decide +kernel
theorem dX2_readDrum_26 : decode cX2_readDrum 26 = .ok (.getfield 40, 3) := by decide +kernel
theorem dX2_readDrum_29 : decode cX2_readDrum 29 = .ok (.iload_n 2, 1) := by decide +kernel
theorem dX2_readDrum_30 : decode cX2_readDrum 30 = .ok (.aload_n 1, 1) := by decide +kernel
theorem dX2_readDrum_31 : decode cX2_readDrum 31 = .ok (.iconst 0, 1) := by decide +kernel
theorem dX2_readDrum_32 : decode cX2_readDrum 32 = .ok (.bipush 9, 2) := by decide +kernel
theorem dX2_readDrum_34 : decode cX2_readDrum 34 = .ok (.invokevirtual 124, 3) := by decide +kernel
theorem dX2_readDrum_37 : decode cX2_readDrum 37 = .ok (.iastore, 1) := by decide +kernel
theorem dX2_readDrum_38 : decode cX2_readDrum 38 = .ok (.aload_n 0, 1) := by decide +kernel
theorem dX2_readDrum_39 : decode cX2_readDrum 39 = .ok (.getfield 40, 3) := by decide +kernel
theorem dX2_readDrum_42 : decode cX2_readDrum 42 = .ok (.iload_n 2, 1) := by decide +kernel
theorem dX2_readDrum_43 : decode cX2_readDrum 43 = .ok (.iaload, 1) := by decide +kernel
theorem dX2_readDrum_44 : decode cX2_readDrum 44 = .ok (.iconst (-1), 1) := by decide +kernel
theorem dX2_readDrum_45 : decode cX2_readDrum 45 = .ok (.if_icmp .eq 7, 3) := by decide +kernel
theorem dX2_readDrum_48 : decode cX2_readDrum 48 = .ok (.iconst 1, 1) := by decide +kernel
theorem dX2_readDrum_49 : decode cX2_readDrum 49 = .ok (.goto 4, 3) := by decide +kernel
theorem dX2_readDrum_52 : decode cX2_readDrum 52 = .ok (.iconst 0, 1) := by decide +kernel
theorem dX2_readDrum_53 : decode cX2_readDrum 53 = .ok (.ireturn, 1) := by decide +kernel
theorem dX2_takeName_0 : decode cX2_takeName 0 = .ok (.aload_n 1, 1) := by decide +kernel
theorem dX2_takeName_1 : decode cX2_takeName 1 = .ok (.getfield 86, 3) := by decide +kernel
theorem dX2_takeName_4 : decode cX2_takeName 4 = .ok (.iconst 3, 1) := by decide +kernel
theorem dX2_takeName_5 : decode cX2_takeName 5 = .ok (.if_icmp .eq 11, 3) := by decide +kernel
theorem dX2_takeName_8 : decode cX2_takeName 8 = .ok (.aload_n 1, 1) := by decide +kernel
theorem dX2_takeName_9 : decode cX2_takeName 9 = .ok (.iconst 1, 1) := by decide +kernel
theorem dX2_takeName_10 : decode cX2_takeName 10 = .ok (.invokevirtual 96, 3) := by decide +kernel
theorem dX2_takeName_13 : decode cX2_takeName 13 = .ok (.pop, 1) := by decide +kernel
theorem dX2_takeName_14 : decode cX2_takeName 14 = .ok (.iconst (-1), 1) := by decide +kernel
theorem dX2_takeName_15 : decode cX2_takeName 15 = .ok (.ireturn, 1) := by decide +kernel
theorem dX2_takeName_16 : decode cX2_takeName 16 = .ok (.aload_n 0, 1) := by decide +kernel
theorem dX2_takeName_17 : decode cX2_takeName 17 = .ok (.iload_n 2, 1) := by decide +kernel
theorem dX2_takeName_18 : decode cX2_takeName 18 = .ok (.aload_n 1, 1) := by decide +kernel
theorem dX2_takeName_19 : decode cX2_takeName 19 = .ok (.getfield 131, 3) := by decide +kernel
theorem dX2_takeName_22 : decode cX2_takeName 22 = .ok (.invokevirtual 157, 3) := by decide +kernel
theorem dX2_takeName_25 : decode cX2_takeName 25 = .ok (.istore 4, 2) := by decide +kernel
theorem dX2_takeName_27 : decode cX2_takeName 27 = .ok (.iload 4, 2) := by decide +kernel
theorem dX2_takeName_29 : decode cX2_takeName 29 = .ok (.iconst (-1), 1) := by decide +kernel
theorem dX2_takeName_30 : decode cX2_takeName 30 = .ok (.if_icmp .eq 12, 3) := by decide +kernel
theorem dX2_takeName_33 : decode cX2_takeName 33 = .ok (.iload_n 3, 1) := by decide +kernel
theorem dX2_takeName_34 : decode cX2_takeName 34 = .ok (.iload 4, 2) := by decide +kernel
theorem dX2_takeName_36 : decode cX2_takeName 36 = .ok (.ishr, 1) := by decide +kernel
theorem dX2_takeName_37 : decode cX2_takeName 37 = .ok (.iconst 1, 1) := by decide +kernel
theorem dX2_takeName_38 : decode cX2_takeName 38 = .ok (.iand, 1) := by decide +kernel
theorem dX2_takeName_39 : decode cX2_takeName 39 = .ok (.ifCond .eq 11, 3) := by decide +kernel
theorem dX2_takeName_42 : decode cX2_takeName 42 = .ok (.aload_n 1, 1) := by decide +kernel
theorem dX2_takeName_43 : decode cX2_takeName 43 = .ok (.iconst 3, 1) := by decide +kernel
theorem dX2_takeName_44 : decode cX2_takeName 44 = .ok (.invokevirtual 96, 3) := by decide +kernel
theorem dX2_takeName_47 : decode cX2_takeName 47 = .ok (.pop, 1) := by decide +kernel
theorem dX2_takeName_48 : decode cX2_takeName 48 = .ok (.iconst (-1), 1) := by decide +kernel
theorem dX2_takeName_49 : decode cX2_takeName 49 = .ok (.ireturn, 1) := by decide +kernel
theorem dX2_takeName_50 : decode cX2_takeName 50 = .ok (.aload_n 1, 1) := by decide +kernel
theorem dX2_takeName_51 : decode cX2_takeName 51 = .ok (.invokevirtual 111, 3) := by decide +kernel
theorem dX2_takeName_54 : decode cX2_takeName 54 = .ok (.iload 4, 2) := by decide +kernel
theorem dX2_takeName_56 : decode cX2_takeName 56 = .ok (.ireturn, 1) := by decide +kernel
theorem dX2_isTold_0 : decode cX2_isTold 0 = .ok (.aload_n 0, 1) := by decide +kernel
theorem dX2_isTold_1 : decode cX2_isTold 1 = .ok (.iconst 0, 1) := by decide +kernel
theorem dX2_isTold_2 : decode cX2_isTold 2 = .ok (.lload_n 1, 1) := by decide +kernel
theorem dX2_isTold_3 : decode cX2_isTold 3 = .ok (.invokevirtual 157, 3) := by decide +kernel
theorem dX2_isTold_6 : decode cX2_isTold 6 = .ok (.iconst (-1), 1) := by decide +kernel
theorem dX2_isTold_7 : decode cX2_isTold 7 = .ok (.if_icmp .ne 33, 3) := by decide +kernel
theorem dX2_isTold_10 : decode cX2_isTold 10 = .ok (.aload_n 0, 1) := by decide +kernel
theorem dX2_isTold_11 : decode cX2_isTold 11 = .ok (.iconst 1, 1) := by decide +kernel
theorem dX2_isTold_12 : decode cX2_isTold 12 = .ok (.lload_n 1, 1) := by decide +kernel
theorem dX2_isTold_13 : decode cX2_isTold 13 = .ok (.invokevirtual 157, 3) := by decide +kernel
theorem dX2_isTold_16 : decode cX2_isTold 16 = .ok (.iconst (-1), 1) := by decide +kernel
theorem dX2_isTold_17 : decode cX2_isTold 17 = .ok (.if_icmp .ne 23, 3) := by decide +kernel
theorem dX2_isTold_20 : decode cX2_isTold 20 = .ok (.aload_n 0, 1) := by decide +kernel
theorem dX2_isTold_21 : decode cX2_isTold 21 = .ok (.iconst 2, 1) := by decide +kernel
theorem dX2_isTold_22 : decode cX2_isTold 22 = .ok (.lload_n 1, 1) := by decide +kernel
theorem dX2_isTold_23 : decode cX2_isTold 23 = .ok (.invokevirtual 157, 3) := by decide +kernel
theorem dX2_isTold_26 : decode cX2_isTold 26 = .ok (.iconst (-1), 1) := by decide +kernel
theorem dX2_isTold_27 : decode cX2_isTold 27 = .ok (.if_icmp .ne 13, 3) := by decide +kernel
theorem dX2_isTold_30 : decode cX2_isTold 30 = .ok (.aload_n 0, 1) := by decide +kernel
theorem dX2_isTold_31 : decode cX2_isTold 31 = .ok (.iconst 3, 1) := by decide +kernel
theorem dX2_isTold_32 : decode cX2_isTold 32 = .ok (.lload_n 1, 1) := by decide +kernel
theorem dX2_isTold_33 : decode cX2_isTold 33 = .ok (.invokevirtual 157, 3) := by decide +kernel
theorem dX2_isTold_36 : decode cX2_isTold 36 = .ok (.iconst (-1), 1) := by decide +kernel
theorem dX2_isTold_37 : decode cX2_isTold 37 = .ok (.if_icmp .eq 7, 3) := by decide +kernel
theorem dX2_isTold_40 : decode cX2_isTold 40 = .ok (.iconst 1, 1) := by decide +kernel
theorem dX2_isTold_41 : decode cX2_isTold 41 = .ok (.goto 4, 3) := by decide +kernel
theorem dX2_isTold_44 : decode cX2_isTold 44 = .ok (.iconst 0, 1) := by decide +kernel
theorem dX2_isTold_45 : decode cX2_isTold 45 = .ok (.ireturn, 1) := by decide +kernel
theorem dX2_numberOf_0 : decode cX2_numberOf 0 = .ok (.iconst 0, 1) := by decide +kernel
theorem dX2_numberOf_1 : decode cX2_numberOf 1 = .ok (.istore 4, 2) := by decide +kernel
theorem dX2_numberOf_3 : decode cX2_numberOf 3 = .ok (.iload 4, 2) := by decide +kernel
theorem dX2_numberOf_5 : decode cX2_numberOf 5 = .ok (.aload_n 0, 1) := by decide +kernel
theorem dX2_numberOf_6 : decode cX2_numberOf 6 = .ok (.getfield 15, 3) := by decide +kernel
theorem dX2_numberOf_9 : decode cX2_numberOf 9 = .ok (.iload_n 1, 1) := by decide +kernel
theorem dX2_numberOf_10 : decode cX2_numberOf 10 = .ok (.iaload, 1) := by decide +kernel
theorem dX2_numberOf_11 : decode cX2_numberOf 11 = .ok (.if_icmp .ge 29, 3) := by decide +kernel
theorem dX2_numberOf_14 : decode cX2_numberOf 14 = .ok (.aload_n 0, 1) := by decide +kernel
theorem dX2_numberOf_15 : decode cX2_numberOf 15 = .ok (.getfield 11, 3) := by decide +kernel
theorem dX2_numberOf_18 : decode cX2_numberOf 18 = .ok (.iload_n 1, 1) := by decide +kernel
theorem dX2_numberOf_19 : decode cX2_numberOf 19 = .ok (.bipush 8, 2) := by decide +kernel
theorem dX2_numberOf_21 : decode cX2_numberOf 21 = .ok (.imul, 1) := by decide +kernel
theorem dX2_numberOf_22 : decode cX2_numberOf 22 = .ok (.iload 4, 2) := by decide +kernel
theorem dX2_numberOf_24 : decode cX2_numberOf 24 = .ok (.iadd, 1) := by decide +kernel
theorem dX2_numberOf_25 : decode cX2_numberOf 25 = .ok (.laload, 1) := by decide +kernel
theorem dX2_numberOf_26 : decode cX2_numberOf 26 = .ok (.lload_n 2, 1) := by decide +kernel
theorem dX2_numberOf_27 : decode cX2_numberOf 27 = .ok (.lcmp, 1) := by decide +kernel
theorem dX2_numberOf_28 : decode cX2_numberOf 28 = .ok (.ifCond .ne 6, 3) := by decide +kernel
theorem dX2_numberOf_31 : decode cX2_numberOf 31 = .ok (.iload 4, 2) := by decide +kernel
theorem dX2_numberOf_33 : decode cX2_numberOf 33 = .ok (.ireturn, 1) := by decide +kernel
theorem dX2_numberOf_34 : decode cX2_numberOf 34 = .ok (.iinc 4 1, 3) := by decide +kernel
theorem dX2_numberOf_37 : decode cX2_numberOf 37 = .ok (.goto (-34), 3) := by decide +kernel
theorem dX2_numberOf_40 : decode cX2_numberOf 40 = .ok (.iconst (-1), 1) := by decide +kernel
theorem dX2_numberOf_41 : decode cX2_numberOf 41 = .ok (.ireturn, 1) := by decide +kernel
theorem dX2_isCloth_0 : decode cX2_isCloth 0 = .ok (.iload_n 1, 1) := by decide +kernel
theorem dX2_isCloth_1 : decode cX2_isCloth 1 = .ok (.iconst 0, 1) := by decide +kernel
theorem dX2_isCloth_2 : decode cX2_isCloth 2 = .ok (.aload_n 0, 1) := by decide +kernel
theorem dX2_isCloth_3 : decode cX2_isCloth 3 = .ok (.getfield 15, 3) := by decide +kernel
theorem dX2_isCloth_6 : decode cX2_isCloth 6 = .ok (.iconst 2, 1) := by decide +kernel
theorem dX2_isCloth_7 : decode cX2_isCloth 7 = .ok (.iaload, 1) := by decide +kernel
theorem dX2_isCloth_8 : decode cX2_isCloth 8 = .ok (.iconst 1, 1) := by decide +kernel
theorem dX2_isCloth_9 : decode cX2_isCloth 9 = .ok (.isub, 1) := by decide +kernel
theorem dX2_isCloth_10 : decode cX2_isCloth 10 = .ok (.invokestatic 114, 3) := by decide +kernel
theorem dX2_isCloth_13 : decode cX2_isCloth 13 = .ok (.ireturn, 1) := by decide +kernel
theorem dX2_costOf_0 : decode cX2_costOf 0 = .ok (.aload_n 0, 1) := by decide +kernel
theorem dX2_costOf_1 : decode cX2_costOf 1 = .ok (.iload_n 1, 1) := by decide +kernel
theorem dX2_costOf_2 : decode cX2_costOf 2 = .ok (.invokevirtual 161, 3) := by decide +kernel
theorem dX2_costOf_5 : decode cX2_costOf 5 = .ok (.ifCond .eq 12, 3) := by decide +kernel
theorem dX2_costOf_8 : decode cX2_costOf 8 = .ok (.aload_n 0, 1) := by decide +kernel
theorem dX2_costOf_9 : decode cX2_costOf 9 = .ok (.getfield 28, 3) := by decide +kernel
theorem dX2_costOf_12 : decode cX2_costOf 12 = .ok (.iload_n 1, 1) := by decide +kernel
theorem dX2_costOf_13 : decode cX2_costOf 13 = .ok (.iaload, 1) := by decide +kernel
theorem dX2_costOf_14 : decode cX2_costOf 14 = .ok (.goto 4, 3) := by decide +kernel
theorem dX2_costOf_17 : decode cX2_costOf 17 = .ok (.iconst 0, 1) := by decide +kernel
theorem dX2_costOf_18 : decode cX2_costOf 18 = .ok (.istore_n 3, 1) := by decide +kernel
theorem dX2_costOf_19 : decode cX2_costOf 19 = .ok (.iload_n 2, 1) := by decide +kernel
theorem dX2_costOf_20 : decode cX2_costOf 20 = .ok (.ifCond .eq 17, 3) := by decide +kernel
theorem dX2_costOf_23 : decode cX2_costOf 23 = .ok (.iload_n 3, 1) := by decide +kernel
theorem dX2_costOf_24 : decode cX2_costOf 24 = .ok (.aload_n 0, 1) := by decide +kernel
theorem dX2_costOf_25 : decode cX2_costOf 25 = .ok (.getfield 51, 3) := by decide +kernel
theorem dX2_costOf_28 : decode cX2_costOf 28 = .ok (.iconst 3, 1) := by decide +kernel
theorem dX2_costOf_29 : decode cX2_costOf 29 = .ok (.iaload, 1) := by decide +kernel
theorem dX2_costOf_30 : decode cX2_costOf 30 = .ok (.imul, 1) := by decide +kernel
theorem dX2_costOf_31 : decode cX2_costOf 31 = .ok (.bipush 100, 2) := by decide +kernel
theorem dX2_costOf_33 : decode cX2_costOf 33 = .ok (.idiv, 1) := by decide +kernel
theorem dX2_costOf_34 : decode cX2_costOf 34 = .ok (.goto 4, 3) := by decide +kernel
theorem dX2_costOf_37 : decode cX2_costOf 37 = .ok (.iload_n 3, 1) := by decide +kernel
theorem dX2_costOf_38 : decode cX2_costOf 38 = .ok (.ireturn, 1) := by decide +kernel
theorem dX2_heatOfCloth_0 : decode cX2_heatOfCloth 0 = .ok (.aload_n 0, 1) := by decide +kernel
theorem dX2_heatOfCloth_1 : decode cX2_heatOfCloth 1 = .ok (.iload_n 1, 1) := by decide +kernel
theorem dX2_heatOfCloth_2 : decode cX2_heatOfCloth 2 = .ok (.invokevirtual 161, 3) := by decide +kernel
theorem dX2_heatOfCloth_5 : decode cX2_heatOfCloth 5 = .ok (.ifCond .eq 12, 3) := by decide +kernel
theorem dX2_heatOfCloth_8 : decode cX2_heatOfCloth 8 = .ok (.aload_n 0, 1) := by decide +kernel
theorem dX2_heatOfCloth_9 : decode cX2_heatOfCloth 9 = .ok (.getfield 25, 3) := by decide +kernel
theorem dX2_heatOfCloth_12 : decode cX2_heatOfCloth 12 = .ok (.iload_n 1, 1) := by decide +kernel
theorem dX2_heatOfCloth_13 : decode cX2_heatOfCloth 13 = .ok (.iaload, 1) := by decide +kernel
theorem dX2_heatOfCloth_14 : decode cX2_heatOfCloth 14 = .ok (.goto 4, 3) := by decide +kernel
theorem dX2_heatOfCloth_17 : decode cX2_heatOfCloth 17 = .ok (.iconst 0, 1) := by decide +kernel
theorem dX2_heatOfCloth_18 : decode cX2_heatOfCloth 18 = .ok (.ireturn, 1) := by decide +kernel
theorem dX2_bleeds_0 : decode cX2_bleeds 0 = .ok (.aload_n 0, 1) := by decide +kernel
theorem dX2_bleeds_1 : decode cX2_bleeds 1 = .ok (.iload_n 1, 1) := by decide +kernel
theorem dX2_bleeds_2 : decode cX2_bleeds 2 = .ok (.invokevirtual 161, 3) := by decide +kernel
theorem dX2_bleeds_5 : decode cX2_bleeds 5 = .ok (.ifCond .eq 16, 3) := by decide +kernel
theorem dX2_bleeds_8 : decode cX2_bleeds 8 = .ok (.aload_n 0, 1) := by decide +kernel
theorem dX2_bleeds_9 : decode cX2_bleeds 9 = .ok (.getfield 31, 3) := by decide +kernel
theorem dX2_bleeds_12 : decode cX2_bleeds 12 = .ok (.iload_n 1, 1) := by decide +kernel
theorem dX2_bleeds_13 : decode cX2_bleeds 13 = .ok (.iaload, 1) := by decide +kernel
theorem dX2_bleeds_14 : decode cX2_bleeds 14 = .ok (.ifCond .eq 7, 3) := by decide +kernel
theorem dX2_bleeds_17 : decode cX2_bleeds 17 = .ok (.iconst 1, 1) := by decide +kernel
theorem dX2_bleeds_18 : decode cX2_bleeds 18 = .ok (.goto 4, 3) := by decide +kernel
theorem dX2_bleeds_21 : decode cX2_bleeds 21 = .ok (.iconst 0, 1) := by decide +kernel
theorem dX2_bleeds_22 : decode cX2_bleeds 22 = .ok (.ireturn, 1) := by decide +kernel
theorem dX2_usableOn_0 : decode cX2_usableOn 0 = .ok (.iconst 1, 1) := by decide +kernel
theorem dX2_usableOn_1 : decode cX2_usableOn 1 = .ok (.aload_n 0, 1) := by decide +kernel
theorem dX2_usableOn_2 : decode cX2_usableOn 2 = .ok (.getfield 15, 3) := by decide +kernel
theorem dX2_usableOn_5 : decode cX2_usableOn 5 = .ok (.iconst 1, 1) := by decide +kernel
theorem dX2_usableOn_6 : decode cX2_usableOn 6 = .ok (.iaload, 1) := by decide +kernel
theorem dX2_usableOn_7 : decode cX2_usableOn 7 = .ok (.ishl, 1) := by decide +kernel
theorem dX2_usableOn_8 : decode cX2_usableOn 8 = .ok (.iconst 1, 1) := by decide +kernel
theorem dX2_usableOn_9 : decode cX2_usableOn 9 = .ok (.isub, 1) := by decide +kernel
theorem dX2_usableOn_10 : decode cX2_usableOn 10 = .ok (.istore_n 2, 1) := by decide +kernel
theorem dX2_usableOn_11 : decode cX2_usableOn 11 = .ok (.aload_n 0, 1) := by decide +kernel
theorem dX2_usableOn_12 : decode cX2_usableOn 12 = .ok (.iload_n 1, 1) := by decide +kernel
theorem dX2_usableOn_13 : decode cX2_usableOn 13 = .ok (.invokevirtual 161, 3) := by decide +kernel
theorem dX2_usableOn_16 : decode cX2_usableOn 16 = .ok (.ifCond .eq 16, 3) := by decide +kernel
theorem dX2_usableOn_19 : decode cX2_usableOn 19 = .ok (.iload_n 2, 1) := by decide +kernel
theorem dX2_usableOn_20 : decode cX2_usableOn 20 = .ok (.aload_n 0, 1) := by decide +kernel
theorem dX2_usableOn_21 : decode cX2_usableOn 21 = .ok (.getfield 34, 3) := by decide +kernel
theorem dX2_usableOn_24 : decode cX2_usableOn 24 = .ok (.iload_n 1, 1) := by decide +kernel
theorem dX2_usableOn_25 : decode cX2_usableOn 25 = .ok (.iaload, 1) := by decide +kernel
theorem dX2_usableOn_26 : decode cX2_usableOn 26 = .ok (.iconst (-1), 1) := by decide +kernel
theorem dX2_usableOn_27 : decode cX2_usableOn 27 = .ok (.ixor, 1) := by decide +kernel
theorem dX2_usableOn_28 : decode cX2_usableOn 28 = .ok (.iand, 1) := by decide +kernel
theorem dX2_usableOn_29 : decode cX2_usableOn 29 = .ok (.goto 4, 3) := by decide +kernel
theorem dX2_usableOn_32 : decode cX2_usableOn 32 = .ok (.iconst 0, 1) := by decide +kernel
theorem dX2_usableOn_33 : decode cX2_usableOn 33 = .ok (.ireturn, 1) := by decide +kernel
theorem dX2_heatOfDrum_0 : decode cX2_heatOfDrum 0 = .ok (.iload_n 1, 1) := by decide +kernel
theorem dX2_heatOfDrum_1 : decode cX2_heatOfDrum 1 = .ok (.iconst 0, 1) := by decide +kernel
theorem dX2_heatOfDrum_2 : decode cX2_heatOfDrum 2 = .ok (.aload_n 0, 1) := by decide +kernel
theorem dX2_heatOfDrum_3 : decode cX2_heatOfDrum 3 = .ok (.getfield 15, 3) := by decide +kernel
theorem dX2_heatOfDrum_6 : decode cX2_heatOfDrum 6 = .ok (.iconst 3, 1) := by decide +kernel
theorem dX2_heatOfDrum_7 : decode cX2_heatOfDrum 7 = .ok (.iaload, 1) := by decide +kernel
theorem dX2_heatOfDrum_8 : decode cX2_heatOfDrum 8 = .ok (.iconst 1, 1) := by decide +kernel
theorem dX2_heatOfDrum_9 : decode cX2_heatOfDrum 9 = .ok (.isub, 1) := by decide +kernel
theorem dX2_heatOfDrum_10 : decode cX2_heatOfDrum 10 = .ok (.invokestatic 114, 3) := by decide +kernel
theorem dX2_heatOfDrum_13 : decode cX2_heatOfDrum 13 = .ok (.ifCond .eq 12, 3) := by decide +kernel
theorem dX2_heatOfDrum_16 : decode cX2_heatOfDrum 16 = .ok (.aload_n 0, 1) := by decide +kernel
theorem dX2_heatOfDrum_17 : decode cX2_heatOfDrum 17 = .ok (.getfield 40, 3) := by decide +kernel
theorem dX2_heatOfDrum_20 : decode cX2_heatOfDrum 20 = .ok (.iload_n 1, 1) := by decide +kernel
theorem dX2_heatOfDrum_21 : decode cX2_heatOfDrum 21 = .ok (.iaload, 1) := by decide +kernel
theorem dX2_heatOfDrum_22 : decode cX2_heatOfDrum 22 = .ok (.goto 4, 3) := by decide +kernel
theorem dX2_heatOfDrum_25 : decode cX2_heatOfDrum 25 = .ok (.iconst (-1), 1) := by decide +kernel
theorem dX2_heatOfDrum_26 : decode cX2_heatOfDrum 26 = .ok (.ireturn, 1) := by decide +kernel
theorem dX2_hasDrumFor_0 : decode cX2_hasDrumFor 0 = .ok (.iconst 0, 1) := by decide +kernel
theorem dX2_hasDrumFor_1 : decode cX2_hasDrumFor 1 = .ok (.istore_n 3, 1) := by decide +kernel
theorem dX2_hasDrumFor_2 : decode cX2_hasDrumFor 2 = .ok (.iload_n 3, 1) := by decide +kernel
theorem dX2_hasDrumFor_3 : decode cX2_hasDrumFor 3 = .ok (.aload_n 0, 1) := by decide +kernel
theorem dX2_hasDrumFor_4 : decode cX2_hasDrumFor 4 = .ok (.getfield 15, 3) := by decide +kernel
theorem dX2_hasDrumFor_7 : decode cX2_hasDrumFor 7 = .ok (.iconst 3, 1) := by decide +kernel
theorem dX2_hasDrumFor_8 : decode cX2_hasDrumFor 8 = .ok (.iaload, 1) := by decide +kernel
theorem dX2_hasDrumFor_9 : decode cX2_hasDrumFor 9 = .ok (.if_icmp .ge 34, 3) := by decide +kernel
theorem dX2_hasDrumFor_12 : decode cX2_hasDrumFor 12 = .ok (.aload_n 0, 1) := by decide +kernel
theorem dX2_hasDrumFor_13 : decode cX2_hasDrumFor 13 = .ok (.getfield 40, 3) := by decide +kernel
theorem dX2_hasDrumFor_16 : decode cX2_hasDrumFor 16 = .ok (.iload_n 3, 1) := by decide +kernel
theorem dX2_hasDrumFor_17 : decode cX2_hasDrumFor 17 = .ok (.iaload, 1) := by decide +kernel
theorem dX2_hasDrumFor_18 : decode cX2_hasDrumFor 18 = .ok (.iload_n 2, 1) := by decide +kernel
theorem dX2_hasDrumFor_19 : decode cX2_hasDrumFor 19 = .ok (.if_icmp .gt 18, 3) := by decide +kernel
theorem dX2_hasDrumFor_22 : decode cX2_hasDrumFor 22 = .ok (.iload_n 1, 1) := by decide +kernel
theorem dX2_hasDrumFor_23 : decode cX2_hasDrumFor 23 = .ok (.bipush 10, 2) := by decide +kernel
theorem dX2_hasDrumFor_25 : decode cX2_hasDrumFor 25 = .ok (.aload_n 0, 1) := by decide +kernel
theorem dX2_hasDrumFor_26 : decode cX2_hasDrumFor 26 = .ok (.getfield 37, 3) := by decide +kernel
theorem dX2_hasDrumFor_29 : decode cX2_hasDrumFor 29 = .ok (.iload_n 3, 1) := by decide +kernel
theorem dX2_hasDrumFor_30 : decode cX2_hasDrumFor 30 = .ok (.iaload, 1) := by decide +kernel
theorem dX2_hasDrumFor_31 : decode cX2_hasDrumFor 31 = .ok (.imul, 1) := by decide +kernel
theorem dX2_hasDrumFor_32 : decode cX2_hasDrumFor 32 = .ok (.if_icmp .gt 5, 3) := by decide +kernel
theorem dX2_hasDrumFor_35 : decode cX2_hasDrumFor 35 = .ok (.iconst 1, 1) := by decide +kernel
theorem dX2_hasDrumFor_36 : decode cX2_hasDrumFor 36 = .ok (.ireturn, 1) := by decide +kernel
theorem dX2_hasDrumFor_37 : decode cX2_hasDrumFor 37 = .ok (.iinc 3 1, 3) := by decide +kernel
theorem dX2_hasDrumFor_40 : decode cX2_hasDrumFor 40 = .ok (.goto (-38), 3) := by decide +kernel
theorem dX2_hasDrumFor_43 : decode cX2_hasDrumFor 43 = .ok (.iconst 0, 1) := by decide +kernel
theorem dX2_hasDrumFor_44 : decode cX2_hasDrumFor 44 = .ok (.ireturn, 1) := by decide +kernel
