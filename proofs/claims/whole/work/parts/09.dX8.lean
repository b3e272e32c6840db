theorem dX8_init_0 : decode cX8_init 0 = .ok (.aload_n 0, 1) := by decide +kernel
theorem dX8_init_1 : decode cX8_init 1 = .ok (.invokespecial 3, 3) := by decide +kernel
theorem dX8_init_4 : decode cX8_init 4 = .ok (.aload_n 0, 1) := by decide +kernel
theorem dX8_init_5 : decode cX8_init 5 = .ok (.sipush 560, 3) := by decide +kernel
theorem dX8_init_8 : decode cX8_init 8 = .ok (.newarray .int, 2) := by decide +kernel
theorem dX8_init_10 : decode cX8_init 10 = .ok (.putfield 11, 3) := by decide +kernel
theorem dX8_init_13 : decode cX8_init 13 = .ok (.aload_n 0, 1) := by decide +kernel
theorem dX8_init_14 : decode cX8_init 14 = .ok (.sipush 240, 3) := by decide +kernel
theorem dX8_init_17 : decode cX8_init 17 = .ok (.newarray .int, 2) := by decide +kernel
theorem dX8_init_19 : decode cX8_init 19 = .ok (.putfield 15, 3) := by decide +kernel
theorem dX8_init_22 : decode cX8_init 22 = .ok (.aload_n 0, 1) := by decide +kernel
theorem dX8_init_23 : decode cX8_init 23 = .ok (.sipush 240, 3) := by decide +kernel
theorem dX8_init_26 : decode cX8_init 26 = .ok (.newarray .int, 2) := by decide +kernel
theorem dX8_init_28 : decode cX8_init 28 = .ok (.putfield 18, 3) := by decide +kernel
theorem dX8_init_31 : decode cX8_init 31 = .ok (.aload_n 0, 1) := by decide +kernel
theorem dX8_init_32 : decode cX8_init 32 = .ok (.sipush 240, 3) := by decide +kernel
theorem dX8_init_35 : decode cX8_init 35 = .ok (.newarray .int, 2) := by decide +kernel
theorem dX8_init_37 : decode cX8_init 37 = .ok (.putfield 21, 3) := by decide +kernel
theorem dX8_init_40 : decode cX8_init 40 = .ok (.aload_n 0, 1) := by decide +kernel
theorem dX8_init_41 : decode cX8_init 41 = .ok (.sipush 240, 3) := by decide +kernel
theorem dX8_init_44 : decode cX8_init 44 = .ok (.newarray .int, 2) := by decide +kernel
theorem dX8_init_46 : decode cX8_init 46 = .ok (.putfield 24, 3) := by decide +kernel
theorem dX8_init_49 : decode cX8_init 49 = .ok (.aload_n 0, 1) := by decide +kernel
theorem dX8_init_50 : decode cX8_init 50 = .ok (.iconst 0, 1) := by decide +kernel
theorem dX8_init_51 : decode cX8_init 51 = .ok (.putfield 27, 3) := by decide +kernel
theorem dX8_init_54 : decode cX8_init 54 = .ok (.aload_n 0, 1) := by decide +kernel
theorem dX8_init_55 : decode cX8_init 55 = .ok (.iconst 0, 1) := by decide +kernel
theorem dX8_init_56 : decode cX8_init 56 = .ok (.putfield 31, 3) := by decide +kernel
theorem dX8_init_59 : decode cX8_init 59 = .ok (.aload_n 0, 1) := by decide +kernel
theorem dX8_init_60 : decode cX8_init 60 = .ok (.iconst 0, 1) := by decide +kernel
theorem dX8_init_61 : decode cX8_init 61 = .ok (.putfield 34, 3) := by decide +kernel
theorem dX8_init_64 : decode cX8_init 64 = .ok (.return_, 1) := by decide +kernel
theorem dX8_forgetAll_0 : decode cX8_forgetAll 0 = .ok (.aload_n 0, 1) := by decide +kernel
theorem dX8_forgetAll_1 : decode cX8_forgetAll 1 = .ok (.iconst 0, 1) := by decide +kernel
theorem dX8_forgetAll_2 : decode cX8_forgetAll 2 = .ok (.putfield 27, 3) := by decide +kernel
theorem dX8_forgetAll_5 : decode cX8_forgetAll 5 = .ok (.aload_n 0, 1) := by decide +kernel
theorem dX8_forgetAll_6 : decode cX8_forgetAll 6 = .ok (.iconst 0, 1) := by decide +kernel
theorem dX8_forgetAll_7 : decode cX8_forgetAll 7 = .ok (.putfield 31, 3) := by decide +kernel
theorem dX8_forgetAll_10 : decode cX8_forgetAll 10 = .ok (.aload_n 0, 1) := by decide +kernel
theorem dX8_forgetAll_11 : decode cX8_forgetAll 11 = .ok (.iconst 0, 1) := by decide +kernel
theorem dX8_forgetAll_12 : decode cX8_forgetAll 12 = .ok (.putfield 34, 3) := by decide +kernel
theorem dX8_forgetAll_15 : decode cX8_forgetAll 15 = .ok (.return_, 1) := by decide +kernel
theorem dX8_copyFrom_0 : decode cX8_copyFrom 0 = .ok (.aload_n 1, 1) := by decide +kernel
theorem dX8_copyFrom_1 : decode cX8_copyFrom 1 = .ok (.getfield 11, 3) := by decide +kernel
theorem dX8_copyFrom_4 : decode cX8_copyFrom 4 = .ok (.aload_n 0, 1) := by decide +kernel
theorem dX8_copyFrom_5 : decode cX8_copyFrom 5 = .ok (.getfield 11, 3) := by decide +kernel
theorem dX8_copyFrom_8 : decode cX8_copyFrom 8 = .ok (.invokestatic 37, 3) := by decide +kernel
theorem dX8_copyFrom_11 : decode cX8_copyFrom 11 = .ok (.aload_n 1, 1) := by decide +kernel
theorem dX8_copyFrom_12 : decode cX8_copyFrom 12 = .ok (.getfield 15, 3) := by decide +kernel
theorem dX8_copyFrom_15 : decode cX8_copyFrom 15 = .ok (.aload_n 0, 1) := by decide +kernel
theorem dX8_copyFrom_16 : decode cX8_copyFrom 16 = .ok (.getfield 15, 3) := by decide +kernel
theorem dX8_copyFrom_19 : decode cX8_copyFrom 19 = .ok (.invokestatic 37, 3) := by decide +kernel
theorem dX8_copyFrom_22 : decode cX8_copyFrom 22 = .ok (.aload_n 1, 1) := by decide +kernel
theorem dX8_copyFrom_23 : decode cX8_copyFrom 23 = .ok (.getfield 18, 3) := by decide +kernel
theorem dX8_copyFrom_26 : decode cX8_copyFrom 26 = .ok (.aload_n 0, 1) := by decide +kernel
theorem dX8_copyFrom_27 : decode cX8_copyFrom 27 = .ok (.getfield 18, 3) := by decide +kernel
theorem dX8_copyFrom_30 : decode cX8_copyFrom 30 = .ok (.invokestatic 37, 3) := by decide +kernel
theorem dX8_copyFrom_33 : decode cX8_copyFrom 33 = .ok (.aload_n 1, 1) := by decide +kernel
theorem dX8_copyFrom_34 : decode cX8_copyFrom 34 = .ok (.getfield 21, 3) := by decide +kernel
theorem dX8_copyFrom_37 : decode cX8_copyFrom 37 = .ok (.aload_n 0, 1) := by decide +kernel
theorem dX8_copyFrom_38 : decode cX8_copyFrom 38 = .ok (.getfield 21, 3) := by decide +kernel
theorem dX8_copyFrom_41 : decode cX8_copyFrom 41 = .ok (.invokestatic 37, 3) := by decide +kernel
theorem dX8_copyFrom_44 : decode cX8_copyFrom 44 = .ok (.aload_n 1, 1) := by decide +kernel
theorem dX8_copyFrom_45 : decode cX8_copyFrom 45 = .ok (.getfield 24, 3) := by decide +kernel
theorem dX8_copyFrom_48 : decode cX8_copyFrom 48 = .ok (.aload_n 0, 1) := by decide +kernel
theorem dX8_copyFrom_49 : decode cX8_copyFrom 49 = .ok (.getfield 24, 3) := by decide +kernel
theorem dX8_copyFrom_52 : decode cX8_copyFrom 52 = .ok (.invokestatic 37, 3) := by decide +kernel
theorem dX8_copyFrom_55 : decode cX8_copyFrom 55 = .ok (.aload_n 0, 1) := by decide +kernel
theorem dX8_copyFrom_56 : decode cX8_copyFrom 56 = .ok (.aload_n 1, 1) := by decide +kernel
theorem dX8_copyFrom_57 : decode cX8_copyFrom 57 = .ok (.getfield 27, 3) := by decide +kernel
theorem dX8_copyFrom_60 : decode cX8_copyFrom 60 = .ok (.putfield 27, 3) := by decide +kernel
theorem dX8_copyFrom_63 : decode cX8_copyFrom 63 = .ok (.aload_n 0, 1) := by decide +kernel
theorem dX8_copyFrom_64 : decode cX8_copyFrom 64 = .ok (.aload_n 1, 1) := by decide +kernel
theorem dX8_copyFrom_65 : decode cX8_copyFrom 65 = .ok (.getfield 31, 3) := by decide +kernel
theorem dX8_copyFrom_68 : decode cX8_copyFrom 68 = .ok (.putfield 31, 3) := by decide +kernel
theorem dX8_copyFrom_71 : decode cX8_copyFrom 71 = .ok (.aload_n 0, 1) := by decide +kernel
theorem dX8_copyFrom_72 : decode cX8_copyFrom 72 = .ok (.aload_n 1, 1) := by decide +kernel
theorem dX8_copyFrom_73 : decode cX8_copyFrom 73 = .ok (.getfield 34, 3) := by decide +kernel
theorem dX8_copyFrom_76 : decode cX8_copyFrom 76 = .ok (.putfield 34, 3) := by decide +kernel
theorem dX8_copyFrom_79 : decode cX8_copyFrom 79 = .ok (.return_, 1) := by decide +kernel
theorem dX8_of_0 : decode cX8_of 0 = .ok (.iload_n 1, 1) := by decide +kernel
theorem dX8_of_1 : decode cX8_of 1 = .ok (.iconst 0, 1) := by decide +kernel
theorem dX8_of_2 : decode cX8_of 2 = .ok (.aload_n 0, 1) := by decide +kernel
theorem dX8_of_3 : decode cX8_of 3 = .ok (.getfield 27, 3) := by decide +kernel
theorem dX8_of_6 : decode cX8_of 6 = .ok (.iconst 1, 1) := by decide +kernel
theorem dX8_of_7 : decode cX8_of 7 = .ok (.isub, 1) := by decide +kernel
theorem dX8_of_8 : decode cX8_of 8 = .ok (.invokestatic 41, 3) := by decide +kernel
theorem dX8_of_11 : decode cX8_of 11 = .ok (.ifCond .eq 27, 3) := by decide +kernel
theorem dX8_of_14 : decode cX8_of 14 = .ok (.iload_n 2, 1) := by decide +kernel
theorem dX8_of_15 : decode cX8_of 15 = .ok (.iconst 0, 1) := by decide +kernel
theorem dX8_of_16 : decode cX8_of 16 = .ok (.bipush 13, 2) := by decide +kernel
theorem dX8_of_18 : decode cX8_of 18 = .ok (.invokestatic 41, 3) := by decide +kernel
theorem dX8_of_21 : decode cX8_of 21 = .ok (.ifCond .eq 17, 3) := by decide +kernel
theorem dX8_of_24 : decode cX8_of 24 = .ok (.aload_n 0, 1) := by decide +kernel
theorem dX8_of_25 : decode cX8_of 25 = .ok (.getfield 11, 3) := by decide +kernel
theorem dX8_of_28 : decode cX8_of 28 = .ok (.iload_n 1, 1) := by decide +kernel
theorem dX8_of_29 : decode cX8_of 29 = .ok (.bipush 14, 2) := by decide +kernel
theorem dX8_of_31 : decode cX8_of 31 = .ok (.imul, 1) := by decide +kernel
theorem dX8_of_32 : decode cX8_of 32 = .ok (.iload_n 2, 1) := by decide +kernel
theorem dX8_of_33 : decode cX8_of 33 = .ok (.iadd, 1) := by decide +kernel
theorem dX8_of_34 : decode cX8_of 34 = .ok (.iaload, 1) := by decide +kernel
theorem dX8_of_35 : decode cX8_of 35 = .ok (.goto 4, 3) := by decide +kernel
theorem dX8_of_38 : decode cX8_of 38 = .ok (.iconst 0, 1) := by decide +kernel
theorem dX8_of_39 : decode cX8_of 39 = .ok (.ireturn, 1) := by decide +kernel
theorem dX8_set_0 : decode cX8_set 0 = .ok (.iload_n 1, 1) := by decide +kernel
theorem dX8_set_1 : decode cX8_set 1 = .ok (.iconst 0, 1) := by decide +kernel
theorem dX8_set_2 : decode cX8_set 2 = .ok (.aload_n 0, 1) := by decide +kernel
theorem dX8_set_3 : decode cX8_set 3 = .ok (.getfield 27, 3) := by decide +kernel
theorem dX8_set_6 : decode cX8_set 6 = .ok (.iconst 1, 1) := by decide +kernel
theorem dX8_set_7 : decode cX8_set 7 = .ok (.isub, 1) := by decide +kernel
theorem dX8_set_8 : decode cX8_set 8 = .ok (.invokestatic 41, 3) := by decide +kernel
theorem dX8_set_11 : decode cX8_set 11 = .ok (.ifCond .eq 25, 3) := by decide +kernel
theorem dX8_set_14 : decode cX8_set 14 = .ok (.iload_n 2, 1) := by decide +kernel
theorem dX8_set_15 : decode cX8_set 15 = .ok (.iconst 0, 1) := by decide +kernel
theorem dX8_set_16 : decode cX8_set 16 = .ok (.bipush 13, 2) := by decide +kernel
theorem dX8_set_18 : decode cX8_set 18 = .ok (.invokestatic 41, 3) := by decide +kernel
theorem dX8_set_21 : decode cX8_set 21 = .ok (.ifCond .eq 15, 3) := by decide +kernel
theorem dX8_set_24 : decode cX8_set 24 = .ok (.aload_n 0, 1) := by decide +kernel
theorem dX8_set_25 : decode cX8_set 25 = .ok (.getfield 11, 3) := by decide +kernel
theorem dX8_set_28 : decode cX8_set 28 = .ok (.iload_n 1, 1) := by decide +kernel
theorem dX8_set_29 : decode cX8_set 29 = .ok (.bipush 14, 2) := by decide +kernel
theorem dX8_set_31 : decode cX8_set 31 = .ok (.imul, 1) := by decide +kernel
theorem dX8_set_32 : decode cX8_set 32 = .ok (.iload_n 2, 1) := by decide +kernel
theorem dX8_set_33 : decode cX8_set 33 = .ok (.iadd, 1) := by decide +kernel
theorem dX8_set_34 : decode cX8_set 34 = .ok (.iload_n 3, 1) := by decide +kernel
theorem dX8_set_35 : decode cX8_set 35 = .ok (.iastore, 1) := by decide +kernel
theorem dX8_set_36 : decode cX8_set 36 = .ok (.return_, 1) := by decide +kernel
theorem dX8_addEmpty_0 : decode cX8_addEmpty 0 = .ok (.aload_n 0, 1) := by decide +kernel
theorem dX8_addEmpty_1 : decode cX8_addEmpty 1 = .ok (.getfield 27, 3) := by decide +kernel
theorem dX8_addEmpty_4 : decode cX8_addEmpty 4 = .ok (.bipush 40, 2) := by decide +kernel
theorem dX8_addEmpty_6 : decode cX8_addEmpty 6 = .ok (.if_icmp .lt 5, 3) := by decide +kernel
theorem dX8_addEmpty_9 : decode cX8_addEmpty 9 = .ok (.iconst (-1), 1) := by decide +kernel
theorem dX8_addEmpty_10 : decode cX8_addEmpty 10 = .ok (.ireturn, 1) := by decide +kernel
theorem dX8_addEmpty_11 : decode cX8_addEmpty 11 = .ok (.aload_n 0, 1) := by decide +kernel
theorem dX8_addEmpty_12 : decode cX8_addEmpty 12 = .ok (.dup, 1) := by decide +kernel
theorem dX8_addEmpty_13 : decode cX8_addEmpty 13 = .ok (.getfield 27, 3) := by decide +kernel
theorem dX8_addEmpty_16 : decode cX8_addEmpty 16 = .ok (.iconst 1, 1) := by decide +kernel
theorem dX8_addEmpty_17 : decode cX8_addEmpty 17 = .ok (.iadd, 1) := by decide +kernel
theorem dX8_addEmpty_18 : decode cX8_addEmpty 18 = .ok (.putfield 27, 3) := by decide +kernel
theorem dX8_addEmpty_21 : decode cX8_addEmpty 21 = .ok (.iconst 0, 1) := by decide +kernel
theorem dX8_addEmpty_22 : decode cX8_addEmpty 22 = .ok (.istore_n 1, 1) := by decide +kernel
theorem dX8_addEmpty_23 : decode cX8_addEmpty 23 = .ok (.iload_n 1, 1) := by decide +kernel
theorem dX8_addEmpty_24 : decode cX8_addEmpty 24 = .ok (.bipush 14, 2) := by decide +kernel
theorem dX8_addEmpty_26 : decode cX8_addEmpty 26 = .ok (.if_icmp .ge 21, 3) := by decide +kernel
theorem dX8_addEmpty_29 : decode cX8_addEmpty 29 = .ok (.aload_n 0, 1) := by decide +kernel
theorem dX8_addEmpty_30 : decode cX8_addEmpty 30 = .ok (.aload_n 0, 1) := by decide +kernel
theorem dX8_addEmpty_31 : decode cX8_addEmpty 31 = .ok (.getfield 27, 3) := by decide +kernel
theorem dX8_addEmpty_34 : decode cX8_addEmpty 34 = .ok (.iconst 1, 1) := by decide +kernel
theorem dX8_addEmpty_35 : decode cX8_addEmpty 35 = .ok (.isub, 1) := by decide +kernel
theorem dX8_addEmpty_36 : decode cX8_addEmpty 36 = .ok (.iload_n 1, 1) := by decide +kernel
theorem dX8_addEmpty_37 : decode cX8_addEmpty 37 = .ok (.iconst 0, 1) := by decide +kernel
theorem dX8_addEmpty_38 : decode cX8_addEmpty 38 = .ok (.invokevirtual 45, 3) := by decide +kernel
theorem dX8_addEmpty_41 : decode cX8_addEmpty 41 = .ok (.iinc 1 1, 3) := by decide +kernel
theorem dX8_addEmpty_44 : decode cX8_addEmpty 44 = .ok (.goto (-21), 3) := by decide +kernel
theorem dX8_addEmpty_47 : decode cX8_addEmpty 47 = .ok (.aload_n 0, 1) := by decide +kernel
theorem dX8_addEmpty_48 : decode cX8_addEmpty 48 = .ok (.getfield 27, 3) := by decide +kernel
theorem dX8_addEmpty_51 : decode cX8_addEmpty 51 = .ok (.iconst 1, 1) := by decide +kernel
theorem dX8_addEmpty_52 : decode cX8_addEmpty 52 = .ok (.isub, 1) := by decide +kernel
theorem dX8_addEmpty_53 : decode cX8_addEmpty 53 = .ok (.ireturn, 1) := by decide +kernel
theorem dX8_addNews_0 : decode cX8_addNews 0 = .ok (.aload_n 0, 1) := by decide +kernel
theorem dX8_addNews_1 : decode cX8_addNews 1 = .ok (.getfield 31, 3) := by decide +kernel
theorem dX8_addNews_4 : decode cX8_addNews 4 = .ok (.sipush 240, 3) := by decide +kernel
theorem dX8_addNews_7 : decode cX8_addNews 7 = .ok (.if_icmp .lt 5, 3) := by decide +kernel
theorem dX8_addNews_10 : decode cX8_addNews 10 = .ok (.iconst (-1), 1) := by decide +kernel
theorem dX8_addNews_11 : decode cX8_addNews 11 = .ok (.ireturn, 1) := by decide +kernel
theorem dX8_addNews_12 : decode cX8_addNews 12 = .ok (.aload_n 0, 1) := by decide +kernel
theorem dX8_addNews_13 : decode cX8_addNews 13 = .ok (.getfield 15, 3) := by decide +kernel
theorem dX8_addNews_16 : decode cX8_addNews 16 = .ok (.aload_n 0, 1) := by decide +kernel
theorem dX8_addNews_17 : decode cX8_addNews 17 = .ok (.getfield 31, 3) := by decide +kernel
theorem dX8_addNews_20 : decode cX8_addNews 20 = .ok (.iload_n 1, 1) := by decide +kernel
theorem dX8_addNews_21 : decode cX8_addNews 21 = .ok (.iastore, 1) := by decide +kernel
theorem dX8_addNews_22 : decode cX8_addNews 22 = .ok (.aload_n 0, 1) := by decide +kernel
theorem dX8_addNews_23 : decode cX8_addNews 23 = .ok (.getfield 18, 3) := by decide +kernel
theorem dX8_addNews_26 : decode cX8_addNews 26 = .ok (.aload_n 0, 1) := by decide +kernel
theorem dX8_addNews_27 : decode cX8_addNews 27 = .ok (.getfield 31, 3) := by decide +kernel
theorem dX8_addNews_30 : decode cX8_addNews 30 = .ok (.iload_n 2, 1) := by decide +kernel
theorem dX8_addNews_31 : decode cX8_addNews 31 = .ok (.iastore, 1) := by decide +kernel
theorem dX8_addNews_32 : decode cX8_addNews 32 = .ok (.aload_n 0, 1) := by decide +kernel
theorem dX8_addNews_33 : decode cX8_addNews 33 = .ok (.getfield 21, 3) := by decide +kernel
theorem dX8_addNews_36 : decode cX8_addNews 36 = .ok (.aload_n 0, 1) := by decide +kernel
theorem dX8_addNews_37 : decode cX8_addNews 37 = .ok (.getfield 31, 3) := by decide +kernel
theorem dX8_addNews_40 : decode cX8_addNews 40 = .ok (.iload_n 3, 1) := by decide +kernel
theorem dX8_addNews_41 : decode cX8_addNews 41 = .ok (.iastore, 1) := by decide +kernel
theorem dX8_addNews_42 : decode cX8_addNews 42 = .ok (.aload_n 0, 1) := by decide +kernel
theorem dX8_addNews_43 : decode cX8_addNews 43 = .ok (.getfield 24, 3) := by decide +kernel
theorem dX8_addNews_46 : decode cX8_addNews 46 = .ok (.aload_n 0, 1) := by decide +kernel
theorem dX8_addNews_47 : decode cX8_addNews 47 = .ok (.getfield 31, 3) := by decide +kernel
theorem dX8_addNews_50 : decode cX8_addNews 50 = .ok (.iload 4, 2) := by decide +kernel
theorem dX8_addNews_52 : decode cX8_addNews 52 = .ok (.iastore, 1) := by decide +kernel
theorem dX8_addNews_53 : decode cX8_addNews 53 = .ok (.aload_n 0, 1) := by decide +kernel
theorem dX8_addNews_54 : decode cX8_addNews 54 = .ok (.dup, 1) := by decide +kernel
theorem dX8_addNews_55 : decode cX8_addNews 55 = .ok (.getfield 31, 3) := by decide +kernel
theorem dX8_addNews_58 : decode cX8_addNews 58 = .ok (.iconst 1, 1) := by decide +kernel
theorem dX8_addNews_59 : decode cX8_addNews 59 = .ok (.iadd, 1) := by decide +kernel
theorem dX8_addNews_60 : decode cX8_addNews 60 = .ok (.putfield 31, 3) := by decide +kernel
theorem dX8_addNews_63 : decode cX8_addNews 63 = .ok (.iload_n 3, 1) := by decide +kernel
theorem dX8_addNews_64 : decode cX8_addNews 64 = .ok (.aload_n 0, 1) := by decide +kernel
theorem dX8_addNews_65 : decode cX8_addNews 65 = .ok (.iload_n 1, 1) := by decide +kernel
theorem dX8_addNews_66 : decode cX8_addNews 66 = .ok (.bipush 13, 2) := by decide +kernel
theorem dX8_addNews_68 : decode cX8_addNews 68 = .ok (.invokevirtual 49, 3) := by decide +kernel
theorem dX8_addNews_71 : decode cX8_addNews 71 = .ok (.if_icmp .lt 19, 3) := by decide +kernel
theorem dX8_addNews_74 : decode cX8_addNews 74 = .ok (.aload_n 0, 1) := by decide +kernel
theorem dX8_addNews_75 : decode cX8_addNews 75 = .ok (.iload_n 1, 1) := by decide +kernel
theorem dX8_addNews_76 : decode cX8_addNews 76 = .ok (.bipush 12, 2) := by decide +kernel
theorem dX8_addNews_78 : decode cX8_addNews 78 = .ok (.iload_n 2, 1) := by decide +kernel
theorem dX8_addNews_79 : decode cX8_addNews 79 = .ok (.invokevirtual 45, 3) := by decide +kernel
theorem dX8_addNews_82 : decode cX8_addNews 82 = .ok (.aload_n 0, 1) := by decide +kernel
theorem dX8_addNews_83 : decode cX8_addNews 83 = .ok (.iload_n 1, 1) := by decide +kernel
theorem dX8_addNews_84 : decode cX8_addNews 84 = .ok (.bipush 13, 2) := by decide +kernel
theorem dX8_addNews_86 : decode cX8_addNews 86 = .ok (.iload_n 3, 1) := by decide +kernel
theorem dX8_addNews_87 : decode cX8_addNews 87 = .ok (.invokevirtual 45, 3) := by decide +kernel
theorem dX8_addNews_90 : decode cX8_addNews 90 = .ok (.aload_n 0, 1) := by decide +kernel
theorem dX8_addNews_91 : decode cX8_addNews 91 = .ok (.getfield 31, 3) := by decide +kernel
theorem dX8_addNews_94 : decode cX8_addNews 94 = .ok (.iconst 1, 1) := by decide +kernel
theorem dX8_addNews_95 : decode cX8_addNews 95 = .ok (.isub, 1) := by decide +kernel
theorem dX8_addNews_96 : decode cX8_addNews 96 = .ok (.ireturn, 1) := by decide +kernel
theorem dX8_standing_0 : decode cX8_standing 0 = .ok (.iconst 0, 1) := by decide +kernel
theorem dX8_standing_1 : decode cX8_standing 1 = .ok (.istore 4, 2) := by decide +kernel
theorem dX8_standing_3 : decode cX8_standing 3 = .ok (.iconst 0, 1) := by decide +kernel
theorem dX8_standing_4 : decode cX8_standing 4 = .ok (.istore 5, 2) := by decide +kernel
theorem dX8_standing_6 : decode cX8_standing 6 = .ok (.iconst 0, 1) := by decide +kernel
theorem dX8_standing_7 : decode cX8_standing 7 = .ok (.istore 6, 2) := by decide +kernel
theorem dX8_standing_9 : decode cX8_standing 9 = .ok (.iload 6, 2) := by decide +kernel
theorem dX8_standing_11 : decode cX8_standing 11 = .ok (.aload_n 0, 1) := by decide +kernel
theorem dX8_standing_12 : decode cX8_standing 12 = .ok (.getfield 31, 3) := by decide +kernel
theorem dX8_standing_15 : decode cX8_standing 15 = .ok (.if_icmp .ge 65, 3) := by decide +kernel
theorem dX8_standing_18 : decode cX8_standing 18 = .ok (.aload_n 0, 1) := by decide +kernel
theorem dX8_standing_19 : decode cX8_standing 19 = .ok (.getfield 15, 3) := by decide +kernel
theorem dX8_standing_22 : decode cX8_standing 22 = .ok (.iload 6, 2) := by decide +kernel
theorem dX8_standing_24 : decode cX8_standing 24 = .ok (.iaload, 1) := by decide +kernel
theorem dX8_standing_25 : decode cX8_standing 25 = .ok (.iload_n 1, 1) := by decide +kernel
theorem dX8_standing_26 : decode cX8_standing 26 = .ok (.if_icmp .ne 48, 3) := by decide +kernel
theorem dX8_standing_29 : decode cX8_standing 29 = .ok (.aload_n 0, 1) := by decide +kernel
theorem dX8_standing_30 : decode cX8_standing 30 = .ok (.getfield 24, 3) := by decide +kernel
theorem dX8_standing_33 : decode cX8_standing 33 = .ok (.iload 6, 2) := by decide +kernel
theorem dX8_standing_35 : decode cX8_standing 35 = .ok (.iaload, 1) := by decide +kernel
theorem dX8_standing_36 : decode cX8_standing 36 = .ok (.iload_n 3, 1) := by decide +kernel
theorem dX8_standing_37 : decode cX8_standing 37 = .ok (.if_icmp .gt 37, 3) := by decide +kernel
theorem dX8_standing_40 : decode cX8_standing 40 = .ok (.aload_n 0, 1) := by decide +kernel
theorem dX8_standing_41 : decode cX8_standing 41 = .ok (.getfield 21, 3) := by decide +kernel
theorem dX8_standing_44 : decode cX8_standing 44 = .ok (.iload 6, 2) := by decide +kernel
theorem dX8_standing_46 : decode cX8_standing 46 = .ok (.iaload, 1) := by decide +kernel
theorem dX8_standing_47 : decode cX8_standing 47 = .ok (.iload 5, 2) := by decide +kernel
theorem dX8_standing_49 : decode cX8_standing 49 = .ok (.iload_n 2, 1) := by decide +kernel
theorem dX8_standing_50 : decode cX8_standing 50 = .ok (.invokestatic 41, 3) := by decide +kernel
theorem dX8_standing_53 : decode cX8_standing 53 = .ok (.ifCond .eq 21, 3) := by decide +kernel
theorem dX8_standing_56 : decode cX8_standing 56 = .ok (.aload_n 0, 1) := by decide +kernel
theorem dX8_standing_57 : decode cX8_standing 57 = .ok (.getfield 18, 3) := by decide +kernel
theorem dX8_standing_60 : decode cX8_standing 60 = .ok (.iload 6, 2) := by decide +kernel
theorem dX8_standing_62 : decode cX8_standing 62 = .ok (.iaload, 1) := by decide +kernel
theorem dX8_standing_63 : decode cX8_standing 63 = .ok (.istore 4, 2) := by decide +kernel
theorem dX8_standing_65 : decode cX8_standing 65 = .ok (.aload_n 0, 1) := by decide +kernel
theorem dX8_standing_66 : decode cX8_standing 66 = .ok (.getfield 21, 3) := by decide +kernel
theorem dX8_standing_69 : decode cX8_standing 69 = .ok (.iload 6, 2) := by decide +kernel
theorem dX8_standing_71 : decode cX8_standing 71 = .ok (.iaload, 1) := by decide +kernel
theorem dX8_standing_72 : decode cX8_standing 72 = .ok (.istore 5, 2) := by decide +kernel
theorem dX8_standing_74 : decode cX8_standing 74 = .ok (.iinc 6 1, 3) := by decide +kernel
theorem dX8_standing_77 : decode cX8_standing 77 = .ok (.goto (-68), 3) := by decide +kernel
theorem dX8_standing_80 : decode cX8_standing 80 = .ok (.iload 4, 2) := by decide +kernel
theorem dX8_standing_82 : decode cX8_standing 82 = .ok (.ireturn, 1) := by decide +kernel
theorem dX8_isOpen_0 : decode cX8_isOpen 0 = .ok (.aload_n 0, 1) := by decide +kernel
theorem dX8_isOpen_1 : decode cX8_isOpen 1 = .ok (.iload_n 1, 1) := by decide +kernel
theorem dX8_isOpen_2 : decode cX8_isOpen 2 = .ok (.bipush 12, 2) := by decide +kernel
theorem dX8_isOpen_4 : decode cX8_isOpen 4 = .ok (.invokevirtual 49, 3) := by decide +kernel
theorem dX8_isOpen_7 : decode cX8_isOpen 7 = .ok (.iconst 3, 1) := by decide +kernel
theorem dX8_isOpen_8 : decode cX8_isOpen 8 = .ok (.if_icmp .ge 7, 3) := by decide +kernel
theorem dX8_isOpen_11 : decode cX8_isOpen 11 = .ok (.iconst 1, 1) := by decide +kernel
theorem dX8_isOpen_12 : decode cX8_isOpen 12 = .ok (.goto 4, 3) := by decide +kernel
theorem dX8_isOpen_15 : decode cX8_isOpen 15 = .ok (.iconst 0, 1) := by decide +kernel
theorem dX8_isOpen_16 : decode cX8_isOpen 16 = .ok (.ireturn, 1) := by decide +kernel
theorem dX8_isCleaned_0 : decode cX8_isCleaned 0 = .ok (.aload_n 0, 1) := by decide +kernel
theorem dX8_isCleaned_1 : decode cX8_isCleaned 1 = .ok (.iload_n 1, 1) := by decide +kernel
theorem dX8_isCleaned_2 : decode cX8_isCleaned 2 = .ok (.bipush 12, 2) := by decide +kernel
theorem dX8_isCleaned_4 : decode cX8_isCleaned 4 = .ok (.invokevirtual 49, 3) := by decide +kernel
theorem dX8_isCleaned_7 : decode cX8_isCleaned 7 = .ok (.iconst 1, 1) := by decide +kernel
theorem dX8_isCleaned_8 : decode cX8_isCleaned 8 = .ok (.iconst 3, 1) := by decide +kernel
theorem dX8_isCleaned_9 : decode cX8_isCleaned 9 = .ok (.invokestatic 41, 3) := by decide +kernel
theorem dX8_isCleaned_12 : decode cX8_isCleaned 12 = .ok (.ireturn, 1) := by decide +kernel
theorem dX8_wasDoneTwice_0 : decode cX8_wasDoneTwice 0 = .ok (.iconst (-1), 1) := by decide +kernel
theorem dX8_wasDoneTwice_1 : decode cX8_wasDoneTwice 1 = .ok (.istore_n 2, 1) := by decide +kernel
theorem dX8_wasDoneTwice_2 : decode cX8_wasDoneTwice 2 = .ok (.iconst 0, 1) := by decide +kernel
theorem dX8_wasDoneTwice_3 : decode cX8_wasDoneTwice 3 = .ok (.istore_n 3, 1) := by decide +kernel
theorem dX8_wasDoneTwice_4 : decode cX8_wasDoneTwice 4 = .ok (.iload_n 3, 1) := by decide +kernel
theorem dX8_wasDoneTwice_5 : decode cX8_wasDoneTwice 5 = .ok (.aload_n 0, 1) := by decide +kernel
theorem dX8_wasDoneTwice_6 : decode cX8_wasDoneTwice 6 = .ok (.getfield 31, 3) := by decide +kernel
theorem dX8_wasDoneTwice_9 : decode cX8_wasDoneTwice 9 = .ok (.if_icmp .ge 53, 3) := by decide +kernel
theorem dX8_wasDoneTwice_12 : decode cX8_wasDoneTwice 12 = .ok (.aload_n 0, 1) := by decide +kernel
theorem dX8_wasDoneTwice_13 : decode cX8_wasDoneTwice 13 = .ok (.getfield 15, 3) := by decide +kernel
theorem dX8_wasDoneTwice_16 : decode cX8_wasDoneTwice 16 = .ok (.iload_n 3, 1) := by decide +kernel
theorem dX8_wasDoneTwice_17 : decode cX8_wasDoneTwice 17 = .ok (.iaload, 1) := by decide +kernel
theorem dX8_wasDoneTwice_18 : decode cX8_wasDoneTwice 18 = .ok (.iload_n 1, 1) := by decide +kernel
theorem dX8_wasDoneTwice_19 : decode cX8_wasDoneTwice 19 = .ok (.if_icmp .ne 37, 3) := by decide +kernel
theorem dX8_wasDoneTwice_22 : decode cX8_wasDoneTwice 22 = .ok (.aload_n 0, 1) := by decide +kernel
theorem dX8_wasDoneTwice_23 : decode cX8_wasDoneTwice 23 = .ok (.getfield 18, 3) := by decide +kernel
theorem dX8_wasDoneTwice_26 : decode cX8_wasDoneTwice 26 = .ok (.iload_n 3, 1) := by decide +kernel
theorem dX8_wasDoneTwice_27 : decode cX8_wasDoneTwice 27 = .ok (.iaload, 1) := by decide +kernel
theorem dX8_wasDoneTwice_28 : decode cX8_wasDoneTwice 28 = .ok (.iconst 1, 1) := by decide +kernel
theorem dX8_wasDoneTwice_29 : decode cX8_wasDoneTwice 29 = .ok (.if_icmp .ne 27, 3) := by decide +kernel
theorem dX8_wasDoneTwice_32 : decode cX8_wasDoneTwice 32 = .ok (.iload_n 2, 1) := by decide +kernel
theorem dX8_wasDoneTwice_33 : decode cX8_wasDoneTwice 33 = .ok (.iconst (-1), 1) := by decide +kernel
theorem dX8_wasDoneTwice_34 : decode cX8_wasDoneTwice 34 = .ok (.if_icmp .eq 15, 3) := by decide +kernel
theorem dX8_wasDoneTwice_37 : decode cX8_wasDoneTwice 37 = .ok (.aload_n 0, 1) := by decide +kernel
theorem dX8_wasDoneTwice_38 : decode cX8_wasDoneTwice 38 = .ok (.getfield 21, 3) := by decide +kernel
theorem dX8_wasDoneTwice_41 : decode cX8_wasDoneTwice 41 = .ok (.iload_n 3, 1) := by decide +kernel
theorem dX8_wasDoneTwice_42 : decode cX8_wasDoneTwice 42 = .ok (.iaload, 1) := by decide +kernel
theorem dX8_wasDoneTwice_43 : decode cX8_wasDoneTwice 43 = .ok (.iload_n 2, 1) := by decide +kernel
theorem dX8_wasDoneTwice_44 : decode cX8_wasDoneTwice 44 = .ok (.if_icmp .eq 5, 3) := by decide +kernel
theorem dX8_wasDoneTwice_47 : decode cX8_wasDoneTwice 47 = .ok (.iconst 1, 1) := by decide +kernel
theorem dX8_wasDoneTwice_48 : decode cX8_wasDoneTwice 48 = .ok (.ireturn, 1) := by decide +kernel
theorem dX8_wasDoneTwice_49 : decode cX8_wasDoneTwice 49 = .ok (.aload_n 0, 1) := by decide +kernel
theorem dX8_wasDoneTwice_50 : decode cX8_wasDoneTwice 50 = .ok (.getfield 21, 3) := by decide +kernel
theorem dX8_wasDoneTwice_53 : decode cX8_wasDoneTwice 53 = .ok (.iload_n 3, 1) := by decide +kernel
theorem dX8_wasDoneTwice_54 : decode cX8_wasDoneTwice 54 = .ok (.iaload, 1) := by decide +kernel
theorem dX8_wasDoneTwice_55 : decode cX8_wasDoneTwice 55 = .ok (.istore_n 2, 1) := by decide +kernel
theorem dX8_wasDoneTwice_56 : decode cX8_wasDoneTwice 56 = .ok (.iinc 3 1, 3) := by decide +kernel
theorem dX8_wasDoneTwice_59 : decode cX8_wasDoneTwice 59 = .ok (.goto (-55), 3) := by decide +kernel
theorem dX8_wasDoneTwice_62 : decode cX8_wasDoneTwice 62 = .ok (.iconst 0, 1) := by decide +kernel
theorem dX8_wasDoneTwice_63 : decode cX8_wasDoneTwice 63 = .ok (.ireturn, 1) := by decide +kernel
theorem dX8_daysToCounter_0 : decode cX8_daysToCounter 0 = .ok (.iconst (-1), 1) := by decide +kernel
theorem dX8_daysToCounter_1 : decode cX8_daysToCounter 1 = .ok (.istore_n 3, 1) := by decide +kernel
theorem dX8_daysToCounter_2 : decode cX8_daysToCounter 2 = .ok (.iconst 0, 1) := by decide +kernel
theorem dX8_daysToCounter_3 : decode cX8_daysToCounter 3 = .ok (.istore 4, 2) := by decide +kernel
theorem dX8_daysToCounter_5 : decode cX8_daysToCounter 5 = .ok (.iload 4, 2) := by decide +kernel
theorem dX8_daysToCounter_7 : decode cX8_daysToCounter 7 = .ok (.aload_n 0, 1) := by decide +kernel
theorem dX8_daysToCounter_8 : decode cX8_daysToCounter 8 = .ok (.getfield 31, 3) := by decide +kernel
theorem dX8_daysToCounter_11 : decode cX8_daysToCounter 11 = .ok (.if_icmp .ge 55, 3) := by decide +kernel
theorem dX8_daysToCounter_14 : decode cX8_daysToCounter 14 = .ok (.aload_n 0, 1) := by decide +kernel
theorem dX8_daysToCounter_15 : decode cX8_daysToCounter 15 = .ok (.getfield 15, 3) := by decide +kernel
theorem dX8_daysToCounter_18 : decode cX8_daysToCounter 18 = .ok (.iload 4, 2) := by decide +kernel
theorem dX8_daysToCounter_20 : decode cX8_daysToCounter 20 = .ok (.iaload, 1) := by decide +kernel
theorem dX8_daysToCounter_21 : decode cX8_daysToCounter 21 = .ok (.iload_n 1, 1) := by decide +kernel
theorem dX8_daysToCounter_22 : decode cX8_daysToCounter 22 = .ok (.if_icmp .ne 38, 3) := by decide +kernel
theorem dX8_daysToCounter_25 : decode cX8_daysToCounter 25 = .ok (.aload_n 0, 1) := by decide +kernel
theorem dX8_daysToCounter_26 : decode cX8_daysToCounter 26 = .ok (.getfield 18, 3) := by decide +kernel
theorem dX8_daysToCounter_29 : decode cX8_daysToCounter 29 = .ok (.iload 4, 2) := by decide +kernel
theorem dX8_daysToCounter_31 : decode cX8_daysToCounter 31 = .ok (.iaload, 1) := by decide +kernel
theorem dX8_daysToCounter_32 : decode cX8_daysToCounter 32 = .ok (.iconst 2, 1) := by decide +kernel
theorem dX8_daysToCounter_33 : decode cX8_daysToCounter 33 = .ok (.if_icmp .ne 27, 3) := by decide +kernel
theorem dX8_daysToCounter_36 : decode cX8_daysToCounter 36 = .ok (.iload_n 3, 1) := by decide +kernel
theorem dX8_daysToCounter_37 : decode cX8_daysToCounter 37 = .ok (.iconst (-1), 1) := by decide +kernel
theorem dX8_daysToCounter_38 : decode cX8_daysToCounter 38 = .ok (.if_icmp .eq 14, 3) := by decide +kernel
theorem dX8_daysToCounter_41 : decode cX8_daysToCounter 41 = .ok (.aload_n 0, 1) := by decide +kernel
theorem dX8_daysToCounter_42 : decode cX8_daysToCounter 42 = .ok (.getfield 21, 3) := by decide +kernel
theorem dX8_daysToCounter_45 : decode cX8_daysToCounter 45 = .ok (.iload 4, 2) := by decide +kernel
theorem dX8_daysToCounter_47 : decode cX8_daysToCounter 47 = .ok (.iaload, 1) := by decide +kernel
theorem dX8_daysToCounter_48 : decode cX8_daysToCounter 48 = .ok (.iload_n 3, 1) := by decide +kernel
theorem dX8_daysToCounter_49 : decode cX8_daysToCounter 49 = .ok (.if_icmp .ge 11, 3) := by decide +kernel
theorem dX8_daysToCounter_52 : decode cX8_daysToCounter 52 = .ok (.aload_n 0, 1) := by decide +kernel
theorem dX8_daysToCounter_53 : decode cX8_daysToCounter 53 = .ok (.getfield 21, 3) := by decide +kernel
theorem dX8_daysToCounter_56 : decode cX8_daysToCounter 56 = .ok (.iload 4, 2) := by decide +kernel
theorem dX8_daysToCounter_58 : decode cX8_daysToCounter 58 = .ok (.iaload, 1) := by decide +kernel
theorem dX8_daysToCounter_59 : decode cX8_daysToCounter 59 = .ok (.istore_n 3, 1) := by decide +kernel
theorem dX8_daysToCounter_60 : decode cX8_daysToCounter 60 = .ok (.iinc 4 1, 3) := by decide +kernel
theorem dX8_daysToCounter_63 : decode cX8_daysToCounter 63 = .ok (.goto (-58), 3) := by decide +kernel
theorem dX8_daysToCounter_66 : decode cX8_daysToCounter 66 = .ok (.iload_n 3, 1) := by decide +kernel
theorem dX8_daysToCounter_67 : decode cX8_daysToCounter 67 = .ok (.iconst (-1), 1) := by decide +kernel
theorem dX8_daysToCounter_68 : decode cX8_daysToCounter 68 = .ok (.if_icmp .ne 25, 3) := by decide +kernel
theorem dX8_daysToCounter_71 : decode cX8_daysToCounter 71 = .ok (.aload_n 0, 1) := by decide +kernel
theorem dX8_daysToCounter_72 : decode cX8_daysToCounter 72 = .ok (.iload_n 1, 1) := by decide +kernel
theorem dX8_daysToCounter_73 : decode cX8_daysToCounter 73 = .ok (.invokevirtual 53, 3) := by decide +kernel
theorem dX8_daysToCounter_76 : decode cX8_daysToCounter 76 = .ok (.ifCond .eq 15, 3) := by decide +kernel
theorem dX8_daysToCounter_79 : decode cX8_daysToCounter 79 = .ok (.iload_n 2, 1) := by decide +kernel
theorem dX8_daysToCounter_80 : decode cX8_daysToCounter 80 = .ok (.aload_n 0, 1) := by decide +kernel
theorem dX8_daysToCounter_81 : decode cX8_daysToCounter 81 = .ok (.iload_n 1, 1) := by decide +kernel
theorem dX8_daysToCounter_82 : decode cX8_daysToCounter 82 = .ok (.bipush 6, 2) := by decide +kernel
theorem dX8_daysToCounter_84 : decode cX8_daysToCounter 84 = .ok (.invokevirtual 49, 3) := by decide +kernel
theorem dX8_daysToCounter_87 : decode cX8_daysToCounter 87 = .ok (.isub, 1) := by decide +kernel
theorem dX8_daysToCounter_88 : decode cX8_daysToCounter 88 = .ok (.goto 4, 3) := by decide +kernel
theorem dX8_daysToCounter_91 : decode cX8_daysToCounter 91 = .ok (.iconst 0, 1) := by decide +kernel
theorem dX8_daysToCounter_92 : decode cX8_daysToCounter 92 = .ok (.ireturn, 1) := by decide +kernel
theorem dX8_daysToCounter_93 : decode cX8_daysToCounter 93 = .ok (.iload_n 3, 1) := by decide +kernel
theorem dX8_daysToCounter_94 : decode cX8_daysToCounter 94 = .ok (.aload_n 0, 1) := by decide +kernel
theorem dX8_daysToCounter_95 : decode cX8_daysToCounter 95 = .ok (.iload_n 1, 1) := by decide +kernel
theorem dX8_daysToCounter_96 : decode cX8_daysToCounter 96 = .ok (.bipush 6, 2) := by decide +kernel
theorem dX8_daysToCounter_98 : decode cX8_daysToCounter 98 = .ok (.invokevirtual 49, 3) := by decide +kernel
theorem dX8_daysToCounter_101 : decode cX8_daysToCounter 101 = .ok (.isub, 1) := by decide +kernel
theorem dX8_daysToCounter_102 : decode cX8_daysToCounter 102 = .ok (.ireturn, 1) := by decide +kernel
theorem dX8_withLoad_0 : decode cX8_withLoad 0 = .ok (.iconst 0, 1) := by decide +kernel
theorem dX8_withLoad_1 : decode cX8_withLoad 1 = .ok (.istore_n 2, 1) := by decide +kernel
theorem dX8_withLoad_2 : decode cX8_withLoad 2 = .ok (.iconst 0, 1) := by decide +kernel
theorem dX8_withLoad_3 : decode cX8_withLoad 3 = .ok (.istore_n 3, 1) := by decide +kernel
theorem dX8_withLoad_4 : decode cX8_withLoad 4 = .ok (.iload_n 3, 1) := by decide +kernel
theorem dX8_withLoad_5 : decode cX8_withLoad 5 = .ok (.aload_n 0, 1) := by decide +kernel
theorem dX8_withLoad_6 : decode cX8_withLoad 6 = .ok (.getfield 27, 3) := by decide +kernel
theorem dX8_withLoad_9 : decode cX8_withLoad 9 = .ok (.if_icmp .ge 32, 3) := by decide +kernel
theorem dX8_withLoad_12 : decode cX8_withLoad 12 = .ok (.iload_n 1, 1) := by decide +kernel
theorem dX8_withLoad_13 : decode cX8_withLoad 13 = .ok (.ifCond .eq 28, 3) := by decide +kernel
theorem dX8_withLoad_16 : decode cX8_withLoad 16 = .ok (.iload_n 2, 1) := by decide +kernel
theorem dX8_withLoad_17 : decode cX8_withLoad 17 = .ok (.aload_n 0, 1) := by decide +kernel
theorem dX8_withLoad_18 : decode cX8_withLoad 18 = .ok (.iload_n 3, 1) := by decide +kernel
theorem dX8_withLoad_19 : decode cX8_withLoad 19 = .ok (.bipush 9, 2) := by decide +kernel
theorem dX8_withLoad_21 : decode cX8_withLoad 21 = .ok (.invokevirtual 49, 3) := by decide +kernel
theorem dX8_withLoad_24 : decode cX8_withLoad 24 = .ok (.iload_n 1, 1) := by decide +kernel
theorem dX8_withLoad_25 : decode cX8_withLoad 25 = .ok (.if_icmp .ne 7, 3) := by decide +kernel
theorem dX8_withLoad_28 : decode cX8_withLoad 28 = .ok (.iconst 1, 1) := by decide +kernel
theorem dX8_withLoad_29 : decode cX8_withLoad 29 = .ok (.goto 4, 3) := by decide +kernel
theorem dX8_withLoad_32 : decode cX8_withLoad 32 = .ok (.iconst 0, 1) := by decide +kernel
theorem dX8_withLoad_33 : decode cX8_withLoad 33 = .ok (.iadd, 1) := by decide +kernel
theorem dX8_withLoad_34 : decode cX8_withLoad 34 = .ok (.istore_n 2, 1) := by decide +kernel
theorem dX8_withLoad_35 : decode cX8_withLoad 35 = .ok (.iinc 3 1, 3) := by decide +kernel
theorem dX8_withLoad_38 : decode cX8_withLoad 38 = .ok (.goto (-34), 3) := by decide +kernel
theorem dX8_withLoad_41 : decode cX8_withLoad 41 = .ok (.iload_n 2, 1) := by decide +kernel
theorem dX8_withLoad_42 : decode cX8_withLoad 42 = .ok (.ireturn, 1) := by decide +kernel
