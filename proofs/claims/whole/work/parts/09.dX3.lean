theorem dX3_init_0 : decode cX3_init 0 = .ok (.aload_n 0, 1) := by decide +kernel
theorem dX3_init_1 : decode cX3_init 1 = .ok (.invokespecial 3, 3) := by decide +kernel
theorem dX3_init_4 : decode cX3_init 4 = .ok (.aload_n 0, 1) := by decide +kernel
theorem dX3_init_5 : decode cX3_init 5 = .ok (.sipush 200, 3) := by decide +kernel
theorem dX3_init_8 : decode cX3_init 8 = .ok (.newarray .int, 2) := by decide +kernel
theorem dX3_init_10 : decode cX3_init 10 = .ok (.putfield 11, 3) := by decide +kernel
theorem dX3_init_13 : decode cX3_init 13 = .ok (.aload_n 0, 1) := by decide +kernel
theorem dX3_init_14 : decode cX3_init 14 = .ok (.sipush 200, 3) := by decide +kernel
theorem dX3_init_17 : decode cX3_init 17 = .ok (.newarray .int, 2) := by decide +kernel
theorem dX3_init_19 : decode cX3_init 19 = .ok (.putfield 15, 3) := by decide +kernel
theorem dX3_init_22 : decode cX3_init 22 = .ok (.aload_n 0, 1) := by decide +kernel
theorem dX3_init_23 : decode cX3_init 23 = .ok (.sipush 200, 3) := by decide +kernel
theorem dX3_init_26 : decode cX3_init 26 = .ok (.newarray .int, 2) := by decide +kernel
theorem dX3_init_28 : decode cX3_init 28 = .ok (.putfield 18, 3) := by decide +kernel
theorem dX3_init_31 : decode cX3_init 31 = .ok (.aload_n 0, 1) := by decide +kernel
theorem dX3_init_32 : decode cX3_init 32 = .ok (.bipush 100, 2) := by decide +kernel
theorem dX3_init_34 : decode cX3_init 34 = .ok (.newarray .int, 2) := by decide +kernel
theorem dX3_init_36 : decode cX3_init 36 = .ok (.putfield 21, 3) := by decide +kernel
theorem dX3_init_39 : decode cX3_init 39 = .ok (.aload_n 0, 1) := by decide +kernel
theorem dX3_init_40 : decode cX3_init 40 = .ok (.bipush 40, 2) := by decide +kernel
theorem dX3_init_42 : decode cX3_init 42 = .ok (.newarray .int, 2) := by decide +kernel
theorem dX3_init_44 : decode cX3_init 44 = .ok (.putfield 24, 3) := by decide +kernel
theorem dX3_init_47 : decode cX3_init 47 = .ok (.aload_n 0, 1) := by decide +kernel
theorem dX3_init_48 : decode cX3_init 48 = .ok (.bipush 40, 2) := by decide +kernel
theorem dX3_init_50 : decode cX3_init 50 = .ok (.newarray .int, 2) := by decide +kernel
theorem dX3_init_52 : decode cX3_init 52 = .ok (.putfield 27, 3) := by decide +kernel
theorem dX3_init_55 : decode cX3_init 55 = .ok (.aload_n 0, 1) := by decide +kernel
theorem dX3_init_56 : decode cX3_init 56 = .ok (.bipush 40, 2) := by decide +kernel
theorem dX3_init_58 : decode cX3_init 58 = .ok (.newarray .int, 2) := by decide +kernel
theorem dX3_init_60 : decode cX3_init 60 = .ok (.putfield 30, 3) := by decide +kernel
theorem dX3_init_63 : decode cX3_init 63 = .ok (.aload_n 0, 1) := by decide +kernel
theorem dX3_init_64 : decode cX3_init 64 = .ok (.bipush 40, 2) := by decide +kernel
theorem dX3_init_66 : decode cX3_init 66 = .ok (.newarray .int, 2) := by decide +kernel
theorem dX3_init_68 : decode cX3_init 68 = .ok (.putfield 33, 3) := by decide +kernel
theorem dX3_init_71 : decode cX3_init 71 = .ok (.aload_n 0, 1) := by decide +kernel
theorem dX3_init_72 : decode cX3_init 72 = .ok (.iconst 0, 1) := by decide +kernel
theorem dX3_init_73 : decode cX3_init 73 = .ok (.putfield 36, 3) := by decide +kernel
theorem dX3_init_76 : decode cX3_init 76 = .ok (.aload_n 0, 1) := by decide +kernel
theorem dX3_init_77 : decode cX3_init 77 = .ok (.invokevirtual 40, 3) := by decide +kernel
theorem dX3_init_80 : decode cX3_init 80 = .ok (.return_, 1) := by decide +kernel
theorem dX3_forgetAllButPlaces_0 : decode cX3_forgetAllButPlaces 0 = .ok (.aload_n 0, 1) := by decide +kernel
theorem dX3_forgetAllButPlaces_1 : decode cX3_forgetAllButPlaces 1 = .ok (.getfield 21, 3) := by decide +kernel
theorem dX3_forgetAllButPlaces_4 : decode cX3_forgetAllButPlaces 4 = .ok (.iconst (-1), 1) := by decide +kernel
theorem dX3_forgetAllButPlaces_5 : decode cX3_forgetAllButPlaces 5 = .ok (.invokestatic 43, 3) := by decide +kernel
theorem dX3_forgetAllButPlaces_8 : decode cX3_forgetAllButPlaces 8 = .ok (.aload_n 0, 1) := by decide +kernel
theorem dX3_forgetAllButPlaces_9 : decode cX3_forgetAllButPlaces 9 = .ok (.getfield 24, 3) := by decide +kernel
theorem dX3_forgetAllButPlaces_12 : decode cX3_forgetAllButPlaces 12 = .ok (.iconst (-1), 1) := by decide +kernel
theorem dX3_forgetAllButPlaces_13 : decode cX3_forgetAllButPlaces 13 = .ok (.invokestatic 43, 3) := by decide +kernel
theorem dX3_forgetAllButPlaces_16 : decode cX3_forgetAllButPlaces 16 = .ok (.aload_n 0, 1) := by decide +kernel
theorem dX3_forgetAllButPlaces_17 : decode cX3_forgetAllButPlaces 17 = .ok (.iconst 0, 1) := by decide +kernel
theorem dX3_forgetAllButPlaces_18 : decode cX3_forgetAllButPlaces 18 = .ok (.putfield 36, 3) := by decide +kernel
theorem dX3_forgetAllButPlaces_21 : decode cX3_forgetAllButPlaces 21 = .ok (.return_, 1) := by decide +kernel
theorem dX3_copyFrom_0 : decode cX3_copyFrom 0 = .ok (.aload_n 1, 1) := by decide +kernel
theorem dX3_copyFrom_1 : decode cX3_copyFrom 1 = .ok (.getfield 11, 3) := by decide +kernel
theorem dX3_copyFrom_4 : decode cX3_copyFrom 4 = .ok (.aload_n 0, 1) := by decide +kernel
theorem dX3_copyFrom_5 : decode cX3_copyFrom 5 = .ok (.getfield 11, 3) := by decide +kernel
theorem dX3_copyFrom_8 : decode cX3_copyFrom 8 = .ok (.invokestatic 49, 3) := by decide +kernel
theorem dX3_copyFrom_11 : decode cX3_copyFrom 11 = .ok (.aload_n 1, 1) := by decide +kernel
theorem dX3_copyFrom_12 : decode cX3_copyFrom 12 = .ok (.getfield 15, 3) := by decide +kernel
theorem dX3_copyFrom_15 : decode cX3_copyFrom 15 = .ok (.aload_n 0, 1) := by decide +kernel
theorem dX3_copyFrom_16 : decode cX3_copyFrom 16 = .ok (.getfield 15, 3) := by decide +kernel
theorem dX3_copyFrom_19 : decode cX3_copyFrom 19 = .ok (.invokestatic 49, 3) := by decide +kernel
theorem dX3_copyFrom_22 : decode cX3_copyFrom 22 = .ok (.aload_n 1, 1) := by decide +kernel
theorem dX3_copyFrom_23 : decode cX3_copyFrom 23 = .ok (.getfield 18, 3) := by decide +kernel
theorem dX3_copyFrom_26 : decode cX3_copyFrom 26 = .ok (.aload_n 0, 1) := by decide +kernel
theorem dX3_copyFrom_27 : decode cX3_copyFrom 27 = .ok (.getfield 18, 3) := by decide +kernel
theorem dX3_copyFrom_30 : decode cX3_copyFrom 30 = .ok (.invokestatic 49, 3) := by decide +kernel
theorem dX3_copyFrom_33 : decode cX3_copyFrom 33 = .ok (.aload_n 1, 1) := by decide +kernel
theorem dX3_copyFrom_34 : decode cX3_copyFrom 34 = .ok (.getfield 21, 3) := by decide +kernel
theorem dX3_copyFrom_37 : decode cX3_copyFrom 37 = .ok (.aload_n 0, 1) := by decide +kernel
theorem dX3_copyFrom_38 : decode cX3_copyFrom 38 = .ok (.getfield 21, 3) := by decide +kernel
theorem dX3_copyFrom_41 : decode cX3_copyFrom 41 = .ok (.invokestatic 49, 3) := by decide +kernel
theorem dX3_copyFrom_44 : decode cX3_copyFrom 44 = .ok (.aload_n 1, 1) := by decide +kernel
theorem dX3_copyFrom_45 : decode cX3_copyFrom 45 = .ok (.getfield 24, 3) := by decide +kernel
theorem dX3_copyFrom_48 : decode cX3_copyFrom 48 = .ok (.aload_n 0, 1) := by decide +kernel
theorem dX3_copyFrom_49 : decode cX3_copyFrom 49 = .ok (.getfield 24, 3) := by decide +kernel
theorem dX3_copyFrom_52 : decode cX3_copyFrom 52 = .ok (.invokestatic 49, 3) := by decide +kernel
theorem dX3_copyFrom_55 : decode cX3_copyFrom 55 = .ok (.aload_n 1, 1) := by decide +kernel
theorem dX3_copyFrom_56 : decode cX3_copyFrom 56 = .ok (.getfield 27, 3) := by decide +kernel
theorem dX3_copyFrom_59 : decode cX3_copyFrom 59 = .ok (.aload_n 0, 1) := by decide +kernel
theorem dX3_copyFrom_60 : decode cX3_copyFrom 60 = .ok (.getfield 27, 3) := by decide +kernel
theorem dX3_copyFrom_63 : decode cX3_copyFrom 63 = .ok (.invokestatic 49, 3) := by decide +kernel
theorem dX3_copyFrom_66 : decode cX3_copyFrom 66 = .ok (.aload_n 1, 1) := by decide +kernel
theorem dX3_copyFrom_67 : decode cX3_copyFrom 67 = .ok (.getfield 30, 3) := by decide +kernel
theorem dX3_copyFrom_70 : decode cX3_copyFrom 70 = .ok (.aload_n 0, 1) := by decide +kernel
theorem dX3_copyFrom_71 : decode cX3_copyFrom 71 = .ok (.getfield 30, 3) := by decide +kernel
theorem dX3_copyFrom_74 : decode cX3_copyFrom 74 = .ok (.invokestatic 49, 3) := by decide +kernel
theorem dX3_copyFrom_77 : decode cX3_copyFrom 77 = .ok (.aload_n 1, 1) := by decide +kernel
theorem dX3_copyFrom_78 : decode cX3_copyFrom 78 = .ok (.getfield 33, 3) := by decide +kernel
theorem dX3_copyFrom_81 : decode cX3_copyFrom 81 = .ok (.aload_n 0, 1) := by decide +kernel
theorem dX3_copyFrom_82 : decode cX3_copyFrom 82 = .ok (.getfield 33, 3) := by decide +kernel
theorem dX3_copyFrom_85 : decode cX3_copyFrom 85 = .ok (.invokestatic 49, 3) := by decide +kernel
theorem dX3_copyFrom_88 : decode cX3_copyFrom 88 = .ok (.aload_n 0, 1) := by decide +kernel
theorem dX3_copyFrom_89 : decode cX3_copyFrom 89 = .ok (.aload_n 1, 1) := by decide +kernel
theorem dX3_copyFrom_90 : decode cX3_copyFrom 90 = .ok (.getfield 36, 3) := by decide +kernel
theorem dX3_copyFrom_93 : decode cX3_copyFrom 93 = .ok (.putfield 36, 3) := by decide +kernel
theorem dX3_copyFrom_96 : decode cX3_copyFrom 96 = .ok (.return_, 1) := by decide +kernel
theorem dX3_drumOf_0 : decode cX3_drumOf 0 = .ok (.iload_n 1, 1) := by decide +kernel
theorem dX3_drumOf_1 : decode cX3_drumOf 1 = .ok (.iconst 1, 1) := by decide +kernel
theorem dX3_drumOf_2 : decode cX3_drumOf 2 = .ok (.bipush 99, 2) := by decide +kernel
theorem dX3_drumOf_4 : decode cX3_drumOf 4 = .ok (.invokestatic 53, 3) := by decide +kernel
theorem dX3_drumOf_7 : decode cX3_drumOf 7 = .ok (.ifCond .eq 12, 3) := by decide +kernel
theorem dX3_drumOf_10 : decode cX3_drumOf 10 = .ok (.aload_n 0, 1) := by decide +kernel
theorem dX3_drumOf_11 : decode cX3_drumOf 11 = .ok (.getfield 21, 3) := by decide +kernel
theorem dX3_drumOf_14 : decode cX3_drumOf 14 = .ok (.iload_n 1, 1) := by decide +kernel
theorem dX3_drumOf_15 : decode cX3_drumOf 15 = .ok (.iaload, 1) := by decide +kernel
theorem dX3_drumOf_16 : decode cX3_drumOf 16 = .ok (.goto 4, 3) := by decide +kernel
theorem dX3_drumOf_19 : decode cX3_drumOf 19 = .ok (.iconst (-1), 1) := by decide +kernel
theorem dX3_drumOf_20 : decode cX3_drumOf 20 = .ok (.ireturn, 1) := by decide +kernel
theorem dX3_addBookDay_0 : decode cX3_addBookDay 0 = .ok (.aload_n 0, 1) := by decide +kernel
theorem dX3_addBookDay_1 : decode cX3_addBookDay 1 = .ok (.getfield 36, 3) := by decide +kernel
theorem dX3_addBookDay_4 : decode cX3_addBookDay 4 = .ok (.sipush 200, 3) := by decide +kernel
theorem dX3_addBookDay_7 : decode cX3_addBookDay 7 = .ok (.if_icmp .lt 5, 3) := by decide +kernel
theorem dX3_addBookDay_10 : decode cX3_addBookDay 10 = .ok (.iconst (-1), 1) := by decide +kernel
theorem dX3_addBookDay_11 : decode cX3_addBookDay 11 = .ok (.ireturn, 1) := by decide +kernel
theorem dX3_addBookDay_12 : decode cX3_addBookDay 12 = .ok (.aload_n 0, 1) := by decide +kernel
theorem dX3_addBookDay_13 : decode cX3_addBookDay 13 = .ok (.getfield 11, 3) := by decide +kernel
theorem dX3_addBookDay_16 : decode cX3_addBookDay 16 = .ok (.aload_n 0, 1) := by decide +kernel
theorem dX3_addBookDay_17 : decode cX3_addBookDay 17 = .ok (.getfield 36, 3) := by decide +kernel
theorem dX3_addBookDay_20 : decode cX3_addBookDay 20 = .ok (.iload_n 1, 1) := by decide +kernel
theorem dX3_addBookDay_21 : decode cX3_addBookDay 21 = .ok (.iastore, 1) := by decide +kernel
theorem dX3_addBookDay_22 : decode cX3_addBookDay 22 = .ok (.aload_n 0, 1) := by decide +kernel
theorem dX3_addBookDay_23 : decode cX3_addBookDay 23 = .ok (.getfield 15, 3) := by decide +kernel
theorem dX3_addBookDay_26 : decode cX3_addBookDay 26 = .ok (.aload_n 0, 1) := by decide +kernel
theorem dX3_addBookDay_27 : decode cX3_addBookDay 27 = .ok (.getfield 36, 3) := by decide +kernel
theorem dX3_addBookDay_30 : decode cX3_addBookDay 30 = .ok (.iload_n 2, 1) := by decide +kernel
theorem dX3_addBookDay_31 : decode cX3_addBookDay 31 = .ok (.iastore, 1) := by decide +kernel
theorem dX3_addBookDay_32 : decode cX3_addBookDay 32 = .ok (.aload_n 0, 1) := by decide +kernel
theorem dX3_addBookDay_33 : decode cX3_addBookDay 33 = .ok (.getfield 18, 3) := by decide +kernel
theorem dX3_addBookDay_36 : decode cX3_addBookDay 36 = .ok (.aload_n 0, 1) := by decide +kernel
theorem dX3_addBookDay_37 : decode cX3_addBookDay 37 = .ok (.getfield 36, 3) := by decide +kernel
theorem dX3_addBookDay_40 : decode cX3_addBookDay 40 = .ok (.iload_n 3, 1) := by decide +kernel
theorem dX3_addBookDay_41 : decode cX3_addBookDay 41 = .ok (.iastore, 1) := by decide +kernel
theorem dX3_addBookDay_42 : decode cX3_addBookDay 42 = .ok (.aload_n 0, 1) := by decide +kernel
theorem dX3_addBookDay_43 : decode cX3_addBookDay 43 = .ok (.dup, 1) := by decide +kernel
theorem dX3_addBookDay_44 : decode cX3_addBookDay 44 = .ok (.getfield 36, 3) := by decide +kernel
theorem dX3_addBookDay_47 : decode cX3_addBookDay 47 = .ok (.iconst 1, 1) := by decide +kernel
theorem dX3_addBookDay_48 : decode cX3_addBookDay 48 = .ok (.iadd, 1) := by decide +kernel
theorem dX3_addBookDay_49 : decode cX3_addBookDay 49 = .ok (.putfield 36, 3) := by decide +kernel
theorem dX3_addBookDay_52 : decode cX3_addBookDay 52 = .ok (.aload_n 0, 1) := by decide +kernel
theorem dX3_addBookDay_53 : decode cX3_addBookDay 53 = .ok (.getfield 36, 3) := by decide +kernel
theorem dX3_addBookDay_56 : decode cX3_addBookDay 56 = .ok (.iconst 1, 1) := by decide +kernel
theorem dX3_addBookDay_57 : decode cX3_addBookDay 57 = .ok (.isub, 1) := by decide +kernel
theorem dX3_addBookDay_58 : decode cX3_addBookDay 58 = .ok (.ireturn, 1) := by decide +kernel
theorem dX3_lostOn_0 : decode cX3_lostOn 0 = .ok (.iload_n 1, 1) := by decide +kernel
theorem dX3_lostOn_1 : decode cX3_lostOn 1 = .ok (.iconst 0, 1) := by decide +kernel
theorem dX3_lostOn_2 : decode cX3_lostOn 2 = .ok (.aload_n 0, 1) := by decide +kernel
theorem dX3_lostOn_3 : decode cX3_lostOn 3 = .ok (.getfield 36, 3) := by decide +kernel
theorem dX3_lostOn_6 : decode cX3_lostOn 6 = .ok (.iconst 1, 1) := by decide +kernel
theorem dX3_lostOn_7 : decode cX3_lostOn 7 = .ok (.isub, 1) := by decide +kernel
theorem dX3_lostOn_8 : decode cX3_lostOn 8 = .ok (.invokestatic 53, 3) := by decide +kernel
theorem dX3_lostOn_11 : decode cX3_lostOn 11 = .ok (.ifCond .ne 5, 3) := by decide +kernel
theorem dX3_lostOn_14 : decode cX3_lostOn 14 = .ok (.iconst 0, 1) := by decide +kernel
theorem dX3_lostOn_15 : decode cX3_lostOn 15 = .ok (.ireturn, 1) := by decide +kernel
theorem dX3_lostOn_16 : decode cX3_lostOn 16 = .ok (.iload_n 1, 1) := by decide +kernel
theorem dX3_lostOn_17 : decode cX3_lostOn 17 = .ok (.ifCond .ne 7, 3) := by decide +kernel
theorem dX3_lostOn_20 : decode cX3_lostOn 20 = .ok (.iconst 0, 1) := by decide +kernel
theorem dX3_lostOn_21 : decode cX3_lostOn 21 = .ok (.goto 11, 3) := by decide +kernel
theorem dX3_lostOn_24 : decode cX3_lostOn 24 = .ok (.aload_n 0, 1) := by decide +kernel
theorem dX3_lostOn_25 : decode cX3_lostOn 25 = .ok (.getfield 18, 3) := by decide +kernel
theorem dX3_lostOn_28 : decode cX3_lostOn 28 = .ok (.iload_n 1, 1) := by decide +kernel
theorem dX3_lostOn_29 : decode cX3_lostOn 29 = .ok (.iconst 1, 1) := by decide +kernel
theorem dX3_lostOn_30 : decode cX3_lostOn 30 = .ok (.isub, 1) := by decide +kernel
theorem dX3_lostOn_31 : decode cX3_lostOn 31 = .ok (.iaload, 1) := by decide +kernel
theorem dX3_lostOn_32 : decode cX3_lostOn 32 = .ok (.aload_n 0, 1) := by decide +kernel
theorem dX3_lostOn_33 : decode cX3_lostOn 33 = .ok (.getfield 11, 3) := by decide +kernel
theorem dX3_lostOn_36 : decode cX3_lostOn 36 = .ok (.iload_n 1, 1) := by decide +kernel
theorem dX3_lostOn_37 : decode cX3_lostOn 37 = .ok (.iaload, 1) := by decide +kernel
theorem dX3_lostOn_38 : decode cX3_lostOn 38 = .ok (.iadd, 1) := by decide +kernel
theorem dX3_lostOn_39 : decode cX3_lostOn 39 = .ok (.aload_n 0, 1) := by decide +kernel
theorem dX3_lostOn_40 : decode cX3_lostOn 40 = .ok (.getfield 18, 3) := by decide +kernel
theorem dX3_lostOn_43 : decode cX3_lostOn 43 = .ok (.iload_n 1, 1) := by decide +kernel
theorem dX3_lostOn_44 : decode cX3_lostOn 44 = .ok (.iaload, 1) := by decide +kernel
theorem dX3_lostOn_45 : decode cX3_lostOn 45 = .ok (.isub, 1) := by decide +kernel
theorem dX3_lostOn_46 : decode cX3_lostOn 46 = .ok (.ireturn, 1) := by decide +kernel
theorem dX3_firstBroken_0 : decode cX3_firstBroken 0 = .ok (.iconst 0, 1) := by decide +kernel
theorem dX3_firstBroken_1 : decode cX3_firstBroken 1 = .ok (.istore_n 2, 1) := by decide +kernel
theorem dX3_firstBroken_2 : decode cX3_firstBroken 2 = .ok (.iconst 0, 1) := by decide +kernel
theorem dX3_firstBroken_3 : decode cX3_firstBroken 3 = .ok (.istore_n 3, 1) := by decide +kernel
theorem dX3_firstBroken_4 : decode cX3_firstBroken 4 = .ok (.iconst 0, 1) := by decide +kernel
theorem dX3_firstBroken_5 : decode cX3_firstBroken 5 = .ok (.istore 4, 2) := by decide +kernel
theorem dX3_firstBroken_7 : decode cX3_firstBroken 7 = .ok (.iload 4, 2) := by decide +kernel
theorem dX3_firstBroken_9 : decode cX3_firstBroken 9 = .ok (.aload_n 0, 1) := by decide +kernel
theorem dX3_firstBroken_10 : decode cX3_firstBroken 10 = .ok (.getfield 36, 3) := by decide +kernel
theorem dX3_firstBroken_13 : decode cX3_firstBroken 13 = .ok (.if_icmp .ge 70, 3) := by decide +kernel
theorem dX3_firstBroken_16 : decode cX3_firstBroken 16 = .ok (.iload_n 2, 1) := by decide +kernel
theorem dX3_firstBroken_17 : decode cX3_firstBroken 17 = .ok (.aload_n 0, 1) := by decide +kernel
theorem dX3_firstBroken_18 : decode cX3_firstBroken 18 = .ok (.iload 4, 2) := by decide +kernel
theorem dX3_firstBroken_20 : decode cX3_firstBroken 20 = .ok (.invokevirtual 57, 3) := by decide +kernel
theorem dX3_firstBroken_23 : decode cX3_firstBroken 23 = .ok (.iadd, 1) := by decide +kernel
theorem dX3_firstBroken_24 : decode cX3_firstBroken 24 = .ok (.istore_n 2, 1) := by decide +kernel
theorem dX3_firstBroken_25 : decode cX3_firstBroken 25 = .ok (.iload_n 3, 1) := by decide +kernel
theorem dX3_firstBroken_26 : decode cX3_firstBroken 26 = .ok (.aload_n 0, 1) := by decide +kernel
theorem dX3_firstBroken_27 : decode cX3_firstBroken 27 = .ok (.getfield 15, 3) := by decide +kernel
theorem dX3_firstBroken_30 : decode cX3_firstBroken 30 = .ok (.iload 4, 2) := by decide +kernel
theorem dX3_firstBroken_32 : decode cX3_firstBroken 32 = .ok (.iaload, 1) := by decide +kernel
theorem dX3_firstBroken_33 : decode cX3_firstBroken 33 = .ok (.iadd, 1) := by decide +kernel
theorem dX3_firstBroken_34 : decode cX3_firstBroken 34 = .ok (.istore_n 3, 1) := by decide +kernel
theorem dX3_firstBroken_35 : decode cX3_firstBroken 35 = .ok (.iload 4, 2) := by decide +kernel
theorem dX3_firstBroken_37 : decode cX3_firstBroken 37 = .ok (.bipush 7, 2) := by decide +kernel
theorem dX3_firstBroken_39 : decode cX3_firstBroken 39 = .ok (.if_icmp .lt 28, 3) := by decide +kernel
theorem dX3_firstBroken_42 : decode cX3_firstBroken 42 = .ok (.iload_n 2, 1) := by decide +kernel
theorem dX3_firstBroken_43 : decode cX3_firstBroken 43 = .ok (.aload_n 0, 1) := by decide +kernel
theorem dX3_firstBroken_44 : decode cX3_firstBroken 44 = .ok (.iload 4, 2) := by decide +kernel
theorem dX3_firstBroken_46 : decode cX3_firstBroken 46 = .ok (.bipush 7, 2) := by decide +kernel
theorem dX3_firstBroken_48 : decode cX3_firstBroken 48 = .ok (.isub, 1) := by decide +kernel
theorem dX3_firstBroken_49 : decode cX3_firstBroken 49 = .ok (.invokevirtual 57, 3) := by decide +kernel
theorem dX3_firstBroken_52 : decode cX3_firstBroken 52 = .ok (.isub, 1) := by decide +kernel
theorem dX3_firstBroken_53 : decode cX3_firstBroken 53 = .ok (.istore_n 2, 1) := by decide +kernel
theorem dX3_firstBroken_54 : decode cX3_firstBroken 54 = .ok (.iload_n 3, 1) := by decide +kernel
theorem dX3_firstBroken_55 : decode cX3_firstBroken 55 = .ok (.aload_n 0, 1) := by decide +kernel
theorem dX3_firstBroken_56 : decode cX3_firstBroken 56 = .ok (.getfield 15, 3) := by decide +kernel
theorem dX3_firstBroken_59 : decode cX3_firstBroken 59 = .ok (.iload 4, 2) := by decide +kernel
theorem dX3_firstBroken_61 : decode cX3_firstBroken 61 = .ok (.bipush 7, 2) := by decide +kernel
theorem dX3_firstBroken_63 : decode cX3_firstBroken 63 = .ok (.isub, 1) := by decide +kernel
theorem dX3_firstBroken_64 : decode cX3_firstBroken 64 = .ok (.iaload, 1) := by decide +kernel
theorem dX3_firstBroken_65 : decode cX3_firstBroken 65 = .ok (.isub, 1) := by decide +kernel
theorem dX3_firstBroken_66 : decode cX3_firstBroken 66 = .ok (.istore_n 3, 1) := by decide +kernel
theorem dX3_firstBroken_67 : decode cX3_firstBroken 67 = .ok (.iload_n 2, 1) := by decide +kernel
theorem dX3_firstBroken_68 : decode cX3_firstBroken 68 = .ok (.iload_n 1, 1) := by decide +kernel
theorem dX3_firstBroken_69 : decode cX3_firstBroken 69 = .ok (.iload_n 3, 1) := by decide +kernel
theorem dX3_firstBroken_70 : decode cX3_firstBroken 70 = .ok (.imul, 1) := by decide +kernel
theorem dX3_firstBroken_71 : decode cX3_firstBroken 71 = .ok (.if_icmp .le 6, 3) := by decide +kernel
theorem dX3_firstBroken_74 : decode cX3_firstBroken 74 = .ok (.iload 4, 2) := by decide +kernel
theorem dX3_firstBroken_76 : decode cX3_firstBroken 76 = .ok (.ireturn, 1) := by decide +kernel
theorem dX3_firstBroken_77 : decode cX3_firstBroken 77 = .ok (.iinc 4 1, 3) := by decide +kernel
theorem dX3_firstBroken_80 : decode cX3_firstBroken 80 = .ok (.goto (-73), 3) := by decide +kernel
theorem dX3_firstBroken_83 : decode cX3_firstBroken 83 = .ok (.iconst (-1), 1) := by decide +kernel
theorem dX3_firstBroken_84 : decode cX3_firstBroken 84 = .ok (.ireturn, 1) := by decide +kernel
