theorem dX5_init_0 : decode cX5_init 0 = .ok (.aload_n 0, 1) := by decide +kernel
theorem dX5_init_1 : decode cX5_init 1 = .ok (.invokespecial 5, 3) := by decide +kernel
theorem dX5_init_4 : decode cX5_init 4 = .ok (.aload_n 0, 1) := by decide +kernel
theorem dX5_init_5 : decode cX5_init 5 = .ok (.bipush 40, 2) := by decide +kernel
theorem dX5_init_7 : decode cX5_init 7 = .ok (.newarray .int, 2) := by decide +kernel
theorem dX5_init_9 : decode cX5_init 9 = .ok (.putfield 11, 3) := by decide +kernel
theorem dX5_init_12 : decode cX5_init 12 = .ok (.aload_n 0, 1) := by decide +kernel
theorem dX5_init_13 : decode cX5_init 13 = .ok (.bipush 40, 2) := by decide +kernel
theorem dX5_init_15 : decode cX5_init 15 = .ok (.newarray .int, 2) := by decide +kernel
theorem dX5_init_17 : decode cX5_init 17 = .ok (.putfield 15, 3) := by decide +kernel
theorem dX5_init_20 : decode cX5_init 20 = .ok (.aload_n 0, 1) := by decide +kernel
theorem dX5_init_21 : decode cX5_init 21 = .ok (.bipush 40, 2) := by decide +kernel
theorem dX5_init_23 : decode cX5_init 23 = .ok (.newarray .int, 2) := by decide +kernel
theorem dX5_init_25 : decode cX5_init 25 = .ok (.putfield 18, 3) := by decide +kernel
theorem dX5_init_28 : decode cX5_init 28 = .ok (.aload_n 0, 1) := by decide +kernel
theorem dX5_init_29 : decode cX5_init 29 = .ok (.iconst 0, 1) := by decide +kernel
theorem dX5_init_30 : decode cX5_init 30 = .ok (.putfield 21, 3) := by decide +kernel
theorem dX5_init_33 : decode cX5_init 33 = .ok (.aload_n 0, 1) := by decide +kernel
theorem dX5_init_34 : decode cX5_init 34 = .ok (.iconst 0, 1) := by decide +kernel
theorem dX5_init_35 : decode cX5_init 35 = .ok (.putfield 25, 3) := by decide +kernel
theorem dX5_init_38 : decode cX5_init 38 = .ok (.return_, 1) := by decide +kernel
theorem dX5_forget_0 : decode cX5_forget 0 = .ok (.aload_n 0, 1) := by decide +kernel
theorem dX5_forget_1 : decode cX5_forget 1 = .ok (.iconst 0, 1) := by decide +kernel
theorem dX5_forget_2 : decode cX5_forget 2 = .ok (.putfield 21, 3) := by decide +kernel
theorem dX5_forget_5 : decode cX5_forget 5 = .ok (.aload_n 0, 1) := by decide +kernel
theorem dX5_forget_6 : decode cX5_forget 6 = .ok (.iconst 0, 1) := by decide +kernel
theorem dX5_forget_7 : decode cX5_forget 7 = .ok (.putfield 25, 3) := by decide +kernel
theorem dX5_forget_10 : decode cX5_forget 10 = .ok (.return_, 1) := by decide +kernel
theorem dX5_copyFrom_0 : decode cX5_copyFrom 0 = .ok (.aload_n 1, 1) := by decide +kernel
theorem dX5_copyFrom_1 : decode cX5_copyFrom 1 = .ok (.getfield 11, 3) := by decide +kernel
theorem dX5_copyFrom_4 : decode cX5_copyFrom 4 = .ok (.aload_n 0, 1) := by decide +kernel
theorem dX5_copyFrom_5 : decode cX5_copyFrom 5 = .ok (.getfield 11, 3) := by decide +kernel
theorem dX5_copyFrom_8 : decode cX5_copyFrom 8 = .ok (.invokestatic 28, 3) := by decide +kernel
theorem dX5_copyFrom_11 : decode cX5_copyFrom 11 = .ok (.aload_n 1, 1) := by decide +kernel
theorem dX5_copyFrom_12 : decode cX5_copyFrom 12 = .ok (.getfield 15, 3) := by decide +kernel
theorem dX5_copyFrom_15 : decode cX5_copyFrom 15 = .ok (.aload_n 0, 1) := by decide +kernel
theorem dX5_copyFrom_16 : decode cX5_copyFrom 16 = .ok (.getfield 15, 3) := by decide +kernel
theorem dX5_copyFrom_19 : decode cX5_copyFrom 19 = .ok (.invokestatic 28, 3) := by decide +kernel
theorem dX5_copyFrom_22 : decode cX5_copyFrom 22 = .ok (.aload_n 1, 1) := by decide +kernel
theorem dX5_copyFrom_23 : decode cX5_copyFrom 23 = .ok (.getfield 18, 3) := by decide +kernel
theorem dX5_copyFrom_26 : decode cX5_copyFrom 26 = .ok (.aload_n 0, 1) := by decide +kernel
theorem dX5_copyFrom_27 : decode cX5_copyFrom 27 = .ok (.getfield 18, 3) := by decide +kernel
theorem dX5_copyFrom_30 : decode cX5_copyFrom 30 = .ok (.invokestatic 28, 3) := by decide +kernel
theorem dX5_copyFrom_33 : decode cX5_copyFrom 33 = .ok (.aload_n 0, 1) := by decide +kernel
theorem dX5_copyFrom_34 : decode cX5_copyFrom 34 = .ok (.aload_n 1, 1) := by decide +kernel
theorem dX5_copyFrom_35 : decode cX5_copyFrom 35 = .ok (.getfield 21, 3) := by decide +kernel
theorem dX5_copyFrom_38 : decode cX5_copyFrom 38 = .ok (.putfield 21, 3) := by decide +kernel
theorem dX5_copyFrom_41 : decode cX5_copyFrom 41 = .ok (.aload_n 0, 1) := by decide +kernel
theorem dX5_copyFrom_42 : decode cX5_copyFrom 42 = .ok (.aload_n 1, 1) := by decide +kernel
theorem dX5_copyFrom_43 : decode cX5_copyFrom 43 = .ok (.getfield 25, 3) := by decide +kernel
theorem dX5_copyFrom_46 : decode cX5_copyFrom 46 = .ok (.putfield 25, 3) := by decide +kernel
theorem dX5_copyFrom_49 : decode cX5_copyFrom 49 = .ok (.return_, 1) := by decide +kernel
theorem dX5_readFrom_0 : decode cX5_readFrom 0 = .ok (.aload_n 0, 1) := by decide +kernel
theorem dX5_readFrom_1 : decode cX5_readFrom 1 = .ok (.invokevirtual 32, 3) := by decide +kernel
theorem dX5_readFrom_4 : decode cX5_readFrom 4 = .ok (.aload_n 1, 1) := by decide +kernel
theorem dX5_readFrom_5 : decode cX5_readFrom 5 = .ok (.sipush 200, 3) := by decide +kernel
theorem dX5_readFrom_8 : decode cX5_readFrom 8 = .ok (.invokevirtual 35, 3) := by decide +kernel
theorem dX5_readFrom_11 : decode cX5_readFrom 11 = .ok (.aload_n 0, 1) := by decide +kernel
theorem dX5_readFrom_12 : decode cX5_readFrom 12 = .ok (.aload_n 1, 1) := by decide +kernel
theorem dX5_readFrom_13 : decode cX5_readFrom 13 = .ok (.aload_n 2, 1) := by decide +kernel
theorem dX5_readFrom_14 : decode cX5_readFrom 14 = .ok (.iconst 1, 1) := by decide +kernel
theorem dX5_readFrom_15 : decode cX5_readFrom 15 = .ok (.invokevirtual 41, 3) := by decide +kernel
theorem dX5_readFrom_18 : decode cX5_readFrom 18 = .ok (.ifCond .ne 5, 3) := by decide +kernel
theorem dX5_readFrom_21 : decode cX5_readFrom 21 = .ok (.iconst 0, 1) := by decide +kernel
theorem dX5_readFrom_22 : decode cX5_readFrom 22 = .ok (.ireturn, 1) := by decide +kernel
theorem dX5_readFrom_23 : decode cX5_readFrom 23 = .ok (.aload_n 1, 1) := by decide +kernel
theorem dX5_readFrom_24 : decode cX5_readFrom 24 = .ok (.getfield 45, 3) := by decide +kernel
theorem dX5_readFrom_27 : decode cX5_readFrom 27 = .ok (.ifCond .eq 11, 3) := by decide +kernel
theorem dX5_readFrom_30 : decode cX5_readFrom 30 = .ok (.aload_n 1, 1) := by decide +kernel
theorem dX5_readFrom_31 : decode cX5_readFrom 31 = .ok (.iconst 1, 1) := by decide +kernel
theorem dX5_readFrom_32 : decode cX5_readFrom 32 = .ok (.invokevirtual 48, 3) := by decide +kernel
theorem dX5_readFrom_35 : decode cX5_readFrom 35 = .ok (.ifCond .eq 7, 3) := by decide +kernel
theorem dX5_readFrom_38 : decode cX5_readFrom 38 = .ok (.iconst 1, 1) := by decide +kernel
theorem dX5_readFrom_39 : decode cX5_readFrom 39 = .ok (.goto 4, 3) := by decide +kernel
theorem dX5_readFrom_42 : decode cX5_readFrom 42 = .ok (.iconst 0, 1) := by decide +kernel
theorem dX5_readFrom_43 : decode cX5_readFrom 43 = .ok (.ireturn, 1) := by decide +kernel
theorem dX5_readCond_0 : decode cX5_readCond 0 = .ok (.aload_n 0, 1) := by decide +kernel
theorem dX5_readCond_1 : decode cX5_readCond 1 = .ok (.aload_n 1, 1) := by decide +kernel
theorem dX5_readCond_2 : decode cX5_readCond 2 = .ok (.aload_n 2, 1) := by decide +kernel
theorem dX5_readCond_3 : decode cX5_readCond 3 = .ok (.iload_n 3, 1) := by decide +kernel
theorem dX5_readCond_4 : decode cX5_readCond 4 = .ok (.invokevirtual 52, 3) := by decide +kernel
theorem dX5_readCond_7 : decode cX5_readCond 7 = .ok (.ifCond .ne 5, 3) := by decide +kernel
theorem dX5_readCond_10 : decode cX5_readCond 10 = .ok (.iconst 0, 1) := by decide +kernel
theorem dX5_readCond_11 : decode cX5_readCond 11 = .ok (.ireturn, 1) := by decide +kernel
theorem dX5_readCond_12 : decode cX5_readCond 12 = .ok (.iconst 0, 1) := by decide +kernel
theorem dX5_readCond_13 : decode cX5_readCond 13 = .ok (.istore 4, 2) := by decide +kernel
theorem dX5_readCond_15 : decode cX5_readCond 15 = .ok (.iload 4, 2) := by decide +kernel
theorem dX5_readCond_17 : decode cX5_readCond 17 = .ok (.bipush 20, 2) := by decide +kernel
theorem dX5_readCond_19 : decode cX5_readCond 19 = .ok (.if_icmp .ge 42, 3) := by decide +kernel
theorem dX5_readCond_22 : decode cX5_readCond 22 = .ok (.aload_n 1, 1) := by decide +kernel
theorem dX5_readCond_23 : decode cX5_readCond 23 = .ok (.bipush 10, 2) := by decide +kernel
theorem dX5_readCond_25 : decode cX5_readCond 25 = .ok (.invokevirtual 55, 3) := by decide +kernel
theorem dX5_readCond_28 : decode cX5_readCond 28 = .ok (.ifCond .eq 33, 3) := by decide +kernel
theorem dX5_readCond_31 : decode cX5_readCond 31 = .ok (.aload_n 1, 1) := by decide +kernel
theorem dX5_readCond_32 : decode cX5_readCond 32 = .ok (.invokevirtual 58, 3) := by decide +kernel
theorem dX5_readCond_35 : decode cX5_readCond 35 = .ok (.aload_n 0, 1) := by decide +kernel
theorem dX5_readCond_36 : decode cX5_readCond 36 = .ok (.aload_n 1, 1) := by decide +kernel
theorem dX5_readCond_37 : decode cX5_readCond 37 = .ok (.aload_n 2, 1) := by decide +kernel
theorem dX5_readCond_38 : decode cX5_readCond 38 = .ok (.iload_n 3, 1) := by decide +kernel
theorem dX5_readCond_39 : decode cX5_readCond 39 = .ok (.invokevirtual 52, 3) := by decide +kernel
theorem dX5_readCond_42 : decode cX5_readCond 42 = .ok (.ifCond .ne 5, 3) := by decide +kernel
theorem dX5_readCond_45 : decode cX5_readCond 45 = .ok (.iconst 0, 1) := by decide +kernel
theorem dX5_readCond_46 : decode cX5_readCond 46 = .ok (.ireturn, 1) := by decide +kernel
theorem dX5_readCond_47 : decode cX5_readCond 47 = .ok (.aload_n 0, 1) := by decide +kernel
theorem dX5_readCond_48 : decode cX5_readCond 48 = .ok (.bipush 10, 2) := by decide +kernel
theorem dX5_readCond_50 : decode cX5_readCond 50 = .ok (.iconst 0, 1) := by decide +kernel
theorem dX5_readCond_51 : decode cX5_readCond 51 = .ok (.iconst 0, 1) := by decide +kernel
theorem dX5_readCond_52 : decode cX5_readCond 52 = .ok (.invokevirtual 61, 3) := by decide +kernel
theorem dX5_readCond_55 : decode cX5_readCond 55 = .ok (.iinc 4 1, 3) := by decide +kernel
theorem dX5_readCond_58 : decode cX5_readCond 58 = .ok (.goto (-43), 3) := by decide +kernel
theorem dX5_readCond_61 : decode cX5_readCond 61 = .ok (.iconst 1, 1) := by decide +kernel
theorem dX5_readCond_62 : decode cX5_readCond 62 = .ok (.ireturn, 1) := by decide +kernel
theorem dX5_readAll_0 : decode cX5_readAll 0 = .ok (.aload_n 0, 1) := by decide +kernel
theorem dX5_readAll_1 : decode cX5_readAll 1 = .ok (.aload_n 1, 1) := by decide +kernel
theorem dX5_readAll_2 : decode cX5_readAll 2 = .ok (.aload_n 2, 1) := by decide +kernel
theorem dX5_readAll_3 : decode cX5_readAll 3 = .ok (.iload_n 3, 1) := by decide +kernel
theorem dX5_readAll_4 : decode cX5_readAll 4 = .ok (.invokevirtual 65, 3) := by decide +kernel
theorem dX5_readAll_7 : decode cX5_readAll 7 = .ok (.ifCond .ne 5, 3) := by decide +kernel
theorem dX5_readAll_10 : decode cX5_readAll 10 = .ok (.iconst 0, 1) := by decide +kernel
theorem dX5_readAll_11 : decode cX5_readAll 11 = .ok (.ireturn, 1) := by decide +kernel
theorem dX5_readAll_12 : decode cX5_readAll 12 = .ok (.iconst 0, 1) := by decide +kernel
theorem dX5_readAll_13 : decode cX5_readAll 13 = .ok (.istore 4, 2) := by decide +kernel
theorem dX5_readAll_15 : decode cX5_readAll 15 = .ok (.iload 4, 2) := by decide +kernel
theorem dX5_readAll_17 : decode cX5_readAll 17 = .ok (.bipush 20, 2) := by decide +kernel
theorem dX5_readAll_19 : decode cX5_readAll 19 = .ok (.if_icmp .ge 42, 3) := by decide +kernel
theorem dX5_readAll_22 : decode cX5_readAll 22 = .ok (.aload_n 1, 1) := by decide +kernel
theorem dX5_readAll_23 : decode cX5_readAll 23 = .ok (.bipush 11, 2) := by decide +kernel
theorem dX5_readAll_25 : decode cX5_readAll 25 = .ok (.invokevirtual 55, 3) := by decide +kernel
theorem dX5_readAll_28 : decode cX5_readAll 28 = .ok (.ifCond .eq 33, 3) := by decide +kernel
theorem dX5_readAll_31 : decode cX5_readAll 31 = .ok (.aload_n 1, 1) := by decide +kernel
theorem dX5_readAll_32 : decode cX5_readAll 32 = .ok (.invokevirtual 58, 3) := by decide +kernel
theorem dX5_readAll_35 : decode cX5_readAll 35 = .ok (.aload_n 0, 1) := by decide +kernel
theorem dX5_readAll_36 : decode cX5_readAll 36 = .ok (.aload_n 1, 1) := by decide +kernel
theorem dX5_readAll_37 : decode cX5_readAll 37 = .ok (.aload_n 2, 1) := by decide +kernel
theorem dX5_readAll_38 : decode cX5_readAll 38 = .ok (.iload_n 3, 1) := by decide +kernel
theorem dX5_readAll_39 : decode cX5_readAll 39 = .ok (.invokevirtual 65, 3) := by decide +kernel
theorem dX5_readAll_42 : decode cX5_readAll 42 = .ok (.ifCond .ne 5, 3) := by decide +kernel
theorem dX5_readAll_45 : decode cX5_readAll 45 = .ok (.iconst 0, 1) := by decide +kernel
theorem dX5_readAll_46 : decode cX5_readAll 46 = .ok (.ireturn, 1) := by decide +kernel
theorem dX5_readAll_47 : decode cX5_readAll 47 = .ok (.aload_n 0, 1) := by decide +kernel
theorem dX5_readAll_48 : decode cX5_readAll 48 = .ok (.bipush 11, 2) := by decide +kernel
theorem dX5_readAll_50 : decode cX5_readAll 50 = .ok (.iconst 0, 1) := by decide +kernel
theorem dX5_readAll_51 : decode cX5_readAll 51 = .ok (.iconst 0, 1) := by decide +kernel
theorem dX5_readAll_52 : decode cX5_readAll 52 = .ok (.invokevirtual 61, 3) := by decide +kernel
theorem dX5_readAll_55 : decode cX5_readAll 55 = .ok (.iinc 4 1, 3) := by decide +kernel
theorem dX5_readAll_58 : decode cX5_readAll 58 = .ok (.goto (-43), 3) := by decide +kernel
theorem dX5_readAll_61 : decode cX5_readAll 61 = .ok (.iconst 1, 1) := by decide +kernel
theorem dX5_readAll_62 : decode cX5_readAll 62 = .ok (.ireturn, 1) := by decide +kernel
theorem dX5_readOne_0 : decode cX5_readOne 0 = .ok (.aload_n 1, 1) := by decide +kernel
theorem dX5_readOne_1 : decode cX5_readOne 1 = .ok (.bipush 40, 2) := by decide +kernel
theorem dX5_readOne_3 : decode cX5_readOne 3 = .ok (.invokevirtual 68, 3) := by decide +kernel
theorem dX5_readOne_6 : decode cX5_readOne 6 = .ok (.istore 4, 2) := by decide +kernel
theorem dX5_readOne_8 : decode cX5_readOne 8 = .ok (.iload 4, 2) := by decide +kernel
theorem dX5_readOne_10 : decode cX5_readOne 10 = .ok (.ifCond .ne 31, 3) := by decide +kernel
theorem dX5_readOne_13 : decode cX5_readOne 13 = .ok (.aload_n 1, 1) := by decide +kernel
theorem dX5_readOne_14 : decode cX5_readOne 14 = .ok (.getfield 45, 3) := by decide +kernel
theorem dX5_readOne_17 : decode cX5_readOne 17 = .ok (.iconst 2, 1) := by decide +kernel
theorem dX5_readOne_18 : decode cX5_readOne 18 = .ok (.if_icmp .ne 17, 3) := by decide +kernel
theorem dX5_readOne_21 : decode cX5_readOne 21 = .ok (.aload_n 1, 1) := by decide +kernel
theorem dX5_readOne_22 : decode cX5_readOne 22 = .ok (.getfield 72, 3) := by decide +kernel
theorem dX5_readOne_25 : decode cX5_readOne 25 = .ok (.bipush 12, 2) := by decide +kernel
theorem dX5_readOne_27 : decode cX5_readOne 27 = .ok (.bipush 24, 2) := by decide +kernel
theorem dX5_readOne_29 : decode cX5_readOne 29 = .ok (.invokestatic 75, 3) := by decide +kernel
theorem dX5_readOne_32 : decode cX5_readOne 32 = .ok (.ifCond .ne 9, 3) := by decide +kernel
theorem dX5_readOne_35 : decode cX5_readOne 35 = .ok (.aload_n 1, 1) := by decide +kernel
theorem dX5_readOne_36 : decode cX5_readOne 36 = .ok (.iconst 1, 1) := by decide +kernel
theorem dX5_readOne_37 : decode cX5_readOne 37 = .ok (.invokevirtual 48, 3) := by decide +kernel
theorem dX5_readOne_40 : decode cX5_readOne 40 = .ok (.ireturn, 1) := by decide +kernel
theorem dX5_readOne_41 : decode cX5_readOne 41 = .ok (.aload_n 0, 1) := by decide +kernel
theorem dX5_readOne_42 : decode cX5_readOne 42 = .ok (.getfield 25, 3) := by decide +kernel
theorem dX5_readOne_45 : decode cX5_readOne 45 = .ok (.bipush 20, 2) := by decide +kernel
theorem dX5_readOne_47 : decode cX5_readOne 47 = .ok (.if_icmp .ge 9, 3) := by decide +kernel
theorem dX5_readOne_50 : decode cX5_readOne 50 = .ok (.iload_n 3, 1) := by decide +kernel
theorem dX5_readOne_51 : decode cX5_readOne 51 = .ok (.bipush 8, 2) := by decide +kernel
theorem dX5_readOne_53 : decode cX5_readOne 53 = .ok (.if_icmp .le 9, 3) := by decide +kernel
theorem dX5_readOne_56 : decode cX5_readOne 56 = .ok (.aload_n 1, 1) := by decide +kernel
theorem dX5_readOne_57 : decode cX5_readOne 57 = .ok (.iconst 4, 1) := by decide +kernel
theorem dX5_readOne_58 : decode cX5_readOne 58 = .ok (.invokevirtual 48, 3) := by decide +kernel
theorem dX5_readOne_61 : decode cX5_readOne 61 = .ok (.ireturn, 1) := by decide +kernel
theorem dX5_readOne_62 : decode cX5_readOne 62 = .ok (.aload_n 0, 1) := by decide +kernel
theorem dX5_readOne_63 : decode cX5_readOne 63 = .ok (.dup, 1) := by decide +kernel
theorem dX5_readOne_64 : decode cX5_readOne 64 = .ok (.getfield 25, 3) := by decide +kernel
theorem dX5_readOne_67 : decode cX5_readOne 67 = .ok (.iconst 1, 1) := by decide +kernel
theorem dX5_readOne_68 : decode cX5_readOne 68 = .ok (.iadd, 1) := by decide +kernel
theorem dX5_readOne_69 : decode cX5_readOne 69 = .ok (.putfield 25, 3) := by decide +kernel
theorem dX5_readOne_72 : decode cX5_readOne 72 = .ok (.aload_n 1, 1) := by decide +kernel
theorem dX5_readOne_73 : decode cX5_readOne 73 = .ok (.getfield 72, 3) := by decide +kernel
theorem dX5_readOne_76 : decode cX5_readOne 76 = .ok (.istore 5, 2) := by decide +kernel
theorem dX5_readOne_78 : decode cX5_readOne 78 = .ok (.aload_n 1, 1) := by decide +kernel
theorem dX5_readOne_79 : decode cX5_readOne 79 = .ok (.invokevirtual 58, 3) := by decide +kernel
theorem dX5_readOne_82 : decode cX5_readOne 82 = .ok (.iload 4, 2) := by decide +kernel
theorem dX5_readOne_84 : decode cX5_readOne 84 = .ok (.ifCond .eq 11, 3) := by decide +kernel
theorem dX5_readOne_87 : decode cX5_readOne 87 = .ok (.aload_n 0, 1) := by decide +kernel
theorem dX5_readOne_88 : decode cX5_readOne 88 = .ok (.aload_n 1, 1) := by decide +kernel
theorem dX5_readOne_89 : decode cX5_readOne 89 = .ok (.aload_n 2, 1) := by decide +kernel
theorem dX5_readOne_90 : decode cX5_readOne 90 = .ok (.iload_n 3, 1) := by decide +kernel
theorem dX5_readOne_91 : decode cX5_readOne 91 = .ok (.invokevirtual 79, 3) := by decide +kernel
theorem dX5_readOne_94 : decode cX5_readOne 94 = .ok (.ireturn, 1) := by decide +kernel
theorem dX5_readOne_95 : decode cX5_readOne 95 = .ok (.iload 5, 2) := by decide +kernel
theorem dX5_readOne_97 : decode cX5_readOne 97 = .ok (.tableswitch 82 12 16 #[35, 59, 66, 72, 72], 35) := by decide +kernel
theorem dX5_readOne_132 : decode cX5_readOne 132 = .ok (.aload_n 0, 1) := by decide +kernel
theorem dX5_readOne_133 : decode cX5_readOne 133 = .ok (.aload_n 1, 1) := by decide +kernel
theorem dX5_readOne_134 : decode cX5_readOne 134 = .ok (.aload_n 2, 1) := by decide +kernel
theorem dX5_readOne_135 : decode cX5_readOne 135 = .ok (.iload_n 3, 1) := by decide +kernel
theorem dX5_readOne_136 : decode cX5_readOne 136 = .ok (.iconst 1, 1) := by decide +kernel
theorem dX5_readOne_137 : decode cX5_readOne 137 = .ok (.iadd, 1) := by decide +kernel
theorem dX5_readOne_138 : decode cX5_readOne 138 = .ok (.invokevirtual 65, 3) := by decide +kernel
theorem dX5_readOne_141 : decode cX5_readOne 141 = .ok (.ifCond .ne 5, 3) := by decide +kernel
theorem dX5_readOne_144 : decode cX5_readOne 144 = .ok (.iconst 0, 1) := by decide +kernel
theorem dX5_readOne_145 : decode cX5_readOne 145 = .ok (.ireturn, 1) := by decide +kernel
theorem dX5_readOne_146 : decode cX5_readOne 146 = .ok (.aload_n 0, 1) := by decide +kernel
theorem dX5_readOne_147 : decode cX5_readOne 147 = .ok (.bipush 12, 2) := by decide +kernel
theorem dX5_readOne_149 : decode cX5_readOne 149 = .ok (.iconst 0, 1) := by decide +kernel
theorem dX5_readOne_150 : decode cX5_readOne 150 = .ok (.iconst 0, 1) := by decide +kernel
theorem dX5_readOne_151 : decode cX5_readOne 151 = .ok (.invokevirtual 61, 3) := by decide +kernel
theorem dX5_readOne_154 : decode cX5_readOne 154 = .ok (.iconst 1, 1) := by decide +kernel
theorem dX5_readOne_155 : decode cX5_readOne 155 = .ok (.ireturn, 1) := by decide +kernel
theorem dX5_readOne_156 : decode cX5_readOne 156 = .ok (.aload_n 0, 1) := by decide +kernel
theorem dX5_readOne_157 : decode cX5_readOne 157 = .ok (.aload_n 1, 1) := by decide +kernel
theorem dX5_readOne_158 : decode cX5_readOne 158 = .ok (.aload_n 2, 1) := by decide +kernel
theorem dX5_readOne_159 : decode cX5_readOne 159 = .ok (.invokevirtual 82, 3) := by decide +kernel
theorem dX5_readOne_162 : decode cX5_readOne 162 = .ok (.ireturn, 1) := by decide +kernel
theorem dX5_readOne_163 : decode cX5_readOne 163 = .ok (.aload_n 0, 1) := by decide +kernel
theorem dX5_readOne_164 : decode cX5_readOne 164 = .ok (.aload_n 1, 1) := by decide +kernel
theorem dX5_readOne_165 : decode cX5_readOne 165 = .ok (.invokevirtual 86, 3) := by decide +kernel
theorem dX5_readOne_168 : decode cX5_readOne 168 = .ok (.ireturn, 1) := by decide +kernel
theorem dX5_readOne_169 : decode cX5_readOne 169 = .ok (.aload_n 0, 1) := by decide +kernel
theorem dX5_readOne_170 : decode cX5_readOne 170 = .ok (.iload 5, 2) := by decide +kernel
theorem dX5_readOne_172 : decode cX5_readOne 172 = .ok (.iconst 0, 1) := by decide +kernel
theorem dX5_readOne_173 : decode cX5_readOne 173 = .ok (.iconst 0, 1) := by decide +kernel
theorem dX5_readOne_174 : decode cX5_readOne 174 = .ok (.invokevirtual 61, 3) := by decide +kernel
theorem dX5_readOne_177 : decode cX5_readOne 177 = .ok (.iconst 1, 1) := by decide +kernel
theorem dX5_readOne_178 : decode cX5_readOne 178 = .ok (.ireturn, 1) := by decide +kernel
theorem dX5_readOne_179 : decode cX5_readOne 179 = .ok (.aload_n 0, 1) := by decide +kernel
theorem dX5_readOne_180 : decode cX5_readOne 180 = .ok (.aload_n 1, 1) := by decide +kernel
theorem dX5_readOne_181 : decode cX5_readOne 181 = .ok (.iload 5, 2) := by decide +kernel
theorem dX5_readOne_183 : decode cX5_readOne 183 = .ok (.invokevirtual 90, 3) := by decide +kernel
theorem dX5_readOne_186 : decode cX5_readOne 186 = .ok (.ireturn, 1) := by decide +kernel
theorem dX5_readBracket_0 : decode cX5_readBracket 0 = .ok (.aload_n 0, 1) := by decide +kernel
theorem dX5_readBracket_1 : decode cX5_readBracket 1 = .ok (.aload_n 1, 1) := by decide +kernel
theorem dX5_readBracket_2 : decode cX5_readBracket 2 = .ok (.aload_n 2, 1) := by decide +kernel
theorem dX5_readBracket_3 : decode cX5_readBracket 3 = .ok (.iload_n 3, 1) := by decide +kernel
theorem dX5_readBracket_4 : decode cX5_readBracket 4 = .ok (.iconst 1, 1) := by decide +kernel
theorem dX5_readBracket_5 : decode cX5_readBracket 5 = .ok (.iadd, 1) := by decide +kernel
theorem dX5_readBracket_6 : decode cX5_readBracket 6 = .ok (.invokevirtual 41, 3) := by decide +kernel
theorem dX5_readBracket_9 : decode cX5_readBracket 9 = .ok (.ifCond .ne 5, 3) := by decide +kernel
theorem dX5_readBracket_12 : decode cX5_readBracket 12 = .ok (.iconst 0, 1) := by decide +kernel
theorem dX5_readBracket_13 : decode cX5_readBracket 13 = .ok (.ireturn, 1) := by decide +kernel
theorem dX5_readBracket_14 : decode cX5_readBracket 14 = .ok (.aload_n 1, 1) := by decide +kernel
theorem dX5_readBracket_15 : decode cX5_readBracket 15 = .ok (.bipush 41, 2) := by decide +kernel
theorem dX5_readBracket_17 : decode cX5_readBracket 17 = .ok (.invokevirtual 68, 3) := by decide +kernel
theorem dX5_readBracket_20 : decode cX5_readBracket 20 = .ok (.ifCond .ne 9, 3) := by decide +kernel
theorem dX5_readBracket_23 : decode cX5_readBracket 23 = .ok (.aload_n 1, 1) := by decide +kernel
theorem dX5_readBracket_24 : decode cX5_readBracket 24 = .ok (.iconst 1, 1) := by decide +kernel
theorem dX5_readBracket_25 : decode cX5_readBracket 25 = .ok (.invokevirtual 48, 3) := by decide +kernel
theorem dX5_readBracket_28 : decode cX5_readBracket 28 = .ok (.ireturn, 1) := by decide +kernel
theorem dX5_readBracket_29 : decode cX5_readBracket 29 = .ok (.aload_n 1, 1) := by decide +kernel
theorem dX5_readBracket_30 : decode cX5_readBracket 30 = .ok (.invokevirtual 58, 3) := by decide +kernel
theorem dX5_readBracket_33 : decode cX5_readBracket 33 = .ok (.iconst 1, 1) := by decide +kernel
theorem dX5_readBracket_34 : decode cX5_readBracket 34 = .ok (.ireturn, 1) := by decide +kernel
theorem dX5_readIs_0 : decode cX5_readIs 0 = .ok (.aload_n 1, 1) := by decide +kernel
theorem dX5_readIs_1 : decode cX5_readIs 1 = .ok (.getfield 45, 3) := by decide +kernel
theorem dX5_readIs_4 : decode cX5_readIs 4 = .ok (.iconst 3, 1) := by decide +kernel
theorem dX5_readIs_5 : decode cX5_readIs 5 = .ok (.if_icmp .eq 9, 3) := by decide +kernel
theorem dX5_readIs_8 : decode cX5_readIs 8 = .ok (.aload_n 1, 1) := by decide +kernel
theorem dX5_readIs_9 : decode cX5_readIs 9 = .ok (.iconst 1, 1) := by decide +kernel
theorem dX5_readIs_10 : decode cX5_readIs 10 = .ok (.invokevirtual 48, 3) := by decide +kernel
theorem dX5_readIs_13 : decode cX5_readIs 13 = .ok (.ireturn, 1) := by decide +kernel
theorem dX5_readIs_14 : decode cX5_readIs 14 = .ok (.aload_n 2, 1) := by decide +kernel
theorem dX5_readIs_15 : decode cX5_readIs 15 = .ok (.iconst 2, 1) := by decide +kernel
theorem dX5_readIs_16 : decode cX5_readIs 16 = .ok (.aload_n 1, 1) := by decide +kernel
theorem dX5_readIs_17 : decode cX5_readIs 17 = .ok (.getfield 94, 3) := by decide +kernel
theorem dX5_readIs_20 : decode cX5_readIs 20 = .ok (.invokevirtual 98, 3) := by decide +kernel
theorem dX5_readIs_23 : decode cX5_readIs 23 = .ok (.istore_n 3, 1) := by decide +kernel
theorem dX5_readIs_24 : decode cX5_readIs 24 = .ok (.iload_n 3, 1) := by decide +kernel
theorem dX5_readIs_25 : decode cX5_readIs 25 = .ok (.iconst (-1), 1) := by decide +kernel
theorem dX5_readIs_26 : decode cX5_readIs 26 = .ok (.if_icmp .ne 9, 3) := by decide +kernel
theorem dX5_readIs_29 : decode cX5_readIs 29 = .ok (.aload_n 1, 1) := by decide +kernel
theorem dX5_readIs_30 : decode cX5_readIs 30 = .ok (.iconst 3, 1) := by decide +kernel
theorem dX5_readIs_31 : decode cX5_readIs 31 = .ok (.invokevirtual 48, 3) := by decide +kernel
theorem dX5_readIs_34 : decode cX5_readIs 34 = .ok (.ireturn, 1) := by decide +kernel
theorem dX5_readIs_35 : decode cX5_readIs 35 = .ok (.aload_n 0, 1) := by decide +kernel
theorem dX5_readIs_36 : decode cX5_readIs 36 = .ok (.bipush 13, 2) := by decide +kernel
theorem dX5_readIs_38 : decode cX5_readIs 38 = .ok (.iconst 0, 1) := by decide +kernel
theorem dX5_readIs_39 : decode cX5_readIs 39 = .ok (.iload_n 3, 1) := by decide +kernel
theorem dX5_readIs_40 : decode cX5_readIs 40 = .ok (.invokevirtual 61, 3) := by decide +kernel
theorem dX5_readIs_43 : decode cX5_readIs 43 = .ok (.aload_n 1, 1) := by decide +kernel
theorem dX5_readIs_44 : decode cX5_readIs 44 = .ok (.invokevirtual 58, 3) := by decide +kernel
theorem dX5_readIs_47 : decode cX5_readIs 47 = .ok (.iconst 1, 1) := by decide +kernel
theorem dX5_readIs_48 : decode cX5_readIs 48 = .ok (.ireturn, 1) := by decide +kernel
theorem dX5_readCompared_0 : decode cX5_readCompared 0 = .ok (.aload_n 1, 1) := by decide +kernel
theorem dX5_readCompared_1 : decode cX5_readCompared 1 = .ok (.bipush 60, 2) := by decide +kernel
theorem dX5_readCompared_3 : decode cX5_readCompared 3 = .ok (.invokevirtual 68, 3) := by decide +kernel
theorem dX5_readCompared_6 : decode cX5_readCompared 6 = .ok (.ifCond .ne 27, 3) := by decide +kernel
theorem dX5_readCompared_9 : decode cX5_readCompared 9 = .ok (.aload_n 1, 1) := by decide +kernel
theorem dX5_readCompared_10 : decode cX5_readCompared 10 = .ok (.bipush 61, 2) := by decide +kernel
theorem dX5_readCompared_12 : decode cX5_readCompared 12 = .ok (.invokevirtual 68, 3) := by decide +kernel
theorem dX5_readCompared_15 : decode cX5_readCompared 15 = .ok (.ifCond .ne 18, 3) := by decide +kernel
theorem dX5_readCompared_18 : decode cX5_readCompared 18 = .ok (.aload_n 1, 1) := by decide +kernel
theorem dX5_readCompared_19 : decode cX5_readCompared 19 = .ok (.bipush 62, 2) := by decide +kernel
theorem dX5_readCompared_21 : decode cX5_readCompared 21 = .ok (.invokevirtual 68, 3) := by decide +kernel
theorem dX5_readCompared_24 : decode cX5_readCompared 24 = .ok (.ifCond .ne 9, 3) := by decide +kernel
theorem dX5_readCompared_27 : decode cX5_readCompared 27 = .ok (.aload_n 1, 1) := by decide +kernel
theorem dX5_readCompared_28 : decode cX5_readCompared 28 = .ok (.iconst 1, 1) := by decide +kernel
theorem dX5_readCompared_29 : decode cX5_readCompared 29 = .ok (.invokevirtual 48, 3) := by decide +kernel
theorem dX5_readCompared_32 : decode cX5_readCompared 32 = .ok (.ireturn, 1) := by decide +kernel
theorem dX5_readCompared_33 : decode cX5_readCompared 33 = .ok (.aload_n 1, 1) := by decide +kernel
theorem dX5_readCompared_34 : decode cX5_readCompared 34 = .ok (.getfield 72, 3) := by decide +kernel
theorem dX5_readCompared_37 : decode cX5_readCompared 37 = .ok (.istore_n 3, 1) := by decide +kernel
theorem dX5_readCompared_38 : decode cX5_readCompared 38 = .ok (.aload_n 1, 1) := by decide +kernel
theorem dX5_readCompared_39 : decode cX5_readCompared 39 = .ok (.invokevirtual 58, 3) := by decide +kernel
theorem dX5_readCompared_42 : decode cX5_readCompared 42 = .ok (.aload_n 1, 1) := by decide +kernel
theorem dX5_readCompared_43 : decode cX5_readCompared 43 = .ok (.iconst 0, 1) := by decide +kernel
theorem dX5_readCompared_44 : decode cX5_readCompared 44 = .ok (.sipush 999, 3) := by decide +kernel
theorem dX5_readCompared_47 : decode cX5_readCompared 47 = .ok (.invokevirtual 104, 3) := by decide +kernel
theorem dX5_readCompared_50 : decode cX5_readCompared 50 = .ok (.istore 4, 2) := by decide +kernel
theorem dX5_readCompared_52 : decode cX5_readCompared 52 = .ok (.aload_n 0, 1) := by decide +kernel
theorem dX5_readCompared_53 : decode cX5_readCompared 53 = .ok (.iload_n 2, 1) := by decide +kernel
theorem dX5_readCompared_54 : decode cX5_readCompared 54 = .ok (.iload_n 3, 1) := by decide +kernel
theorem dX5_readCompared_55 : decode cX5_readCompared 55 = .ok (.iload 4, 2) := by decide +kernel
theorem dX5_readCompared_57 : decode cX5_readCompared 57 = .ok (.invokevirtual 61, 3) := by decide +kernel
theorem dX5_readCompared_60 : decode cX5_readCompared 60 = .ok (.iload 4, 2) := by decide +kernel
theorem dX5_readCompared_62 : decode cX5_readCompared 62 = .ok (.iconst (-1), 1) := by decide +kernel
theorem dX5_readCompared_63 : decode cX5_readCompared 63 = .ok (.if_icmp .eq 7, 3) := by decide +kernel
theorem dX5_readCompared_66 : decode cX5_readCompared 66 = .ok (.iconst 1, 1) := by decide +kernel
theorem dX5_readCompared_67 : decode cX5_readCompared 67 = .ok (.goto 4, 3) := by decide +kernel
theorem dX5_readCompared_70 : decode cX5_readCompared 70 = .ok (.iconst 0, 1) := by decide +kernel
theorem dX5_readCompared_71 : decode cX5_readCompared 71 = .ok (.ireturn, 1) := by decide +kernel
theorem dX5_readStands_0 : decode cX5_readStands 0 = .ok (.aload_n 1, 1) := by decide +kernel
theorem dX5_readStands_1 : decode cX5_readStands 1 = .ok (.iconst 0, 1) := by decide +kernel
theorem dX5_readStands_2 : decode cX5_readStands 2 = .ok (.iconst 5, 1) := by decide +kernel
theorem dX5_readStands_3 : decode cX5_readStands 3 = .ok (.invokevirtual 104, 3) := by decide +kernel
theorem dX5_readStands_6 : decode cX5_readStands 6 = .ok (.istore_n 2, 1) := by decide +kernel
theorem dX5_readStands_7 : decode cX5_readStands 7 = .ok (.aload_n 0, 1) := by decide +kernel
theorem dX5_readStands_8 : decode cX5_readStands 8 = .ok (.bipush 14, 2) := by decide +kernel
theorem dX5_readStands_10 : decode cX5_readStands 10 = .ok (.iconst 0, 1) := by decide +kernel
theorem dX5_readStands_11 : decode cX5_readStands 11 = .ok (.iload_n 2, 1) := by decide +kernel
theorem dX5_readStands_12 : decode cX5_readStands 12 = .ok (.invokevirtual 61, 3) := by decide +kernel
theorem dX5_readStands_15 : decode cX5_readStands 15 = .ok (.iload_n 2, 1) := by decide +kernel
theorem dX5_readStands_16 : decode cX5_readStands 16 = .ok (.iconst (-1), 1) := by decide +kernel
theorem dX5_readStands_17 : decode cX5_readStands 17 = .ok (.if_icmp .eq 7, 3) := by decide +kernel
theorem dX5_readStands_20 : decode cX5_readStands 20 = .ok (.iconst 1, 1) := by decide +kernel
theorem dX5_readStands_21 : decode cX5_readStands 21 = .ok (.goto 4, 3) := by decide +kernel
theorem dX5_readStands_24 : decode cX5_readStands 24 = .ok (.iconst 0, 1) := by decide +kernel
theorem dX5_readStands_25 : decode cX5_readStands 25 = .ok (.ireturn, 1) := by decide +kernel
theorem dX5_addStep_0 : decode cX5_addStep 0 = .ok (.aload_n 0, 1) := by decide +kernel
theorem dX5_addStep_1 : decode cX5_addStep 1 = .ok (.getfield 21, 3) := by decide +kernel
theorem dX5_addStep_4 : decode cX5_addStep 4 = .ok (.bipush 40, 2) := by decide +kernel
theorem dX5_addStep_6 : decode cX5_addStep 6 = .ok (.if_icmp .ge 43, 3) := by decide +kernel
theorem dX5_addStep_9 : decode cX5_addStep 9 = .ok (.aload_n 0, 1) := by decide +kernel
theorem dX5_addStep_10 : decode cX5_addStep 10 = .ok (.getfield 11, 3) := by decide +kernel
theorem dX5_addStep_13 : decode cX5_addStep 13 = .ok (.aload_n 0, 1) := by decide +kernel
theorem dX5_addStep_14 : decode cX5_addStep 14 = .ok (.getfield 21, 3) := by decide +kernel
theorem dX5_addStep_17 : decode cX5_addStep 17 = .ok (.iload_n 1, 1) := by decide +kernel
theorem dX5_addStep_18 : decode cX5_addStep 18 = .ok (.iastore, 1) := by decide +kernel
theorem dX5_addStep_19 : decode cX5_addStep 19 = .ok (.aload_n 0, 1) := by decide +kernel
theorem dX5_addStep_20 : decode cX5_addStep 20 = .ok (.getfield 15, 3) := by decide +kernel
theorem dX5_addStep_23 : decode cX5_addStep 23 = .ok (.aload_n 0, 1) := by decide +kernel
theorem dX5_addStep_24 : decode cX5_addStep 24 = .ok (.getfield 21, 3) := by decide +kernel
theorem dX5_addStep_27 : decode cX5_addStep 27 = .ok (.iload_n 2, 1) := by decide +kernel
theorem dX5_addStep_28 : decode cX5_addStep 28 = .ok (.iastore, 1) := by decide +kernel
theorem dX5_addStep_29 : decode cX5_addStep 29 = .ok (.aload_n 0, 1) := by decide +kernel
theorem dX5_addStep_30 : decode cX5_addStep 30 = .ok (.getfield 18, 3) := by decide +kernel
theorem dX5_addStep_33 : decode cX5_addStep 33 = .ok (.aload_n 0, 1) := by decide +kernel
theorem dX5_addStep_34 : decode cX5_addStep 34 = .ok (.getfield 21, 3) := by decide +kernel
theorem dX5_addStep_37 : decode cX5_addStep 37 = .ok (.iload_n 3, 1) := by decide +kernel
theorem dX5_addStep_38 : decode cX5_addStep 38 = .ok (.iastore, 1) := by decide +kernel
theorem dX5_addStep_39 : decode cX5_addStep 39 = .ok (.aload_n 0, 1) := by decide +kernel
theorem dX5_addStep_40 : decode cX5_addStep 40 = .ok (.dup, 1) := by decide +kernel
theorem dX5_addStep_41 : decode cX5_addStep 41 = .ok (.getfield 21, 3) := by decide +kernel
theorem dX5_addStep_44 : decode cX5_addStep 44 = .ok (.iconst 1, 1) := by decide +kernel
theorem dX5_addStep_45 : decode cX5_addStep 45 = .ok (.iadd, 1) := by decide +kernel
theorem dX5_addStep_46 : decode cX5_addStep 46 = .ok (.putfield 21, 3) := by decide +kernel
theorem dX5_addStep_49 : decode cX5_addStep 49 = .ok (.return_, 1) := by decide +kernel
theorem dX5_holdsFor_0 : decode cX5_holdsFor 0 = .ok (.iconst 0, 1) := by decide +kernel
theorem dX5_holdsFor_1 : decode cX5_holdsFor 1 = .ok (.istore 4, 2) := by decide +kernel
theorem dX5_holdsFor_3 : decode cX5_holdsFor 3 = .ok (.iconst 0, 1) := by decide +kernel
theorem dX5_holdsFor_4 : decode cX5_holdsFor 4 = .ok (.istore 5, 2) := by decide +kernel
theorem dX5_holdsFor_6 : decode cX5_holdsFor 6 = .ok (.iload 5, 2) := by decide +kernel
theorem dX5_holdsFor_8 : decode cX5_holdsFor 8 = .ok (.aload_n 0, 1) := by decide +kernel
theorem dX5_holdsFor_9 : decode cX5_holdsFor 9 = .ok (.getfield 21, 3) := by decide +kernel
theorem dX5_holdsFor_12 : decode cX5_holdsFor 12 = .ok (.if_icmp .ge 110, 3) := by decide +kernel
theorem dX5_holdsFor_15 : decode cX5_holdsFor 15 = .ok (.iload 4, 2) := by decide +kernel
theorem dX5_holdsFor_17 : decode cX5_holdsFor 17 = .ok (.iconst 1, 1) := by decide +kernel
theorem dX5_holdsFor_18 : decode cX5_holdsFor 18 = .ok (.iand, 1) := by decide +kernel
theorem dX5_holdsFor_19 : decode cX5_holdsFor 19 = .ok (.istore 6, 2) := by decide +kernel
theorem dX5_holdsFor_21 : decode cX5_holdsFor 21 = .ok (.aload_n 0, 1) := by decide +kernel
theorem dX5_holdsFor_22 : decode cX5_holdsFor 22 = .ok (.getfield 11, 3) := by decide +kernel
theorem dX5_holdsFor_25 : decode cX5_holdsFor 25 = .ok (.iload 5, 2) := by decide +kernel
theorem dX5_holdsFor_27 : decode cX5_holdsFor 27 = .ok (.iaload, 1) := by decide +kernel
theorem dX5_holdsFor_28 : decode cX5_holdsFor 28 = .ok (.tableswitch 64 10 12 #[28, 40, 55], 28) := by decide +kernel
theorem dX5_holdsFor_56 : decode cX5_holdsFor 56 = .ok (.iload 4, 2) := by decide +kernel
theorem dX5_holdsFor_58 : decode cX5_holdsFor 58 = .ok (.iconst 1, 1) := by decide +kernel
theorem dX5_holdsFor_59 : decode cX5_holdsFor 59 = .ok (.ishr, 1) := by decide +kernel
theorem dX5_holdsFor_60 : decode cX5_holdsFor 60 = .ok (.iload 6, 2) := by decide +kernel
theorem dX5_holdsFor_62 : decode cX5_holdsFor 62 = .ok (.ior, 1) := by decide +kernel
theorem dX5_holdsFor_63 : decode cX5_holdsFor 63 = .ok (.istore 4, 2) := by decide +kernel
theorem dX5_holdsFor_65 : decode cX5_holdsFor 65 = .ok (.goto 51, 3) := by decide +kernel
theorem dX5_holdsFor_68 : decode cX5_holdsFor 68 = .ok (.iload 4, 2) := by decide +kernel
theorem dX5_holdsFor_70 : decode cX5_holdsFor 70 = .ok (.iconst 1, 1) := by decide +kernel
theorem dX5_holdsFor_71 : decode cX5_holdsFor 71 = .ok (.ishr, 1) := by decide +kernel
theorem dX5_holdsFor_72 : decode cX5_holdsFor 72 = .ok (.bipush (-2), 2) := by decide +kernel
theorem dX5_holdsFor_74 : decode cX5_holdsFor 74 = .ok (.iload 6, 2) := by decide +kernel
theorem dX5_holdsFor_76 : decode cX5_holdsFor 76 = .ok (.ior, 1) := by decide +kernel
theorem dX5_holdsFor_77 : decode cX5_holdsFor 77 = .ok (.iand, 1) := by decide +kernel
theorem dX5_holdsFor_78 : decode cX5_holdsFor 78 = .ok (.istore 4, 2) := by decide +kernel
theorem dX5_holdsFor_80 : decode cX5_holdsFor 80 = .ok (.goto 36, 3) := by decide +kernel
theorem dX5_holdsFor_83 : decode cX5_holdsFor 83 = .ok (.iload 4, 2) := by decide +kernel
theorem dX5_holdsFor_85 : decode cX5_holdsFor 85 = .ok (.iconst 1, 1) := by decide +kernel
theorem dX5_holdsFor_86 : decode cX5_holdsFor 86 = .ok (.ixor, 1) := by decide +kernel
theorem dX5_holdsFor_87 : decode cX5_holdsFor 87 = .ok (.istore 4, 2) := by decide +kernel
theorem dX5_holdsFor_89 : decode cX5_holdsFor 89 = .ok (.goto 27, 3) := by decide +kernel
theorem dX5_holdsFor_92 : decode cX5_holdsFor 92 = .ok (.iload 4, 2) := by decide +kernel
theorem dX5_holdsFor_94 : decode cX5_holdsFor 94 = .ok (.iconst 1, 1) := by decide +kernel
theorem dX5_holdsFor_95 : decode cX5_holdsFor 95 = .ok (.ishl, 1) := by decide +kernel
theorem dX5_holdsFor_96 : decode cX5_holdsFor 96 = .ok (.aload_n 0, 1) := by decide +kernel
theorem dX5_holdsFor_97 : decode cX5_holdsFor 97 = .ok (.iload 5, 2) := by decide +kernel
theorem dX5_holdsFor_99 : decode cX5_holdsFor 99 = .ok (.aload_n 1, 1) := by decide +kernel
theorem dX5_holdsFor_100 : decode cX5_holdsFor 100 = .ok (.iload_n 2, 1) := by decide +kernel
theorem dX5_holdsFor_101 : decode cX5_holdsFor 101 = .ok (.iload_n 3, 1) := by decide +kernel
theorem dX5_holdsFor_102 : decode cX5_holdsFor 102 = .ok (.invokevirtual 108, 3) := by decide +kernel
theorem dX5_holdsFor_105 : decode cX5_holdsFor 105 = .ok (.ifCond .eq 7, 3) := by decide +kernel
theorem dX5_holdsFor_108 : decode cX5_holdsFor 108 = .ok (.iconst 1, 1) := by decide +kernel
theorem dX5_holdsFor_109 : decode cX5_holdsFor 109 = .ok (.goto 4, 3) := by decide +kernel
theorem dX5_holdsFor_112 : decode cX5_holdsFor 112 = .ok (.iconst 0, 1) := by decide +kernel
theorem dX5_holdsFor_113 : decode cX5_holdsFor 113 = .ok (.ior, 1) := by decide +kernel
theorem dX5_holdsFor_114 : decode cX5_holdsFor 114 = .ok (.istore 4, 2) := by decide +kernel
theorem dX5_holdsFor_116 : decode cX5_holdsFor 116 = .ok (.iinc 5 1, 3) := by decide +kernel
theorem dX5_holdsFor_119 : decode cX5_holdsFor 119 = .ok (.goto (-113), 3) := by decide +kernel
theorem dX5_holdsFor_122 : decode cX5_holdsFor 122 = .ok (.iload 4, 2) := by decide +kernel
theorem dX5_holdsFor_124 : decode cX5_holdsFor 124 = .ok (.iconst 1, 1) := by decide +kernel
theorem dX5_holdsFor_125 : decode cX5_holdsFor 125 = .ok (.iand, 1) := by decide +kernel
theorem dX5_holdsFor_126 : decode cX5_holdsFor 126 = .ok (.ifCond .eq 7, 3) := by decide +kernel
theorem dX5_holdsFor_129 : decode cX5_holdsFor 129 = .ok (.iconst 1, 1) := by decide +kernel
theorem dX5_holdsFor_130 : decode cX5_holdsFor 130 = .ok (.goto 4, 3) := by decide +kernel
theorem dX5_holdsFor_133 : decode cX5_holdsFor 133 = .ok (.iconst 0, 1) := by decide +kernel
theorem dX5_holdsFor_134 : decode cX5_holdsFor 134 = .ok (.ireturn, 1) := by decide +kernel
theorem dX5_isTrue_0 : decode cX5_isTrue 0 = .ok (.aload_n 0, 1) := by decide +kernel
theorem dX5_isTrue_1 : decode cX5_isTrue 1 = .ok (.getfield 11, 3) := by decide +kernel
theorem dX5_isTrue_4 : decode cX5_isTrue 4 = .ok (.iload_n 1, 1) := by decide +kernel
theorem dX5_isTrue_5 : decode cX5_isTrue 5 = .ok (.iaload, 1) := by decide +kernel
theorem dX5_isTrue_6 : decode cX5_isTrue 6 = .ok (.tableswitch 105 13 16 #[30, 51, 73, 89], 30) := by decide +kernel
theorem dX5_isTrue_36 : decode cX5_isTrue 36 = .ok (.aload_n 2, 1) := by decide +kernel
theorem dX5_isTrue_37 : decode cX5_isTrue 37 = .ok (.iload_n 3, 1) := by decide +kernel
theorem dX5_isTrue_38 : decode cX5_isTrue 38 = .ok (.iconst 0, 1) := by decide +kernel
theorem dX5_isTrue_39 : decode cX5_isTrue 39 = .ok (.invokevirtual 114, 3) := by decide +kernel
theorem dX5_isTrue_42 : decode cX5_isTrue 42 = .ok (.aload_n 0, 1) := by decide +kernel
theorem dX5_isTrue_43 : decode cX5_isTrue 43 = .ok (.getfield 18, 3) := by decide +kernel
theorem dX5_isTrue_46 : decode cX5_isTrue 46 = .ok (.iload_n 1, 1) := by decide +kernel
theorem dX5_isTrue_47 : decode cX5_isTrue 47 = .ok (.iaload, 1) := by decide +kernel
theorem dX5_isTrue_48 : decode cX5_isTrue 48 = .ok (.if_icmp .ne 7, 3) := by decide +kernel
theorem dX5_isTrue_51 : decode cX5_isTrue 51 = .ok (.iconst 1, 1) := by decide +kernel
theorem dX5_isTrue_52 : decode cX5_isTrue 52 = .ok (.goto 4, 3) := by decide +kernel
theorem dX5_isTrue_55 : decode cX5_isTrue 55 = .ok (.iconst 0, 1) := by decide +kernel
theorem dX5_isTrue_56 : decode cX5_isTrue 56 = .ok (.ireturn, 1) := by decide +kernel
theorem dX5_isTrue_57 : decode cX5_isTrue 57 = .ok (.aload_n 2, 1) := by decide +kernel
theorem dX5_isTrue_58 : decode cX5_isTrue 58 = .ok (.iload_n 3, 1) := by decide +kernel
theorem dX5_isTrue_59 : decode cX5_isTrue 59 = .ok (.bipush 12, 2) := by decide +kernel
theorem dX5_isTrue_61 : decode cX5_isTrue 61 = .ok (.invokevirtual 114, 3) := by decide +kernel
theorem dX5_isTrue_64 : decode cX5_isTrue 64 = .ok (.aload_n 0, 1) := by decide +kernel
theorem dX5_isTrue_65 : decode cX5_isTrue 65 = .ok (.getfield 18, 3) := by decide +kernel
theorem dX5_isTrue_68 : decode cX5_isTrue 68 = .ok (.iload_n 1, 1) := by decide +kernel
theorem dX5_isTrue_69 : decode cX5_isTrue 69 = .ok (.iaload, 1) := by decide +kernel
theorem dX5_isTrue_70 : decode cX5_isTrue 70 = .ok (.if_icmp .ne 7, 3) := by decide +kernel
theorem dX5_isTrue_73 : decode cX5_isTrue 73 = .ok (.iconst 1, 1) := by decide +kernel
theorem dX5_isTrue_74 : decode cX5_isTrue 74 = .ok (.goto 4, 3) := by decide +kernel
theorem dX5_isTrue_77 : decode cX5_isTrue 77 = .ok (.iconst 0, 1) := by decide +kernel
theorem dX5_isTrue_78 : decode cX5_isTrue 78 = .ok (.ireturn, 1) := by decide +kernel
theorem dX5_isTrue_79 : decode cX5_isTrue 79 = .ok (.aload_n 2, 1) := by decide +kernel
theorem dX5_isTrue_80 : decode cX5_isTrue 80 = .ok (.iload_n 3, 1) := by decide +kernel
theorem dX5_isTrue_81 : decode cX5_isTrue 81 = .ok (.bipush 10, 2) := by decide +kernel
theorem dX5_isTrue_83 : decode cX5_isTrue 83 = .ok (.invokevirtual 114, 3) := by decide +kernel
theorem dX5_isTrue_86 : decode cX5_isTrue 86 = .ok (.ifCond .eq 7, 3) := by decide +kernel
theorem dX5_isTrue_89 : decode cX5_isTrue 89 = .ok (.iconst 1, 1) := by decide +kernel
theorem dX5_isTrue_90 : decode cX5_isTrue 90 = .ok (.goto 4, 3) := by decide +kernel
theorem dX5_isTrue_93 : decode cX5_isTrue 93 = .ok (.iconst 0, 1) := by decide +kernel
theorem dX5_isTrue_94 : decode cX5_isTrue 94 = .ok (.ireturn, 1) := by decide +kernel
theorem dX5_isTrue_95 : decode cX5_isTrue 95 = .ok (.aload_n 2, 1) := by decide +kernel
theorem dX5_isTrue_96 : decode cX5_isTrue 96 = .ok (.iload_n 3, 1) := by decide +kernel
theorem dX5_isTrue_97 : decode cX5_isTrue 97 = .ok (.bipush 11, 2) := by decide +kernel
theorem dX5_isTrue_99 : decode cX5_isTrue 99 = .ok (.invokevirtual 114, 3) := by decide +kernel
theorem dX5_isTrue_102 : decode cX5_isTrue 102 = .ok (.ifCond .eq 7, 3) := by decide +kernel
theorem dX5_isTrue_105 : decode cX5_isTrue 105 = .ok (.iconst 1, 1) := by decide +kernel
theorem dX5_isTrue_106 : decode cX5_isTrue 106 = .ok (.goto 4, 3) := by decide +kernel
theorem dX5_isTrue_109 : decode cX5_isTrue 109 = .ok (.iconst 0, 1) := by decide +kernel
theorem dX5_isTrue_110 : decode cX5_isTrue 110 = .ok (.ireturn, 1) := by decide +kernel
theorem dX5_isTrue_111 : decode cX5_isTrue 111 = .ok (.aload_n 0, 1) := by decide +kernel
theorem dX5_isTrue_112 : decode cX5_isTrue 112 = .ok (.getfield 11, 3) := by decide +kernel
theorem dX5_isTrue_115 : decode cX5_isTrue 115 = .ok (.iload_n 1, 1) := by decide +kernel
theorem dX5_isTrue_116 : decode cX5_isTrue 116 = .ok (.iaload, 1) := by decide +kernel
theorem dX5_isTrue_117 : decode cX5_isTrue 117 = .ok (.aload_n 2, 1) := by decide +kernel
theorem dX5_isTrue_118 : decode cX5_isTrue 118 = .ok (.iload_n 3, 1) := by decide +kernel
theorem dX5_isTrue_119 : decode cX5_isTrue 119 = .ok (.iload 4, 2) := by decide +kernel
theorem dX5_isTrue_121 : decode cX5_isTrue 121 = .ok (.invokestatic 117, 3) := by decide +kernel
theorem dX5_isTrue_124 : decode cX5_isTrue 124 = .ok (.istore 5, 2) := by decide +kernel
theorem dX5_isTrue_126 : decode cX5_isTrue 126 = .ok (.aload_n 0, 1) := by decide +kernel
theorem dX5_isTrue_127 : decode cX5_isTrue 127 = .ok (.getfield 15, 3) := by decide +kernel
theorem dX5_isTrue_130 : decode cX5_isTrue 130 = .ok (.iload_n 1, 1) := by decide +kernel
theorem dX5_isTrue_131 : decode cX5_isTrue 131 = .ok (.iaload, 1) := by decide +kernel
theorem dX5_isTrue_132 : decode cX5_isTrue 132 = .ok (.bipush 60, 2) := by decide +kernel
theorem dX5_isTrue_134 : decode cX5_isTrue 134 = .ok (.if_icmp .ne 22, 3) := by decide +kernel
theorem dX5_isTrue_137 : decode cX5_isTrue 137 = .ok (.iload 5, 2) := by decide +kernel
theorem dX5_isTrue_139 : decode cX5_isTrue 139 = .ok (.aload_n 0, 1) := by decide +kernel
theorem dX5_isTrue_140 : decode cX5_isTrue 140 = .ok (.getfield 18, 3) := by decide +kernel
theorem dX5_isTrue_143 : decode cX5_isTrue 143 = .ok (.iload_n 1, 1) := by decide +kernel
theorem dX5_isTrue_144 : decode cX5_isTrue 144 = .ok (.iaload, 1) := by decide +kernel
theorem dX5_isTrue_145 : decode cX5_isTrue 145 = .ok (.if_icmp .ge 7, 3) := by decide +kernel
theorem dX5_isTrue_148 : decode cX5_isTrue 148 = .ok (.iconst 1, 1) := by decide +kernel
theorem dX5_isTrue_149 : decode cX5_isTrue 149 = .ok (.goto 53, 3) := by decide +kernel
theorem dX5_isTrue_152 : decode cX5_isTrue 152 = .ok (.iconst 0, 1) := by decide +kernel
theorem dX5_isTrue_153 : decode cX5_isTrue 153 = .ok (.goto 49, 3) := by decide +kernel
theorem dX5_isTrue_156 : decode cX5_isTrue 156 = .ok (.aload_n 0, 1) := by decide +kernel
theorem dX5_isTrue_157 : decode cX5_isTrue 157 = .ok (.getfield 15, 3) := by decide +kernel
theorem dX5_isTrue_160 : decode cX5_isTrue 160 = .ok (.iload_n 1, 1) := by decide +kernel
theorem dX5_isTrue_161 : decode cX5_isTrue 161 = .ok (.iaload, 1) := by decide +kernel
theorem dX5_isTrue_162 : decode cX5_isTrue 162 = .ok (.bipush 62, 2) := by decide +kernel
theorem dX5_isTrue_164 : decode cX5_isTrue 164 = .ok (.if_icmp .ne 22, 3) := by decide +kernel
theorem dX5_isTrue_167 : decode cX5_isTrue 167 = .ok (.iload 5, 2) := by decide +kernel
theorem dX5_isTrue_169 : decode cX5_isTrue 169 = .ok (.aload_n 0, 1) := by decide +kernel
theorem dX5_isTrue_170 : decode cX5_isTrue 170 = .ok (.getfield 18, 3) := by decide +kernel
theorem dX5_isTrue_173 : decode cX5_isTrue 173 = .ok (.iload_n 1, 1) := by decide +kernel
theorem dX5_isTrue_174 : decode cX5_isTrue 174 = .ok (.iaload, 1) := by decide +kernel
theorem dX5_isTrue_175 : decode cX5_isTrue 175 = .ok (.if_icmp .le 7, 3) := by decide +kernel
theorem dX5_isTrue_178 : decode cX5_isTrue 178 = .ok (.iconst 1, 1) := by decide +kernel
theorem dX5_isTrue_179 : decode cX5_isTrue 179 = .ok (.goto 23, 3) := by decide +kernel
theorem dX5_isTrue_182 : decode cX5_isTrue 182 = .ok (.iconst 0, 1) := by decide +kernel
theorem dX5_isTrue_183 : decode cX5_isTrue 183 = .ok (.goto 19, 3) := by decide +kernel
theorem dX5_isTrue_186 : decode cX5_isTrue 186 = .ok (.iload 5, 2) := by decide +kernel
theorem dX5_isTrue_188 : decode cX5_isTrue 188 = .ok (.aload_n 0, 1) := by decide +kernel
theorem dX5_isTrue_189 : decode cX5_isTrue 189 = .ok (.getfield 18, 3) := by decide +kernel
theorem dX5_isTrue_192 : decode cX5_isTrue 192 = .ok (.iload_n 1, 1) := by decide +kernel
theorem dX5_isTrue_193 : decode cX5_isTrue 193 = .ok (.iaload, 1) := by decide +kernel
theorem dX5_isTrue_194 : decode cX5_isTrue 194 = .ok (.if_icmp .ne 7, 3) := by decide +kernel
theorem dX5_isTrue_197 : decode cX5_isTrue 197 = .ok (.iconst 1, 1) := by decide +kernel
theorem dX5_isTrue_198 : decode cX5_isTrue 198 = .ok (.goto 4, 3) := by decide +kernel
theorem dX5_isTrue_201 : decode cX5_isTrue 201 = .ok (.iconst 0, 1) := by decide +kernel
theorem dX5_isTrue_202 : decode cX5_isTrue 202 = .ok (.ireturn, 1) := by decide +kernel
theorem dX5_measure_0 : decode cX5_measure 0 = .ok (.iload_n 0, 1) := by decide +kernel
theorem dX5_measure_1 : decode cX5_measure 1 = .ok (.tableswitch 100 17 23 #[43, 53, 63, 71, 78, 85, 92], 43) := by decide +kernel
theorem dX5_measure_44 : decode cX5_measure 44 = .ok (.iload_n 3, 1) := by decide +kernel
theorem dX5_measure_45 : decode cX5_measure 45 = .ok (.aload_n 1, 1) := by decide +kernel
theorem dX5_measure_46 : decode cX5_measure 46 = .ok (.iload_n 2, 1) := by decide +kernel
theorem dX5_measure_47 : decode cX5_measure 47 = .ok (.bipush 6, 2) := by decide +kernel
theorem dX5_measure_49 : decode cX5_measure 49 = .ok (.invokevirtual 114, 3) := by decide +kernel
theorem dX5_measure_52 : decode cX5_measure 52 = .ok (.isub, 1) := by decide +kernel
theorem dX5_measure_53 : decode cX5_measure 53 = .ok (.ireturn, 1) := by decide +kernel
theorem dX5_measure_54 : decode cX5_measure 54 = .ok (.iload_n 3, 1) := by decide +kernel
theorem dX5_measure_55 : decode cX5_measure 55 = .ok (.aload_n 1, 1) := by decide +kernel
theorem dX5_measure_56 : decode cX5_measure 56 = .ok (.iload_n 2, 1) := by decide +kernel
theorem dX5_measure_57 : decode cX5_measure 57 = .ok (.bipush 7, 2) := by decide +kernel
theorem dX5_measure_59 : decode cX5_measure 59 = .ok (.invokevirtual 114, 3) := by decide +kernel
theorem dX5_measure_62 : decode cX5_measure 62 = .ok (.isub, 1) := by decide +kernel
theorem dX5_measure_63 : decode cX5_measure 63 = .ok (.ireturn, 1) := by decide +kernel
theorem dX5_measure_64 : decode cX5_measure 64 = .ok (.aload_n 1, 1) := by decide +kernel
theorem dX5_measure_65 : decode cX5_measure 65 = .ok (.iload_n 2, 1) := by decide +kernel
theorem dX5_measure_66 : decode cX5_measure 66 = .ok (.bipush 8, 2) := by decide +kernel
theorem dX5_measure_68 : decode cX5_measure 68 = .ok (.invokevirtual 114, 3) := by decide +kernel
theorem dX5_measure_71 : decode cX5_measure 71 = .ok (.ireturn, 1) := by decide +kernel
theorem dX5_measure_72 : decode cX5_measure 72 = .ok (.aload_n 1, 1) := by decide +kernel
theorem dX5_measure_73 : decode cX5_measure 73 = .ok (.iload_n 2, 1) := by decide +kernel
theorem dX5_measure_74 : decode cX5_measure 74 = .ok (.iconst 2, 1) := by decide +kernel
theorem dX5_measure_75 : decode cX5_measure 75 = .ok (.invokevirtual 114, 3) := by decide +kernel
theorem dX5_measure_78 : decode cX5_measure 78 = .ok (.ireturn, 1) := by decide +kernel
theorem dX5_measure_79 : decode cX5_measure 79 = .ok (.aload_n 1, 1) := by decide +kernel
theorem dX5_measure_80 : decode cX5_measure 80 = .ok (.iload_n 2, 1) := by decide +kernel
theorem dX5_measure_81 : decode cX5_measure 81 = .ok (.iconst 3, 1) := by decide +kernel
theorem dX5_measure_82 : decode cX5_measure 82 = .ok (.invokevirtual 114, 3) := by decide +kernel
theorem dX5_measure_85 : decode cX5_measure 85 = .ok (.ireturn, 1) := by decide +kernel
theorem dX5_measure_86 : decode cX5_measure 86 = .ok (.aload_n 1, 1) := by decide +kernel
theorem dX5_measure_87 : decode cX5_measure 87 = .ok (.iload_n 2, 1) := by decide +kernel
theorem dX5_measure_88 : decode cX5_measure 88 = .ok (.iconst 5, 1) := by decide +kernel
theorem dX5_measure_89 : decode cX5_measure 89 = .ok (.invokevirtual 114, 3) := by decide +kernel
theorem dX5_measure_92 : decode cX5_measure 92 = .ok (.ireturn, 1) := by decide +kernel
theorem dX5_measure_93 : decode cX5_measure 93 = .ok (.aload_n 1, 1) := by decide +kernel
theorem dX5_measure_94 : decode cX5_measure 94 = .ok (.iload_n 2, 1) := by decide +kernel
theorem dX5_measure_95 : decode cX5_measure 95 = .ok (.bipush 9, 2) := by decide +kernel
theorem dX5_measure_97 : decode cX5_measure 97 = .ok (.invokevirtual 114, 3) := by decide +kernel
theorem dX5_measure_100 : decode cX5_measure 100 = .ok (.ireturn, 1) := by decide +kernel
theorem dX5_measure_101 : decode cX5_measure 101 = .ok (.aload_n 1, 1) := by decide +kernel
theorem dX5_measure_102 : decode cX5_measure 102 = .ok (.aload_n 1, 1) := by decide +kernel
theorem dX5_measure_103 : decode cX5_measure 103 = .ok (.iload_n 2, 1) := by decide +kernel
theorem dX5_measure_104 : decode cX5_measure 104 = .ok (.bipush 9, 2) := by decide +kernel
theorem dX5_measure_106 : decode cX5_measure 106 = .ok (.invokevirtual 114, 3) := by decide +kernel
theorem dX5_measure_109 : decode cX5_measure 109 = .ok (.invokevirtual 121, 3) := by decide +kernel
theorem dX5_measure_112 : decode cX5_measure 112 = .ok (.ireturn, 1) := by decide +kernel
