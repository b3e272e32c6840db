theorem dX11_init_0 : decode cX11_init 0 = .ok (.aload_n 0, 1) := by decide +kernel
theorem dX11_init_1 : decode cX11_init 1 = .ok (.invokespecial 1, 3) := by decide +kernel
theorem dX11_init_4 : decode cX11_init 4 = .ok (.aload_n 0, 1) := by decide +kernel
theorem dX11_init_5 : decode cX11_init 5 = .ok (.new 7, 3) := by decide +kernel
theorem dX11_init_8 : decode cX11_init 8 = .ok (.dup, 1) := by decide +kernel
theorem dX11_init_9 : decode cX11_init 9 = .ok (.invokespecial 9, 3) := by decide +kernel
theorem dX11_init_12 : decode cX11_init 12 = .ok (.putfield 10, 3) := by decide +kernel
theorem dX11_init_15 : decode cX11_init 15 = .ok (.aload_n 0, 1) := by decide +kernel
theorem dX11_init_16 : decode cX11_init 16 = .ok (.new 16, 3) := by decide +kernel
theorem dX11_init_19 : decode cX11_init 19 = .ok (.dup, 1) := by decide +kernel
theorem dX11_init_20 : decode cX11_init 20 = .ok (.invokespecial 18, 3) := by decide +kernel
theorem dX11_init_23 : decode cX11_init 23 = .ok (.putfield 19, 3) := by decide +kernel
theorem dX11_init_26 : decode cX11_init 26 = .ok (.aload_n 0, 1) := by decide +kernel
theorem dX11_init_27 : decode cX11_init 27 = .ok (.iconst 2, 1) := by decide +kernel
theorem dX11_init_28 : decode cX11_init 28 = .ok (.anewarray 16, 3) := by decide +kernel
theorem dX11_init_31 : decode cX11_init 31 = .ok (.putfield 23, 3) := by decide +kernel
theorem dX11_init_34 : decode cX11_init 34 = .ok (.aload_n 0, 1) := by decide +kernel
theorem dX11_init_35 : decode cX11_init 35 = .ok (.new 27, 3) := by decide +kernel
theorem dX11_init_38 : decode cX11_init 38 = .ok (.dup, 1) := by decide +kernel
theorem dX11_init_39 : decode cX11_init 39 = .ok (.invokespecial 29, 3) := by decide +kernel
theorem dX11_init_42 : decode cX11_init 42 = .ok (.putfield 30, 3) := by decide +kernel
theorem dX11_init_45 : decode cX11_init 45 = .ok (.aload_n 0, 1) := by decide +kernel
theorem dX11_init_46 : decode cX11_init 46 = .ok (.new 34, 3) := by decide +kernel
theorem dX11_init_49 : decode cX11_init 49 = .ok (.dup, 1) := by decide +kernel
theorem dX11_init_50 : decode cX11_init 50 = .ok (.invokespecial 36, 3) := by decide +kernel
theorem dX11_init_53 : decode cX11_init 53 = .ok (.putfield 37, 3) := by decide +kernel
theorem dX11_init_56 : decode cX11_init 56 = .ok (.aload_n 0, 1) := by decide +kernel
theorem dX11_init_57 : decode cX11_init 57 = .ok (.new 41, 3) := by decide +kernel
theorem dX11_init_60 : decode cX11_init 60 = .ok (.dup, 1) := by decide +kernel
theorem dX11_init_61 : decode cX11_init 61 = .ok (.invokespecial 43, 3) := by decide +kernel
theorem dX11_init_64 : decode cX11_init 64 = .ok (.putfield 44, 3) := by decide +kernel
theorem dX11_init_67 : decode cX11_init 67 = .ok (.aload_n 0, 1) := by decide +kernel
theorem dX11_init_68 : decode cX11_init 68 = .ok (.new 48, 3) := by decide +kernel
theorem dX11_init_71 : decode cX11_init 71 = .ok (.dup, 1) := by decide +kernel
theorem dX11_init_72 : decode cX11_init 72 = .ok (.invokespecial 50, 3) := by decide +kernel
theorem dX11_init_75 : decode cX11_init 75 = .ok (.putfield 51, 3) := by decide +kernel
theorem dX11_init_78 : decode cX11_init 78 = .ok (.aload_n 0, 1) := by decide +kernel
theorem dX11_init_79 : decode cX11_init 79 = .ok (.new 55, 3) := by decide +kernel
theorem dX11_init_82 : decode cX11_init 82 = .ok (.dup, 1) := by decide +kernel
theorem dX11_init_83 : decode cX11_init 83 = .ok (.invokespecial 57, 3) := by decide +kernel
theorem dX11_init_86 : decode cX11_init 86 = .ok (.putfield 58, 3) := by decide +kernel
theorem dX11_init_89 : decode cX11_init 89 = .ok (.aload_n 0, 1) := by decide +kernel
theorem dX11_init_90 : decode cX11_init 90 = .ok (.bipush 40, 2) := by decide +kernel
theorem dX11_init_92 : decode cX11_init 92 = .ok (.newarray .int, 2) := by decide +kernel
theorem dX11_init_94 : decode cX11_init 94 = .ok (.putfield 64, 3) := by decide +kernel
theorem dX11_init_97 : decode cX11_init 97 = .ok (.aload_n 0, 1) := by decide +kernel
theorem dX11_init_98 : decode cX11_init 98 = .ok (.new 68, 3) := by decide +kernel
theorem dX11_init_101 : decode cX11_init 101 = .ok (.dup, 1) := by decide +kernel
theorem dX11_init_102 : decode cX11_init 102 = .ok (.invokespecial 70, 3) := by decide +kernel
theorem dX11_init_105 : decode cX11_init 105 = .ok (.putfield 71, 3) := by decide +kernel
theorem dX11_init_108 : decode cX11_init 108 = .ok (.aload_n 0, 1) := by decide +kernel
theorem dX11_init_109 : decode cX11_init 109 = .ok (.new 75, 3) := by decide +kernel
theorem dX11_init_112 : decode cX11_init 112 = .ok (.dup, 1) := by decide +kernel
theorem dX11_init_113 : decode cX11_init 113 = .ok (.invokespecial 77, 3) := by decide +kernel
theorem dX11_init_116 : decode cX11_init 116 = .ok (.putfield 78, 3) := by decide +kernel
theorem dX11_init_119 : decode cX11_init 119 = .ok (.aload_n 0, 1) := by decide +kernel
theorem dX11_init_120 : decode cX11_init 120 = .ok (.iconst 0, 1) := by decide +kernel
theorem dX11_init_121 : decode cX11_init 121 = .ok (.putfield 82, 3) := by decide +kernel
theorem dX11_init_124 : decode cX11_init 124 = .ok (.aload_n 0, 1) := by decide +kernel
theorem dX11_init_125 : decode cX11_init 125 = .ok (.iconst 0, 1) := by decide +kernel
theorem dX11_init_126 : decode cX11_init 126 = .ok (.putfield 86, 3) := by decide +kernel
theorem dX11_init_129 : decode cX11_init 129 = .ok (.return_, 1) := by decide +kernel
theorem dX11_feed_0 : decode cX11_feed 0 = .ok (.aload_n 0, 1) := by decide +kernel
theorem dX11_feed_1 : decode cX11_feed 1 = .ok (.getfield 10, 3) := by decide +kernel
theorem dX11_feed_4 : decode cX11_feed 4 = .ok (.getfield 89, 3) := by decide +kernel
theorem dX11_feed_7 : decode cX11_feed 7 = .ok (.sipush 920, 3) := by decide +kernel
theorem dX11_feed_10 : decode cX11_feed 10 = .ok (.if_icmp .le 5, 3) := by decide +kernel
theorem dX11_feed_13 : decode cX11_feed 13 = .ok (.iconst (-1), 1) := by decide +kernel
theorem dX11_feed_14 : decode cX11_feed 14 = .ok (.ireturn, 1) := by decide +kernel
theorem dX11_feed_15 : decode cX11_feed 15 = .ok (.aload_n 0, 1) := by decide +kernel
theorem dX11_feed_16 : decode cX11_feed 16 = .ok (.getfield 10, 3) := by decide +kernel
theorem dX11_feed_19 : decode cX11_feed 19 = .ok (.iload_n 1, 1) := by decide +kernel
theorem dX11_feed_20 : decode cX11_feed 20 = .ok (.invokevirtual 92, 3) := by decide +kernel
theorem dX11_feed_23 : decode cX11_feed 23 = .ok (.aload_n 0, 1) := by decide +kernel
theorem dX11_feed_24 : decode cX11_feed 24 = .ok (.getfield 10, 3) := by decide +kernel
theorem dX11_feed_27 : decode cX11_feed 27 = .ok (.iload_n 2, 1) := by decide +kernel
theorem dX11_feed_28 : decode cX11_feed 28 = .ok (.invokevirtual 92, 3) := by decide +kernel
theorem dX11_feed_31 : decode cX11_feed 31 = .ok (.aload_n 0, 1) := by decide +kernel
theorem dX11_feed_32 : decode cX11_feed 32 = .ok (.getfield 10, 3) := by decide +kernel
theorem dX11_feed_35 : decode cX11_feed 35 = .ok (.iload_n 3, 1) := by decide +kernel
theorem dX11_feed_36 : decode cX11_feed 36 = .ok (.invokevirtual 92, 3) := by decide +kernel
theorem dX11_feed_39 : decode cX11_feed 39 = .ok (.aload_n 0, 1) := by decide +kernel
theorem dX11_feed_40 : decode cX11_feed 40 = .ok (.getfield 10, 3) := by decide +kernel
theorem dX11_feed_43 : decode cX11_feed 43 = .ok (.iload 4, 2) := by decide +kernel
theorem dX11_feed_45 : decode cX11_feed 45 = .ok (.invokevirtual 92, 3) := by decide +kernel
theorem dX11_feed_48 : decode cX11_feed 48 = .ok (.aload_n 0, 1) := by decide +kernel
theorem dX11_feed_49 : decode cX11_feed 49 = .ok (.getfield 10, 3) := by decide +kernel
theorem dX11_feed_52 : decode cX11_feed 52 = .ok (.iload 5, 2) := by decide +kernel
theorem dX11_feed_54 : decode cX11_feed 54 = .ok (.invokevirtual 92, 3) := by decide +kernel
theorem dX11_feed_57 : decode cX11_feed 57 = .ok (.aload_n 0, 1) := by decide +kernel
theorem dX11_feed_58 : decode cX11_feed 58 = .ok (.getfield 10, 3) := by decide +kernel
theorem dX11_feed_61 : decode cX11_feed 61 = .ok (.getfield 89, 3) := by decide +kernel
theorem dX11_feed_64 : decode cX11_feed 64 = .ok (.ireturn, 1) := by decide +kernel
theorem dX11_end_0 : decode cX11_end 0 = .ok (.iload_n 1, 1) := by decide +kernel
theorem dX11_end_1 : decode cX11_end 1 = .ok (.ifCond .lt 14, 3) := by decide +kernel
theorem dX11_end_4 : decode cX11_end 4 = .ok (.iload_n 1, 1) := by decide +kernel
theorem dX11_end_5 : decode cX11_end 5 = .ok (.aload_n 0, 1) := by decide +kernel
theorem dX11_end_6 : decode cX11_end 6 = .ok (.getfield 10, 3) := by decide +kernel
theorem dX11_end_9 : decode cX11_end 9 = .ok (.getfield 89, 3) := by decide +kernel
theorem dX11_end_12 : decode cX11_end 12 = .ok (.if_icmp .le 5, 3) := by decide +kernel
theorem dX11_end_15 : decode cX11_end 15 = .ok (.iconst 0, 1) := by decide +kernel
theorem dX11_end_16 : decode cX11_end 16 = .ok (.ireturn, 1) := by decide +kernel
theorem dX11_end_17 : decode cX11_end 17 = .ok (.aload_n 0, 1) := by decide +kernel
theorem dX11_end_18 : decode cX11_end 18 = .ok (.getfield 10, 3) := by decide +kernel
theorem dX11_end_21 : decode cX11_end 21 = .ok (.iload_n 1, 1) := by decide +kernel
theorem dX11_end_22 : decode cX11_end 22 = .ok (.putfield 89, 3) := by decide +kernel
theorem dX11_end_25 : decode cX11_end 25 = .ok (.iconst 1, 1) := by decide +kernel
theorem dX11_end_26 : decode cX11_end 26 = .ok (.ireturn, 1) := by decide +kernel
theorem dX11_house_0 : decode cX11_house 0 = .ok (.aload_n 0, 1) := by decide +kernel
theorem dX11_house_1 : decode cX11_house 1 = .ok (.getfield 71, 3) := by decide +kernel
theorem dX11_house_4 : decode cX11_house 4 = .ok (.aload_n 0, 1) := by decide +kernel
theorem dX11_house_5 : decode cX11_house 5 = .ok (.getfield 10, 3) := by decide +kernel
theorem dX11_house_8 : decode cX11_house 8 = .ok (.invokevirtual 96, 3) := by decide +kernel
theorem dX11_house_11 : decode cX11_house 11 = .ok (.istore_n 1, 1) := by decide +kernel
theorem dX11_house_12 : decode cX11_house 12 = .ok (.aload_n 0, 1) := by decide +kernel
theorem dX11_house_13 : decode cX11_house 13 = .ok (.getfield 10, 3) := by decide +kernel
theorem dX11_house_16 : decode cX11_house 16 = .ok (.iconst 0, 1) := by decide +kernel
theorem dX11_house_17 : decode cX11_house 17 = .ok (.putfield 89, 3) := by decide +kernel
theorem dX11_house_20 : decode cX11_house 20 = .ok (.iload_n 1, 1) := by decide +kernel
theorem dX11_house_21 : decode cX11_house 21 = .ok (.ifCond .ne 24, 3) := by decide +kernel
theorem dX11_house_24 : decode cX11_house 24 = .ok (.aload_n 0, 1) := by decide +kernel
theorem dX11_house_25 : decode cX11_house 25 = .ok (.aload_n 0, 1) := by decide +kernel
theorem dX11_house_26 : decode cX11_house 26 = .ok (.getfield 10, 3) := by decide +kernel
theorem dX11_house_29 : decode cX11_house 29 = .ok (.getfield 100, 3) := by decide +kernel
theorem dX11_house_32 : decode cX11_house 32 = .ok (.putfield 86, 3) := by decide +kernel
theorem dX11_house_35 : decode cX11_house 35 = .ok (.iconst (-1), 1) := by decide +kernel
theorem dX11_house_36 : decode cX11_house 36 = .ok (.aload_n 0, 1) := by decide +kernel
theorem dX11_house_37 : decode cX11_house 37 = .ok (.getfield 10, 3) := by decide +kernel
theorem dX11_house_40 : decode cX11_house 40 = .ok (.getfield 103, 3) := by decide +kernel
theorem dX11_house_43 : decode cX11_house 43 = .ok (.isub, 1) := by decide +kernel
theorem dX11_house_44 : decode cX11_house 44 = .ok (.ireturn, 1) := by decide +kernel
theorem dX11_house_45 : decode cX11_house 45 = .ok (.aload_n 0, 1) := by decide +kernel
theorem dX11_house_46 : decode cX11_house 46 = .ok (.iconst 0, 1) := by decide +kernel
theorem dX11_house_47 : decode cX11_house 47 = .ok (.putfield 86, 3) := by decide +kernel
theorem dX11_house_50 : decode cX11_house 50 = .ok (.aload_n 0, 1) := by decide +kernel
theorem dX11_house_51 : decode cX11_house 51 = .ok (.getfield 19, 3) := by decide +kernel
theorem dX11_house_54 : decode cX11_house 54 = .ok (.getfield 106, 3) := by decide +kernel
theorem dX11_house_57 : decode cX11_house 57 = .ok (.astore_n 2, 1) := by decide +kernel
theorem dX11_house_58 : decode cX11_house 58 = .ok (.aload_n 0, 1) := by decide +kernel
theorem dX11_house_59 : decode cX11_house 59 = .ok (.getfield 19, 3) := by decide +kernel
theorem dX11_house_62 : decode cX11_house 62 = .ok (.aload_n 0, 1) := by decide +kernel
theorem dX11_house_63 : decode cX11_house 63 = .ok (.getfield 71, 3) := by decide +kernel
theorem dX11_house_66 : decode cX11_house 66 = .ok (.putfield 106, 3) := by decide +kernel
theorem dX11_house_69 : decode cX11_house 69 = .ok (.aload_n 0, 1) := by decide +kernel
theorem dX11_house_70 : decode cX11_house 70 = .ok (.aload_n 2, 1) := by decide +kernel
theorem dX11_house_71 : decode cX11_house 71 = .ok (.putfield 71, 3) := by decide +kernel
theorem dX11_house_74 : decode cX11_house 74 = .ok (.aload_n 0, 1) := by decide +kernel
theorem dX11_house_75 : decode cX11_house 75 = .ok (.getfield 19, 3) := by decide +kernel
theorem dX11_house_78 : decode cX11_house 78 = .ok (.getfield 109, 3) := by decide +kernel
theorem dX11_house_81 : decode cX11_house 81 = .ok (.invokevirtual 112, 3) := by decide +kernel
theorem dX11_house_84 : decode cX11_house 84 = .ok (.aload_n 0, 1) := by decide +kernel
theorem dX11_house_85 : decode cX11_house 85 = .ok (.getfield 19, 3) := by decide +kernel
theorem dX11_house_88 : decode cX11_house 88 = .ok (.getfield 115, 3) := by decide +kernel
theorem dX11_house_91 : decode cX11_house 91 = .ok (.invokevirtual 119, 3) := by decide +kernel
theorem dX11_house_94 : decode cX11_house 94 = .ok (.aload_n 0, 1) := by decide +kernel
theorem dX11_house_95 : decode cX11_house 95 = .ok (.getfield 19, 3) := by decide +kernel
theorem dX11_house_98 : decode cX11_house 98 = .ok (.getfield 122, 3) := by decide +kernel
theorem dX11_house_101 : decode cX11_house 101 = .ok (.invokevirtual 126, 3) := by decide +kernel
theorem dX11_house_104 : decode cX11_house 104 = .ok (.aload_n 0, 1) := by decide +kernel
theorem dX11_house_105 : decode cX11_house 105 = .ok (.getfield 19, 3) := by decide +kernel
theorem dX11_house_108 : decode cX11_house 108 = .ok (.getfield 106, 3) := by decide +kernel
theorem dX11_house_111 : decode cX11_house 111 = .ok (.getfield 131, 3) := by decide +kernel
theorem dX11_house_114 : decode cX11_house 114 = .ok (.ireturn, 1) := by decide +kernel
theorem dX11_fault_0 : decode cX11_fault 0 = .ok (.aload_n 0, 1) := by decide +kernel
theorem dX11_fault_1 : decode cX11_fault 1 = .ok (.getfield 86, 3) := by decide +kernel
theorem dX11_fault_4 : decode cX11_fault 4 = .ok (.ireturn, 1) := by decide +kernel
theorem dX11_later_0 : decode cX11_later 0 = .ok (.iload_n 1, 1) := by decide +kernel
theorem dX11_later_1 : decode cX11_later 1 = .ok (.ifCond .lt 25, 3) := by decide +kernel
theorem dX11_later_4 : decode cX11_later 4 = .ok (.iload_n 1, 1) := by decide +kernel
theorem dX11_later_5 : decode cX11_later 5 = .ok (.sipush 199, 3) := by decide +kernel
theorem dX11_later_8 : decode cX11_later 8 = .ok (.if_icmp .gt 18, 3) := by decide +kernel
theorem dX11_later_11 : decode cX11_later 11 = .ok (.aload_n 0, 1) := by decide +kernel
theorem dX11_later_12 : decode cX11_later 12 = .ok (.getfield 19, 3) := by decide +kernel
theorem dX11_later_15 : decode cX11_later 15 = .ok (.getfield 134, 3) := by decide +kernel
theorem dX11_later_18 : decode cX11_later 18 = .ok (.iload_n 1, 1) := by decide +kernel
theorem dX11_later_19 : decode cX11_later 19 = .ok (.iadd, 1) := by decide +kernel
theorem dX11_later_20 : decode cX11_later 20 = .ok (.sipush 199, 3) := by decide +kernel
theorem dX11_later_23 : decode cX11_later 23 = .ok (.if_icmp .le 5, 3) := by decide +kernel
theorem dX11_later_26 : decode cX11_later 26 = .ok (.iconst (-1), 1) := by decide +kernel
theorem dX11_later_27 : decode cX11_later 27 = .ok (.ireturn, 1) := by decide +kernel
theorem dX11_later_28 : decode cX11_later 28 = .ok (.aload_n 0, 1) := by decide +kernel
theorem dX11_later_29 : decode cX11_later 29 = .ok (.getfield 19, 3) := by decide +kernel
theorem dX11_later_32 : decode cX11_later 32 = .ok (.dup, 1) := by decide +kernel
theorem dX11_later_33 : decode cX11_later 33 = .ok (.getfield 134, 3) := by decide +kernel
theorem dX11_later_36 : decode cX11_later 36 = .ok (.iload_n 1, 1) := by decide +kernel
theorem dX11_later_37 : decode cX11_later 37 = .ok (.iadd, 1) := by decide +kernel
theorem dX11_later_38 : decode cX11_later 38 = .ok (.putfield 134, 3) := by decide +kernel
theorem dX11_later_41 : decode cX11_later 41 = .ok (.aload_n 0, 1) := by decide +kernel
theorem dX11_later_42 : decode cX11_later 42 = .ok (.getfield 19, 3) := by decide +kernel
theorem dX11_later_45 : decode cX11_later 45 = .ok (.getfield 134, 3) := by decide +kernel
theorem dX11_later_48 : decode cX11_later 48 = .ok (.ireturn, 1) := by decide +kernel
theorem dX11_ticket_0 : decode cX11_ticket 0 = .ok (.iload_n 1, 1) := by decide +kernel
theorem dX11_ticket_1 : decode cX11_ticket 1 = .ok (.bipush 100, 2) := by decide +kernel
theorem dX11_ticket_3 : decode cX11_ticket 3 = .ok (.if_icmp .lt 7, 3) := by decide +kernel
theorem dX11_ticket_6 : decode cX11_ticket 6 = .ok (.iconst 1, 1) := by decide +kernel
theorem dX11_ticket_7 : decode cX11_ticket 7 = .ok (.goto 4, 3) := by decide +kernel
theorem dX11_ticket_10 : decode cX11_ticket 10 = .ok (.iconst 0, 1) := by decide +kernel
theorem dX11_ticket_11 : decode cX11_ticket 11 = .ok (.istore 7, 2) := by decide +kernel
theorem dX11_ticket_13 : decode cX11_ticket 13 = .ok (.iload 7, 2) := by decide +kernel
theorem dX11_ticket_15 : decode cX11_ticket 15 = .ok (.ifCond .eq 10, 3) := by decide +kernel
theorem dX11_ticket_18 : decode cX11_ticket 18 = .ok (.iload_n 1, 1) := by decide +kernel
theorem dX11_ticket_19 : decode cX11_ticket 19 = .ok (.bipush 100, 2) := by decide +kernel
theorem dX11_ticket_21 : decode cX11_ticket 21 = .ok (.isub, 1) := by decide +kernel
theorem dX11_ticket_22 : decode cX11_ticket 22 = .ok (.goto 4, 3) := by decide +kernel
theorem dX11_ticket_25 : decode cX11_ticket 25 = .ok (.iload_n 1, 1) := by decide +kernel
theorem dX11_ticket_26 : decode cX11_ticket 26 = .ok (.istore 8, 2) := by decide +kernel
theorem dX11_ticket_28 : decode cX11_ticket 28 = .ok (.aload_n 0, 1) := by decide +kernel
theorem dX11_ticket_29 : decode cX11_ticket 29 = .ok (.getfield 19, 3) := by decide +kernel
theorem dX11_ticket_32 : decode cX11_ticket 32 = .ok (.getfield 115, 3) := by decide +kernel
theorem dX11_ticket_35 : decode cX11_ticket 35 = .ok (.getfield 137, 3) := by decide +kernel
theorem dX11_ticket_38 : decode cX11_ticket 38 = .ok (.bipush 40, 2) := by decide +kernel
theorem dX11_ticket_40 : decode cX11_ticket 40 = .ok (.if_icmp .ge 27, 3) := by decide +kernel
theorem dX11_ticket_43 : decode cX11_ticket 43 = .ok (.iload 8, 2) := by decide +kernel
theorem dX11_ticket_45 : decode cX11_ticket 45 = .ok (.ifCond .lt 22, 3) := by decide +kernel
theorem dX11_ticket_48 : decode cX11_ticket 48 = .ok (.iload 8, 2) := by decide +kernel
theorem dX11_ticket_50 : decode cX11_ticket 50 = .ok (.iconst 3, 1) := by decide +kernel
theorem dX11_ticket_51 : decode cX11_ticket 51 = .ok (.aload_n 0, 1) := by decide +kernel
theorem dX11_ticket_52 : decode cX11_ticket 52 = .ok (.getfield 19, 3) := by decide +kernel
theorem dX11_ticket_55 : decode cX11_ticket 55 = .ok (.getfield 106, 3) := by decide +kernel
theorem dX11_ticket_58 : decode cX11_ticket 58 = .ok (.getfield 138, 3) := by decide +kernel
theorem dX11_ticket_61 : decode cX11_ticket 61 = .ok (.iconst 2, 1) := by decide +kernel
theorem dX11_ticket_62 : decode cX11_ticket 62 = .ok (.iaload, 1) := by decide +kernel
theorem dX11_ticket_63 : decode cX11_ticket 63 = .ok (.imul, 1) := by decide +kernel
theorem dX11_ticket_64 : decode cX11_ticket 64 = .ok (.if_icmp .lt 5, 3) := by decide +kernel
theorem dX11_ticket_67 : decode cX11_ticket 67 = .ok (.iconst (-1), 1) := by decide +kernel
theorem dX11_ticket_68 : decode cX11_ticket 68 = .ok (.ireturn, 1) := by decide +kernel
theorem dX11_ticket_69 : decode cX11_ticket 69 = .ok (.iload_n 2, 1) := by decide +kernel
theorem dX11_ticket_70 : decode cX11_ticket 70 = .ok (.iconst 1, 1) := by decide +kernel
theorem dX11_ticket_71 : decode cX11_ticket 71 = .ok (.sipush 200, 3) := by decide +kernel
theorem dX11_ticket_74 : decode cX11_ticket 74 = .ok (.invokestatic 141, 3) := by decide +kernel
theorem dX11_ticket_77 : decode cX11_ticket 77 = .ok (.ifCond .eq 51, 3) := by decide +kernel
theorem dX11_ticket_80 : decode cX11_ticket 80 = .ok (.iload_n 3, 1) := by decide +kernel
theorem dX11_ticket_81 : decode cX11_ticket 81 = .ok (.iconst 0, 1) := by decide +kernel
theorem dX11_ticket_82 : decode cX11_ticket 82 = .ok (.bipush 9, 2) := by decide +kernel
theorem dX11_ticket_84 : decode cX11_ticket 84 = .ok (.invokestatic 141, 3) := by decide +kernel
theorem dX11_ticket_87 : decode cX11_ticket 87 = .ok (.ifCond .eq 41, 3) := by decide +kernel
theorem dX11_ticket_90 : decode cX11_ticket 90 = .ok (.iload 4, 2) := by decide +kernel
theorem dX11_ticket_92 : decode cX11_ticket 92 = .ok (.iconst 0, 1) := by decide +kernel
theorem dX11_ticket_93 : decode cX11_ticket 93 = .ok (.sipush 255, 3) := by decide +kernel
theorem dX11_ticket_96 : decode cX11_ticket 96 = .ok (.invokestatic 141, 3) := by decide +kernel
theorem dX11_ticket_99 : decode cX11_ticket 99 = .ok (.ifCond .eq 29, 3) := by decide +kernel
theorem dX11_ticket_102 : decode cX11_ticket 102 = .ok (.iload 5, 2) := by decide +kernel
theorem dX11_ticket_104 : decode cX11_ticket 104 = .ok (.invokestatic 145, 3) := by decide +kernel
theorem dX11_ticket_107 : decode cX11_ticket 107 = .ok (.ifCond .eq 21, 3) := by decide +kernel
theorem dX11_ticket_110 : decode cX11_ticket 110 = .ok (.iload 6, 2) := by decide +kernel
theorem dX11_ticket_112 : decode cX11_ticket 112 = .ok (.aload_n 0, 1) := by decide +kernel
theorem dX11_ticket_113 : decode cX11_ticket 113 = .ok (.getfield 19, 3) := by decide +kernel
theorem dX11_ticket_116 : decode cX11_ticket 116 = .ok (.getfield 134, 3) := by decide +kernel
theorem dX11_ticket_119 : decode cX11_ticket 119 = .ok (.sipush 199, 3) := by decide +kernel
theorem dX11_ticket_122 : decode cX11_ticket 122 = .ok (.invokestatic 141, 3) := by decide +kernel
theorem dX11_ticket_125 : decode cX11_ticket 125 = .ok (.ifCond .ne 5, 3) := by decide +kernel
theorem dX11_ticket_128 : decode cX11_ticket 128 = .ok (.iconst (-1), 1) := by decide +kernel
theorem dX11_ticket_129 : decode cX11_ticket 129 = .ok (.ireturn, 1) := by decide +kernel
theorem dX11_ticket_130 : decode cX11_ticket 130 = .ok (.iload 8, 2) := by decide +kernel
theorem dX11_ticket_132 : decode cX11_ticket 132 = .ok (.iconst 3, 1) := by decide +kernel
theorem dX11_ticket_133 : decode cX11_ticket 133 = .ok (.idiv, 1) := by decide +kernel
theorem dX11_ticket_134 : decode cX11_ticket 134 = .ok (.istore 9, 2) := by decide +kernel
theorem dX11_ticket_136 : decode cX11_ticket 136 = .ok (.aload_n 0, 1) := by decide +kernel
theorem dX11_ticket_137 : decode cX11_ticket 137 = .ok (.getfield 19, 3) := by decide +kernel
theorem dX11_ticket_140 : decode cX11_ticket 140 = .ok (.getfield 115, 3) := by decide +kernel
theorem dX11_ticket_143 : decode cX11_ticket 143 = .ok (.invokevirtual 149, 3) := by decide +kernel
theorem dX11_ticket_146 : decode cX11_ticket 146 = .ok (.istore 10, 2) := by decide +kernel
theorem dX11_ticket_148 : decode cX11_ticket 148 = .ok (.aload_n 0, 1) := by decide +kernel
theorem dX11_ticket_149 : decode cX11_ticket 149 = .ok (.getfield 19, 3) := by decide +kernel
theorem dX11_ticket_152 : decode cX11_ticket 152 = .ok (.getfield 115, 3) := by decide +kernel
theorem dX11_ticket_155 : decode cX11_ticket 155 = .ok (.iload 10, 2) := by decide +kernel
theorem dX11_ticket_157 : decode cX11_ticket 157 = .ok (.iconst 0, 1) := by decide +kernel
theorem dX11_ticket_158 : decode cX11_ticket 158 = .ok (.iload 9, 2) := by decide +kernel
theorem dX11_ticket_160 : decode cX11_ticket 160 = .ok (.invokevirtual 153, 3) := by decide +kernel
theorem dX11_ticket_163 : decode cX11_ticket 163 = .ok (.aload_n 0, 1) := by decide +kernel
theorem dX11_ticket_164 : decode cX11_ticket 164 = .ok (.getfield 19, 3) := by decide +kernel
theorem dX11_ticket_167 : decode cX11_ticket 167 = .ok (.getfield 115, 3) := by decide +kernel
theorem dX11_ticket_170 : decode cX11_ticket 170 = .ok (.iload 10, 2) := by decide +kernel
theorem dX11_ticket_172 : decode cX11_ticket 172 = .ok (.iconst 1, 1) := by decide +kernel
theorem dX11_ticket_173 : decode cX11_ticket 173 = .ok (.iload 8, 2) := by decide +kernel
theorem dX11_ticket_175 : decode cX11_ticket 175 = .ok (.iconst 3, 1) := by decide +kernel
theorem dX11_ticket_176 : decode cX11_ticket 176 = .ok (.irem, 1) := by decide +kernel
theorem dX11_ticket_177 : decode cX11_ticket 177 = .ok (.invokevirtual 153, 3) := by decide +kernel
theorem dX11_ticket_180 : decode cX11_ticket 180 = .ok (.aload_n 0, 1) := by decide +kernel
theorem dX11_ticket_181 : decode cX11_ticket 181 = .ok (.getfield 19, 3) := by decide +kernel
theorem dX11_ticket_184 : decode cX11_ticket 184 = .ok (.getfield 115, 3) := by decide +kernel
theorem dX11_ticket_187 : decode cX11_ticket 187 = .ok (.iload 10, 2) := by decide +kernel
theorem dX11_ticket_189 : decode cX11_ticket 189 = .ok (.iconst 2, 1) := by decide +kernel
theorem dX11_ticket_190 : decode cX11_ticket 190 = .ok (.iload_n 2, 1) := by decide +kernel
theorem dX11_ticket_191 : decode cX11_ticket 191 = .ok (.invokevirtual 153, 3) := by decide +kernel
theorem dX11_ticket_194 : decode cX11_ticket 194 = .ok (.aload_n 0, 1) := by decide +kernel
theorem dX11_ticket_195 : decode cX11_ticket 195 = .ok (.getfield 19, 3) := by decide +kernel
theorem dX11_ticket_198 : decode cX11_ticket 198 = .ok (.getfield 115, 3) := by decide +kernel
theorem dX11_ticket_201 : decode cX11_ticket 201 = .ok (.iload 10, 2) := by decide +kernel
theorem dX11_ticket_203 : decode cX11_ticket 203 = .ok (.iconst 3, 1) := by decide +kernel
theorem dX11_ticket_204 : decode cX11_ticket 204 = .ok (.iload_n 3, 1) := by decide +kernel
theorem dX11_ticket_205 : decode cX11_ticket 205 = .ok (.invokevirtual 153, 3) := by decide +kernel
theorem dX11_ticket_208 : decode cX11_ticket 208 = .ok (.aload_n 0, 1) := by decide +kernel
theorem dX11_ticket_209 : decode cX11_ticket 209 = .ok (.getfield 19, 3) := by decide +kernel
theorem dX11_ticket_212 : decode cX11_ticket 212 = .ok (.getfield 115, 3) := by decide +kernel
theorem dX11_ticket_215 : decode cX11_ticket 215 = .ok (.iload 10, 2) := by decide +kernel
theorem dX11_ticket_217 : decode cX11_ticket 217 = .ok (.iconst 4, 1) := by decide +kernel
theorem dX11_ticket_218 : decode cX11_ticket 218 = .ok (.iload 4, 2) := by decide +kernel
theorem dX11_ticket_220 : decode cX11_ticket 220 = .ok (.invokevirtual 153, 3) := by decide +kernel
theorem dX11_ticket_223 : decode cX11_ticket 223 = .ok (.aload_n 0, 1) := by decide +kernel
theorem dX11_ticket_224 : decode cX11_ticket 224 = .ok (.getfield 19, 3) := by decide +kernel
theorem dX11_ticket_227 : decode cX11_ticket 227 = .ok (.getfield 115, 3) := by decide +kernel
theorem dX11_ticket_230 : decode cX11_ticket 230 = .ok (.iload 10, 2) := by decide +kernel
theorem dX11_ticket_232 : decode cX11_ticket 232 = .ok (.iconst 5, 1) := by decide +kernel
theorem dX11_ticket_233 : decode cX11_ticket 233 = .ok (.iload 5, 2) := by decide +kernel
theorem dX11_ticket_235 : decode cX11_ticket 235 = .ok (.invokevirtual 153, 3) := by decide +kernel
theorem dX11_ticket_238 : decode cX11_ticket 238 = .ok (.aload_n 0, 1) := by decide +kernel
theorem dX11_ticket_239 : decode cX11_ticket 239 = .ok (.getfield 19, 3) := by decide +kernel
theorem dX11_ticket_242 : decode cX11_ticket 242 = .ok (.getfield 115, 3) := by decide +kernel
theorem dX11_ticket_245 : decode cX11_ticket 245 = .ok (.iload 10, 2) := by decide +kernel
theorem dX11_ticket_247 : decode cX11_ticket 247 = .ok (.bipush 6, 2) := by decide +kernel
theorem dX11_ticket_249 : decode cX11_ticket 249 = .ok (.aload_n 0, 1) := by decide +kernel
theorem dX11_ticket_250 : decode cX11_ticket 250 = .ok (.getfield 19, 3) := by decide +kernel
theorem dX11_ticket_253 : decode cX11_ticket 253 = .ok (.getfield 134, 3) := by decide +kernel
theorem dX11_ticket_256 : decode cX11_ticket 256 = .ok (.invokevirtual 153, 3) := by decide +kernel
theorem dX11_ticket_259 : decode cX11_ticket 259 = .ok (.aload_n 0, 1) := by decide +kernel
theorem dX11_ticket_260 : decode cX11_ticket 260 = .ok (.getfield 19, 3) := by decide +kernel
theorem dX11_ticket_263 : decode cX11_ticket 263 = .ok (.getfield 115, 3) := by decide +kernel
theorem dX11_ticket_266 : decode cX11_ticket 266 = .ok (.iload 10, 2) := by decide +kernel
theorem dX11_ticket_268 : decode cX11_ticket 268 = .ok (.bipush 7, 2) := by decide +kernel
theorem dX11_ticket_270 : decode cX11_ticket 270 = .ok (.iload 6, 2) := by decide +kernel
theorem dX11_ticket_272 : decode cX11_ticket 272 = .ok (.invokevirtual 153, 3) := by decide +kernel
theorem dX11_ticket_275 : decode cX11_ticket 275 = .ok (.aload_n 0, 1) := by decide +kernel
theorem dX11_ticket_276 : decode cX11_ticket 276 = .ok (.getfield 19, 3) := by decide +kernel
theorem dX11_ticket_279 : decode cX11_ticket 279 = .ok (.getfield 115, 3) := by decide +kernel
theorem dX11_ticket_282 : decode cX11_ticket 282 = .ok (.iload 10, 2) := by decide +kernel
theorem dX11_ticket_284 : decode cX11_ticket 284 = .ok (.bipush 10, 2) := by decide +kernel
theorem dX11_ticket_286 : decode cX11_ticket 286 = .ok (.iload 7, 2) := by decide +kernel
theorem dX11_ticket_288 : decode cX11_ticket 288 = .ok (.ifCond .eq 7, 3) := by decide +kernel
theorem dX11_ticket_291 : decode cX11_ticket 291 = .ok (.iconst 1, 1) := by decide +kernel
theorem dX11_ticket_292 : decode cX11_ticket 292 = .ok (.goto 4, 3) := by decide +kernel
theorem dX11_ticket_295 : decode cX11_ticket 295 = .ok (.iconst 0, 1) := by decide +kernel
theorem dX11_ticket_296 : decode cX11_ticket 296 = .ok (.invokevirtual 153, 3) := by decide +kernel
theorem dX11_ticket_299 : decode cX11_ticket 299 = .ok (.aload_n 0, 1) := by decide +kernel
theorem dX11_ticket_300 : decode cX11_ticket 300 = .ok (.getfield 19, 3) := by decide +kernel
theorem dX11_ticket_303 : decode cX11_ticket 303 = .ok (.getfield 115, 3) := by decide +kernel
theorem dX11_ticket_306 : decode cX11_ticket 306 = .ok (.iload 10, 2) := by decide +kernel
theorem dX11_ticket_308 : decode cX11_ticket 308 = .ok (.bipush 8, 2) := by decide +kernel
theorem dX11_ticket_310 : decode cX11_ticket 310 = .ok (.aload_n 0, 1) := by decide +kernel
theorem dX11_ticket_311 : decode cX11_ticket 311 = .ok (.getfield 19, 3) := by decide +kernel
theorem dX11_ticket_314 : decode cX11_ticket 314 = .ok (.getfield 106, 3) := by decide +kernel
theorem dX11_ticket_317 : decode cX11_ticket 317 = .ok (.iload 9, 2) := by decide +kernel
theorem dX11_ticket_319 : decode cX11_ticket 319 = .ok (.iload 7, 2) := by decide +kernel
theorem dX11_ticket_321 : decode cX11_ticket 321 = .ok (.invokevirtual 157, 3) := by decide +kernel
theorem dX11_ticket_324 : decode cX11_ticket 324 = .ok (.invokevirtual 153, 3) := by decide +kernel
theorem dX11_ticket_327 : decode cX11_ticket 327 = .ok (.iload 10, 2) := by decide +kernel
theorem dX11_ticket_329 : decode cX11_ticket 329 = .ok (.ireturn, 1) := by decide +kernel
theorem dX11_about_0 : decode cX11_about 0 = .ok (.aload_n 0, 1) := by decide +kernel
theorem dX11_about_1 : decode cX11_about 1 = .ok (.iload_n 1, 1) := by decide +kernel
theorem dX11_about_2 : decode cX11_about 2 = .ok (.invokevirtual 161, 3) := by decide +kernel
theorem dX11_about_5 : decode cX11_about 5 = .ok (.ifCond .eq 13, 3) := by decide +kernel
theorem dX11_about_8 : decode cX11_about 8 = .ok (.iload_n 2, 1) := by decide +kernel
theorem dX11_about_9 : decode cX11_about 9 = .ok (.iconst 0, 1) := by decide +kernel
theorem dX11_about_10 : decode cX11_about 10 = .ok (.bipush 9, 2) := by decide +kernel
theorem dX11_about_12 : decode cX11_about 12 = .ok (.invokestatic 141, 3) := by decide +kernel
theorem dX11_about_15 : decode cX11_about 15 = .ok (.ifCond .ne 13, 3) := by decide +kernel
theorem dX11_about_18 : decode cX11_about 18 = .ok (.new 164, 3) := by decide +kernel
theorem dX11_about_21 : decode cX11_about 21 = .ok (.dup, 1) := by decide +kernel
theorem dX11_about_22 : decode cX11_about 22 = .ok (.ldc 166, 2) := by decide +kernel
theorem dX11_about_24 : decode cX11_about 24 = .ok (.invokespecial 168, 3) := by decide +kernel
theorem dX11_about_27 : decode cX11_about 27 = .ok (.athrow, 1) := by decide +kernel
theorem dX11_about_28 : decode cX11_about 28 = .ok (.aload_n 0, 1) := by decide +kernel
theorem dX11_about_29 : decode cX11_about 29 = .ok (.getfield 19, 3) := by decide +kernel
theorem dX11_about_32 : decode cX11_about 32 = .ok (.getfield 115, 3) := by decide +kernel
theorem dX11_about_35 : decode cX11_about 35 = .ok (.iload_n 1, 1) := by decide +kernel
theorem dX11_about_36 : decode cX11_about 36 = .ok (.iload_n 2, 1) := by decide +kernel
theorem dX11_about_37 : decode cX11_about 37 = .ok (.invokevirtual 171, 3) := by decide +kernel
theorem dX11_about_40 : decode cX11_about 40 = .ok (.ireturn, 1) := by decide +kernel
theorem dX11_news_0 : decode cX11_news 0 = .ok (.aload_n 0, 1) := by decide +kernel
theorem dX11_news_1 : decode cX11_news 1 = .ok (.iload_n 1, 1) := by decide +kernel
theorem dX11_news_2 : decode cX11_news 2 = .ok (.invokevirtual 161, 3) := by decide +kernel
theorem dX11_news_5 : decode cX11_news 5 = .ok (.ifCond .eq 39, 3) := by decide +kernel
theorem dX11_news_8 : decode cX11_news 8 = .ok (.iload_n 2, 1) := by decide +kernel
theorem dX11_news_9 : decode cX11_news 9 = .ok (.iconst 1, 1) := by decide +kernel
theorem dX11_news_10 : decode cX11_news 10 = .ok (.iconst 5, 1) := by decide +kernel
theorem dX11_news_11 : decode cX11_news 11 = .ok (.invokestatic 141, 3) := by decide +kernel
theorem dX11_news_14 : decode cX11_news 14 = .ok (.ifCond .eq 30, 3) := by decide +kernel
theorem dX11_news_17 : decode cX11_news 17 = .ok (.iload_n 3, 1) := by decide +kernel
theorem dX11_news_18 : decode cX11_news 18 = .ok (.aload_n 0, 1) := by decide +kernel
theorem dX11_news_19 : decode cX11_news 19 = .ok (.getfield 19, 3) := by decide +kernel
theorem dX11_news_22 : decode cX11_news 22 = .ok (.getfield 115, 3) := by decide +kernel
theorem dX11_news_25 : decode cX11_news 25 = .ok (.iload_n 1, 1) := by decide +kernel
theorem dX11_news_26 : decode cX11_news 26 = .ok (.bipush 6, 2) := by decide +kernel
theorem dX11_news_28 : decode cX11_news 28 = .ok (.invokevirtual 171, 3) := by decide +kernel
theorem dX11_news_31 : decode cX11_news 31 = .ok (.aload_n 0, 1) := by decide +kernel
theorem dX11_news_32 : decode cX11_news 32 = .ok (.getfield 19, 3) := by decide +kernel
theorem dX11_news_35 : decode cX11_news 35 = .ok (.getfield 134, 3) := by decide +kernel
theorem dX11_news_38 : decode cX11_news 38 = .ok (.invokestatic 141, 3) := by decide +kernel
theorem dX11_news_41 : decode cX11_news 41 = .ok (.ifCond .ne 5, 3) := by decide +kernel
theorem dX11_news_44 : decode cX11_news 44 = .ok (.iconst (-1), 1) := by decide +kernel
theorem dX11_news_45 : decode cX11_news 45 = .ok (.ireturn, 1) := by decide +kernel
theorem dX11_news_46 : decode cX11_news 46 = .ok (.aload_n 0, 1) := by decide +kernel
theorem dX11_news_47 : decode cX11_news 47 = .ok (.getfield 19, 3) := by decide +kernel
theorem dX11_news_50 : decode cX11_news 50 = .ok (.getfield 115, 3) := by decide +kernel
theorem dX11_news_53 : decode cX11_news 53 = .ok (.iload_n 1, 1) := by decide +kernel
theorem dX11_news_54 : decode cX11_news 54 = .ok (.iload_n 2, 1) := by decide +kernel
theorem dX11_news_55 : decode cX11_news 55 = .ok (.iload_n 3, 1) := by decide +kernel
theorem dX11_news_56 : decode cX11_news 56 = .ok (.aload_n 0, 1) := by decide +kernel
theorem dX11_news_57 : decode cX11_news 57 = .ok (.getfield 19, 3) := by decide +kernel
theorem dX11_news_60 : decode cX11_news 60 = .ok (.getfield 134, 3) := by decide +kernel
theorem dX11_news_63 : decode cX11_news 63 = .ok (.invokevirtual 175, 3) := by decide +kernel
theorem dX11_news_66 : decode cX11_news 66 = .ok (.ireturn, 1) := by decide +kernel
theorem dX11_stands_0 : decode cX11_stands 0 = .ok (.aload_n 0, 1) := by decide +kernel
theorem dX11_stands_1 : decode cX11_stands 1 = .ok (.iload_n 1, 1) := by decide +kernel
theorem dX11_stands_2 : decode cX11_stands 2 = .ok (.invokevirtual 161, 3) := by decide +kernel
theorem dX11_stands_5 : decode cX11_stands 5 = .ok (.ifCond .eq 17, 3) := by decide +kernel
theorem dX11_stands_8 : decode cX11_stands 8 = .ok (.iload_n 2, 1) := by decide +kernel
theorem dX11_stands_9 : decode cX11_stands 9 = .ok (.invokestatic 179, 3) := by decide +kernel
theorem dX11_stands_12 : decode cX11_stands 12 = .ok (.ifCond .eq 10, 3) := by decide +kernel
theorem dX11_stands_15 : decode cX11_stands 15 = .ok (.iload_n 3, 1) := by decide +kernel
theorem dX11_stands_16 : decode cX11_stands 16 = .ok (.invokestatic 179, 3) := by decide +kernel
theorem dX11_stands_19 : decode cX11_stands 19 = .ok (.ifCond .ne 5, 3) := by decide +kernel
theorem dX11_stands_22 : decode cX11_stands 22 = .ok (.iconst (-1), 1) := by decide +kernel
theorem dX11_stands_23 : decode cX11_stands 23 = .ok (.ireturn, 1) := by decide +kernel
theorem dX11_stands_24 : decode cX11_stands 24 = .ok (.aload_n 0, 1) := by decide +kernel
theorem dX11_stands_25 : decode cX11_stands 25 = .ok (.getfield 19, 3) := by decide +kernel
theorem dX11_stands_28 : decode cX11_stands 28 = .ok (.getfield 115, 3) := by decide +kernel
theorem dX11_stands_31 : decode cX11_stands 31 = .ok (.iload_n 1, 1) := by decide +kernel
theorem dX11_stands_32 : decode cX11_stands 32 = .ok (.bipush 6, 2) := by decide +kernel
theorem dX11_stands_34 : decode cX11_stands 34 = .ok (.invokevirtual 171, 3) := by decide +kernel
theorem dX11_stands_37 : decode cX11_stands 37 = .ok (.istore 4, 2) := by decide +kernel
theorem dX11_stands_39 : decode cX11_stands 39 = .ok (.iload 4, 2) := by decide +kernel
theorem dX11_stands_41 : decode cX11_stands 41 = .ok (.iload_n 2, 1) := by decide +kernel
theorem dX11_stands_42 : decode cX11_stands 42 = .ok (.if_icmp .gt 9, 3) := by decide +kernel
theorem dX11_stands_45 : decode cX11_stands 45 = .ok (.iload 4, 2) := by decide +kernel
theorem dX11_stands_47 : decode cX11_stands 47 = .ok (.iload_n 3, 1) := by decide +kernel
theorem dX11_stands_48 : decode cX11_stands 48 = .ok (.if_icmp .le 7, 3) := by decide +kernel
theorem dX11_stands_51 : decode cX11_stands 51 = .ok (.iconst (-1), 1) := by decide +kernel
theorem dX11_stands_52 : decode cX11_stands 52 = .ok (.goto 16, 3) := by decide +kernel
theorem dX11_stands_55 : decode cX11_stands 55 = .ok (.aload_n 0, 1) := by decide +kernel
theorem dX11_stands_56 : decode cX11_stands 56 = .ok (.getfield 19, 3) := by decide +kernel
theorem dX11_stands_59 : decode cX11_stands 59 = .ok (.getfield 115, 3) := by decide +kernel
theorem dX11_stands_62 : decode cX11_stands 62 = .ok (.iload_n 1, 1) := by decide +kernel
theorem dX11_stands_63 : decode cX11_stands 63 = .ok (.iload_n 2, 1) := by decide +kernel
theorem dX11_stands_64 : decode cX11_stands 64 = .ok (.iload_n 3, 1) := by decide +kernel
theorem dX11_stands_65 : decode cX11_stands 65 = .ok (.invokevirtual 182, 3) := by decide +kernel
theorem dX11_stands_68 : decode cX11_stands 68 = .ok (.ireturn, 1) := by decide +kernel
theorem dX11_open_0 : decode cX11_open 0 = .ok (.iload_n 1, 1) := by decide +kernel
theorem dX11_open_1 : decode cX11_open 1 = .ok (.iconst 0, 1) := by decide +kernel
theorem dX11_open_2 : decode cX11_open 2 = .ok (.iconst 3, 1) := by decide +kernel
theorem dX11_open_3 : decode cX11_open 3 = .ok (.invokestatic 141, 3) := by decide +kernel
theorem dX11_open_6 : decode cX11_open 6 = .ok (.ifCond .ne 5, 3) := by decide +kernel
theorem dX11_open_9 : decode cX11_open 9 = .ok (.iconst (-1), 1) := by decide +kernel
theorem dX11_open_10 : decode cX11_open 10 = .ok (.ireturn, 1) := by decide +kernel
theorem dX11_open_11 : decode cX11_open 11 = .ok (.iconst 0, 1) := by decide +kernel
theorem dX11_open_12 : decode cX11_open 12 = .ok (.istore_n 2, 1) := by decide +kernel
theorem dX11_open_13 : decode cX11_open 13 = .ok (.iconst 0, 1) := by decide +kernel
theorem dX11_open_14 : decode cX11_open 14 = .ok (.istore_n 3, 1) := by decide +kernel
theorem dX11_open_15 : decode cX11_open 15 = .ok (.iload_n 3, 1) := by decide +kernel
theorem dX11_open_16 : decode cX11_open 16 = .ok (.aload_n 0, 1) := by decide +kernel
theorem dX11_open_17 : decode cX11_open 17 = .ok (.getfield 19, 3) := by decide +kernel
theorem dX11_open_20 : decode cX11_open 20 = .ok (.getfield 115, 3) := by decide +kernel
theorem dX11_open_23 : decode cX11_open 23 = .ok (.getfield 137, 3) := by decide +kernel
theorem dX11_open_26 : decode cX11_open 26 = .ok (.if_icmp .ge 18, 3) := by decide +kernel
theorem dX11_open_29 : decode cX11_open 29 = .ok (.iload_n 2, 1) := by decide +kernel
theorem dX11_open_30 : decode cX11_open 30 = .ok (.aload_n 0, 1) := by decide +kernel
theorem dX11_open_31 : decode cX11_open 31 = .ok (.iload_n 3, 1) := by decide +kernel
theorem dX11_open_32 : decode cX11_open 32 = .ok (.iload_n 1, 1) := by decide +kernel
theorem dX11_open_33 : decode cX11_open 33 = .ok (.invokevirtual 186, 3) := by decide +kernel
theorem dX11_open_36 : decode cX11_open 36 = .ok (.iadd, 1) := by decide +kernel
theorem dX11_open_37 : decode cX11_open 37 = .ok (.istore_n 2, 1) := by decide +kernel
theorem dX11_open_38 : decode cX11_open 38 = .ok (.iinc 3 1, 3) := by decide +kernel
theorem dX11_open_41 : decode cX11_open 41 = .ok (.goto (-26), 3) := by decide +kernel
theorem dX11_open_44 : decode cX11_open 44 = .ok (.iload_n 2, 1) := by decide +kernel
theorem dX11_open_45 : decode cX11_open 45 = .ok (.ireturn, 1) := by decide +kernel
theorem dX11_opened_0 : decode cX11_opened 0 = .ok (.aload_n 0, 1) := by decide +kernel
theorem dX11_opened_1 : decode cX11_opened 1 = .ok (.getfield 19, 3) := by decide +kernel
theorem dX11_opened_4 : decode cX11_opened 4 = .ok (.getfield 115, 3) := by decide +kernel
theorem dX11_opened_7 : decode cX11_opened 7 = .ok (.iload_n 1, 1) := by decide +kernel
theorem dX11_opened_8 : decode cX11_opened 8 = .ok (.bipush 12, 2) := by decide +kernel
theorem dX11_opened_10 : decode cX11_opened 10 = .ok (.invokevirtual 171, 3) := by decide +kernel
theorem dX11_opened_13 : decode cX11_opened 13 = .ok (.ifCond .ne 7, 3) := by decide +kernel
theorem dX11_opened_16 : decode cX11_opened 16 = .ok (.iconst 1, 1) := by decide +kernel
theorem dX11_opened_17 : decode cX11_opened 17 = .ok (.goto 4, 3) := by decide +kernel
theorem dX11_opened_20 : decode cX11_opened 20 = .ok (.iconst 0, 1) := by decide +kernel
theorem dX11_opened_21 : decode cX11_opened 21 = .ok (.istore_n 3, 1) := by decide +kernel
theorem dX11_opened_22 : decode cX11_opened 22 = .ok (.iload_n 2, 1) := by decide +kernel
theorem dX11_opened_23 : decode cX11_opened 23 = .ok (.tableswitch 88 0 2 #[25, 45, 55], 25) := by decide +kernel
theorem dX11_opened_48 : decode cX11_opened 48 = .ok (.aload_n 0, 1) := by decide +kernel
theorem dX11_opened_49 : decode cX11_opened 49 = .ok (.getfield 19, 3) := by decide +kernel
theorem dX11_opened_52 : decode cX11_opened 52 = .ok (.getfield 115, 3) := by decide +kernel
theorem dX11_opened_55 : decode cX11_opened 55 = .ok (.iload_n 1, 1) := by decide +kernel
theorem dX11_opened_56 : decode cX11_opened 56 = .ok (.invokevirtual 189, 3) := by decide +kernel
theorem dX11_opened_59 : decode cX11_opened 59 = .ok (.ifCond .eq 7, 3) := by decide +kernel
theorem dX11_opened_62 : decode cX11_opened 62 = .ok (.iconst 1, 1) := by decide +kernel
theorem dX11_opened_63 : decode cX11_opened 63 = .ok (.goto 4, 3) := by decide +kernel
theorem dX11_opened_66 : decode cX11_opened 66 = .ok (.iconst 0, 1) := by decide +kernel
theorem dX11_opened_67 : decode cX11_opened 67 = .ok (.ireturn, 1) := by decide +kernel
theorem dX11_opened_68 : decode cX11_opened 68 = .ok (.iload_n 3, 1) := by decide +kernel
theorem dX11_opened_69 : decode cX11_opened 69 = .ok (.ifCond .eq 7, 3) := by decide +kernel
theorem dX11_opened_72 : decode cX11_opened 72 = .ok (.iconst 1, 1) := by decide +kernel
theorem dX11_opened_73 : decode cX11_opened 73 = .ok (.goto 4, 3) := by decide +kernel
theorem dX11_opened_76 : decode cX11_opened 76 = .ok (.iconst 0, 1) := by decide +kernel
theorem dX11_opened_77 : decode cX11_opened 77 = .ok (.ireturn, 1) := by decide +kernel
theorem dX11_opened_78 : decode cX11_opened 78 = .ok (.iload_n 3, 1) := by decide +kernel
theorem dX11_opened_79 : decode cX11_opened 79 = .ok (.ifCond .eq 30, 3) := by decide +kernel
theorem dX11_opened_82 : decode cX11_opened 82 = .ok (.aload_n 0, 1) := by decide +kernel
theorem dX11_opened_83 : decode cX11_opened 83 = .ok (.getfield 19, 3) := by decide +kernel
theorem dX11_opened_86 : decode cX11_opened 86 = .ok (.getfield 115, 3) := by decide +kernel
theorem dX11_opened_89 : decode cX11_opened 89 = .ok (.iload_n 1, 1) := by decide +kernel
theorem dX11_opened_90 : decode cX11_opened 90 = .ok (.bipush 7, 2) := by decide +kernel
theorem dX11_opened_92 : decode cX11_opened 92 = .ok (.invokevirtual 171, 3) := by decide +kernel
theorem dX11_opened_95 : decode cX11_opened 95 = .ok (.aload_n 0, 1) := by decide +kernel
theorem dX11_opened_96 : decode cX11_opened 96 = .ok (.getfield 19, 3) := by decide +kernel
theorem dX11_opened_99 : decode cX11_opened 99 = .ok (.getfield 134, 3) := by decide +kernel
theorem dX11_opened_102 : decode cX11_opened 102 = .ok (.if_icmp .ge 7, 3) := by decide +kernel
theorem dX11_opened_105 : decode cX11_opened 105 = .ok (.iconst 1, 1) := by decide +kernel
theorem dX11_opened_106 : decode cX11_opened 106 = .ok (.goto 4, 3) := by decide +kernel
theorem dX11_opened_109 : decode cX11_opened 109 = .ok (.iconst 0, 1) := by decide +kernel
theorem dX11_opened_110 : decode cX11_opened 110 = .ok (.ireturn, 1) := by decide +kernel
theorem dX11_opened_111 : decode cX11_opened 111 = .ok (.aload_n 0, 1) := by decide +kernel
theorem dX11_opened_112 : decode cX11_opened 112 = .ok (.getfield 19, 3) := by decide +kernel
theorem dX11_opened_115 : decode cX11_opened 115 = .ok (.getfield 115, 3) := by decide +kernel
theorem dX11_opened_118 : decode cX11_opened 118 = .ok (.iload_n 1, 1) := by decide +kernel
theorem dX11_opened_119 : decode cX11_opened 119 = .ok (.bipush 12, 2) := by decide +kernel
theorem dX11_opened_121 : decode cX11_opened 121 = .ok (.invokevirtual 171, 3) := by decide +kernel
theorem dX11_opened_124 : decode cX11_opened 124 = .ok (.iconst 3, 1) := by decide +kernel
theorem dX11_opened_125 : decode cX11_opened 125 = .ok (.if_icmp .ne 19, 3) := by decide +kernel
theorem dX11_opened_128 : decode cX11_opened 128 = .ok (.aload_n 0, 1) := by decide +kernel
theorem dX11_opened_129 : decode cX11_opened 129 = .ok (.getfield 19, 3) := by decide +kernel
theorem dX11_opened_132 : decode cX11_opened 132 = .ok (.getfield 115, 3) := by decide +kernel
theorem dX11_opened_135 : decode cX11_opened 135 = .ok (.iload_n 1, 1) := by decide +kernel
theorem dX11_opened_136 : decode cX11_opened 136 = .ok (.bipush 8, 2) := by decide +kernel
theorem dX11_opened_138 : decode cX11_opened 138 = .ok (.invokevirtual 171, 3) := by decide +kernel
theorem dX11_opened_141 : decode cX11_opened 141 = .ok (.goto 4, 3) := by decide +kernel
theorem dX11_opened_144 : decode cX11_opened 144 = .ok (.iconst 0, 1) := by decide +kernel
theorem dX11_opened_145 : decode cX11_opened 145 = .ok (.ireturn, 1) := by decide +kernel
theorem dX11_twice_0 : decode cX11_twice 0 = .ok (.iload_n 1, 1) := by decide +kernel
theorem dX11_twice_1 : decode cX11_twice 1 = .ok (.iconst (-1), 1) := by decide +kernel
theorem dX11_twice_2 : decode cX11_twice 2 = .ok (.if_icmp .eq 36, 3) := by decide +kernel
theorem dX11_twice_5 : decode cX11_twice 5 = .ok (.aload_n 0, 1) := by decide +kernel
theorem dX11_twice_6 : decode cX11_twice 6 = .ok (.iload_n 1, 1) := by decide +kernel
theorem dX11_twice_7 : decode cX11_twice 7 = .ok (.invokevirtual 161, 3) := by decide +kernel
theorem dX11_twice_10 : decode cX11_twice 10 = .ok (.ifCond .ne 8, 3) := by decide +kernel
theorem dX11_twice_13 : decode cX11_twice 13 = .ok (.bipush (-2), 2) := by decide +kernel
theorem dX11_twice_15 : decode cX11_twice 15 = .ok (.goto 22, 3) := by decide +kernel
theorem dX11_twice_18 : decode cX11_twice 18 = .ok (.aload_n 0, 1) := by decide +kernel
theorem dX11_twice_19 : decode cX11_twice 19 = .ok (.getfield 19, 3) := by decide +kernel
theorem dX11_twice_22 : decode cX11_twice 22 = .ok (.getfield 115, 3) := by decide +kernel
theorem dX11_twice_25 : decode cX11_twice 25 = .ok (.iload_n 1, 1) := by decide +kernel
theorem dX11_twice_26 : decode cX11_twice 26 = .ok (.invokevirtual 192, 3) := by decide +kernel
theorem dX11_twice_29 : decode cX11_twice 29 = .ok (.ifCond .eq 7, 3) := by decide +kernel
theorem dX11_twice_32 : decode cX11_twice 32 = .ok (.iconst 1, 1) := by decide +kernel
theorem dX11_twice_33 : decode cX11_twice 33 = .ok (.goto 4, 3) := by decide +kernel
theorem dX11_twice_36 : decode cX11_twice 36 = .ok (.iconst 0, 1) := by decide +kernel
theorem dX11_twice_37 : decode cX11_twice 37 = .ok (.ireturn, 1) := by decide +kernel
theorem dX11_twice_38 : decode cX11_twice 38 = .ok (.iconst 0, 1) := by decide +kernel
theorem dX11_twice_39 : decode cX11_twice 39 = .ok (.istore_n 2, 1) := by decide +kernel
theorem dX11_twice_40 : decode cX11_twice 40 = .ok (.iconst 0, 1) := by decide +kernel
theorem dX11_twice_41 : decode cX11_twice 41 = .ok (.istore_n 3, 1) := by decide +kernel
theorem dX11_twice_42 : decode cX11_twice 42 = .ok (.iload_n 3, 1) := by decide +kernel
theorem dX11_twice_43 : decode cX11_twice 43 = .ok (.aload_n 0, 1) := by decide +kernel
theorem dX11_twice_44 : decode cX11_twice 44 = .ok (.getfield 19, 3) := by decide +kernel
theorem dX11_twice_47 : decode cX11_twice 47 = .ok (.getfield 115, 3) := by decide +kernel
theorem dX11_twice_50 : decode cX11_twice 50 = .ok (.getfield 137, 3) := by decide +kernel
theorem dX11_twice_53 : decode cX11_twice 53 = .ok (.if_icmp .ge 31, 3) := by decide +kernel
theorem dX11_twice_56 : decode cX11_twice 56 = .ok (.iload_n 2, 1) := by decide +kernel
theorem dX11_twice_57 : decode cX11_twice 57 = .ok (.aload_n 0, 1) := by decide +kernel
theorem dX11_twice_58 : decode cX11_twice 58 = .ok (.getfield 19, 3) := by decide +kernel
theorem dX11_twice_61 : decode cX11_twice 61 = .ok (.getfield 115, 3) := by decide +kernel
theorem dX11_twice_64 : decode cX11_twice 64 = .ok (.iload_n 3, 1) := by decide +kernel
theorem dX11_twice_65 : decode cX11_twice 65 = .ok (.invokevirtual 192, 3) := by decide +kernel
theorem dX11_twice_68 : decode cX11_twice 68 = .ok (.ifCond .eq 7, 3) := by decide +kernel
theorem dX11_twice_71 : decode cX11_twice 71 = .ok (.iconst 1, 1) := by decide +kernel
theorem dX11_twice_72 : decode cX11_twice 72 = .ok (.goto 4, 3) := by decide +kernel
theorem dX11_twice_75 : decode cX11_twice 75 = .ok (.iconst 0, 1) := by decide +kernel
theorem dX11_twice_76 : decode cX11_twice 76 = .ok (.iadd, 1) := by decide +kernel
theorem dX11_twice_77 : decode cX11_twice 77 = .ok (.istore_n 2, 1) := by decide +kernel
theorem dX11_twice_78 : decode cX11_twice 78 = .ok (.iinc 3 1, 3) := by decide +kernel
theorem dX11_twice_81 : decode cX11_twice 81 = .ok (.goto (-39), 3) := by decide +kernel
theorem dX11_twice_84 : decode cX11_twice 84 = .ok (.iload_n 2, 1) := by decide +kernel
theorem dX11_twice_85 : decode cX11_twice 85 = .ok (.ireturn, 1) := by decide +kernel
theorem dX11_unfetched_0 : decode cX11_unfetched 0 = .ok (.iload_n 1, 1) := by decide +kernel
theorem dX11_unfetched_1 : decode cX11_unfetched 1 = .ok (.invokestatic 179, 3) := by decide +kernel
theorem dX11_unfetched_4 : decode cX11_unfetched 4 = .ok (.ifCond .eq 12, 3) := by decide +kernel
theorem dX11_unfetched_7 : decode cX11_unfetched 7 = .ok (.iload_n 2, 1) := by decide +kernel
theorem dX11_unfetched_8 : decode cX11_unfetched 8 = .ok (.iconst 0, 1) := by decide +kernel
theorem dX11_unfetched_9 : decode cX11_unfetched 9 = .ok (.iconst 2, 1) := by decide +kernel
theorem dX11_unfetched_10 : decode cX11_unfetched 10 = .ok (.invokestatic 141, 3) := by decide +kernel
theorem dX11_unfetched_13 : decode cX11_unfetched 13 = .ok (.ifCond .ne 5, 3) := by decide +kernel
theorem dX11_unfetched_16 : decode cX11_unfetched 16 = .ok (.iconst (-1), 1) := by decide +kernel
theorem dX11_unfetched_17 : decode cX11_unfetched 17 = .ok (.ireturn, 1) := by decide +kernel
theorem dX11_unfetched_18 : decode cX11_unfetched 18 = .ok (.iconst 0, 1) := by decide +kernel
theorem dX11_unfetched_19 : decode cX11_unfetched 19 = .ok (.istore_n 3, 1) := by decide +kernel
theorem dX11_unfetched_20 : decode cX11_unfetched 20 = .ok (.iconst 0, 1) := by decide +kernel
theorem dX11_unfetched_21 : decode cX11_unfetched 21 = .ok (.istore 4, 2) := by decide +kernel
theorem dX11_unfetched_23 : decode cX11_unfetched 23 = .ok (.iconst (-1), 1) := by decide +kernel
theorem dX11_unfetched_24 : decode cX11_unfetched 24 = .ok (.istore 5, 2) := by decide +kernel
theorem dX11_unfetched_26 : decode cX11_unfetched 26 = .ok (.iconst 0, 1) := by decide +kernel
theorem dX11_unfetched_27 : decode cX11_unfetched 27 = .ok (.istore 6, 2) := by decide +kernel
theorem dX11_unfetched_29 : decode cX11_unfetched 29 = .ok (.iload 6, 2) := by decide +kernel
theorem dX11_unfetched_31 : decode cX11_unfetched 31 = .ok (.aload_n 0, 1) := by decide +kernel
theorem dX11_unfetched_32 : decode cX11_unfetched 32 = .ok (.getfield 19, 3) := by decide +kernel
theorem dX11_unfetched_35 : decode cX11_unfetched 35 = .ok (.getfield 115, 3) := by decide +kernel
theorem dX11_unfetched_38 : decode cX11_unfetched 38 = .ok (.getfield 137, 3) := by decide +kernel
theorem dX11_unfetched_41 : decode cX11_unfetched 41 = .ok (.if_icmp .ge 56, 3) := by decide +kernel
theorem dX11_unfetched_44 : decode cX11_unfetched 44 = .ok (.aload_n 0, 1) := by decide +kernel
theorem dX11_unfetched_45 : decode cX11_unfetched 45 = .ok (.iload 6, 2) := by decide +kernel
theorem dX11_unfetched_47 : decode cX11_unfetched 47 = .ok (.iload_n 1, 1) := by decide +kernel
theorem dX11_unfetched_48 : decode cX11_unfetched 48 = .ok (.invokevirtual 195, 3) := by decide +kernel
theorem dX11_unfetched_51 : decode cX11_unfetched 51 = .ok (.ifCond .eq 40, 3) := by decide +kernel
theorem dX11_unfetched_54 : decode cX11_unfetched 54 = .ok (.iinc 3 1, 3) := by decide +kernel
theorem dX11_unfetched_57 : decode cX11_unfetched 57 = .ok (.iload 4, 2) := by decide +kernel
theorem dX11_unfetched_59 : decode cX11_unfetched 59 = .ok (.aload_n 0, 1) := by decide +kernel
theorem dX11_unfetched_60 : decode cX11_unfetched 60 = .ok (.getfield 19, 3) := by decide +kernel
theorem dX11_unfetched_63 : decode cX11_unfetched 63 = .ok (.getfield 115, 3) := by decide +kernel
theorem dX11_unfetched_66 : decode cX11_unfetched 66 = .ok (.iload 6, 2) := by decide +kernel
theorem dX11_unfetched_68 : decode cX11_unfetched 68 = .ok (.bipush 8, 2) := by decide +kernel
theorem dX11_unfetched_70 : decode cX11_unfetched 70 = .ok (.invokevirtual 171, 3) := by decide +kernel
theorem dX11_unfetched_73 : decode cX11_unfetched 73 = .ok (.iadd, 1) := by decide +kernel
theorem dX11_unfetched_74 : decode cX11_unfetched 74 = .ok (.istore 4, 2) := by decide +kernel
theorem dX11_unfetched_76 : decode cX11_unfetched 76 = .ok (.iload 5, 2) := by decide +kernel
theorem dX11_unfetched_78 : decode cX11_unfetched 78 = .ok (.iconst (-1), 1) := by decide +kernel
theorem dX11_unfetched_79 : decode cX11_unfetched 79 = .ok (.if_icmp .ne 8, 3) := by decide +kernel
theorem dX11_unfetched_82 : decode cX11_unfetched 82 = .ok (.iload 6, 2) := by decide +kernel
theorem dX11_unfetched_84 : decode cX11_unfetched 84 = .ok (.goto 5, 3) := by decide +kernel
theorem dX11_unfetched_87 : decode cX11_unfetched 87 = .ok (.iload 5, 2) := by decide +kernel
theorem dX11_unfetched_89 : decode cX11_unfetched 89 = .ok (.istore 5, 2) := by decide +kernel
theorem dX11_unfetched_91 : decode cX11_unfetched 91 = .ok (.iinc 6 1, 3) := by decide +kernel
theorem dX11_unfetched_94 : decode cX11_unfetched 94 = .ok (.goto (-65), 3) := by decide +kernel
theorem dX11_unfetched_97 : decode cX11_unfetched 97 = .ok (.iload_n 2, 1) := by decide +kernel
theorem dX11_unfetched_98 : decode cX11_unfetched 98 = .ok (.ifCond .ne 7, 3) := by decide +kernel
theorem dX11_unfetched_101 : decode cX11_unfetched 101 = .ok (.iload_n 3, 1) := by decide +kernel
theorem dX11_unfetched_102 : decode cX11_unfetched 102 = .ok (.goto 15, 3) := by decide +kernel
theorem dX11_unfetched_105 : decode cX11_unfetched 105 = .ok (.iload_n 2, 1) := by decide +kernel
theorem dX11_unfetched_106 : decode cX11_unfetched 106 = .ok (.iconst 1, 1) := by decide +kernel
theorem dX11_unfetched_107 : decode cX11_unfetched 107 = .ok (.if_icmp .ne 8, 3) := by decide +kernel
theorem dX11_unfetched_110 : decode cX11_unfetched 110 = .ok (.iload 4, 2) := by decide +kernel
theorem dX11_unfetched_112 : decode cX11_unfetched 112 = .ok (.goto 5, 3) := by decide +kernel
theorem dX11_unfetched_115 : decode cX11_unfetched 115 = .ok (.iload 5, 2) := by decide +kernel
theorem dX11_unfetched_117 : decode cX11_unfetched 117 = .ok (.ireturn, 1) := by decide +kernel
theorem dX11_isUnfetched_0 : decode cX11_isUnfetched 0 = .ok (.aload_n 0, 1) := by decide +kernel
theorem dX11_isUnfetched_1 : decode cX11_isUnfetched 1 = .ok (.getfield 19, 3) := by decide +kernel
theorem dX11_isUnfetched_4 : decode cX11_isUnfetched 4 = .ok (.getfield 115, 3) := by decide +kernel
theorem dX11_isUnfetched_7 : decode cX11_isUnfetched 7 = .ok (.iload_n 1, 1) := by decide +kernel
theorem dX11_isUnfetched_8 : decode cX11_isUnfetched 8 = .ok (.bipush 7, 2) := by decide +kernel
theorem dX11_isUnfetched_10 : decode cX11_isUnfetched 10 = .ok (.invokevirtual 171, 3) := by decide +kernel
theorem dX11_isUnfetched_13 : decode cX11_isUnfetched 13 = .ok (.aload_n 0, 1) := by decide +kernel
theorem dX11_isUnfetched_14 : decode cX11_isUnfetched 14 = .ok (.getfield 19, 3) := by decide +kernel
theorem dX11_isUnfetched_17 : decode cX11_isUnfetched 17 = .ok (.getfield 106, 3) := by decide +kernel
theorem dX11_isUnfetched_20 : decode cX11_isUnfetched 20 = .ok (.getfield 199, 3) := by decide +kernel
theorem dX11_isUnfetched_23 : decode cX11_isUnfetched 23 = .ok (.iconst 1, 1) := by decide +kernel
theorem dX11_isUnfetched_24 : decode cX11_isUnfetched 24 = .ok (.iaload, 1) := by decide +kernel
theorem dX11_isUnfetched_25 : decode cX11_isUnfetched 25 = .ok (.iadd, 1) := by decide +kernel
theorem dX11_isUnfetched_26 : decode cX11_isUnfetched 26 = .ok (.iload_n 2, 1) := by decide +kernel
theorem dX11_isUnfetched_27 : decode cX11_isUnfetched 27 = .ok (.if_icmp .gt 30, 3) := by decide +kernel
theorem dX11_isUnfetched_30 : decode cX11_isUnfetched 30 = .ok (.aload_n 0, 1) := by decide +kernel
theorem dX11_isUnfetched_31 : decode cX11_isUnfetched 31 = .ok (.getfield 19, 3) := by decide +kernel
theorem dX11_isUnfetched_34 : decode cX11_isUnfetched 34 = .ok (.getfield 115, 3) := by decide +kernel
theorem dX11_isUnfetched_37 : decode cX11_isUnfetched 37 = .ok (.iload_n 1, 1) := by decide +kernel
theorem dX11_isUnfetched_38 : decode cX11_isUnfetched 38 = .ok (.iload_n 2, 1) := by decide +kernel
theorem dX11_isUnfetched_39 : decode cX11_isUnfetched 39 = .ok (.aload_n 0, 1) := by decide +kernel
theorem dX11_isUnfetched_40 : decode cX11_isUnfetched 40 = .ok (.getfield 19, 3) := by decide +kernel
theorem dX11_isUnfetched_43 : decode cX11_isUnfetched 43 = .ok (.getfield 134, 3) := by decide +kernel
theorem dX11_isUnfetched_46 : decode cX11_isUnfetched 46 = .ok (.invokevirtual 182, 3) := by decide +kernel
theorem dX11_isUnfetched_49 : decode cX11_isUnfetched 49 = .ok (.iconst 2, 1) := by decide +kernel
theorem dX11_isUnfetched_50 : decode cX11_isUnfetched 50 = .ok (.if_icmp .ne 7, 3) := by decide +kernel
theorem dX11_isUnfetched_53 : decode cX11_isUnfetched 53 = .ok (.iconst 1, 1) := by decide +kernel
theorem dX11_isUnfetched_54 : decode cX11_isUnfetched 54 = .ok (.goto 4, 3) := by decide +kernel
theorem dX11_isUnfetched_57 : decode cX11_isUnfetched 57 = .ok (.iconst 0, 1) := by decide +kernel
theorem dX11_isUnfetched_58 : decode cX11_isUnfetched 58 = .ok (.ireturn, 1) := by decide +kernel
theorem dX11_contract_0 : decode cX11_contract 0 = .ok (.iload_n 1, 1) := by decide +kernel
theorem dX11_contract_1 : decode cX11_contract 1 = .ok (.invokestatic 145, 3) := by decide +kernel
theorem dX11_contract_4 : decode cX11_contract 4 = .ok (.ifCond .eq 24, 3) := by decide +kernel
theorem dX11_contract_7 : decode cX11_contract 7 = .ok (.iload_n 2, 1) := by decide +kernel
theorem dX11_contract_8 : decode cX11_contract 8 = .ok (.iconst 0, 1) := by decide +kernel
theorem dX11_contract_9 : decode cX11_contract 9 = .ok (.bipush 30, 2) := by decide +kernel
theorem dX11_contract_11 : decode cX11_contract 11 = .ok (.invokestatic 141, 3) := by decide +kernel
theorem dX11_contract_14 : decode cX11_contract 14 = .ok (.ifCond .eq 14, 3) := by decide +kernel
theorem dX11_contract_17 : decode cX11_contract 17 = .ok (.iload_n 3, 1) := by decide +kernel
theorem dX11_contract_18 : decode cX11_contract 18 = .ok (.iconst 0, 1) := by decide +kernel
theorem dX11_contract_19 : decode cX11_contract 19 = .ok (.sipush 999, 3) := by decide +kernel
theorem dX11_contract_22 : decode cX11_contract 22 = .ok (.invokestatic 141, 3) := by decide +kernel
theorem dX11_contract_25 : decode cX11_contract 25 = .ok (.ifCond .ne 5, 3) := by decide +kernel
theorem dX11_contract_28 : decode cX11_contract 28 = .ok (.iconst 0, 1) := by decide +kernel
theorem dX11_contract_29 : decode cX11_contract 29 = .ok (.ireturn, 1) := by decide +kernel
theorem dX11_contract_30 : decode cX11_contract 30 = .ok (.aload_n 0, 1) := by decide +kernel
theorem dX11_contract_31 : decode cX11_contract 31 = .ok (.getfield 19, 3) := by decide +kernel
theorem dX11_contract_34 : decode cX11_contract 34 = .ok (.getfield 122, 3) := by decide +kernel
theorem dX11_contract_37 : decode cX11_contract 37 = .ok (.getfield 202, 3) := by decide +kernel
theorem dX11_contract_40 : decode cX11_contract 40 = .ok (.iload_n 1, 1) := by decide +kernel
theorem dX11_contract_41 : decode cX11_contract 41 = .ok (.iload_n 2, 1) := by decide +kernel
theorem dX11_contract_42 : decode cX11_contract 42 = .ok (.iastore, 1) := by decide +kernel
theorem dX11_contract_43 : decode cX11_contract 43 = .ok (.aload_n 0, 1) := by decide +kernel
theorem dX11_contract_44 : decode cX11_contract 44 = .ok (.getfield 19, 3) := by decide +kernel
theorem dX11_contract_47 : decode cX11_contract 47 = .ok (.getfield 122, 3) := by decide +kernel
theorem dX11_contract_50 : decode cX11_contract 50 = .ok (.getfield 205, 3) := by decide +kernel
theorem dX11_contract_53 : decode cX11_contract 53 = .ok (.iload_n 1, 1) := by decide +kernel
theorem dX11_contract_54 : decode cX11_contract 54 = .ok (.iload_n 3, 1) := by decide +kernel
theorem dX11_contract_55 : decode cX11_contract 55 = .ok (.iastore, 1) := by decide +kernel
theorem dX11_contract_56 : decode cX11_contract 56 = .ok (.iconst 1, 1) := by decide +kernel
theorem dX11_contract_57 : decode cX11_contract 57 = .ok (.ireturn, 1) := by decide +kernel
theorem dX11_owed_0 : decode cX11_owed 0 = .ok (.iload_n 1, 1) := by decide +kernel
theorem dX11_owed_1 : decode cX11_owed 1 = .ok (.invokestatic 145, 3) := by decide +kernel
theorem dX11_owed_4 : decode cX11_owed 4 = .ok (.ifCond .eq 19, 3) := by decide +kernel
theorem dX11_owed_7 : decode cX11_owed 7 = .ok (.aload_n 0, 1) := by decide +kernel
theorem dX11_owed_8 : decode cX11_owed 8 = .ok (.getfield 19, 3) := by decide +kernel
theorem dX11_owed_11 : decode cX11_owed 11 = .ok (.getfield 122, 3) := by decide +kernel
theorem dX11_owed_14 : decode cX11_owed 14 = .ok (.getfield 202, 3) := by decide +kernel
theorem dX11_owed_17 : decode cX11_owed 17 = .ok (.iload_n 1, 1) := by decide +kernel
theorem dX11_owed_18 : decode cX11_owed 18 = .ok (.iaload, 1) := by decide +kernel
theorem dX11_owed_19 : decode cX11_owed 19 = .ok (.iconst (-1), 1) := by decide +kernel
theorem dX11_owed_20 : decode cX11_owed 20 = .ok (.if_icmp .ne 5, 3) := by decide +kernel
theorem dX11_owed_23 : decode cX11_owed 23 = .ok (.iconst (-1), 1) := by decide +kernel
theorem dX11_owed_24 : decode cX11_owed 24 = .ok (.ireturn, 1) := by decide +kernel
theorem dX11_owed_25 : decode cX11_owed 25 = .ok (.iconst 0, 1) := by decide +kernel
theorem dX11_owed_26 : decode cX11_owed 26 = .ok (.istore_n 2, 1) := by decide +kernel
theorem dX11_owed_27 : decode cX11_owed 27 = .ok (.iconst 0, 1) := by decide +kernel
theorem dX11_owed_28 : decode cX11_owed 28 = .ok (.istore_n 3, 1) := by decide +kernel
theorem dX11_owed_29 : decode cX11_owed 29 = .ok (.iload_n 3, 1) := by decide +kernel
theorem dX11_owed_30 : decode cX11_owed 30 = .ok (.aload_n 0, 1) := by decide +kernel
theorem dX11_owed_31 : decode cX11_owed 31 = .ok (.getfield 19, 3) := by decide +kernel
theorem dX11_owed_34 : decode cX11_owed 34 = .ok (.getfield 115, 3) := by decide +kernel
theorem dX11_owed_37 : decode cX11_owed 37 = .ok (.getfield 137, 3) := by decide +kernel
theorem dX11_owed_40 : decode cX11_owed 40 = .ok (.if_icmp .ge 67, 3) := by decide +kernel
theorem dX11_owed_43 : decode cX11_owed 43 = .ok (.aload_n 0, 1) := by decide +kernel
theorem dX11_owed_44 : decode cX11_owed 44 = .ok (.getfield 19, 3) := by decide +kernel
theorem dX11_owed_47 : decode cX11_owed 47 = .ok (.getfield 115, 3) := by decide +kernel
theorem dX11_owed_50 : decode cX11_owed 50 = .ok (.iload_n 3, 1) := by decide +kernel
theorem dX11_owed_51 : decode cX11_owed 51 = .ok (.iconst 5, 1) := by decide +kernel
theorem dX11_owed_52 : decode cX11_owed 52 = .ok (.invokevirtual 171, 3) := by decide +kernel
theorem dX11_owed_55 : decode cX11_owed 55 = .ok (.iload_n 1, 1) := by decide +kernel
theorem dX11_owed_56 : decode cX11_owed 56 = .ok (.if_icmp .ne 45, 3) := by decide +kernel
theorem dX11_owed_59 : decode cX11_owed 59 = .ok (.aload_n 0, 1) := by decide +kernel
theorem dX11_owed_60 : decode cX11_owed 60 = .ok (.getfield 19, 3) := by decide +kernel
theorem dX11_owed_63 : decode cX11_owed 63 = .ok (.getfield 115, 3) := by decide +kernel
theorem dX11_owed_66 : decode cX11_owed 66 = .ok (.iload_n 3, 1) := by decide +kernel
theorem dX11_owed_67 : decode cX11_owed 67 = .ok (.aload_n 0, 1) := by decide +kernel
theorem dX11_owed_68 : decode cX11_owed 68 = .ok (.getfield 19, 3) := by decide +kernel
theorem dX11_owed_71 : decode cX11_owed 71 = .ok (.getfield 134, 3) := by decide +kernel
theorem dX11_owed_74 : decode cX11_owed 74 = .ok (.invokevirtual 208, 3) := by decide +kernel
theorem dX11_owed_77 : decode cX11_owed 77 = .ok (.istore 4, 2) := by decide +kernel
theorem dX11_owed_79 : decode cX11_owed 79 = .ok (.iload_n 2, 1) := by decide +kernel
theorem dX11_owed_80 : decode cX11_owed 80 = .ok (.iconst 0, 1) := by decide +kernel
theorem dX11_owed_81 : decode cX11_owed 81 = .ok (.iload 4, 2) := by decide +kernel
theorem dX11_owed_83 : decode cX11_owed 83 = .ok (.aload_n 0, 1) := by decide +kernel
theorem dX11_owed_84 : decode cX11_owed 84 = .ok (.getfield 19, 3) := by decide +kernel
theorem dX11_owed_87 : decode cX11_owed 87 = .ok (.getfield 122, 3) := by decide +kernel
theorem dX11_owed_90 : decode cX11_owed 90 = .ok (.getfield 202, 3) := by decide +kernel
theorem dX11_owed_93 : decode cX11_owed 93 = .ok (.iload_n 1, 1) := by decide +kernel
theorem dX11_owed_94 : decode cX11_owed 94 = .ok (.iaload, 1) := by decide +kernel
theorem dX11_owed_95 : decode cX11_owed 95 = .ok (.isub, 1) := by decide +kernel
theorem dX11_owed_96 : decode cX11_owed 96 = .ok (.invokestatic 211, 3) := by decide +kernel
theorem dX11_owed_99 : decode cX11_owed 99 = .ok (.iadd, 1) := by decide +kernel
theorem dX11_owed_100 : decode cX11_owed 100 = .ok (.istore_n 2, 1) := by decide +kernel
theorem dX11_owed_101 : decode cX11_owed 101 = .ok (.iinc 3 1, 3) := by decide +kernel
theorem dX11_owed_104 : decode cX11_owed 104 = .ok (.goto (-75), 3) := by decide +kernel
theorem dX11_owed_107 : decode cX11_owed 107 = .ok (.iload_n 2, 1) := by decide +kernel
theorem dX11_owed_108 : decode cX11_owed 108 = .ok (.aload_n 0, 1) := by decide +kernel
theorem dX11_owed_109 : decode cX11_owed 109 = .ok (.getfield 19, 3) := by decide +kernel
theorem dX11_owed_112 : decode cX11_owed 112 = .ok (.getfield 122, 3) := by decide +kernel
theorem dX11_owed_115 : decode cX11_owed 115 = .ok (.getfield 205, 3) := by decide +kernel
theorem dX11_owed_118 : decode cX11_owed 118 = .ok (.iload_n 1, 1) := by decide +kernel
theorem dX11_owed_119 : decode cX11_owed 119 = .ok (.iaload, 1) := by decide +kernel
theorem dX11_owed_120 : decode cX11_owed 120 = .ok (.imul, 1) := by decide +kernel
theorem dX11_owed_121 : decode cX11_owed 121 = .ok (.ireturn, 1) := by decide +kernel
theorem dX11_loads_0 : decode cX11_loads 0 = .ok (.aload_n 0, 1) := by decide +kernel
theorem dX11_loads_1 : decode cX11_loads 1 = .ok (.iconst 0, 1) := by decide +kernel
theorem dX11_loads_2 : decode cX11_loads 2 = .ok (.invokevirtual 216, 3) := by decide +kernel
theorem dX11_loads_5 : decode cX11_loads 5 = .ok (.ifCond .eq 32, 3) := by decide +kernel
theorem dX11_loads_8 : decode cX11_loads 8 = .ok (.aload_n 0, 1) := by decide +kernel
theorem dX11_loads_9 : decode cX11_loads 9 = .ok (.getfield 30, 3) := by decide +kernel
theorem dX11_loads_12 : decode cX11_loads 12 = .ok (.aload_n 0, 1) := by decide +kernel
theorem dX11_loads_13 : decode cX11_loads 13 = .ok (.getfield 19, 3) := by decide +kernel
theorem dX11_loads_16 : decode cX11_loads 16 = .ok (.getfield 134, 3) := by decide +kernel
theorem dX11_loads_19 : decode cX11_loads 19 = .ok (.aload_n 0, 1) := by decide +kernel
theorem dX11_loads_20 : decode cX11_loads 20 = .ok (.getfield 19, 3) := by decide +kernel
theorem dX11_loads_23 : decode cX11_loads 23 = .ok (.getfield 106, 3) := by decide +kernel
theorem dX11_loads_26 : decode cX11_loads 26 = .ok (.getfield 199, 3) := by decide +kernel
theorem dX11_loads_29 : decode cX11_loads 29 = .ok (.iconst 0, 1) := by decide +kernel
theorem dX11_loads_30 : decode cX11_loads 30 = .ok (.iaload, 1) := by decide +kernel
theorem dX11_loads_31 : decode cX11_loads 31 = .ok (.invokevirtual 220, 3) := by decide +kernel
theorem dX11_loads_34 : decode cX11_loads 34 = .ok (.goto 5, 3) := by decide +kernel
theorem dX11_loads_37 : decode cX11_loads 37 = .ok (.bipush (-2), 2) := by decide +kernel
theorem dX11_loads_39 : decode cX11_loads 39 = .ok (.ireturn, 1) := by decide +kernel
theorem dX11_hurry_0 : decode cX11_hurry 0 = .ok (.aload_n 0, 1) := by decide +kernel
theorem dX11_hurry_1 : decode cX11_hurry 1 = .ok (.iconst 1, 1) := by decide +kernel
theorem dX11_hurry_2 : decode cX11_hurry 2 = .ok (.invokevirtual 216, 3) := by decide +kernel
theorem dX11_hurry_5 : decode cX11_hurry 5 = .ok (.ifCond .eq 32, 3) := by decide +kernel
theorem dX11_hurry_8 : decode cX11_hurry 8 = .ok (.aload_n 0, 1) := by decide +kernel
theorem dX11_hurry_9 : decode cX11_hurry 9 = .ok (.getfield 30, 3) := by decide +kernel
theorem dX11_hurry_12 : decode cX11_hurry 12 = .ok (.aload_n 0, 1) := by decide +kernel
theorem dX11_hurry_13 : decode cX11_hurry 13 = .ok (.getfield 19, 3) := by decide +kernel
theorem dX11_hurry_16 : decode cX11_hurry 16 = .ok (.getfield 134, 3) := by decide +kernel
theorem dX11_hurry_19 : decode cX11_hurry 19 = .ok (.aload_n 0, 1) := by decide +kernel
theorem dX11_hurry_20 : decode cX11_hurry 20 = .ok (.getfield 19, 3) := by decide +kernel
theorem dX11_hurry_23 : decode cX11_hurry 23 = .ok (.getfield 106, 3) := by decide +kernel
theorem dX11_hurry_26 : decode cX11_hurry 26 = .ok (.getfield 199, 3) := by decide +kernel
theorem dX11_hurry_29 : decode cX11_hurry 29 = .ok (.iconst 0, 1) := by decide +kernel
theorem dX11_hurry_30 : decode cX11_hurry 30 = .ok (.iaload, 1) := by decide +kernel
theorem dX11_hurry_31 : decode cX11_hurry 31 = .ok (.invokevirtual 220, 3) := by decide +kernel
theorem dX11_hurry_34 : decode cX11_hurry 34 = .ok (.goto 5, 3) := by decide +kernel
theorem dX11_hurry_37 : decode cX11_hurry 37 = .ok (.bipush (-2), 2) := by decide +kernel
theorem dX11_hurry_39 : decode cX11_hurry 39 = .ok (.ireturn, 1) := by decide +kernel
theorem dX11_patience_0 : decode cX11_patience 0 = .ok (.aload_n 0, 1) := by decide +kernel
theorem dX11_patience_1 : decode cX11_patience 1 = .ok (.iconst 0, 1) := by decide +kernel
theorem dX11_patience_2 : decode cX11_patience 2 = .ok (.invokevirtual 216, 3) := by decide +kernel
theorem dX11_patience_5 : decode cX11_patience 5 = .ok (.ifCond .eq 32, 3) := by decide +kernel
theorem dX11_patience_8 : decode cX11_patience 8 = .ok (.aload_n 0, 1) := by decide +kernel
theorem dX11_patience_9 : decode cX11_patience 9 = .ok (.getfield 30, 3) := by decide +kernel
theorem dX11_patience_12 : decode cX11_patience 12 = .ok (.aload_n 0, 1) := by decide +kernel
theorem dX11_patience_13 : decode cX11_patience 13 = .ok (.getfield 19, 3) := by decide +kernel
theorem dX11_patience_16 : decode cX11_patience 16 = .ok (.getfield 134, 3) := by decide +kernel
theorem dX11_patience_19 : decode cX11_patience 19 = .ok (.aload_n 0, 1) := by decide +kernel
theorem dX11_patience_20 : decode cX11_patience 20 = .ok (.getfield 19, 3) := by decide +kernel
theorem dX11_patience_23 : decode cX11_patience 23 = .ok (.getfield 106, 3) := by decide +kernel
theorem dX11_patience_26 : decode cX11_patience 26 = .ok (.getfield 199, 3) := by decide +kernel
theorem dX11_patience_29 : decode cX11_patience 29 = .ok (.iconst 0, 1) := by decide +kernel
theorem dX11_patience_30 : decode cX11_patience 30 = .ok (.iaload, 1) := by decide +kernel
theorem dX11_patience_31 : decode cX11_patience 31 = .ok (.invokevirtual 223, 3) := by decide +kernel
theorem dX11_patience_34 : decode cX11_patience 34 = .ok (.goto 5, 3) := by decide +kernel
theorem dX11_patience_37 : decode cX11_patience 37 = .ok (.bipush (-2), 2) := by decide +kernel
theorem dX11_patience_39 : decode cX11_patience 39 = .ok (.ireturn, 1) := by decide +kernel
theorem dX11_takePlanned_0 : decode cX11_takePlanned 0 = .ok (.aload_n 0, 1) := by decide +kernel
theorem dX11_takePlanned_1 : decode cX11_takePlanned 1 = .ok (.getfield 10, 3) := by decide +kernel
theorem dX11_takePlanned_4 : decode cX11_takePlanned 4 = .ok (.invokevirtual 226, 3) := by decide +kernel
theorem dX11_takePlanned_7 : decode cX11_takePlanned 7 = .ok (.istore_n 2, 1) := by decide +kernel
theorem dX11_takePlanned_8 : decode cX11_takePlanned 8 = .ok (.iload_n 2, 1) := by decide +kernel
theorem dX11_takePlanned_9 : decode cX11_takePlanned 9 = .ok (.iconst 1, 1) := by decide +kernel
theorem dX11_takePlanned_10 : decode cX11_takePlanned 10 = .ok (.bipush 10, 2) := by decide +kernel
theorem dX11_takePlanned_12 : decode cX11_takePlanned 12 = .ok (.invokestatic 141, 3) := by decide +kernel
theorem dX11_takePlanned_15 : decode cX11_takePlanned 15 = .ok (.ifCond .ne 5, 3) := by decide +kernel
theorem dX11_takePlanned_18 : decode cX11_takePlanned 18 = .ok (.iconst 0, 1) := by decide +kernel
theorem dX11_takePlanned_19 : decode cX11_takePlanned 19 = .ok (.ireturn, 1) := by decide +kernel
theorem dX11_takePlanned_20 : decode cX11_takePlanned 20 = .ok (.aload_n 0, 1) := by decide +kernel
theorem dX11_takePlanned_21 : decode cX11_takePlanned 21 = .ok (.getfield 30, 3) := by decide +kernel
theorem dX11_takePlanned_24 : decode cX11_takePlanned 24 = .ok (.invokevirtual 229, 3) := by decide +kernel
theorem dX11_takePlanned_27 : decode cX11_takePlanned 27 = .ok (.lconst 0, 1) := by decide +kernel
theorem dX11_takePlanned_28 : decode cX11_takePlanned 28 = .ok (.lstore_n 3, 1) := by decide +kernel
theorem dX11_takePlanned_29 : decode cX11_takePlanned 29 = .ok (.iconst 0, 1) := by decide +kernel
theorem dX11_takePlanned_30 : decode cX11_takePlanned 30 = .ok (.istore 5, 2) := by decide +kernel
theorem dX11_takePlanned_32 : decode cX11_takePlanned 32 = .ok (.iload 5, 2) := by decide +kernel
theorem dX11_takePlanned_34 : decode cX11_takePlanned 34 = .ok (.iload_n 2, 1) := by decide +kernel
theorem dX11_takePlanned_35 : decode cX11_takePlanned 35 = .ok (.if_icmp .ge 159, 3) := by decide +kernel
theorem dX11_takePlanned_38 : decode cX11_takePlanned 38 = .ok (.aload_n 0, 1) := by decide +kernel
theorem dX11_takePlanned_39 : decode cX11_takePlanned 39 = .ok (.getfield 10, 3) := by decide +kernel
theorem dX11_takePlanned_42 : decode cX11_takePlanned 42 = .ok (.iload 5, 2) := by decide +kernel
theorem dX11_takePlanned_44 : decode cX11_takePlanned 44 = .ok (.invokevirtual 230, 3) := by decide +kernel
theorem dX11_takePlanned_47 : decode cX11_takePlanned 47 = .ok (.istore 6, 2) := by decide +kernel
theorem dX11_takePlanned_49 : decode cX11_takePlanned 49 = .ok (.aload_n 0, 1) := by decide +kernel
theorem dX11_takePlanned_50 : decode cX11_takePlanned 50 = .ok (.iload 6, 2) := by decide +kernel
theorem dX11_takePlanned_52 : decode cX11_takePlanned 52 = .ok (.invokevirtual 161, 3) := by decide +kernel
theorem dX11_takePlanned_55 : decode cX11_takePlanned 55 = .ok (.ifCond .eq 31, 3) := by decide +kernel
theorem dX11_takePlanned_58 : decode cX11_takePlanned 58 = .ok (.lload_n 3, 1) := by decide +kernel
theorem dX11_takePlanned_59 : decode cX11_takePlanned 59 = .ok (.iload 6, 2) := by decide +kernel
theorem dX11_takePlanned_61 : decode cX11_takePlanned 61 = .ok (.lshr, 1) := by decide +kernel
theorem dX11_takePlanned_62 : decode cX11_takePlanned 62 = .ok (.lconst 1, 1) := by decide +kernel
theorem dX11_takePlanned_63 : decode cX11_takePlanned 63 = .ok (.land, 1) := by decide +kernel
theorem dX11_takePlanned_64 : decode cX11_takePlanned 64 = .ok (.lconst 0, 1) := by decide +kernel
theorem dX11_takePlanned_65 : decode cX11_takePlanned 65 = .ok (.lcmp, 1) := by decide +kernel
theorem dX11_takePlanned_66 : decode cX11_takePlanned 66 = .ok (.ifCond .ne 20, 3) := by decide +kernel
theorem dX11_takePlanned_69 : decode cX11_takePlanned 69 = .ok (.aload_n 0, 1) := by decide +kernel
theorem dX11_takePlanned_70 : decode cX11_takePlanned 70 = .ok (.getfield 19, 3) := by decide +kernel
theorem dX11_takePlanned_73 : decode cX11_takePlanned 73 = .ok (.getfield 115, 3) := by decide +kernel
theorem dX11_takePlanned_76 : decode cX11_takePlanned 76 = .ok (.iload 6, 2) := by decide +kernel
theorem dX11_takePlanned_78 : decode cX11_takePlanned 78 = .ok (.bipush 12, 2) := by decide +kernel
theorem dX11_takePlanned_80 : decode cX11_takePlanned 80 = .ok (.invokevirtual 171, 3) := by decide +kernel
theorem dX11_takePlanned_83 : decode cX11_takePlanned 83 = .ok (.ifCond .eq 5, 3) := by decide +kernel
theorem dX11_takePlanned_86 : decode cX11_takePlanned 86 = .ok (.iconst 0, 1) := by decide +kernel
theorem dX11_takePlanned_87 : decode cX11_takePlanned 87 = .ok (.ireturn, 1) := by decide +kernel
theorem dX11_takePlanned_88 : decode cX11_takePlanned 88 = .ok (.lload_n 3, 1) := by decide +kernel
theorem dX11_takePlanned_89 : decode cX11_takePlanned 89 = .ok (.lconst 1, 1) := by decide +kernel
theorem dX11_takePlanned_90 : decode cX11_takePlanned 90 = .ok (.iload 6, 2) := by decide +kernel
theorem dX11_takePlanned_92 : decode cX11_takePlanned 92 = .ok (.lshl, 1) := by decide +kernel
theorem dX11_takePlanned_93 : decode cX11_takePlanned 93 = .ok (.lor, 1) := by decide +kernel
theorem dX11_takePlanned_94 : decode cX11_takePlanned 94 = .ok (.lstore_n 3, 1) := by decide +kernel
theorem dX11_takePlanned_95 : decode cX11_takePlanned 95 = .ok (.iload_n 1, 1) := by decide +kernel
theorem dX11_takePlanned_96 : decode cX11_takePlanned 96 = .ok (.ifCond .eq 18, 3) := by decide +kernel
theorem dX11_takePlanned_99 : decode cX11_takePlanned 99 = .ok (.iload 5, 2) := by decide +kernel
theorem dX11_takePlanned_101 : decode cX11_takePlanned 101 = .ok (.ifCond .ne 13, 3) := by decide +kernel
theorem dX11_takePlanned_104 : decode cX11_takePlanned 104 = .ok (.aload_n 0, 1) := by decide +kernel
theorem dX11_takePlanned_105 : decode cX11_takePlanned 105 = .ok (.getfield 19, 3) := by decide +kernel
theorem dX11_takePlanned_108 : decode cX11_takePlanned 108 = .ok (.getfield 134, 3) := by decide +kernel
theorem dX11_takePlanned_111 : decode cX11_takePlanned 111 = .ok (.goto 17, 3) := by decide +kernel
theorem dX11_takePlanned_114 : decode cX11_takePlanned 114 = .ok (.aload_n 0, 1) := by decide +kernel
theorem dX11_takePlanned_115 : decode cX11_takePlanned 115 = .ok (.getfield 19, 3) := by decide +kernel
theorem dX11_takePlanned_118 : decode cX11_takePlanned 118 = .ok (.getfield 115, 3) := by decide +kernel
theorem dX11_takePlanned_121 : decode cX11_takePlanned 121 = .ok (.iload 6, 2) := by decide +kernel
theorem dX11_takePlanned_123 : decode cX11_takePlanned 123 = .ok (.bipush 7, 2) := by decide +kernel
theorem dX11_takePlanned_125 : decode cX11_takePlanned 125 = .ok (.invokevirtual 171, 3) := by decide +kernel
theorem dX11_takePlanned_128 : decode cX11_takePlanned 128 = .ok (.istore 7, 2) := by decide +kernel
theorem dX11_takePlanned_130 : decode cX11_takePlanned 130 = .ok (.aload_n 0, 1) := by decide +kernel
theorem dX11_takePlanned_131 : decode cX11_takePlanned 131 = .ok (.getfield 30, 3) := by decide +kernel
theorem dX11_takePlanned_134 : decode cX11_takePlanned 134 = .ok (.iload 7, 2) := by decide +kernel
theorem dX11_takePlanned_136 : decode cX11_takePlanned 136 = .ok (.aload_n 0, 1) := by decide +kernel
theorem dX11_takePlanned_137 : decode cX11_takePlanned 137 = .ok (.getfield 19, 3) := by decide +kernel
theorem dX11_takePlanned_140 : decode cX11_takePlanned 140 = .ok (.getfield 115, 3) := by decide +kernel
theorem dX11_takePlanned_143 : decode cX11_takePlanned 143 = .ok (.iload 6, 2) := by decide +kernel
theorem dX11_takePlanned_145 : decode cX11_takePlanned 145 = .ok (.iconst 1, 1) := by decide +kernel
theorem dX11_takePlanned_146 : decode cX11_takePlanned 146 = .ok (.invokevirtual 171, 3) := by decide +kernel
theorem dX11_takePlanned_149 : decode cX11_takePlanned 149 = .ok (.aload_n 0, 1) := by decide +kernel
theorem dX11_takePlanned_150 : decode cX11_takePlanned 150 = .ok (.getfield 19, 3) := by decide +kernel
theorem dX11_takePlanned_153 : decode cX11_takePlanned 153 = .ok (.getfield 115, 3) := by decide +kernel
theorem dX11_takePlanned_156 : decode cX11_takePlanned 156 = .ok (.iload 6, 2) := by decide +kernel
theorem dX11_takePlanned_158 : decode cX11_takePlanned 158 = .ok (.iconst 2, 1) := by decide +kernel
theorem dX11_takePlanned_159 : decode cX11_takePlanned 159 = .ok (.invokevirtual 171, 3) := by decide +kernel
theorem dX11_takePlanned_162 : decode cX11_takePlanned 162 = .ok (.aload_n 0, 1) := by decide +kernel
theorem dX11_takePlanned_163 : decode cX11_takePlanned 163 = .ok (.getfield 19, 3) := by decide +kernel
theorem dX11_takePlanned_166 : decode cX11_takePlanned 166 = .ok (.getfield 106, 3) := by decide +kernel
theorem dX11_takePlanned_169 : decode cX11_takePlanned 169 = .ok (.aload_n 0, 1) := by decide +kernel
theorem dX11_takePlanned_170 : decode cX11_takePlanned 170 = .ok (.getfield 19, 3) := by decide +kernel
theorem dX11_takePlanned_173 : decode cX11_takePlanned 173 = .ok (.getfield 115, 3) := by decide +kernel
theorem dX11_takePlanned_176 : decode cX11_takePlanned 176 = .ok (.iload 6, 2) := by decide +kernel
theorem dX11_takePlanned_178 : decode cX11_takePlanned 178 = .ok (.iconst 0, 1) := by decide +kernel
theorem dX11_takePlanned_179 : decode cX11_takePlanned 179 = .ok (.invokevirtual 171, 3) := by decide +kernel
theorem dX11_takePlanned_182 : decode cX11_takePlanned 182 = .ok (.invokevirtual 234, 3) := by decide +kernel
theorem dX11_takePlanned_185 : decode cX11_takePlanned 185 = .ok (.invokevirtual 237, 3) := by decide +kernel
theorem dX11_takePlanned_188 : decode cX11_takePlanned 188 = .ok (.iinc 5 1, 3) := by decide +kernel
theorem dX11_takePlanned_191 : decode cX11_takePlanned 191 = .ok (.goto (-159), 3) := by decide +kernel
theorem dX11_takePlanned_194 : decode cX11_takePlanned 194 = .ok (.aload_n 0, 1) := by decide +kernel
theorem dX11_takePlanned_195 : decode cX11_takePlanned 195 = .ok (.getfield 30, 3) := by decide +kernel
theorem dX11_takePlanned_198 : decode cX11_takePlanned 198 = .ok (.aload_n 0, 1) := by decide +kernel
theorem dX11_takePlanned_199 : decode cX11_takePlanned 199 = .ok (.getfield 19, 3) := by decide +kernel
theorem dX11_takePlanned_202 : decode cX11_takePlanned 202 = .ok (.getfield 106, 3) := by decide +kernel
theorem dX11_takePlanned_205 : decode cX11_takePlanned 205 = .ok (.invokevirtual 241, 3) := by decide +kernel
theorem dX11_takePlanned_208 : decode cX11_takePlanned 208 = .ok (.iconst 1, 1) := by decide +kernel
theorem dX11_takePlanned_209 : decode cX11_takePlanned 209 = .ok (.ireturn, 1) := by decide +kernel
theorem dX11_found_0 : decode cX11_found 0 = .ok (.aload_n 0, 1) := by decide +kernel
theorem dX11_found_1 : decode cX11_found 1 = .ok (.getfield 10, 3) := by decide +kernel
theorem dX11_found_4 : decode cX11_found 4 = .ok (.invokevirtual 226, 3) := by decide +kernel
theorem dX11_found_7 : decode cX11_found 7 = .ok (.istore_n 1, 1) := by decide +kernel
theorem dX11_found_8 : decode cX11_found 8 = .ok (.iload_n 1, 1) := by decide +kernel
theorem dX11_found_9 : decode cX11_found 9 = .ok (.bipush 6, 2) := by decide +kernel
theorem dX11_found_11 : decode cX11_found 11 = .ok (.idiv, 1) := by decide +kernel
theorem dX11_found_12 : decode cX11_found 12 = .ok (.istore_n 2, 1) := by decide +kernel
theorem dX11_found_13 : decode cX11_found 13 = .ok (.iload_n 1, 1) := by decide +kernel
theorem dX11_found_14 : decode cX11_found 14 = .ok (.bipush 6, 2) := by decide +kernel
theorem dX11_found_16 : decode cX11_found 16 = .ok (.irem, 1) := by decide +kernel
theorem dX11_found_17 : decode cX11_found 17 = .ok (.ifCond .ne 13, 3) := by decide +kernel
theorem dX11_found_20 : decode cX11_found 20 = .ok (.iload_n 2, 1) := by decide +kernel
theorem dX11_found_21 : decode cX11_found 21 = .ok (.iconst 1, 1) := by decide +kernel
theorem dX11_found_22 : decode cX11_found 22 = .ok (.bipush 8, 2) := by decide +kernel
theorem dX11_found_24 : decode cX11_found 24 = .ok (.invokestatic 141, 3) := by decide +kernel
theorem dX11_found_27 : decode cX11_found 27 = .ok (.ifCond .ne 7, 3) := by decide +kernel
theorem dX11_found_30 : decode cX11_found 30 = .ok (.ldc2_w 245, 3) := by decide +kernel
theorem dX11_found_33 : decode cX11_found 33 = .ok (.lreturn, 1) := by decide +kernel
theorem dX11_found_34 : decode cX11_found 34 = .ok (.iconst 0, 1) := by decide +kernel
theorem dX11_found_35 : decode cX11_found 35 = .ok (.istore_n 3, 1) := by decide +kernel
theorem dX11_found_36 : decode cX11_found 36 = .ok (.iload_n 3, 1) := by decide +kernel
theorem dX11_found_37 : decode cX11_found 37 = .ok (.iload_n 2, 1) := by decide +kernel
theorem dX11_found_38 : decode cX11_found 38 = .ok (.if_icmp .ge 24, 3) := by decide +kernel
theorem dX11_found_41 : decode cX11_found 41 = .ok (.aload_n 0, 1) := by decide +kernel
theorem dX11_found_42 : decode cX11_found 42 = .ok (.iload_n 3, 1) := by decide +kernel
theorem dX11_found_43 : decode cX11_found 43 = .ok (.bipush 6, 2) := by decide +kernel
theorem dX11_found_45 : decode cX11_found 45 = .ok (.imul, 1) := by decide +kernel
theorem dX11_found_46 : decode cX11_found 46 = .ok (.invokevirtual 247, 3) := by decide +kernel
theorem dX11_found_49 : decode cX11_found 49 = .ok (.ifCond .ne 7, 3) := by decide +kernel
theorem dX11_found_52 : decode cX11_found 52 = .ok (.ldc2_w 245, 3) := by decide +kernel
theorem dX11_found_55 : decode cX11_found 55 = .ok (.lreturn, 1) := by decide +kernel
theorem dX11_found_56 : decode cX11_found 56 = .ok (.iinc 3 1, 3) := by decide +kernel
theorem dX11_found_59 : decode cX11_found 59 = .ok (.goto (-23), 3) := by decide +kernel
theorem dX11_found_62 : decode cX11_found 62 = .ok (.aload_n 0, 1) := by decide +kernel
theorem dX11_found_63 : decode cX11_found 63 = .ok (.getfield 37, 3) := by decide +kernel
theorem dX11_found_66 : decode cX11_found 66 = .ok (.iload_n 2, 1) := by decide +kernel
theorem dX11_found_67 : decode cX11_found 67 = .ok (.aload_n 0, 1) := by decide +kernel
theorem dX11_found_68 : decode cX11_found 68 = .ok (.getfield 19, 3) := by decide +kernel
theorem dX11_found_71 : decode cX11_found 71 = .ok (.getfield 115, 3) := by decide +kernel
theorem dX11_found_74 : decode cX11_found 74 = .ok (.getfield 137, 3) := by decide +kernel
theorem dX11_found_77 : decode cX11_found 77 = .ok (.invokevirtual 250, 3) := by decide +kernel
theorem dX11_found_80 : decode cX11_found 80 = .ok (.iconst 0, 1) := by decide +kernel
theorem dX11_found_81 : decode cX11_found 81 = .ok (.istore_n 3, 1) := by decide +kernel
theorem dX11_found_82 : decode cX11_found 82 = .ok (.iload_n 3, 1) := by decide +kernel
theorem dX11_found_83 : decode cX11_found 83 = .ok (.aload_n 0, 1) := by decide +kernel
theorem dX11_found_84 : decode cX11_found 84 = .ok (.getfield 19, 3) := by decide +kernel
theorem dX11_found_87 : decode cX11_found 87 = .ok (.getfield 115, 3) := by decide +kernel
theorem dX11_found_90 : decode cX11_found 90 = .ok (.getfield 137, 3) := by decide +kernel
theorem dX11_found_93 : decode cX11_found 93 = .ok (.if_icmp .ge 47, 3) := by decide +kernel
theorem dX11_found_96 : decode cX11_found 96 = .ok (.iconst 0, 1) := by decide +kernel
theorem dX11_found_97 : decode cX11_found 97 = .ok (.istore 4, 2) := by decide +kernel
theorem dX11_found_99 : decode cX11_found 99 = .ok (.iload 4, 2) := by decide +kernel
theorem dX11_found_101 : decode cX11_found 101 = .ok (.iload_n 2, 1) := by decide +kernel
theorem dX11_found_102 : decode cX11_found 102 = .ok (.if_icmp .ge 32, 3) := by decide +kernel
theorem dX11_found_105 : decode cX11_found 105 = .ok (.aload_n 0, 1) := by decide +kernel
theorem dX11_found_106 : decode cX11_found 106 = .ok (.iload_n 3, 1) := by decide +kernel
theorem dX11_found_107 : decode cX11_found 107 = .ok (.iload 4, 2) := by decide +kernel
theorem dX11_found_109 : decode cX11_found 109 = .ok (.bipush 6, 2) := by decide +kernel
theorem dX11_found_111 : decode cX11_found 111 = .ok (.imul, 1) := by decide +kernel
theorem dX11_found_112 : decode cX11_found 112 = .ok (.invokevirtual 254, 3) := by decide +kernel
theorem dX11_found_115 : decode cX11_found 115 = .ok (.ifCond .eq 13, 3) := by decide +kernel
theorem dX11_found_118 : decode cX11_found 118 = .ok (.aload_n 0, 1) := by decide +kernel
theorem dX11_found_119 : decode cX11_found 119 = .ok (.getfield 37, 3) := by decide +kernel
theorem dX11_found_122 : decode cX11_found 122 = .ok (.iload 4, 2) := by decide +kernel
theorem dX11_found_124 : decode cX11_found 124 = .ok (.iload_n 3, 1) := by decide +kernel
theorem dX11_found_125 : decode cX11_found 125 = .ok (.invokevirtual 257, 3) := by decide +kernel
theorem dX11_found_128 : decode cX11_found 128 = .ok (.iinc 4 1, 3) := by decide +kernel
theorem dX11_found_131 : decode cX11_found 131 = .ok (.goto (-32), 3) := by decide +kernel
theorem dX11_found_134 : decode cX11_found 134 = .ok (.iinc 3 1, 3) := by decide +kernel
theorem dX11_found_137 : decode cX11_found 137 = .ok (.goto (-55), 3) := by decide +kernel
theorem dX11_found_140 : decode cX11_found 140 = .ok (.aload_n 0, 1) := by decide +kernel
theorem dX11_found_141 : decode cX11_found 141 = .ok (.getfield 37, 3) := by decide +kernel
theorem dX11_found_144 : decode cX11_found 144 = .ok (.invokevirtual 260, 3) := by decide +kernel
theorem dX11_found_147 : decode cX11_found 147 = .ok (.lstore_n 3, 1) := by decide +kernel
theorem dX11_found_148 : decode cX11_found 148 = .ok (.lload_n 3, 1) := by decide +kernel
theorem dX11_found_149 : decode cX11_found 149 = .ok (.lconst 0, 1) := by decide +kernel
theorem dX11_found_150 : decode cX11_found 150 = .ok (.lcmp, 1) := by decide +kernel
theorem dX11_found_151 : decode cX11_found 151 = .ok (.ifCond .le 10, 3) := by decide +kernel
theorem dX11_found_154 : decode cX11_found 154 = .ok (.aload_n 0, 1) := by decide +kernel
theorem dX11_found_155 : decode cX11_found 155 = .ok (.getfield 37, 3) := by decide +kernel
theorem dX11_found_158 : decode cX11_found 158 = .ok (.invokevirtual 264, 3) := by decide +kernel
theorem dX11_found_161 : decode cX11_found 161 = .ok (.lload_n 3, 1) := by decide +kernel
theorem dX11_found_162 : decode cX11_found 162 = .ok (.lreturn, 1) := by decide +kernel
theorem dX11_isCoatAsTold_0 : decode cX11_isCoatAsTold 0 = .ok (.aload_n 0, 1) := by decide +kernel
theorem dX11_isCoatAsTold_1 : decode cX11_isCoatAsTold 1 = .ok (.getfield 10, 3) := by decide +kernel
theorem dX11_isCoatAsTold_4 : decode cX11_isCoatAsTold 4 = .ok (.iload_n 1, 1) := by decide +kernel
theorem dX11_isCoatAsTold_5 : decode cX11_isCoatAsTold 5 = .ok (.invokevirtual 230, 3) := by decide +kernel
theorem dX11_isCoatAsTold_8 : decode cX11_isCoatAsTold 8 = .ok (.aload_n 0, 1) := by decide +kernel
theorem dX11_isCoatAsTold_9 : decode cX11_isCoatAsTold 9 = .ok (.getfield 19, 3) := by decide +kernel
theorem dX11_isCoatAsTold_12 : decode cX11_isCoatAsTold 12 = .ok (.getfield 106, 3) := by decide +kernel
theorem dX11_isCoatAsTold_15 : decode cX11_isCoatAsTold 15 = .ok (.getfield 138, 3) := by decide +kernel
theorem dX11_isCoatAsTold_18 : decode cX11_isCoatAsTold 18 = .ok (.iconst 2, 1) := by decide +kernel
theorem dX11_isCoatAsTold_19 : decode cX11_isCoatAsTold 19 = .ok (.iaload, 1) := by decide +kernel
theorem dX11_isCoatAsTold_20 : decode cX11_isCoatAsTold 20 = .ok (.if_icmp .ge 66, 3) := by decide +kernel
theorem dX11_isCoatAsTold_23 : decode cX11_isCoatAsTold 23 = .ok (.aload_n 0, 1) := by decide +kernel
theorem dX11_isCoatAsTold_24 : decode cX11_isCoatAsTold 24 = .ok (.getfield 10, 3) := by decide +kernel
theorem dX11_isCoatAsTold_27 : decode cX11_isCoatAsTold 27 = .ok (.iload_n 1, 1) := by decide +kernel
theorem dX11_isCoatAsTold_28 : decode cX11_isCoatAsTold 28 = .ok (.iconst 1, 1) := by decide +kernel
theorem dX11_isCoatAsTold_29 : decode cX11_isCoatAsTold 29 = .ok (.iadd, 1) := by decide +kernel
theorem dX11_isCoatAsTold_30 : decode cX11_isCoatAsTold 30 = .ok (.invokevirtual 230, 3) := by decide +kernel
theorem dX11_isCoatAsTold_33 : decode cX11_isCoatAsTold 33 = .ok (.iconst 2, 1) := by decide +kernel
theorem dX11_isCoatAsTold_34 : decode cX11_isCoatAsTold 34 = .ok (.if_icmp .gt 52, 3) := by decide +kernel
theorem dX11_isCoatAsTold_37 : decode cX11_isCoatAsTold 37 = .ok (.aload_n 0, 1) := by decide +kernel
theorem dX11_isCoatAsTold_38 : decode cX11_isCoatAsTold 38 = .ok (.getfield 10, 3) := by decide +kernel
theorem dX11_isCoatAsTold_41 : decode cX11_isCoatAsTold 41 = .ok (.iload_n 1, 1) := by decide +kernel
theorem dX11_isCoatAsTold_42 : decode cX11_isCoatAsTold 42 = .ok (.iconst 2, 1) := by decide +kernel
theorem dX11_isCoatAsTold_43 : decode cX11_isCoatAsTold 43 = .ok (.iadd, 1) := by decide +kernel
theorem dX11_isCoatAsTold_44 : decode cX11_isCoatAsTold 44 = .ok (.invokevirtual 230, 3) := by decide +kernel
theorem dX11_isCoatAsTold_47 : decode cX11_isCoatAsTold 47 = .ok (.bipush 9, 2) := by decide +kernel
theorem dX11_isCoatAsTold_49 : decode cX11_isCoatAsTold 49 = .ok (.if_icmp .gt 37, 3) := by decide +kernel
theorem dX11_isCoatAsTold_52 : decode cX11_isCoatAsTold 52 = .ok (.aload_n 0, 1) := by decide +kernel
theorem dX11_isCoatAsTold_53 : decode cX11_isCoatAsTold 53 = .ok (.getfield 10, 3) := by decide +kernel
theorem dX11_isCoatAsTold_56 : decode cX11_isCoatAsTold 56 = .ok (.iload_n 1, 1) := by decide +kernel
theorem dX11_isCoatAsTold_57 : decode cX11_isCoatAsTold 57 = .ok (.iconst 4, 1) := by decide +kernel
theorem dX11_isCoatAsTold_58 : decode cX11_isCoatAsTold 58 = .ok (.iadd, 1) := by decide +kernel
theorem dX11_isCoatAsTold_59 : decode cX11_isCoatAsTold 59 = .ok (.invokevirtual 230, 3) := by decide +kernel
theorem dX11_isCoatAsTold_62 : decode cX11_isCoatAsTold 62 = .ok (.bipush 10, 2) := by decide +kernel
theorem dX11_isCoatAsTold_64 : decode cX11_isCoatAsTold 64 = .ok (.if_icmp .gt 22, 3) := by decide +kernel
theorem dX11_isCoatAsTold_67 : decode cX11_isCoatAsTold 67 = .ok (.aload_n 0, 1) := by decide +kernel
theorem dX11_isCoatAsTold_68 : decode cX11_isCoatAsTold 68 = .ok (.getfield 10, 3) := by decide +kernel
theorem dX11_isCoatAsTold_71 : decode cX11_isCoatAsTold 71 = .ok (.iload_n 1, 1) := by decide +kernel
theorem dX11_isCoatAsTold_72 : decode cX11_isCoatAsTold 72 = .ok (.iconst 5, 1) := by decide +kernel
theorem dX11_isCoatAsTold_73 : decode cX11_isCoatAsTold 73 = .ok (.iadd, 1) := by decide +kernel
theorem dX11_isCoatAsTold_74 : decode cX11_isCoatAsTold 74 = .ok (.invokevirtual 230, 3) := by decide +kernel
theorem dX11_isCoatAsTold_77 : decode cX11_isCoatAsTold 77 = .ok (.bipush 10, 2) := by decide +kernel
theorem dX11_isCoatAsTold_79 : decode cX11_isCoatAsTold 79 = .ok (.if_icmp .gt 7, 3) := by decide +kernel
theorem dX11_isCoatAsTold_82 : decode cX11_isCoatAsTold 82 = .ok (.iconst 1, 1) := by decide +kernel
theorem dX11_isCoatAsTold_83 : decode cX11_isCoatAsTold 83 = .ok (.goto 4, 3) := by decide +kernel
theorem dX11_isCoatAsTold_86 : decode cX11_isCoatAsTold 86 = .ok (.iconst 0, 1) := by decide +kernel
theorem dX11_isCoatAsTold_87 : decode cX11_isCoatAsTold 87 = .ok (.ireturn, 1) := by decide +kernel
theorem dX11_fits_0 : decode cX11_fits 0 = .ok (.aload_n 0, 1) := by decide +kernel
theorem dX11_fits_1 : decode cX11_fits 1 = .ok (.getfield 10, 3) := by decide +kernel
theorem dX11_fits_4 : decode cX11_fits 4 = .ok (.iload_n 2, 1) := by decide +kernel
theorem dX11_fits_5 : decode cX11_fits 5 = .ok (.iconst 3, 1) := by decide +kernel
theorem dX11_fits_6 : decode cX11_fits 6 = .ok (.iadd, 1) := by decide +kernel
theorem dX11_fits_7 : decode cX11_fits 7 = .ok (.invokevirtual 230, 3) := by decide +kernel
theorem dX11_fits_10 : decode cX11_fits 10 = .ok (.istore_n 3, 1) := by decide +kernel
theorem dX11_fits_11 : decode cX11_fits 11 = .ok (.aload_n 0, 1) := by decide +kernel
theorem dX11_fits_12 : decode cX11_fits 12 = .ok (.getfield 19, 3) := by decide +kernel
theorem dX11_fits_15 : decode cX11_fits 15 = .ok (.getfield 115, 3) := by decide +kernel
theorem dX11_fits_18 : decode cX11_fits 18 = .ok (.iload_n 1, 1) := by decide +kernel
theorem dX11_fits_19 : decode cX11_fits 19 = .ok (.invokevirtual 189, 3) := by decide +kernel
theorem dX11_fits_22 : decode cX11_fits 22 = .ok (.ifCond .eq 138, 3) := by decide +kernel
theorem dX11_fits_25 : decode cX11_fits 25 = .ok (.aload_n 0, 1) := by decide +kernel
theorem dX11_fits_26 : decode cX11_fits 26 = .ok (.getfield 19, 3) := by decide +kernel
theorem dX11_fits_29 : decode cX11_fits 29 = .ok (.getfield 115, 3) := by decide +kernel
theorem dX11_fits_32 : decode cX11_fits 32 = .ok (.iload_n 1, 1) := by decide +kernel
theorem dX11_fits_33 : decode cX11_fits 33 = .ok (.iconst 0, 1) := by decide +kernel
theorem dX11_fits_34 : decode cX11_fits 34 = .ok (.invokevirtual 171, 3) := by decide +kernel
theorem dX11_fits_37 : decode cX11_fits 37 = .ok (.aload_n 0, 1) := by decide +kernel
theorem dX11_fits_38 : decode cX11_fits 38 = .ok (.getfield 10, 3) := by decide +kernel
theorem dX11_fits_41 : decode cX11_fits 41 = .ok (.iload_n 2, 1) := by decide +kernel
theorem dX11_fits_42 : decode cX11_fits 42 = .ok (.invokevirtual 230, 3) := by decide +kernel
theorem dX11_fits_45 : decode cX11_fits 45 = .ok (.if_icmp .ne 115, 3) := by decide +kernel
theorem dX11_fits_48 : decode cX11_fits 48 = .ok (.aload_n 0, 1) := by decide +kernel
theorem dX11_fits_49 : decode cX11_fits 49 = .ok (.getfield 19, 3) := by decide +kernel
theorem dX11_fits_52 : decode cX11_fits 52 = .ok (.getfield 115, 3) := by decide +kernel
theorem dX11_fits_55 : decode cX11_fits 55 = .ok (.iload_n 1, 1) := by decide +kernel
theorem dX11_fits_56 : decode cX11_fits 56 = .ok (.iconst 1, 1) := by decide +kernel
theorem dX11_fits_57 : decode cX11_fits 57 = .ok (.invokevirtual 171, 3) := by decide +kernel
theorem dX11_fits_60 : decode cX11_fits 60 = .ok (.aload_n 0, 1) := by decide +kernel
theorem dX11_fits_61 : decode cX11_fits 61 = .ok (.getfield 10, 3) := by decide +kernel
theorem dX11_fits_64 : decode cX11_fits 64 = .ok (.iload_n 2, 1) := by decide +kernel
theorem dX11_fits_65 : decode cX11_fits 65 = .ok (.iconst 1, 1) := by decide +kernel
theorem dX11_fits_66 : decode cX11_fits 66 = .ok (.iadd, 1) := by decide +kernel
theorem dX11_fits_67 : decode cX11_fits 67 = .ok (.invokevirtual 230, 3) := by decide +kernel
theorem dX11_fits_70 : decode cX11_fits 70 = .ok (.if_icmp .ne 90, 3) := by decide +kernel
theorem dX11_fits_73 : decode cX11_fits 73 = .ok (.aload_n 0, 1) := by decide +kernel
theorem dX11_fits_74 : decode cX11_fits 74 = .ok (.getfield 19, 3) := by decide +kernel
theorem dX11_fits_77 : decode cX11_fits 77 = .ok (.getfield 115, 3) := by decide +kernel
theorem dX11_fits_80 : decode cX11_fits 80 = .ok (.iload_n 1, 1) := by decide +kernel
theorem dX11_fits_81 : decode cX11_fits 81 = .ok (.iconst 3, 1) := by decide +kernel
theorem dX11_fits_82 : decode cX11_fits 82 = .ok (.invokevirtual 171, 3) := by decide +kernel
theorem dX11_fits_85 : decode cX11_fits 85 = .ok (.aload_n 0, 1) := by decide +kernel
theorem dX11_fits_86 : decode cX11_fits 86 = .ok (.getfield 10, 3) := by decide +kernel
theorem dX11_fits_89 : decode cX11_fits 89 = .ok (.iload_n 2, 1) := by decide +kernel
theorem dX11_fits_90 : decode cX11_fits 90 = .ok (.iconst 2, 1) := by decide +kernel
theorem dX11_fits_91 : decode cX11_fits 91 = .ok (.iadd, 1) := by decide +kernel
theorem dX11_fits_92 : decode cX11_fits 92 = .ok (.invokevirtual 230, 3) := by decide +kernel
theorem dX11_fits_95 : decode cX11_fits 95 = .ok (.if_icmp .ne 65, 3) := by decide +kernel
theorem dX11_fits_98 : decode cX11_fits 98 = .ok (.aload_n 0, 1) := by decide +kernel
theorem dX11_fits_99 : decode cX11_fits 99 = .ok (.getfield 19, 3) := by decide +kernel
theorem dX11_fits_102 : decode cX11_fits 102 = .ok (.getfield 115, 3) := by decide +kernel
theorem dX11_fits_105 : decode cX11_fits 105 = .ok (.iload_n 1, 1) := by decide +kernel
theorem dX11_fits_106 : decode cX11_fits 106 = .ok (.iconst 4, 1) := by decide +kernel
theorem dX11_fits_107 : decode cX11_fits 107 = .ok (.invokevirtual 171, 3) := by decide +kernel
theorem dX11_fits_110 : decode cX11_fits 110 = .ok (.iload_n 3, 1) := by decide +kernel
theorem dX11_fits_111 : decode cX11_fits 111 = .ok (.iand, 1) := by decide +kernel
theorem dX11_fits_112 : decode cX11_fits 112 = .ok (.iload_n 3, 1) := by decide +kernel
theorem dX11_fits_113 : decode cX11_fits 113 = .ok (.if_icmp .ne 47, 3) := by decide +kernel
theorem dX11_fits_116 : decode cX11_fits 116 = .ok (.iload_n 1, 1) := by decide +kernel
theorem dX11_fits_117 : decode cX11_fits 117 = .ok (.bipush 10, 2) := by decide +kernel
theorem dX11_fits_119 : decode cX11_fits 119 = .ok (.idiv, 1) := by decide +kernel
theorem dX11_fits_120 : decode cX11_fits 120 = .ok (.aload_n 0, 1) := by decide +kernel
theorem dX11_fits_121 : decode cX11_fits 121 = .ok (.getfield 10, 3) := by decide +kernel
theorem dX11_fits_124 : decode cX11_fits 124 = .ok (.iload_n 2, 1) := by decide +kernel
theorem dX11_fits_125 : decode cX11_fits 125 = .ok (.iconst 4, 1) := by decide +kernel
theorem dX11_fits_126 : decode cX11_fits 126 = .ok (.iadd, 1) := by decide +kernel
theorem dX11_fits_127 : decode cX11_fits 127 = .ok (.invokevirtual 230, 3) := by decide +kernel
theorem dX11_fits_130 : decode cX11_fits 130 = .ok (.invokestatic 267, 3) := by decide +kernel
theorem dX11_fits_133 : decode cX11_fits 133 = .ok (.ifCond .eq 27, 3) := by decide +kernel
theorem dX11_fits_136 : decode cX11_fits 136 = .ok (.iload_n 1, 1) := by decide +kernel
theorem dX11_fits_137 : decode cX11_fits 137 = .ok (.bipush 10, 2) := by decide +kernel
theorem dX11_fits_139 : decode cX11_fits 139 = .ok (.irem, 1) := by decide +kernel
theorem dX11_fits_140 : decode cX11_fits 140 = .ok (.aload_n 0, 1) := by decide +kernel
theorem dX11_fits_141 : decode cX11_fits 141 = .ok (.getfield 10, 3) := by decide +kernel
theorem dX11_fits_144 : decode cX11_fits 144 = .ok (.iload_n 2, 1) := by decide +kernel
theorem dX11_fits_145 : decode cX11_fits 145 = .ok (.iconst 5, 1) := by decide +kernel
theorem dX11_fits_146 : decode cX11_fits 146 = .ok (.iadd, 1) := by decide +kernel
theorem dX11_fits_147 : decode cX11_fits 147 = .ok (.invokevirtual 230, 3) := by decide +kernel
theorem dX11_fits_150 : decode cX11_fits 150 = .ok (.invokestatic 267, 3) := by decide +kernel
theorem dX11_fits_153 : decode cX11_fits 153 = .ok (.ifCond .eq 7, 3) := by decide +kernel
theorem dX11_fits_156 : decode cX11_fits 156 = .ok (.iconst 1, 1) := by decide +kernel
theorem dX11_fits_157 : decode cX11_fits 157 = .ok (.goto 4, 3) := by decide +kernel
theorem dX11_fits_160 : decode cX11_fits 160 = .ok (.iconst 0, 1) := by decide +kernel
theorem dX11_fits_161 : decode cX11_fits 161 = .ok (.ireturn, 1) := by decide +kernel
theorem dX11_isDigit_0 : decode cX11_isDigit 0 = .ok (.iload_n 1, 1) := by decide +kernel
theorem dX11_isDigit_1 : decode cX11_isDigit 1 = .ok (.bipush 10, 2) := by decide +kernel
theorem dX11_isDigit_3 : decode cX11_isDigit 3 = .ok (.if_icmp .eq 8, 3) := by decide +kernel
theorem dX11_isDigit_6 : decode cX11_isDigit 6 = .ok (.iload_n 1, 1) := by decide +kernel
theorem dX11_isDigit_7 : decode cX11_isDigit 7 = .ok (.iload_n 0, 1) := by decide +kernel
theorem dX11_isDigit_8 : decode cX11_isDigit 8 = .ok (.if_icmp .ne 7, 3) := by decide +kernel
theorem dX11_isDigit_11 : decode cX11_isDigit 11 = .ok (.iconst 1, 1) := by decide +kernel
theorem dX11_isDigit_12 : decode cX11_isDigit 12 = .ok (.goto 4, 3) := by decide +kernel
theorem dX11_isDigit_15 : decode cX11_isDigit 15 = .ok (.iconst 0, 1) := by decide +kernel
theorem dX11_isDigit_16 : decode cX11_isDigit 16 = .ok (.ireturn, 1) := by decide +kernel
theorem dX11_sure_0 : decode cX11_sure 0 = .ok (.iload_n 1, 1) := by decide +kernel
theorem dX11_sure_1 : decode cX11_sure 1 = .ok (.iconst 0, 1) := by decide +kernel
theorem dX11_sure_2 : decode cX11_sure 2 = .ok (.aload_n 0, 1) := by decide +kernel
theorem dX11_sure_3 : decode cX11_sure 3 = .ok (.getfield 37, 3) := by decide +kernel
theorem dX11_sure_6 : decode cX11_sure 6 = .ok (.getfield 270, 3) := by decide +kernel
theorem dX11_sure_9 : decode cX11_sure 9 = .ok (.iconst 1, 1) := by decide +kernel
theorem dX11_sure_10 : decode cX11_sure 10 = .ok (.isub, 1) := by decide +kernel
theorem dX11_sure_11 : decode cX11_sure 11 = .ok (.invokestatic 141, 3) := by decide +kernel
theorem dX11_sure_14 : decode cX11_sure 14 = .ok (.ifCond .eq 15, 3) := by decide +kernel
theorem dX11_sure_17 : decode cX11_sure 17 = .ok (.aload_n 0, 1) := by decide +kernel
theorem dX11_sure_18 : decode cX11_sure 18 = .ok (.getfield 37, 3) := by decide +kernel
theorem dX11_sure_21 : decode cX11_sure 21 = .ok (.getfield 273, 3) := by decide +kernel
theorem dX11_sure_24 : decode cX11_sure 24 = .ok (.iload_n 1, 1) := by decide +kernel
theorem dX11_sure_25 : decode cX11_sure 25 = .ok (.iaload, 1) := by decide +kernel
theorem dX11_sure_26 : decode cX11_sure 26 = .ok (.goto 4, 3) := by decide +kernel
theorem dX11_sure_29 : decode cX11_sure 29 = .ok (.iconst (-1), 1) := by decide +kernel
theorem dX11_sure_30 : decode cX11_sure 30 = .ok (.ireturn, 1) := by decide +kernel
theorem dX11_best_0 : decode cX11_best 0 = .ok (.aload_n 0, 1) := by decide +kernel
theorem dX11_best_1 : decode cX11_best 1 = .ok (.iload_n 1, 1) := by decide +kernel
theorem dX11_best_2 : decode cX11_best 2 = .ok (.invokevirtual 276, 3) := by decide +kernel
theorem dX11_best_5 : decode cX11_best 5 = .ok (.ifCond .ne 7, 3) := by decide +kernel
theorem dX11_best_8 : decode cX11_best 8 = .ok (.ldc2_w 245, 3) := by decide +kernel
theorem dX11_best_11 : decode cX11_best 11 = .ok (.lreturn, 1) := by decide +kernel
theorem dX11_best_12 : decode cX11_best 12 = .ok (.aload_n 0, 1) := by decide +kernel
theorem dX11_best_13 : decode cX11_best 13 = .ok (.getfield 44, 3) := by decide +kernel
theorem dX11_best_16 : decode cX11_best 16 = .ok (.aload_n 0, 1) := by decide +kernel
theorem dX11_best_17 : decode cX11_best 17 = .ok (.getfield 19, 3) := by decide +kernel
theorem dX11_best_20 : decode cX11_best 20 = .ok (.getfield 106, 3) := by decide +kernel
theorem dX11_best_23 : decode cX11_best 23 = .ok (.invokevirtual 279, 3) := by decide +kernel
theorem dX11_best_26 : decode cX11_best 26 = .ok (.lreturn, 1) := by decide +kernel
theorem dX11_bestAt_0 : decode cX11_bestAt 0 = .ok (.iload_n 1, 1) := by decide +kernel
theorem dX11_bestAt_1 : decode cX11_bestAt 1 = .ok (.iconst 0, 1) := by decide +kernel
theorem dX11_bestAt_2 : decode cX11_bestAt 2 = .ok (.aload_n 0, 1) := by decide +kernel
theorem dX11_bestAt_3 : decode cX11_bestAt 3 = .ok (.getfield 44, 3) := by decide +kernel
theorem dX11_bestAt_6 : decode cX11_bestAt 6 = .ok (.getfield 283, 3) := by decide +kernel
theorem dX11_bestAt_9 : decode cX11_bestAt 9 = .ok (.iconst 1, 1) := by decide +kernel
theorem dX11_bestAt_10 : decode cX11_bestAt 10 = .ok (.isub, 1) := by decide +kernel
theorem dX11_bestAt_11 : decode cX11_bestAt 11 = .ok (.invokestatic 141, 3) := by decide +kernel
theorem dX11_bestAt_14 : decode cX11_bestAt 14 = .ok (.ifCond .eq 15, 3) := by decide +kernel
theorem dX11_bestAt_17 : decode cX11_bestAt 17 = .ok (.aload_n 0, 1) := by decide +kernel
theorem dX11_bestAt_18 : decode cX11_bestAt 18 = .ok (.getfield 44, 3) := by decide +kernel
theorem dX11_bestAt_21 : decode cX11_bestAt 21 = .ok (.getfield 286, 3) := by decide +kernel
theorem dX11_bestAt_24 : decode cX11_bestAt 24 = .ok (.iload_n 1, 1) := by decide +kernel
theorem dX11_bestAt_25 : decode cX11_bestAt 25 = .ok (.iaload, 1) := by decide +kernel
theorem dX11_bestAt_26 : decode cX11_bestAt 26 = .ok (.goto 4, 3) := by decide +kernel
theorem dX11_bestAt_29 : decode cX11_bestAt 29 = .ok (.iconst (-1), 1) := by decide +kernel
theorem dX11_bestAt_30 : decode cX11_bestAt 30 = .ok (.ireturn, 1) := by decide +kernel
theorem dX11_out_0 : decode cX11_out 0 = .ok (.aload_n 0, 1) := by decide +kernel
theorem dX11_out_1 : decode cX11_out 1 = .ok (.iload_n 1, 1) := by decide +kernel
theorem dX11_out_2 : decode cX11_out 2 = .ok (.invokevirtual 276, 3) := by decide +kernel
theorem dX11_out_5 : decode cX11_out 5 = .ok (.ifCond .eq 13, 3) := by decide +kernel
theorem dX11_out_8 : decode cX11_out 8 = .ok (.iload_n 2, 1) := by decide +kernel
theorem dX11_out_9 : decode cX11_out 9 = .ok (.iconst 0, 1) := by decide +kernel
theorem dX11_out_10 : decode cX11_out 10 = .ok (.bipush 6, 2) := by decide +kernel
theorem dX11_out_12 : decode cX11_out 12 = .ok (.invokestatic 141, 3) := by decide +kernel
theorem dX11_out_15 : decode cX11_out 15 = .ok (.ifCond .ne 7, 3) := by decide +kernel
theorem dX11_out_18 : decode cX11_out 18 = .ok (.ldc2_w 245, 3) := by decide +kernel
theorem dX11_out_21 : decode cX11_out 21 = .ok (.lreturn, 1) := by decide +kernel
theorem dX11_out_22 : decode cX11_out 22 = .ok (.aload_n 0, 1) := by decide +kernel
theorem dX11_out_23 : decode cX11_out 23 = .ok (.getfield 44, 3) := by decide +kernel
theorem dX11_out_26 : decode cX11_out 26 = .ok (.iload_n 2, 1) := by decide +kernel
theorem dX11_out_27 : decode cX11_out 27 = .ok (.invokevirtual 289, 3) := by decide +kernel
theorem dX11_out_30 : decode cX11_out 30 = .ok (.lreturn, 1) := by decide +kernel
theorem dX11_takeStain_0 : decode cX11_takeStain 0 = .ok (.aload_n 0, 1) := by decide +kernel
theorem dX11_takeStain_1 : decode cX11_takeStain 1 = .ok (.getfield 10, 3) := by decide +kernel
theorem dX11_takeStain_4 : decode cX11_takeStain 4 = .ok (.invokevirtual 226, 3) := by decide +kernel
theorem dX11_takeStain_7 : decode cX11_takeStain 7 = .ok (.istore_n 2, 1) := by decide +kernel
theorem dX11_takeStain_8 : decode cX11_takeStain 8 = .ok (.iload_n 1, 1) := by decide +kernel
theorem dX11_takeStain_9 : decode cX11_takeStain 9 = .ok (.iconst 0, 1) := by decide +kernel
theorem dX11_takeStain_10 : decode cX11_takeStain 10 = .ok (.aload_n 0, 1) := by decide +kernel
theorem dX11_takeStain_11 : decode cX11_takeStain 11 = .ok (.getfield 19, 3) := by decide +kernel
theorem dX11_takeStain_14 : decode cX11_takeStain 14 = .ok (.getfield 106, 3) := by decide +kernel
theorem dX11_takeStain_17 : decode cX11_takeStain 17 = .ok (.getfield 138, 3) := by decide +kernel
theorem dX11_takeStain_20 : decode cX11_takeStain 20 = .ok (.iconst 2, 1) := by decide +kernel
theorem dX11_takeStain_21 : decode cX11_takeStain 21 = .ok (.iaload, 1) := by decide +kernel
theorem dX11_takeStain_22 : decode cX11_takeStain 22 = .ok (.iconst 1, 1) := by decide +kernel
theorem dX11_takeStain_23 : decode cX11_takeStain 23 = .ok (.isub, 1) := by decide +kernel
theorem dX11_takeStain_24 : decode cX11_takeStain 24 = .ok (.invokestatic 141, 3) := by decide +kernel
theorem dX11_takeStain_27 : decode cX11_takeStain 27 = .ok (.ifCond .eq 19, 3) := by decide +kernel
theorem dX11_takeStain_30 : decode cX11_takeStain 30 = .ok (.iload_n 2, 1) := by decide +kernel
theorem dX11_takeStain_31 : decode cX11_takeStain 31 = .ok (.aload_n 0, 1) := by decide +kernel
theorem dX11_takeStain_32 : decode cX11_takeStain 32 = .ok (.getfield 19, 3) := by decide +kernel
theorem dX11_takeStain_35 : decode cX11_takeStain 35 = .ok (.getfield 106, 3) := by decide +kernel
theorem dX11_takeStain_38 : decode cX11_takeStain 38 = .ok (.getfield 138, 3) := by decide +kernel
theorem dX11_takeStain_41 : decode cX11_takeStain 41 = .ok (.iconst 0, 1) := by decide +kernel
theorem dX11_takeStain_42 : decode cX11_takeStain 42 = .ok (.iaload, 1) := by decide +kernel
theorem dX11_takeStain_43 : decode cX11_takeStain 43 = .ok (.if_icmp .eq 5, 3) := by decide +kernel
theorem dX11_takeStain_46 : decode cX11_takeStain 46 = .ok (.iconst 0, 1) := by decide +kernel
theorem dX11_takeStain_47 : decode cX11_takeStain 47 = .ok (.ireturn, 1) := by decide +kernel
theorem dX11_takeStain_48 : decode cX11_takeStain 48 = .ok (.iconst 0, 1) := by decide +kernel
theorem dX11_takeStain_49 : decode cX11_takeStain 49 = .ok (.istore_n 3, 1) := by decide +kernel
theorem dX11_takeStain_50 : decode cX11_takeStain 50 = .ok (.iconst 0, 1) := by decide +kernel
theorem dX11_takeStain_51 : decode cX11_takeStain 51 = .ok (.istore 4, 2) := by decide +kernel
theorem dX11_takeStain_53 : decode cX11_takeStain 53 = .ok (.iload 4, 2) := by decide +kernel
theorem dX11_takeStain_55 : decode cX11_takeStain 55 = .ok (.iload_n 2, 1) := by decide +kernel
theorem dX11_takeStain_56 : decode cX11_takeStain 56 = .ok (.if_icmp .ge 21, 3) := by decide +kernel
theorem dX11_takeStain_59 : decode cX11_takeStain 59 = .ok (.iload_n 3, 1) := by decide +kernel
theorem dX11_takeStain_60 : decode cX11_takeStain 60 = .ok (.aload_n 0, 1) := by decide +kernel
theorem dX11_takeStain_61 : decode cX11_takeStain 61 = .ok (.getfield 10, 3) := by decide +kernel
theorem dX11_takeStain_64 : decode cX11_takeStain 64 = .ok (.iload 4, 2) := by decide +kernel
theorem dX11_takeStain_66 : decode cX11_takeStain 66 = .ok (.invokevirtual 230, 3) := by decide +kernel
theorem dX11_takeStain_69 : decode cX11_takeStain 69 = .ok (.iadd, 1) := by decide +kernel
theorem dX11_takeStain_70 : decode cX11_takeStain 70 = .ok (.istore_n 3, 1) := by decide +kernel
theorem dX11_takeStain_71 : decode cX11_takeStain 71 = .ok (.iinc 4 1, 3) := by decide +kernel
theorem dX11_takeStain_74 : decode cX11_takeStain 74 = .ok (.goto (-21), 3) := by decide +kernel
theorem dX11_takeStain_77 : decode cX11_takeStain 77 = .ok (.iload_n 3, 1) := by decide +kernel
theorem dX11_takeStain_78 : decode cX11_takeStain 78 = .ok (.bipush 20, 2) := by decide +kernel
theorem dX11_takeStain_80 : decode cX11_takeStain 80 = .ok (.if_icmp .eq 5, 3) := by decide +kernel
theorem dX11_takeStain_83 : decode cX11_takeStain 83 = .ok (.iconst 0, 1) := by decide +kernel
theorem dX11_takeStain_84 : decode cX11_takeStain 84 = .ok (.ireturn, 1) := by decide +kernel
theorem dX11_takeStain_85 : decode cX11_takeStain 85 = .ok (.aload_n 0, 1) := by decide +kernel
theorem dX11_takeStain_86 : decode cX11_takeStain 86 = .ok (.getfield 44, 3) := by decide +kernel
theorem dX11_takeStain_89 : decode cX11_takeStain 89 = .ok (.aload_n 0, 1) := by decide +kernel
theorem dX11_takeStain_90 : decode cX11_takeStain 90 = .ok (.getfield 19, 3) := by decide +kernel
theorem dX11_takeStain_93 : decode cX11_takeStain 93 = .ok (.getfield 106, 3) := by decide +kernel
theorem dX11_takeStain_96 : decode cX11_takeStain 96 = .ok (.aload_n 0, 1) := by decide +kernel
theorem dX11_takeStain_97 : decode cX11_takeStain 97 = .ok (.getfield 10, 3) := by decide +kernel
theorem dX11_takeStain_100 : decode cX11_takeStain 100 = .ok (.aload_n 0, 1) := by decide +kernel
theorem dX11_takeStain_101 : decode cX11_takeStain 101 = .ok (.getfield 19, 3) := by decide +kernel
theorem dX11_takeStain_104 : decode cX11_takeStain 104 = .ok (.getfield 106, 3) := by decide +kernel
theorem dX11_takeStain_107 : decode cX11_takeStain 107 = .ok (.iload_n 1, 1) := by decide +kernel
theorem dX11_takeStain_108 : decode cX11_takeStain 108 = .ok (.invokevirtual 293, 3) := by decide +kernel
theorem dX11_takeStain_111 : decode cX11_takeStain 111 = .ok (.invokevirtual 296, 3) := by decide +kernel
theorem dX11_takeStain_114 : decode cX11_takeStain 114 = .ok (.iconst 1, 1) := by decide +kernel
theorem dX11_takeStain_115 : decode cX11_takeStain 115 = .ok (.ireturn, 1) := by decide +kernel
theorem dX11_loaded_0 : decode cX11_loaded 0 = .ok (.aload_n 0, 1) := by decide +kernel
theorem dX11_loaded_1 : decode cX11_loaded 1 = .ok (.iload_n 1, 1) := by decide +kernel
theorem dX11_loaded_2 : decode cX11_loaded 2 = .ok (.invokevirtual 161, 3) := by decide +kernel
theorem dX11_loaded_5 : decode cX11_loaded 5 = .ok (.ifCond .eq 13, 3) := by decide +kernel
theorem dX11_loaded_8 : decode cX11_loaded 8 = .ok (.iload_n 2, 1) := by decide +kernel
theorem dX11_loaded_9 : decode cX11_loaded 9 = .ok (.iconst 1, 1) := by decide +kernel
theorem dX11_loaded_10 : decode cX11_loaded 10 = .ok (.bipush 99, 2) := by decide +kernel
theorem dX11_loaded_12 : decode cX11_loaded 12 = .ok (.invokestatic 141, 3) := by decide +kernel
theorem dX11_loaded_15 : decode cX11_loaded 15 = .ok (.ifCond .ne 5, 3) := by decide +kernel
theorem dX11_loaded_18 : decode cX11_loaded 18 = .ok (.iconst 0, 1) := by decide +kernel
theorem dX11_loaded_19 : decode cX11_loaded 19 = .ok (.ireturn, 1) := by decide +kernel
theorem dX11_loaded_20 : decode cX11_loaded 20 = .ok (.aload_n 0, 1) := by decide +kernel
theorem dX11_loaded_21 : decode cX11_loaded 21 = .ok (.getfield 19, 3) := by decide +kernel
theorem dX11_loaded_24 : decode cX11_loaded 24 = .ok (.getfield 115, 3) := by decide +kernel
theorem dX11_loaded_27 : decode cX11_loaded 27 = .ok (.iload_n 1, 1) := by decide +kernel
theorem dX11_loaded_28 : decode cX11_loaded 28 = .ok (.bipush 9, 2) := by decide +kernel
theorem dX11_loaded_30 : decode cX11_loaded 30 = .ok (.iload_n 2, 1) := by decide +kernel
theorem dX11_loaded_31 : decode cX11_loaded 31 = .ok (.invokevirtual 153, 3) := by decide +kernel
theorem dX11_loaded_34 : decode cX11_loaded 34 = .ok (.iconst 1, 1) := by decide +kernel
theorem dX11_loaded_35 : decode cX11_loaded 35 = .ok (.ireturn, 1) := by decide +kernel
theorem dX11_drum_0 : decode cX11_drum 0 = .ok (.iload_n 1, 1) := by decide +kernel
theorem dX11_drum_1 : decode cX11_drum 1 = .ok (.iconst 1, 1) := by decide +kernel
theorem dX11_drum_2 : decode cX11_drum 2 = .ok (.bipush 99, 2) := by decide +kernel
theorem dX11_drum_4 : decode cX11_drum 4 = .ok (.invokestatic 141, 3) := by decide +kernel
theorem dX11_drum_7 : decode cX11_drum 7 = .ok (.ifCond .eq 25, 3) := by decide +kernel
theorem dX11_drum_10 : decode cX11_drum 10 = .ok (.iload_n 2, 1) := by decide +kernel
theorem dX11_drum_11 : decode cX11_drum 11 = .ok (.iconst 0, 1) := by decide +kernel
theorem dX11_drum_12 : decode cX11_drum 12 = .ok (.aload_n 0, 1) := by decide +kernel
theorem dX11_drum_13 : decode cX11_drum 13 = .ok (.getfield 19, 3) := by decide +kernel
theorem dX11_drum_16 : decode cX11_drum 16 = .ok (.getfield 106, 3) := by decide +kernel
theorem dX11_drum_19 : decode cX11_drum 19 = .ok (.getfield 138, 3) := by decide +kernel
theorem dX11_drum_22 : decode cX11_drum 22 = .ok (.iconst 3, 1) := by decide +kernel
theorem dX11_drum_23 : decode cX11_drum 23 = .ok (.iaload, 1) := by decide +kernel
theorem dX11_drum_24 : decode cX11_drum 24 = .ok (.iconst 1, 1) := by decide +kernel
theorem dX11_drum_25 : decode cX11_drum 25 = .ok (.isub, 1) := by decide +kernel
theorem dX11_drum_26 : decode cX11_drum 26 = .ok (.invokestatic 141, 3) := by decide +kernel
theorem dX11_drum_29 : decode cX11_drum 29 = .ok (.ifCond .ne 5, 3) := by decide +kernel
theorem dX11_drum_32 : decode cX11_drum 32 = .ok (.iconst 0, 1) := by decide +kernel
theorem dX11_drum_33 : decode cX11_drum 33 = .ok (.ireturn, 1) := by decide +kernel
theorem dX11_drum_34 : decode cX11_drum 34 = .ok (.aload_n 0, 1) := by decide +kernel
theorem dX11_drum_35 : decode cX11_drum 35 = .ok (.getfield 19, 3) := by decide +kernel
theorem dX11_drum_38 : decode cX11_drum 38 = .ok (.getfield 122, 3) := by decide +kernel
theorem dX11_drum_41 : decode cX11_drum 41 = .ok (.getfield 300, 3) := by decide +kernel
theorem dX11_drum_44 : decode cX11_drum 44 = .ok (.iload_n 1, 1) := by decide +kernel
theorem dX11_drum_45 : decode cX11_drum 45 = .ok (.iload_n 2, 1) := by decide +kernel
theorem dX11_drum_46 : decode cX11_drum 46 = .ok (.iastore, 1) := by decide +kernel
theorem dX11_drum_47 : decode cX11_drum 47 = .ok (.iconst 1, 1) := by decide +kernel
theorem dX11_drum_48 : decode cX11_drum 48 = .ok (.ireturn, 1) := by decide +kernel
theorem dX11_run_0 : decode cX11_run 0 = .ok (.iload_n 1, 1) := by decide +kernel
theorem dX11_run_1 : decode cX11_run 1 = .ok (.iconst (-1), 1) := by decide +kernel
theorem dX11_run_2 : decode cX11_run 2 = .ok (.if_icmp .ge 5, 3) := by decide +kernel
theorem dX11_run_5 : decode cX11_run 5 = .ok (.iconst (-1), 1) := by decide +kernel
theorem dX11_run_6 : decode cX11_run 6 = .ok (.ireturn, 1) := by decide +kernel
theorem dX11_run_7 : decode cX11_run 7 = .ok (.iconst 0, 1) := by decide +kernel
theorem dX11_run_8 : decode cX11_run 8 = .ok (.istore_n 2, 1) := by decide +kernel
theorem dX11_run_9 : decode cX11_run 9 = .ok (.iconst 0, 1) := by decide +kernel
theorem dX11_run_10 : decode cX11_run 10 = .ok (.istore_n 3, 1) := by decide +kernel
theorem dX11_run_11 : decode cX11_run 11 = .ok (.iload_n 3, 1) := by decide +kernel
theorem dX11_run_12 : decode cX11_run 12 = .ok (.aload_n 0, 1) := by decide +kernel
theorem dX11_run_13 : decode cX11_run 13 = .ok (.getfield 19, 3) := by decide +kernel
theorem dX11_run_16 : decode cX11_run 16 = .ok (.getfield 115, 3) := by decide +kernel
theorem dX11_run_19 : decode cX11_run 19 = .ok (.getfield 137, 3) := by decide +kernel
theorem dX11_run_22 : decode cX11_run 22 = .ok (.if_icmp .ge 27, 3) := by decide +kernel
theorem dX11_run_25 : decode cX11_run 25 = .ok (.aload_n 0, 1) := by decide +kernel
theorem dX11_run_26 : decode cX11_run 26 = .ok (.iload_n 3, 1) := by decide +kernel
theorem dX11_run_27 : decode cX11_run 27 = .ok (.invokevirtual 303, 3) := by decide +kernel
theorem dX11_run_30 : decode cX11_run 30 = .ok (.ifCond .eq 13, 3) := by decide +kernel
theorem dX11_run_33 : decode cX11_run 33 = .ok (.iload_n 2, 1) := by decide +kernel
theorem dX11_run_34 : decode cX11_run 34 = .ok (.iload_n 1, 1) := by decide +kernel
theorem dX11_run_35 : decode cX11_run 35 = .ok (.if_icmp .ne 5, 3) := by decide +kernel
theorem dX11_run_38 : decode cX11_run 38 = .ok (.iload_n 3, 1) := by decide +kernel
theorem dX11_run_39 : decode cX11_run 39 = .ok (.ireturn, 1) := by decide +kernel
theorem dX11_run_40 : decode cX11_run 40 = .ok (.iinc 2 1, 3) := by decide +kernel
theorem dX11_run_43 : decode cX11_run 43 = .ok (.iinc 3 1, 3) := by decide +kernel
theorem dX11_run_46 : decode cX11_run 46 = .ok (.goto (-35), 3) := by decide +kernel
theorem dX11_run_49 : decode cX11_run 49 = .ok (.iload_n 1, 1) := by decide +kernel
theorem dX11_run_50 : decode cX11_run 50 = .ok (.iconst (-1), 1) := by decide +kernel
theorem dX11_run_51 : decode cX11_run 51 = .ok (.if_icmp .ne 7, 3) := by decide +kernel
theorem dX11_run_54 : decode cX11_run 54 = .ok (.iload_n 2, 1) := by decide +kernel
theorem dX11_run_55 : decode cX11_run 55 = .ok (.goto 4, 3) := by decide +kernel
theorem dX11_run_58 : decode cX11_run 58 = .ok (.iconst (-1), 1) := by decide +kernel
theorem dX11_run_59 : decode cX11_run 59 = .ok (.ireturn, 1) := by decide +kernel
theorem dX11_hasRun_0 : decode cX11_hasRun 0 = .ok (.aload_n 0, 1) := by decide +kernel
theorem dX11_hasRun_1 : decode cX11_hasRun 1 = .ok (.getfield 19, 3) := by decide +kernel
theorem dX11_hasRun_4 : decode cX11_hasRun 4 = .ok (.getfield 115, 3) := by decide +kernel
theorem dX11_hasRun_7 : decode cX11_hasRun 7 = .ok (.iload_n 1, 1) := by decide +kernel
theorem dX11_hasRun_8 : decode cX11_hasRun 8 = .ok (.bipush 9, 2) := by decide +kernel
theorem dX11_hasRun_10 : decode cX11_hasRun 10 = .ok (.invokevirtual 171, 3) := by decide +kernel
theorem dX11_hasRun_13 : decode cX11_hasRun 13 = .ok (.istore_n 2, 1) := by decide +kernel
theorem dX11_hasRun_14 : decode cX11_hasRun 14 = .ok (.iload_n 2, 1) := by decide +kernel
theorem dX11_hasRun_15 : decode cX11_hasRun 15 = .ok (.ifCond .eq 19, 3) := by decide +kernel
theorem dX11_hasRun_18 : decode cX11_hasRun 18 = .ok (.aload_n 0, 1) := by decide +kernel
theorem dX11_hasRun_19 : decode cX11_hasRun 19 = .ok (.getfield 19, 3) := by decide +kernel
theorem dX11_hasRun_22 : decode cX11_hasRun 22 = .ok (.getfield 115, 3) := by decide +kernel
theorem dX11_hasRun_25 : decode cX11_hasRun 25 = .ok (.iload_n 1, 1) := by decide +kernel
theorem dX11_hasRun_26 : decode cX11_hasRun 26 = .ok (.iconst 1, 1) := by decide +kernel
theorem dX11_hasRun_27 : decode cX11_hasRun 27 = .ok (.invokevirtual 171, 3) := by decide +kernel
theorem dX11_hasRun_30 : decode cX11_hasRun 30 = .ok (.iconst 2, 1) := by decide +kernel
theorem dX11_hasRun_31 : decode cX11_hasRun 31 = .ok (.if_icmp .ne 5, 3) := by decide +kernel
theorem dX11_hasRun_34 : decode cX11_hasRun 34 = .ok (.iconst 0, 1) := by decide +kernel
theorem dX11_hasRun_35 : decode cX11_hasRun 35 = .ok (.ireturn, 1) := by decide +kernel
theorem dX11_hasRun_36 : decode cX11_hasRun 36 = .ok (.iconst 0, 1) := by decide +kernel
theorem dX11_hasRun_37 : decode cX11_hasRun 37 = .ok (.istore_n 3, 1) := by decide +kernel
theorem dX11_hasRun_38 : decode cX11_hasRun 38 = .ok (.iload_n 3, 1) := by decide +kernel
theorem dX11_hasRun_39 : decode cX11_hasRun 39 = .ok (.aload_n 0, 1) := by decide +kernel
theorem dX11_hasRun_40 : decode cX11_hasRun 40 = .ok (.getfield 19, 3) := by decide +kernel
theorem dX11_hasRun_43 : decode cX11_hasRun 43 = .ok (.getfield 115, 3) := by decide +kernel
theorem dX11_hasRun_46 : decode cX11_hasRun 46 = .ok (.getfield 137, 3) := by decide +kernel
theorem dX11_hasRun_49 : decode cX11_hasRun 49 = .ok (.if_icmp .ge 69, 3) := by decide +kernel
theorem dX11_hasRun_52 : decode cX11_hasRun 52 = .ok (.aload_n 0, 1) := by decide +kernel
theorem dX11_hasRun_53 : decode cX11_hasRun 53 = .ok (.getfield 19, 3) := by decide +kernel
theorem dX11_hasRun_56 : decode cX11_hasRun 56 = .ok (.getfield 115, 3) := by decide +kernel
theorem dX11_hasRun_59 : decode cX11_hasRun 59 = .ok (.iload_n 3, 1) := by decide +kernel
theorem dX11_hasRun_60 : decode cX11_hasRun 60 = .ok (.bipush 9, 2) := by decide +kernel
theorem dX11_hasRun_62 : decode cX11_hasRun 62 = .ok (.invokevirtual 171, 3) := by decide +kernel
theorem dX11_hasRun_65 : decode cX11_hasRun 65 = .ok (.iload_n 2, 1) := by decide +kernel
theorem dX11_hasRun_66 : decode cX11_hasRun 66 = .ok (.if_icmp .ne 46, 3) := by decide +kernel
theorem dX11_hasRun_69 : decode cX11_hasRun 69 = .ok (.aload_n 0, 1) := by decide +kernel
theorem dX11_hasRun_70 : decode cX11_hasRun 70 = .ok (.getfield 19, 3) := by decide +kernel
theorem dX11_hasRun_73 : decode cX11_hasRun 73 = .ok (.getfield 115, 3) := by decide +kernel
theorem dX11_hasRun_76 : decode cX11_hasRun 76 = .ok (.iload_n 3, 1) := by decide +kernel
theorem dX11_hasRun_77 : decode cX11_hasRun 77 = .ok (.iconst 1, 1) := by decide +kernel
theorem dX11_hasRun_78 : decode cX11_hasRun 78 = .ok (.invokevirtual 171, 3) := by decide +kernel
theorem dX11_hasRun_81 : decode cX11_hasRun 81 = .ok (.iconst 2, 1) := by decide +kernel
theorem dX11_hasRun_82 : decode cX11_hasRun 82 = .ok (.if_icmp .ne 30, 3) := by decide +kernel
theorem dX11_hasRun_85 : decode cX11_hasRun 85 = .ok (.aload_n 0, 1) := by decide +kernel
theorem dX11_hasRun_86 : decode cX11_hasRun 86 = .ok (.getfield 19, 3) := by decide +kernel
theorem dX11_hasRun_89 : decode cX11_hasRun 89 = .ok (.getfield 106, 3) := by decide +kernel
theorem dX11_hasRun_92 : decode cX11_hasRun 92 = .ok (.aload_n 0, 1) := by decide +kernel
theorem dX11_hasRun_93 : decode cX11_hasRun 93 = .ok (.getfield 19, 3) := by decide +kernel
theorem dX11_hasRun_96 : decode cX11_hasRun 96 = .ok (.getfield 115, 3) := by decide +kernel
theorem dX11_hasRun_99 : decode cX11_hasRun 99 = .ok (.iload_n 3, 1) := by decide +kernel
theorem dX11_hasRun_100 : decode cX11_hasRun 100 = .ok (.iconst 0, 1) := by decide +kernel
theorem dX11_hasRun_101 : decode cX11_hasRun 101 = .ok (.invokevirtual 171, 3) := by decide +kernel
theorem dX11_hasRun_104 : decode cX11_hasRun 104 = .ok (.invokevirtual 306, 3) := by decide +kernel
theorem dX11_hasRun_107 : decode cX11_hasRun 107 = .ok (.ifCond .eq 5, 3) := by decide +kernel
theorem dX11_hasRun_110 : decode cX11_hasRun 110 = .ok (.iconst 1, 1) := by decide +kernel
theorem dX11_hasRun_111 : decode cX11_hasRun 111 = .ok (.ireturn, 1) := by decide +kernel
theorem dX11_hasRun_112 : decode cX11_hasRun 112 = .ok (.iinc 3 1, 3) := by decide +kernel
theorem dX11_hasRun_115 : decode cX11_hasRun 115 = .ok (.goto (-77), 3) := by decide +kernel
theorem dX11_hasRun_118 : decode cX11_hasRun 118 = .ok (.iconst 0, 1) := by decide +kernel
theorem dX11_hasRun_119 : decode cX11_hasRun 119 = .ok (.ireturn, 1) := by decide +kernel
theorem dX11_recall_0 : decode cX11_recall 0 = .ok (.iload_n 1, 1) := by decide +kernel
theorem dX11_recall_1 : decode cX11_recall 1 = .ok (.iconst 0, 1) := by decide +kernel
theorem dX11_recall_2 : decode cX11_recall 2 = .ok (.aload_n 0, 1) := by decide +kernel
theorem dX11_recall_3 : decode cX11_recall 3 = .ok (.getfield 19, 3) := by decide +kernel
theorem dX11_recall_6 : decode cX11_recall 6 = .ok (.getfield 106, 3) := by decide +kernel
theorem dX11_recall_9 : decode cX11_recall 9 = .ok (.getfield 138, 3) := by decide +kernel
theorem dX11_recall_12 : decode cX11_recall 12 = .ok (.iconst 2, 1) := by decide +kernel
theorem dX11_recall_13 : decode cX11_recall 13 = .ok (.iaload, 1) := by decide +kernel
theorem dX11_recall_14 : decode cX11_recall 14 = .ok (.iconst 1, 1) := by decide +kernel
theorem dX11_recall_15 : decode cX11_recall 15 = .ok (.isub, 1) := by decide +kernel
theorem dX11_recall_16 : decode cX11_recall 16 = .ok (.invokestatic 141, 3) := by decide +kernel
theorem dX11_recall_19 : decode cX11_recall 19 = .ok (.ifCond .eq 13, 3) := by decide +kernel
theorem dX11_recall_22 : decode cX11_recall 22 = .ok (.iload_n 2, 1) := by decide +kernel
theorem dX11_recall_23 : decode cX11_recall 23 = .ok (.iconst 0, 1) := by decide +kernel
theorem dX11_recall_24 : decode cX11_recall 24 = .ok (.bipush 9, 2) := by decide +kernel
theorem dX11_recall_26 : decode cX11_recall 26 = .ok (.invokestatic 141, 3) := by decide +kernel
theorem dX11_recall_29 : decode cX11_recall 29 = .ok (.ifCond .ne 5, 3) := by decide +kernel
theorem dX11_recall_32 : decode cX11_recall 32 = .ok (.iconst (-1), 1) := by decide +kernel
theorem dX11_recall_33 : decode cX11_recall 33 = .ok (.ireturn, 1) := by decide +kernel
theorem dX11_recall_34 : decode cX11_recall 34 = .ok (.aload_n 0, 1) := by decide +kernel
theorem dX11_recall_35 : decode cX11_recall 35 = .ok (.iconst 0, 1) := by decide +kernel
theorem dX11_recall_36 : decode cX11_recall 36 = .ok (.putfield 82, 3) := by decide +kernel
theorem dX11_recall_39 : decode cX11_recall 39 = .ok (.iconst 0, 1) := by decide +kernel
theorem dX11_recall_40 : decode cX11_recall 40 = .ok (.istore_n 3, 1) := by decide +kernel
theorem dX11_recall_41 : decode cX11_recall 41 = .ok (.iload_n 3, 1) := by decide +kernel
theorem dX11_recall_42 : decode cX11_recall 42 = .ok (.aload_n 0, 1) := by decide +kernel
theorem dX11_recall_43 : decode cX11_recall 43 = .ok (.getfield 19, 3) := by decide +kernel
theorem dX11_recall_46 : decode cX11_recall 46 = .ok (.getfield 115, 3) := by decide +kernel
theorem dX11_recall_49 : decode cX11_recall 49 = .ok (.getfield 137, 3) := by decide +kernel
theorem dX11_recall_52 : decode cX11_recall 52 = .ok (.if_icmp .ge 86, 3) := by decide +kernel
theorem dX11_recall_55 : decode cX11_recall 55 = .ok (.aload_n 0, 1) := by decide +kernel
theorem dX11_recall_56 : decode cX11_recall 56 = .ok (.getfield 19, 3) := by decide +kernel
theorem dX11_recall_59 : decode cX11_recall 59 = .ok (.getfield 122, 3) := by decide +kernel
theorem dX11_recall_62 : decode cX11_recall 62 = .ok (.aload_n 0, 1) := by decide +kernel
theorem dX11_recall_63 : decode cX11_recall 63 = .ok (.getfield 19, 3) := by decide +kernel
theorem dX11_recall_66 : decode cX11_recall 66 = .ok (.getfield 115, 3) := by decide +kernel
theorem dX11_recall_69 : decode cX11_recall 69 = .ok (.iload_n 3, 1) := by decide +kernel
theorem dX11_recall_70 : decode cX11_recall 70 = .ok (.bipush 9, 2) := by decide +kernel
theorem dX11_recall_72 : decode cX11_recall 72 = .ok (.invokevirtual 171, 3) := by decide +kernel
theorem dX11_recall_75 : decode cX11_recall 75 = .ok (.invokevirtual 309, 3) := by decide +kernel
theorem dX11_recall_78 : decode cX11_recall 78 = .ok (.istore 4, 2) := by decide +kernel
theorem dX11_recall_80 : decode cX11_recall 80 = .ok (.aload_n 0, 1) := by decide +kernel
theorem dX11_recall_81 : decode cX11_recall 81 = .ok (.getfield 19, 3) := by decide +kernel
theorem dX11_recall_84 : decode cX11_recall 84 = .ok (.getfield 115, 3) := by decide +kernel
theorem dX11_recall_87 : decode cX11_recall 87 = .ok (.iload_n 3, 1) := by decide +kernel
theorem dX11_recall_88 : decode cX11_recall 88 = .ok (.iconst 0, 1) := by decide +kernel
theorem dX11_recall_89 : decode cX11_recall 89 = .ok (.invokevirtual 171, 3) := by decide +kernel
theorem dX11_recall_92 : decode cX11_recall 92 = .ok (.iload_n 1, 1) := by decide +kernel
theorem dX11_recall_93 : decode cX11_recall 93 = .ok (.if_icmp .ne 39, 3) := by decide +kernel
theorem dX11_recall_96 : decode cX11_recall 96 = .ok (.aload_n 0, 1) := by decide +kernel
theorem dX11_recall_97 : decode cX11_recall 97 = .ok (.getfield 19, 3) := by decide +kernel
theorem dX11_recall_100 : decode cX11_recall 100 = .ok (.getfield 106, 3) := by decide +kernel
theorem dX11_recall_103 : decode cX11_recall 103 = .ok (.iload 4, 2) := by decide +kernel
theorem dX11_recall_105 : decode cX11_recall 105 = .ok (.invokevirtual 312, 3) := by decide +kernel
theorem dX11_recall_108 : decode cX11_recall 108 = .ok (.iload_n 2, 1) := by decide +kernel
theorem dX11_recall_109 : decode cX11_recall 109 = .ok (.if_icmp .le 23, 3) := by decide +kernel
theorem dX11_recall_112 : decode cX11_recall 112 = .ok (.aload_n 0, 1) := by decide +kernel
theorem dX11_recall_113 : decode cX11_recall 113 = .ok (.getfield 64, 3) := by decide +kernel
theorem dX11_recall_116 : decode cX11_recall 116 = .ok (.aload_n 0, 1) := by decide +kernel
theorem dX11_recall_117 : decode cX11_recall 117 = .ok (.getfield 82, 3) := by decide +kernel
theorem dX11_recall_120 : decode cX11_recall 120 = .ok (.iload_n 3, 1) := by decide +kernel
theorem dX11_recall_121 : decode cX11_recall 121 = .ok (.iastore, 1) := by decide +kernel
theorem dX11_recall_122 : decode cX11_recall 122 = .ok (.aload_n 0, 1) := by decide +kernel
theorem dX11_recall_123 : decode cX11_recall 123 = .ok (.dup, 1) := by decide +kernel
theorem dX11_recall_124 : decode cX11_recall 124 = .ok (.getfield 82, 3) := by decide +kernel
theorem dX11_recall_127 : decode cX11_recall 127 = .ok (.iconst 1, 1) := by decide +kernel
theorem dX11_recall_128 : decode cX11_recall 128 = .ok (.iadd, 1) := by decide +kernel
theorem dX11_recall_129 : decode cX11_recall 129 = .ok (.putfield 82, 3) := by decide +kernel
theorem dX11_recall_132 : decode cX11_recall 132 = .ok (.iinc 3 1, 3) := by decide +kernel
theorem dX11_recall_135 : decode cX11_recall 135 = .ok (.goto (-94), 3) := by decide +kernel
theorem dX11_recall_138 : decode cX11_recall 138 = .ok (.aload_n 0, 1) := by decide +kernel
theorem dX11_recall_139 : decode cX11_recall 139 = .ok (.getfield 82, 3) := by decide +kernel
theorem dX11_recall_142 : decode cX11_recall 142 = .ok (.ireturn, 1) := by decide +kernel
theorem dX11_recalled_0 : decode cX11_recalled 0 = .ok (.iload_n 1, 1) := by decide +kernel
theorem dX11_recalled_1 : decode cX11_recalled 1 = .ok (.iconst 0, 1) := by decide +kernel
theorem dX11_recalled_2 : decode cX11_recalled 2 = .ok (.aload_n 0, 1) := by decide +kernel
theorem dX11_recalled_3 : decode cX11_recalled 3 = .ok (.getfield 82, 3) := by decide +kernel
theorem dX11_recalled_6 : decode cX11_recalled 6 = .ok (.iconst 1, 1) := by decide +kernel
theorem dX11_recalled_7 : decode cX11_recalled 7 = .ok (.isub, 1) := by decide +kernel
theorem dX11_recalled_8 : decode cX11_recalled 8 = .ok (.invokestatic 141, 3) := by decide +kernel
theorem dX11_recalled_11 : decode cX11_recalled 11 = .ok (.ifCond .eq 12, 3) := by decide +kernel
theorem dX11_recalled_14 : decode cX11_recalled 14 = .ok (.aload_n 0, 1) := by decide +kernel
theorem dX11_recalled_15 : decode cX11_recalled 15 = .ok (.getfield 64, 3) := by decide +kernel
theorem dX11_recalled_18 : decode cX11_recalled 18 = .ok (.iload_n 1, 1) := by decide +kernel
theorem dX11_recalled_19 : decode cX11_recalled 19 = .ok (.iaload, 1) := by decide +kernel
theorem dX11_recalled_20 : decode cX11_recalled 20 = .ok (.goto 4, 3) := by decide +kernel
theorem dX11_recalled_23 : decode cX11_recalled 23 = .ok (.iconst (-1), 1) := by decide +kernel
theorem dX11_recalled_24 : decode cX11_recalled 24 = .ok (.ireturn, 1) := by decide +kernel
theorem dX11_rule_0 : decode cX11_rule 0 = .ok (.aload_n 0, 1) := by decide +kernel
theorem dX11_rule_1 : decode cX11_rule 1 = .ok (.getfield 78, 3) := by decide +kernel
theorem dX11_rule_4 : decode cX11_rule 4 = .ok (.aload_n 0, 1) := by decide +kernel
theorem dX11_rule_5 : decode cX11_rule 5 = .ok (.getfield 10, 3) := by decide +kernel
theorem dX11_rule_8 : decode cX11_rule 8 = .ok (.aload_n 0, 1) := by decide +kernel
theorem dX11_rule_9 : decode cX11_rule 9 = .ok (.getfield 19, 3) := by decide +kernel
theorem dX11_rule_12 : decode cX11_rule 12 = .ok (.getfield 106, 3) := by decide +kernel
theorem dX11_rule_15 : decode cX11_rule 15 = .ok (.invokevirtual 315, 3) := by decide +kernel
theorem dX11_rule_18 : decode cX11_rule 18 = .ok (.istore_n 1, 1) := by decide +kernel
theorem dX11_rule_19 : decode cX11_rule 19 = .ok (.aload_n 0, 1) := by decide +kernel
theorem dX11_rule_20 : decode cX11_rule 20 = .ok (.getfield 10, 3) := by decide +kernel
theorem dX11_rule_23 : decode cX11_rule 23 = .ok (.iconst 0, 1) := by decide +kernel
theorem dX11_rule_24 : decode cX11_rule 24 = .ok (.putfield 89, 3) := by decide +kernel
theorem dX11_rule_27 : decode cX11_rule 27 = .ok (.iload_n 1, 1) := by decide +kernel
theorem dX11_rule_28 : decode cX11_rule 28 = .ok (.ifCond .ne 24, 3) := by decide +kernel
theorem dX11_rule_31 : decode cX11_rule 31 = .ok (.aload_n 0, 1) := by decide +kernel
theorem dX11_rule_32 : decode cX11_rule 32 = .ok (.aload_n 0, 1) := by decide +kernel
theorem dX11_rule_33 : decode cX11_rule 33 = .ok (.getfield 10, 3) := by decide +kernel
theorem dX11_rule_36 : decode cX11_rule 36 = .ok (.getfield 100, 3) := by decide +kernel
theorem dX11_rule_39 : decode cX11_rule 39 = .ok (.putfield 86, 3) := by decide +kernel
theorem dX11_rule_42 : decode cX11_rule 42 = .ok (.iconst (-1), 1) := by decide +kernel
theorem dX11_rule_43 : decode cX11_rule 43 = .ok (.aload_n 0, 1) := by decide +kernel
theorem dX11_rule_44 : decode cX11_rule 44 = .ok (.getfield 10, 3) := by decide +kernel
theorem dX11_rule_47 : decode cX11_rule 47 = .ok (.getfield 103, 3) := by decide +kernel
theorem dX11_rule_50 : decode cX11_rule 50 = .ok (.isub, 1) := by decide +kernel
theorem dX11_rule_51 : decode cX11_rule 51 = .ok (.ireturn, 1) := by decide +kernel
theorem dX11_rule_52 : decode cX11_rule 52 = .ok (.aload_n 0, 1) := by decide +kernel
theorem dX11_rule_53 : decode cX11_rule 53 = .ok (.iconst 0, 1) := by decide +kernel
theorem dX11_rule_54 : decode cX11_rule 54 = .ok (.putfield 86, 3) := by decide +kernel
theorem dX11_rule_57 : decode cX11_rule 57 = .ok (.aload_n 0, 1) := by decide +kernel
theorem dX11_rule_58 : decode cX11_rule 58 = .ok (.getfield 19, 3) := by decide +kernel
theorem dX11_rule_61 : decode cX11_rule 61 = .ok (.getfield 109, 3) := by decide +kernel
theorem dX11_rule_64 : decode cX11_rule 64 = .ok (.astore_n 2, 1) := by decide +kernel
theorem dX11_rule_65 : decode cX11_rule 65 = .ok (.aload_n 0, 1) := by decide +kernel
theorem dX11_rule_66 : decode cX11_rule 66 = .ok (.getfield 19, 3) := by decide +kernel
theorem dX11_rule_69 : decode cX11_rule 69 = .ok (.aload_n 0, 1) := by decide +kernel
theorem dX11_rule_70 : decode cX11_rule 70 = .ok (.getfield 78, 3) := by decide +kernel
theorem dX11_rule_73 : decode cX11_rule 73 = .ok (.putfield 109, 3) := by decide +kernel
theorem dX11_rule_76 : decode cX11_rule 76 = .ok (.aload_n 0, 1) := by decide +kernel
theorem dX11_rule_77 : decode cX11_rule 77 = .ok (.aload_n 2, 1) := by decide +kernel
theorem dX11_rule_78 : decode cX11_rule 78 = .ok (.putfield 78, 3) := by decide +kernel
theorem dX11_rule_81 : decode cX11_rule 81 = .ok (.aload_n 0, 1) := by decide +kernel
theorem dX11_rule_82 : decode cX11_rule 82 = .ok (.getfield 19, 3) := by decide +kernel
theorem dX11_rule_85 : decode cX11_rule 85 = .ok (.getfield 109, 3) := by decide +kernel
theorem dX11_rule_88 : decode cX11_rule 88 = .ok (.getfield 318, 3) := by decide +kernel
theorem dX11_rule_91 : decode cX11_rule 91 = .ok (.ireturn, 1) := by decide +kernel
theorem dX11_meets_0 : decode cX11_meets 0 = .ok (.aload_n 0, 1) := by decide +kernel
theorem dX11_meets_1 : decode cX11_meets 1 = .ok (.getfield 19, 3) := by decide +kernel
theorem dX11_meets_4 : decode cX11_meets 4 = .ok (.getfield 109, 3) := by decide +kernel
theorem dX11_meets_7 : decode cX11_meets 7 = .ok (.getfield 318, 3) := by decide +kernel
theorem dX11_meets_10 : decode cX11_meets 10 = .ok (.ifCond .eq 8, 3) := by decide +kernel
theorem dX11_meets_13 : decode cX11_meets 13 = .ok (.iload_n 1, 1) := by decide +kernel
theorem dX11_meets_14 : decode cX11_meets 14 = .ok (.iconst (-1), 1) := by decide +kernel
theorem dX11_meets_15 : decode cX11_meets 15 = .ok (.if_icmp .ge 5, 3) := by decide +kernel
theorem dX11_meets_18 : decode cX11_meets 18 = .ok (.iconst (-1), 1) := by decide +kernel
theorem dX11_meets_19 : decode cX11_meets 19 = .ok (.ireturn, 1) := by decide +kernel
theorem dX11_meets_20 : decode cX11_meets 20 = .ok (.iconst 0, 1) := by decide +kernel
theorem dX11_meets_21 : decode cX11_meets 21 = .ok (.istore_n 2, 1) := by decide +kernel
theorem dX11_meets_22 : decode cX11_meets 22 = .ok (.iconst 0, 1) := by decide +kernel
theorem dX11_meets_23 : decode cX11_meets 23 = .ok (.istore_n 3, 1) := by decide +kernel
theorem dX11_meets_24 : decode cX11_meets 24 = .ok (.iload_n 3, 1) := by decide +kernel
theorem dX11_meets_25 : decode cX11_meets 25 = .ok (.aload_n 0, 1) := by decide +kernel
theorem dX11_meets_26 : decode cX11_meets 26 = .ok (.getfield 19, 3) := by decide +kernel
theorem dX11_meets_29 : decode cX11_meets 29 = .ok (.getfield 115, 3) := by decide +kernel
theorem dX11_meets_32 : decode cX11_meets 32 = .ok (.getfield 137, 3) := by decide +kernel
theorem dX11_meets_35 : decode cX11_meets 35 = .ok (.if_icmp .ge 47, 3) := by decide +kernel
theorem dX11_meets_38 : decode cX11_meets 38 = .ok (.aload_n 0, 1) := by decide +kernel
theorem dX11_meets_39 : decode cX11_meets 39 = .ok (.getfield 19, 3) := by decide +kernel
theorem dX11_meets_42 : decode cX11_meets 42 = .ok (.getfield 109, 3) := by decide +kernel
theorem dX11_meets_45 : decode cX11_meets 45 = .ok (.aload_n 0, 1) := by decide +kernel
theorem dX11_meets_46 : decode cX11_meets 46 = .ok (.getfield 19, 3) := by decide +kernel
theorem dX11_meets_49 : decode cX11_meets 49 = .ok (.getfield 115, 3) := by decide +kernel
theorem dX11_meets_52 : decode cX11_meets 52 = .ok (.iload_n 3, 1) := by decide +kernel
theorem dX11_meets_53 : decode cX11_meets 53 = .ok (.aload_n 0, 1) := by decide +kernel
theorem dX11_meets_54 : decode cX11_meets 54 = .ok (.getfield 19, 3) := by decide +kernel
theorem dX11_meets_57 : decode cX11_meets 57 = .ok (.getfield 134, 3) := by decide +kernel
theorem dX11_meets_60 : decode cX11_meets 60 = .ok (.invokevirtual 321, 3) := by decide +kernel
theorem dX11_meets_63 : decode cX11_meets 63 = .ok (.ifCond .eq 13, 3) := by decide +kernel
theorem dX11_meets_66 : decode cX11_meets 66 = .ok (.iload_n 2, 1) := by decide +kernel
theorem dX11_meets_67 : decode cX11_meets 67 = .ok (.iload_n 1, 1) := by decide +kernel
theorem dX11_meets_68 : decode cX11_meets 68 = .ok (.if_icmp .ne 5, 3) := by decide +kernel
theorem dX11_meets_71 : decode cX11_meets 71 = .ok (.iload_n 3, 1) := by decide +kernel
theorem dX11_meets_72 : decode cX11_meets 72 = .ok (.ireturn, 1) := by decide +kernel
theorem dX11_meets_73 : decode cX11_meets 73 = .ok (.iinc 2 1, 3) := by decide +kernel
theorem dX11_meets_76 : decode cX11_meets 76 = .ok (.iinc 3 1, 3) := by decide +kernel
theorem dX11_meets_79 : decode cX11_meets 79 = .ok (.goto (-55), 3) := by decide +kernel
theorem dX11_meets_82 : decode cX11_meets 82 = .ok (.iload_n 1, 1) := by decide +kernel
theorem dX11_meets_83 : decode cX11_meets 83 = .ok (.iconst (-1), 1) := by decide +kernel
theorem dX11_meets_84 : decode cX11_meets 84 = .ok (.if_icmp .ne 7, 3) := by decide +kernel
theorem dX11_meets_87 : decode cX11_meets 87 = .ok (.iload_n 2, 1) := by decide +kernel
theorem dX11_meets_88 : decode cX11_meets 88 = .ok (.goto 4, 3) := by decide +kernel
theorem dX11_meets_91 : decode cX11_meets 91 = .ok (.iconst (-1), 1) := by decide +kernel
theorem dX11_meets_92 : decode cX11_meets 92 = .ok (.ireturn, 1) := by decide +kernel
theorem dX11_claim_0 : decode cX11_claim 0 = .ok (.aload_n 0, 1) := by decide +kernel
theorem dX11_claim_1 : decode cX11_claim 1 = .ok (.iload_n 1, 1) := by decide +kernel
theorem dX11_claim_2 : decode cX11_claim 2 = .ok (.invokevirtual 161, 3) := by decide +kernel
theorem dX11_claim_5 : decode cX11_claim 5 = .ok (.ifCond .eq 48, 3) := by decide +kernel
theorem dX11_claim_8 : decode cX11_claim 8 = .ok (.aload_n 0, 1) := by decide +kernel
theorem dX11_claim_9 : decode cX11_claim 9 = .ok (.getfield 19, 3) := by decide +kernel
theorem dX11_claim_12 : decode cX11_claim 12 = .ok (.getfield 115, 3) := by decide +kernel
theorem dX11_claim_15 : decode cX11_claim 15 = .ok (.getfield 325, 3) := by decide +kernel
theorem dX11_claim_18 : decode cX11_claim 18 = .ok (.bipush 12, 2) := by decide +kernel
theorem dX11_claim_20 : decode cX11_claim 20 = .ok (.if_icmp .ge 33, 3) := by decide +kernel
theorem dX11_claim_23 : decode cX11_claim 23 = .ok (.aload_n 0, 1) := by decide +kernel
theorem dX11_claim_24 : decode cX11_claim 24 = .ok (.getfield 19, 3) := by decide +kernel
theorem dX11_claim_27 : decode cX11_claim 27 = .ok (.getfield 115, 3) := by decide +kernel
theorem dX11_claim_30 : decode cX11_claim 30 = .ok (.iload_n 1, 1) := by decide +kernel
theorem dX11_claim_31 : decode cX11_claim 31 = .ok (.bipush 11, 2) := by decide +kernel
theorem dX11_claim_33 : decode cX11_claim 33 = .ok (.invokevirtual 171, 3) := by decide +kernel
theorem dX11_claim_36 : decode cX11_claim 36 = .ok (.ifCond .ne 17, 3) := by decide +kernel
theorem dX11_claim_39 : decode cX11_claim 39 = .ok (.aload_n 0, 1) := by decide +kernel
theorem dX11_claim_40 : decode cX11_claim 40 = .ok (.getfield 19, 3) := by decide +kernel
theorem dX11_claim_43 : decode cX11_claim 43 = .ok (.getfield 115, 3) := by decide +kernel
theorem dX11_claim_46 : decode cX11_claim 46 = .ok (.iload_n 1, 1) := by decide +kernel
theorem dX11_claim_47 : decode cX11_claim 47 = .ok (.invokevirtual 328, 3) := by decide +kernel
theorem dX11_claim_50 : decode cX11_claim 50 = .ok (.ifCond .ne 5, 3) := by decide +kernel
theorem dX11_claim_53 : decode cX11_claim 53 = .ok (.iconst (-1), 1) := by decide +kernel
theorem dX11_claim_54 : decode cX11_claim 54 = .ok (.ireturn, 1) := by decide +kernel
theorem dX11_claim_55 : decode cX11_claim 55 = .ok (.aload_n 0, 1) := by decide +kernel
theorem dX11_claim_56 : decode cX11_claim 56 = .ok (.getfield 19, 3) := by decide +kernel
theorem dX11_claim_59 : decode cX11_claim 59 = .ok (.getfield 115, 3) := by decide +kernel
theorem dX11_claim_62 : decode cX11_claim 62 = .ok (.iload_n 1, 1) := by decide +kernel
theorem dX11_claim_63 : decode cX11_claim 63 = .ok (.bipush 11, 2) := by decide +kernel
theorem dX11_claim_65 : decode cX11_claim 65 = .ok (.iconst 1, 1) := by decide +kernel
theorem dX11_claim_66 : decode cX11_claim 66 = .ok (.invokevirtual 153, 3) := by decide +kernel
theorem dX11_claim_69 : decode cX11_claim 69 = .ok (.aload_n 0, 1) := by decide +kernel
theorem dX11_claim_70 : decode cX11_claim 70 = .ok (.getfield 19, 3) := by decide +kernel
theorem dX11_claim_73 : decode cX11_claim 73 = .ok (.getfield 115, 3) := by decide +kernel
theorem dX11_claim_76 : decode cX11_claim 76 = .ok (.dup, 1) := by decide +kernel
theorem dX11_claim_77 : decode cX11_claim 77 = .ok (.getfield 325, 3) := by decide +kernel
theorem dX11_claim_80 : decode cX11_claim 80 = .ok (.iconst 1, 1) := by decide +kernel
theorem dX11_claim_81 : decode cX11_claim 81 = .ok (.iadd, 1) := by decide +kernel
theorem dX11_claim_82 : decode cX11_claim 82 = .ok (.putfield 325, 3) := by decide +kernel
theorem dX11_claim_85 : decode cX11_claim 85 = .ok (.aload_n 0, 1) := by decide +kernel
theorem dX11_claim_86 : decode cX11_claim 86 = .ok (.getfield 19, 3) := by decide +kernel
theorem dX11_claim_89 : decode cX11_claim 89 = .ok (.getfield 115, 3) := by decide +kernel
theorem dX11_claim_92 : decode cX11_claim 92 = .ok (.getfield 325, 3) := by decide +kernel
theorem dX11_claim_95 : decode cX11_claim 95 = .ok (.ireturn, 1) := by decide +kernel
theorem dX11_possible_0 : decode cX11_possible 0 = .ok (.aload_n 0, 1) := by decide +kernel
theorem dX11_possible_1 : decode cX11_possible 1 = .ok (.iload_n 1, 1) := by decide +kernel
theorem dX11_possible_2 : decode cX11_possible 2 = .ok (.invokevirtual 331, 3) := by decide +kernel
theorem dX11_possible_5 : decode cX11_possible 5 = .ok (.ifCond .eq 7, 3) := by decide +kernel
theorem dX11_possible_8 : decode cX11_possible 8 = .ok (.iconst 1, 1) := by decide +kernel
theorem dX11_possible_9 : decode cX11_possible 9 = .ok (.goto 4, 3) := by decide +kernel
theorem dX11_possible_12 : decode cX11_possible 12 = .ok (.iconst 0, 1) := by decide +kernel
theorem dX11_possible_13 : decode cX11_possible 13 = .ok (.ireturn, 1) := by decide +kernel
theorem dX11_causes_0 : decode cX11_causes 0 = .ok (.aload_n 0, 1) := by decide +kernel
theorem dX11_causes_1 : decode cX11_causes 1 = .ok (.getfield 51, 3) := by decide +kernel
theorem dX11_causes_4 : decode cX11_causes 4 = .ok (.invokevirtual 334, 3) := by decide +kernel
theorem dX11_causes_7 : decode cX11_causes 7 = .ok (.iconst 0, 1) := by decide +kernel
theorem dX11_causes_8 : decode cX11_causes 8 = .ok (.istore_n 1, 1) := by decide +kernel
theorem dX11_causes_9 : decode cX11_causes 9 = .ok (.iload_n 1, 1) := by decide +kernel
theorem dX11_causes_10 : decode cX11_causes 10 = .ok (.aload_n 0, 1) := by decide +kernel
theorem dX11_causes_11 : decode cX11_causes 11 = .ok (.getfield 19, 3) := by decide +kernel
theorem dX11_causes_14 : decode cX11_causes 14 = .ok (.getfield 115, 3) := by decide +kernel
theorem dX11_causes_17 : decode cX11_causes 17 = .ok (.getfield 137, 3) := by decide +kernel
theorem dX11_causes_20 : decode cX11_causes 20 = .ok (.if_icmp .ge 145, 3) := by decide +kernel
theorem dX11_causes_23 : decode cX11_causes 23 = .ok (.aload_n 0, 1) := by decide +kernel
theorem dX11_causes_24 : decode cX11_causes 24 = .ok (.getfield 19, 3) := by decide +kernel
theorem dX11_causes_27 : decode cX11_causes 27 = .ok (.getfield 115, 3) := by decide +kernel
theorem dX11_causes_30 : decode cX11_causes 30 = .ok (.iload_n 1, 1) := by decide +kernel
theorem dX11_causes_31 : decode cX11_causes 31 = .ok (.bipush 11, 2) := by decide +kernel
theorem dX11_causes_33 : decode cX11_causes 33 = .ok (.invokevirtual 171, 3) := by decide +kernel
theorem dX11_causes_36 : decode cX11_causes 36 = .ok (.ifCond .eq 123, 3) := by decide +kernel
theorem dX11_causes_39 : decode cX11_causes 39 = .ok (.aload_n 0, 1) := by decide +kernel
theorem dX11_causes_40 : decode cX11_causes 40 = .ok (.getfield 51, 3) := by decide +kernel
theorem dX11_causes_43 : decode cX11_causes 43 = .ok (.invokevirtual 336, 3) := by decide +kernel
theorem dX11_causes_46 : decode cX11_causes 46 = .ok (.aload_n 0, 1) := by decide +kernel
theorem dX11_causes_47 : decode cX11_causes 47 = .ok (.getfield 19, 3) := by decide +kernel
theorem dX11_causes_50 : decode cX11_causes 50 = .ok (.getfield 115, 3) := by decide +kernel
theorem dX11_causes_53 : decode cX11_causes 53 = .ok (.iload_n 1, 1) := by decide +kernel
theorem dX11_causes_54 : decode cX11_causes 54 = .ok (.bipush 9, 2) := by decide +kernel
theorem dX11_causes_56 : decode cX11_causes 56 = .ok (.invokevirtual 171, 3) := by decide +kernel
theorem dX11_causes_59 : decode cX11_causes 59 = .ok (.istore_n 2, 1) := by decide +kernel
theorem dX11_causes_60 : decode cX11_causes 60 = .ok (.bipush 100, 2) := by decide +kernel
theorem dX11_causes_62 : decode cX11_causes 62 = .ok (.aload_n 0, 1) := by decide +kernel
theorem dX11_causes_63 : decode cX11_causes 63 = .ok (.getfield 19, 3) := by decide +kernel
theorem dX11_causes_66 : decode cX11_causes 66 = .ok (.getfield 115, 3) := by decide +kernel
theorem dX11_causes_69 : decode cX11_causes 69 = .ok (.iload_n 1, 1) := by decide +kernel
theorem dX11_causes_70 : decode cX11_causes 70 = .ok (.iconst 0, 1) := by decide +kernel
theorem dX11_causes_71 : decode cX11_causes 71 = .ok (.invokevirtual 171, 3) := by decide +kernel
theorem dX11_causes_74 : decode cX11_causes 74 = .ok (.iadd, 1) := by decide +kernel
theorem dX11_causes_75 : decode cX11_causes 75 = .ok (.istore_n 3, 1) := by decide +kernel
theorem dX11_causes_76 : decode cX11_causes 76 = .ok (.sipush 200, 3) := by decide +kernel
theorem dX11_causes_79 : decode cX11_causes 79 = .ok (.aload_n 0, 1) := by decide +kernel
theorem dX11_causes_80 : decode cX11_causes 80 = .ok (.getfield 19, 3) := by decide +kernel
theorem dX11_causes_83 : decode cX11_causes 83 = .ok (.getfield 115, 3) := by decide +kernel
theorem dX11_causes_86 : decode cX11_causes 86 = .ok (.iload_n 1, 1) := by decide +kernel
theorem dX11_causes_87 : decode cX11_causes 87 = .ok (.iconst 5, 1) := by decide +kernel
theorem dX11_causes_88 : decode cX11_causes 88 = .ok (.invokevirtual 171, 3) := by decide +kernel
theorem dX11_causes_91 : decode cX11_causes 91 = .ok (.iadd, 1) := by decide +kernel
theorem dX11_causes_92 : decode cX11_causes 92 = .ok (.istore 4, 2) := by decide +kernel
theorem dX11_causes_94 : decode cX11_causes 94 = .ok (.aload_n 0, 1) := by decide +kernel
theorem dX11_causes_95 : decode cX11_causes 95 = .ok (.getfield 51, 3) := by decide +kernel
theorem dX11_causes_98 : decode cX11_causes 98 = .ok (.iconst 0, 1) := by decide +kernel
theorem dX11_causes_99 : decode cX11_causes 99 = .ok (.aload_n 0, 1) := by decide +kernel
theorem dX11_causes_100 : decode cX11_causes 100 = .ok (.iload_n 2, 1) := by decide +kernel
theorem dX11_causes_101 : decode cX11_causes 101 = .ok (.invokevirtual 331, 3) := by decide +kernel
theorem dX11_causes_104 : decode cX11_causes 104 = .ok (.ifCond .eq 7, 3) := by decide +kernel
theorem dX11_causes_107 : decode cX11_causes 107 = .ok (.iload_n 2, 1) := by decide +kernel
theorem dX11_causes_108 : decode cX11_causes 108 = .ok (.goto 4, 3) := by decide +kernel
theorem dX11_causes_111 : decode cX11_causes 111 = .ok (.iconst 0, 1) := by decide +kernel
theorem dX11_causes_112 : decode cX11_causes 112 = .ok (.invokevirtual 339, 3) := by decide +kernel
theorem dX11_causes_115 : decode cX11_causes 115 = .ok (.aload_n 0, 1) := by decide +kernel
theorem dX11_causes_116 : decode cX11_causes 116 = .ok (.getfield 51, 3) := by decide +kernel
theorem dX11_causes_119 : decode cX11_causes 119 = .ok (.iconst 1, 1) := by decide +kernel
theorem dX11_causes_120 : decode cX11_causes 120 = .ok (.aload_n 0, 1) := by decide +kernel
theorem dX11_causes_121 : decode cX11_causes 121 = .ok (.iload_n 3, 1) := by decide +kernel
theorem dX11_causes_122 : decode cX11_causes 122 = .ok (.invokevirtual 331, 3) := by decide +kernel
theorem dX11_causes_125 : decode cX11_causes 125 = .ok (.ifCond .eq 7, 3) := by decide +kernel
theorem dX11_causes_128 : decode cX11_causes 128 = .ok (.iload_n 3, 1) := by decide +kernel
theorem dX11_causes_129 : decode cX11_causes 129 = .ok (.goto 4, 3) := by decide +kernel
theorem dX11_causes_132 : decode cX11_causes 132 = .ok (.iconst 0, 1) := by decide +kernel
theorem dX11_causes_133 : decode cX11_causes 133 = .ok (.invokevirtual 339, 3) := by decide +kernel
theorem dX11_causes_136 : decode cX11_causes 136 = .ok (.aload_n 0, 1) := by decide +kernel
theorem dX11_causes_137 : decode cX11_causes 137 = .ok (.getfield 51, 3) := by decide +kernel
theorem dX11_causes_140 : decode cX11_causes 140 = .ok (.iconst 2, 1) := by decide +kernel
theorem dX11_causes_141 : decode cX11_causes 141 = .ok (.aload_n 0, 1) := by decide +kernel
theorem dX11_causes_142 : decode cX11_causes 142 = .ok (.iload 4, 2) := by decide +kernel
theorem dX11_causes_144 : decode cX11_causes 144 = .ok (.invokevirtual 331, 3) := by decide +kernel
theorem dX11_causes_147 : decode cX11_causes 147 = .ok (.ifCond .eq 8, 3) := by decide +kernel
theorem dX11_causes_150 : decode cX11_causes 150 = .ok (.iload 4, 2) := by decide +kernel
theorem dX11_causes_152 : decode cX11_causes 152 = .ok (.goto 4, 3) := by decide +kernel
theorem dX11_causes_155 : decode cX11_causes 155 = .ok (.iconst 0, 1) := by decide +kernel
theorem dX11_causes_156 : decode cX11_causes 156 = .ok (.invokevirtual 339, 3) := by decide +kernel
theorem dX11_causes_159 : decode cX11_causes 159 = .ok (.iinc 1 1, 3) := by decide +kernel
theorem dX11_causes_162 : decode cX11_causes 162 = .ok (.goto (-153), 3) := by decide +kernel
theorem dX11_causes_165 : decode cX11_causes 165 = .ok (.aload_n 0, 1) := by decide +kernel
theorem dX11_causes_166 : decode cX11_causes 166 = .ok (.getfield 51, 3) := by decide +kernel
theorem dX11_causes_169 : decode cX11_causes 169 = .ok (.invokevirtual 342, 3) := by decide +kernel
theorem dX11_causes_172 : decode cX11_causes 172 = .ok (.ireturn, 1) := by decide +kernel
theorem dX11_cause_0 : decode cX11_cause 0 = .ok (.iload_n 1, 1) := by decide +kernel
theorem dX11_cause_1 : decode cX11_cause 1 = .ok (.iconst 0, 1) := by decide +kernel
theorem dX11_cause_2 : decode cX11_cause 2 = .ok (.aload_n 0, 1) := by decide +kernel
theorem dX11_cause_3 : decode cX11_cause 3 = .ok (.getfield 51, 3) := by decide +kernel
theorem dX11_cause_6 : decode cX11_cause 6 = .ok (.getfield 345, 3) := by decide +kernel
theorem dX11_cause_9 : decode cX11_cause 9 = .ok (.iconst 1, 1) := by decide +kernel
theorem dX11_cause_10 : decode cX11_cause 10 = .ok (.isub, 1) := by decide +kernel
theorem dX11_cause_11 : decode cX11_cause 11 = .ok (.invokestatic 141, 3) := by decide +kernel
theorem dX11_cause_14 : decode cX11_cause 14 = .ok (.ifCond .eq 15, 3) := by decide +kernel
theorem dX11_cause_17 : decode cX11_cause 17 = .ok (.aload_n 0, 1) := by decide +kernel
theorem dX11_cause_18 : decode cX11_cause 18 = .ok (.getfield 51, 3) := by decide +kernel
theorem dX11_cause_21 : decode cX11_cause 21 = .ok (.getfield 348, 3) := by decide +kernel
theorem dX11_cause_24 : decode cX11_cause 24 = .ok (.iload_n 1, 1) := by decide +kernel
theorem dX11_cause_25 : decode cX11_cause 25 = .ok (.iaload, 1) := by decide +kernel
theorem dX11_cause_26 : decode cX11_cause 26 = .ok (.goto 4, 3) := by decide +kernel
theorem dX11_cause_29 : decode cX11_cause 29 = .ok (.iconst (-1), 1) := by decide +kernel
theorem dX11_cause_30 : decode cX11_cause 30 = .ok (.ireturn, 1) := by decide +kernel
theorem dX11_isPossible_0 : decode cX11_isPossible 0 = .ok (.iconst 0, 1) := by decide +kernel
theorem dX11_isPossible_1 : decode cX11_isPossible 1 = .ok (.istore_n 2, 1) := by decide +kernel
theorem dX11_isPossible_2 : decode cX11_isPossible 2 = .ok (.iconst 0, 1) := by decide +kernel
theorem dX11_isPossible_3 : decode cX11_isPossible 3 = .ok (.istore_n 3, 1) := by decide +kernel
theorem dX11_isPossible_4 : decode cX11_isPossible 4 = .ok (.iload_n 3, 1) := by decide +kernel
theorem dX11_isPossible_5 : decode cX11_isPossible 5 = .ok (.aload_n 0, 1) := by decide +kernel
theorem dX11_isPossible_6 : decode cX11_isPossible 6 = .ok (.getfield 19, 3) := by decide +kernel
theorem dX11_isPossible_9 : decode cX11_isPossible 9 = .ok (.getfield 115, 3) := by decide +kernel
theorem dX11_isPossible_12 : decode cX11_isPossible 12 = .ok (.getfield 137, 3) := by decide +kernel
theorem dX11_isPossible_15 : decode cX11_isPossible 15 = .ok (.if_icmp .ge 52, 3) := by decide +kernel
theorem dX11_isPossible_18 : decode cX11_isPossible 18 = .ok (.aload_n 0, 1) := by decide +kernel
theorem dX11_isPossible_19 : decode cX11_isPossible 19 = .ok (.getfield 19, 3) := by decide +kernel
theorem dX11_isPossible_22 : decode cX11_isPossible 22 = .ok (.getfield 115, 3) := by decide +kernel
theorem dX11_isPossible_25 : decode cX11_isPossible 25 = .ok (.iload_n 3, 1) := by decide +kernel
theorem dX11_isPossible_26 : decode cX11_isPossible 26 = .ok (.invokevirtual 328, 3) := by decide +kernel
theorem dX11_isPossible_29 : decode cX11_isPossible 29 = .ok (.ifCond .eq 32, 3) := by decide +kernel
theorem dX11_isPossible_32 : decode cX11_isPossible 32 = .ok (.aload_n 0, 1) := by decide +kernel
theorem dX11_isPossible_33 : decode cX11_isPossible 33 = .ok (.iload_n 3, 1) := by decide +kernel
theorem dX11_isPossible_34 : decode cX11_isPossible 34 = .ok (.iload_n 1, 1) := by decide +kernel
theorem dX11_isPossible_35 : decode cX11_isPossible 35 = .ok (.invokevirtual 351, 3) := by decide +kernel
theorem dX11_isPossible_38 : decode cX11_isPossible 38 = .ok (.ifCond .eq 23, 3) := by decide +kernel
theorem dX11_isPossible_41 : decode cX11_isPossible 41 = .ok (.aload_n 0, 1) := by decide +kernel
theorem dX11_isPossible_42 : decode cX11_isPossible 42 = .ok (.getfield 19, 3) := by decide +kernel
theorem dX11_isPossible_45 : decode cX11_isPossible 45 = .ok (.getfield 115, 3) := by decide +kernel
theorem dX11_isPossible_48 : decode cX11_isPossible 48 = .ok (.iload_n 3, 1) := by decide +kernel
theorem dX11_isPossible_49 : decode cX11_isPossible 49 = .ok (.bipush 11, 2) := by decide +kernel
theorem dX11_isPossible_51 : decode cX11_isPossible 51 = .ok (.invokevirtual 171, 3) := by decide +kernel
theorem dX11_isPossible_54 : decode cX11_isPossible 54 = .ok (.ifCond .ne 5, 3) := by decide +kernel
theorem dX11_isPossible_57 : decode cX11_isPossible 57 = .ok (.iconst 0, 1) := by decide +kernel
theorem dX11_isPossible_58 : decode cX11_isPossible 58 = .ok (.ireturn, 1) := by decide +kernel
theorem dX11_isPossible_59 : decode cX11_isPossible 59 = .ok (.iconst 1, 1) := by decide +kernel
theorem dX11_isPossible_60 : decode cX11_isPossible 60 = .ok (.istore_n 2, 1) := by decide +kernel
theorem dX11_isPossible_61 : decode cX11_isPossible 61 = .ok (.iinc 3 1, 3) := by decide +kernel
theorem dX11_isPossible_64 : decode cX11_isPossible 64 = .ok (.goto (-60), 3) := by decide +kernel
theorem dX11_isPossible_67 : decode cX11_isPossible 67 = .ok (.iload_n 2, 1) := by decide +kernel
theorem dX11_isPossible_68 : decode cX11_isPossible 68 = .ok (.ireturn, 1) := by decide +kernel
theorem dX11_hasCause_0 : decode cX11_hasCause 0 = .ok (.iload_n 2, 1) := by decide +kernel
theorem dX11_hasCause_1 : decode cX11_hasCause 1 = .ok (.sipush 200, 3) := by decide +kernel
theorem dX11_hasCause_4 : decode cX11_hasCause 4 = .ok (.if_icmp .lt 29, 3) := by decide +kernel
theorem dX11_hasCause_7 : decode cX11_hasCause 7 = .ok (.aload_n 0, 1) := by decide +kernel
theorem dX11_hasCause_8 : decode cX11_hasCause 8 = .ok (.getfield 19, 3) := by decide +kernel
theorem dX11_hasCause_11 : decode cX11_hasCause 11 = .ok (.getfield 115, 3) := by decide +kernel
theorem dX11_hasCause_14 : decode cX11_hasCause 14 = .ok (.iload_n 1, 1) := by decide +kernel
theorem dX11_hasCause_15 : decode cX11_hasCause 15 = .ok (.iconst 5, 1) := by decide +kernel
theorem dX11_hasCause_16 : decode cX11_hasCause 16 = .ok (.invokevirtual 171, 3) := by decide +kernel
theorem dX11_hasCause_19 : decode cX11_hasCause 19 = .ok (.iload_n 2, 1) := by decide +kernel
theorem dX11_hasCause_20 : decode cX11_hasCause 20 = .ok (.sipush 200, 3) := by decide +kernel
theorem dX11_hasCause_23 : decode cX11_hasCause 23 = .ok (.isub, 1) := by decide +kernel
theorem dX11_hasCause_24 : decode cX11_hasCause 24 = .ok (.if_icmp .ne 7, 3) := by decide +kernel
theorem dX11_hasCause_27 : decode cX11_hasCause 27 = .ok (.iconst 1, 1) := by decide +kernel
theorem dX11_hasCause_28 : decode cX11_hasCause 28 = .ok (.goto 4, 3) := by decide +kernel
theorem dX11_hasCause_31 : decode cX11_hasCause 31 = .ok (.iconst 0, 1) := by decide +kernel
theorem dX11_hasCause_32 : decode cX11_hasCause 32 = .ok (.ireturn, 1) := by decide +kernel
theorem dX11_hasCause_33 : decode cX11_hasCause 33 = .ok (.iload_n 2, 1) := by decide +kernel
theorem dX11_hasCause_34 : decode cX11_hasCause 34 = .ok (.bipush 100, 2) := by decide +kernel
theorem dX11_hasCause_36 : decode cX11_hasCause 36 = .ok (.if_icmp .lt 28, 3) := by decide +kernel
theorem dX11_hasCause_39 : decode cX11_hasCause 39 = .ok (.aload_n 0, 1) := by decide +kernel
theorem dX11_hasCause_40 : decode cX11_hasCause 40 = .ok (.getfield 19, 3) := by decide +kernel
theorem dX11_hasCause_43 : decode cX11_hasCause 43 = .ok (.getfield 115, 3) := by decide +kernel
theorem dX11_hasCause_46 : decode cX11_hasCause 46 = .ok (.iload_n 1, 1) := by decide +kernel
theorem dX11_hasCause_47 : decode cX11_hasCause 47 = .ok (.iconst 0, 1) := by decide +kernel
theorem dX11_hasCause_48 : decode cX11_hasCause 48 = .ok (.invokevirtual 171, 3) := by decide +kernel
theorem dX11_hasCause_51 : decode cX11_hasCause 51 = .ok (.iload_n 2, 1) := by decide +kernel
theorem dX11_hasCause_52 : decode cX11_hasCause 52 = .ok (.bipush 100, 2) := by decide +kernel
theorem dX11_hasCause_54 : decode cX11_hasCause 54 = .ok (.isub, 1) := by decide +kernel
theorem dX11_hasCause_55 : decode cX11_hasCause 55 = .ok (.if_icmp .ne 7, 3) := by decide +kernel
theorem dX11_hasCause_58 : decode cX11_hasCause 58 = .ok (.iconst 1, 1) := by decide +kernel
theorem dX11_hasCause_59 : decode cX11_hasCause 59 = .ok (.goto 4, 3) := by decide +kernel
theorem dX11_hasCause_62 : decode cX11_hasCause 62 = .ok (.iconst 0, 1) := by decide +kernel
theorem dX11_hasCause_63 : decode cX11_hasCause 63 = .ok (.ireturn, 1) := by decide +kernel
theorem dX11_hasCause_64 : decode cX11_hasCause 64 = .ok (.iload_n 2, 1) := by decide +kernel
theorem dX11_hasCause_65 : decode cX11_hasCause 65 = .ok (.ifCond .le 24, 3) := by decide +kernel
theorem dX11_hasCause_68 : decode cX11_hasCause 68 = .ok (.aload_n 0, 1) := by decide +kernel
theorem dX11_hasCause_69 : decode cX11_hasCause 69 = .ok (.getfield 19, 3) := by decide +kernel
theorem dX11_hasCause_72 : decode cX11_hasCause 72 = .ok (.getfield 115, 3) := by decide +kernel
theorem dX11_hasCause_75 : decode cX11_hasCause 75 = .ok (.iload_n 1, 1) := by decide +kernel
theorem dX11_hasCause_76 : decode cX11_hasCause 76 = .ok (.bipush 9, 2) := by decide +kernel
theorem dX11_hasCause_78 : decode cX11_hasCause 78 = .ok (.invokevirtual 171, 3) := by decide +kernel
theorem dX11_hasCause_81 : decode cX11_hasCause 81 = .ok (.iload_n 2, 1) := by decide +kernel
theorem dX11_hasCause_82 : decode cX11_hasCause 82 = .ok (.if_icmp .ne 7, 3) := by decide +kernel
theorem dX11_hasCause_85 : decode cX11_hasCause 85 = .ok (.iconst 1, 1) := by decide +kernel
theorem dX11_hasCause_86 : decode cX11_hasCause 86 = .ok (.goto 4, 3) := by decide +kernel
theorem dX11_hasCause_89 : decode cX11_hasCause 89 = .ok (.iconst 0, 1) := by decide +kernel
theorem dX11_hasCause_90 : decode cX11_hasCause 90 = .ok (.ireturn, 1) := by decide +kernel
theorem dX11_solvent_0 : decode cX11_solvent 0 = .ok (.iload_n 1, 1) := by decide +kernel
theorem dX11_solvent_1 : decode cX11_solvent 1 = .ok (.iconst 0, 1) := by decide +kernel
theorem dX11_solvent_2 : decode cX11_solvent 2 = .ok (.sipush 30000, 3) := by decide +kernel
theorem dX11_solvent_5 : decode cX11_solvent 5 = .ok (.invokestatic 141, 3) := by decide +kernel
theorem dX11_solvent_8 : decode cX11_solvent 8 = .ok (.ifCond .eq 25, 3) := by decide +kernel
theorem dX11_solvent_11 : decode cX11_solvent 11 = .ok (.iload_n 2, 1) := by decide +kernel
theorem dX11_solvent_12 : decode cX11_solvent 12 = .ok (.iconst 0, 1) := by decide +kernel
theorem dX11_solvent_13 : decode cX11_solvent 13 = .ok (.sipush 30000, 3) := by decide +kernel
theorem dX11_solvent_16 : decode cX11_solvent 16 = .ok (.invokestatic 141, 3) := by decide +kernel
theorem dX11_solvent_19 : decode cX11_solvent 19 = .ok (.ifCond .eq 14, 3) := by decide +kernel
theorem dX11_solvent_22 : decode cX11_solvent 22 = .ok (.iload_n 3, 1) := by decide +kernel
theorem dX11_solvent_23 : decode cX11_solvent 23 = .ok (.iconst 0, 1) := by decide +kernel
theorem dX11_solvent_24 : decode cX11_solvent 24 = .ok (.sipush 30000, 3) := by decide +kernel
theorem dX11_solvent_27 : decode cX11_solvent 27 = .ok (.invokestatic 141, 3) := by decide +kernel
theorem dX11_solvent_30 : decode cX11_solvent 30 = .ok (.ifCond .ne 5, 3) := by decide +kernel
theorem dX11_solvent_33 : decode cX11_solvent 33 = .ok (.iconst (-1), 1) := by decide +kernel
theorem dX11_solvent_34 : decode cX11_solvent 34 = .ok (.ireturn, 1) := by decide +kernel
theorem dX11_solvent_35 : decode cX11_solvent 35 = .ok (.aload_n 0, 1) := by decide +kernel
theorem dX11_solvent_36 : decode cX11_solvent 36 = .ok (.getfield 19, 3) := by decide +kernel
theorem dX11_solvent_39 : decode cX11_solvent 39 = .ok (.getfield 122, 3) := by decide +kernel
theorem dX11_solvent_42 : decode cX11_solvent 42 = .ok (.iload_n 1, 1) := by decide +kernel
theorem dX11_solvent_43 : decode cX11_solvent 43 = .ok (.iload_n 2, 1) := by decide +kernel
theorem dX11_solvent_44 : decode cX11_solvent 44 = .ok (.iload_n 3, 1) := by decide +kernel
theorem dX11_solvent_45 : decode cX11_solvent 45 = .ok (.invokevirtual 354, 3) := by decide +kernel
theorem dX11_solvent_48 : decode cX11_solvent 48 = .ok (.ireturn, 1) := by decide +kernel
theorem dX11_lost_0 : decode cX11_lost 0 = .ok (.iload_n 1, 1) := by decide +kernel
theorem dX11_lost_1 : decode cX11_lost 1 = .ok (.iconst 0, 1) := by decide +kernel
theorem dX11_lost_2 : decode cX11_lost 2 = .ok (.aload_n 0, 1) := by decide +kernel
theorem dX11_lost_3 : decode cX11_lost 3 = .ok (.getfield 19, 3) := by decide +kernel
theorem dX11_lost_6 : decode cX11_lost 6 = .ok (.getfield 122, 3) := by decide +kernel
theorem dX11_lost_9 : decode cX11_lost 9 = .ok (.getfield 357, 3) := by decide +kernel
theorem dX11_lost_12 : decode cX11_lost 12 = .ok (.iconst 1, 1) := by decide +kernel
theorem dX11_lost_13 : decode cX11_lost 13 = .ok (.isub, 1) := by decide +kernel
theorem dX11_lost_14 : decode cX11_lost 14 = .ok (.invokestatic 141, 3) := by decide +kernel
theorem dX11_lost_17 : decode cX11_lost 17 = .ok (.ifCond .ne 14, 3) := by decide +kernel
theorem dX11_lost_20 : decode cX11_lost 20 = .ok (.new 164, 3) := by decide +kernel
theorem dX11_lost_23 : decode cX11_lost 23 = .ok (.dup, 1) := by decide +kernel
theorem dX11_lost_24 : decode cX11_lost 24 = .ok (.ldc_w 360, 3) := by decide +kernel
theorem dX11_lost_27 : decode cX11_lost 27 = .ok (.invokespecial 168, 3) := by decide +kernel
theorem dX11_lost_30 : decode cX11_lost 30 = .ok (.athrow, 1) := by decide +kernel
theorem dX11_lost_31 : decode cX11_lost 31 = .ok (.aload_n 0, 1) := by decide +kernel
theorem dX11_lost_32 : decode cX11_lost 32 = .ok (.getfield 19, 3) := by decide +kernel
theorem dX11_lost_35 : decode cX11_lost 35 = .ok (.getfield 122, 3) := by decide +kernel
theorem dX11_lost_38 : decode cX11_lost 38 = .ok (.iload_n 1, 1) := by decide +kernel
theorem dX11_lost_39 : decode cX11_lost 39 = .ok (.invokevirtual 362, 3) := by decide +kernel
theorem dX11_lost_42 : decode cX11_lost 42 = .ok (.ireturn, 1) := by decide +kernel
theorem dX11_broken_0 : decode cX11_broken 0 = .ok (.aload_n 0, 1) := by decide +kernel
theorem dX11_broken_1 : decode cX11_broken 1 = .ok (.getfield 19, 3) := by decide +kernel
theorem dX11_broken_4 : decode cX11_broken 4 = .ok (.getfield 122, 3) := by decide +kernel
theorem dX11_broken_7 : decode cX11_broken 7 = .ok (.aload_n 0, 1) := by decide +kernel
theorem dX11_broken_8 : decode cX11_broken 8 = .ok (.getfield 19, 3) := by decide +kernel
theorem dX11_broken_11 : decode cX11_broken 11 = .ok (.getfield 106, 3) := by decide +kernel
theorem dX11_broken_14 : decode cX11_broken 14 = .ok (.getfield 199, 3) := by decide +kernel
theorem dX11_broken_17 : decode cX11_broken 17 = .ok (.iconst 2, 1) := by decide +kernel
theorem dX11_broken_18 : decode cX11_broken 18 = .ok (.iaload, 1) := by decide +kernel
theorem dX11_broken_19 : decode cX11_broken 19 = .ok (.invokevirtual 365, 3) := by decide +kernel
theorem dX11_broken_22 : decode cX11_broken 22 = .ok (.ireturn, 1) := by decide +kernel
theorem dX11_place_0 : decode cX11_place 0 = .ok (.iload_n 1, 1) := by decide +kernel
theorem dX11_place_1 : decode cX11_place 1 = .ok (.invokestatic 145, 3) := by decide +kernel
theorem dX11_place_4 : decode cX11_place 4 = .ok (.ifCond .eq 23, 3) := by decide +kernel
theorem dX11_place_7 : decode cX11_place 7 = .ok (.iload_n 2, 1) := by decide +kernel
theorem dX11_place_8 : decode cX11_place 8 = .ok (.iconst 0, 1) := by decide +kernel
theorem dX11_place_9 : decode cX11_place 9 = .ok (.bipush 99, 2) := by decide +kernel
theorem dX11_place_11 : decode cX11_place 11 = .ok (.invokestatic 141, 3) := by decide +kernel
theorem dX11_place_14 : decode cX11_place 14 = .ok (.ifCond .eq 13, 3) := by decide +kernel
theorem dX11_place_17 : decode cX11_place 17 = .ok (.iload_n 3, 1) := by decide +kernel
theorem dX11_place_18 : decode cX11_place 18 = .ok (.iconst 0, 1) := by decide +kernel
theorem dX11_place_19 : decode cX11_place 19 = .ok (.bipush 99, 2) := by decide +kernel
theorem dX11_place_21 : decode cX11_place 21 = .ok (.invokestatic 141, 3) := by decide +kernel
theorem dX11_place_24 : decode cX11_place 24 = .ok (.ifCond .ne 5, 3) := by decide +kernel
theorem dX11_place_27 : decode cX11_place 27 = .ok (.iconst 0, 1) := by decide +kernel
theorem dX11_place_28 : decode cX11_place 28 = .ok (.ireturn, 1) := by decide +kernel
theorem dX11_place_29 : decode cX11_place 29 = .ok (.aload_n 0, 1) := by decide +kernel
theorem dX11_place_30 : decode cX11_place 30 = .ok (.getfield 19, 3) := by decide +kernel
theorem dX11_place_33 : decode cX11_place 33 = .ok (.getfield 122, 3) := by decide +kernel
theorem dX11_place_36 : decode cX11_place 36 = .ok (.getfield 368, 3) := by decide +kernel
theorem dX11_place_39 : decode cX11_place 39 = .ok (.iload_n 1, 1) := by decide +kernel
theorem dX11_place_40 : decode cX11_place 40 = .ok (.iload_n 2, 1) := by decide +kernel
theorem dX11_place_41 : decode cX11_place 41 = .ok (.iastore, 1) := by decide +kernel
theorem dX11_place_42 : decode cX11_place 42 = .ok (.aload_n 0, 1) := by decide +kernel
theorem dX11_place_43 : decode cX11_place 43 = .ok (.getfield 19, 3) := by decide +kernel
theorem dX11_place_46 : decode cX11_place 46 = .ok (.getfield 122, 3) := by decide +kernel
theorem dX11_place_49 : decode cX11_place 49 = .ok (.getfield 371, 3) := by decide +kernel
theorem dX11_place_52 : decode cX11_place 52 = .ok (.iload_n 1, 1) := by decide +kernel
theorem dX11_place_53 : decode cX11_place 53 = .ok (.iload_n 3, 1) := by decide +kernel
theorem dX11_place_54 : decode cX11_place 54 = .ok (.iastore, 1) := by decide +kernel
theorem dX11_place_55 : decode cX11_place 55 = .ok (.iconst 1, 1) := by decide +kernel
theorem dX11_place_56 : decode cX11_place 56 = .ok (.ireturn, 1) := by decide +kernel
theorem dX11_round_0 : decode cX11_round 0 = .ok (.aload_n 0, 1) := by decide +kernel
theorem dX11_round_1 : decode cX11_round 1 = .ok (.getfield 10, 3) := by decide +kernel
theorem dX11_round_4 : decode cX11_round 4 = .ok (.invokevirtual 226, 3) := by decide +kernel
theorem dX11_round_7 : decode cX11_round 7 = .ok (.istore_n 1, 1) := by decide +kernel
theorem dX11_round_8 : decode cX11_round 8 = .ok (.iload_n 1, 1) := by decide +kernel
theorem dX11_round_9 : decode cX11_round 9 = .ok (.iconst 1, 1) := by decide +kernel
theorem dX11_round_10 : decode cX11_round 10 = .ok (.bipush 9, 2) := by decide +kernel
theorem dX11_round_12 : decode cX11_round 12 = .ok (.invokestatic 141, 3) := by decide +kernel
theorem dX11_round_15 : decode cX11_round 15 = .ok (.ifCond .ne 5, 3) := by decide +kernel
theorem dX11_round_18 : decode cX11_round 18 = .ok (.iconst (-1), 1) := by decide +kernel
theorem dX11_round_19 : decode cX11_round 19 = .ok (.ireturn, 1) := by decide +kernel
theorem dX11_round_20 : decode cX11_round 20 = .ok (.lconst 0, 1) := by decide +kernel
theorem dX11_round_21 : decode cX11_round 21 = .ok (.lstore_n 2, 1) := by decide +kernel
theorem dX11_round_22 : decode cX11_round 22 = .ok (.iconst 0, 1) := by decide +kernel
theorem dX11_round_23 : decode cX11_round 23 = .ok (.istore 4, 2) := by decide +kernel
theorem dX11_round_25 : decode cX11_round 25 = .ok (.iload 4, 2) := by decide +kernel
theorem dX11_round_27 : decode cX11_round 27 = .ok (.iload_n 1, 1) := by decide +kernel
theorem dX11_round_28 : decode cX11_round 28 = .ok (.if_icmp .ge 48, 3) := by decide +kernel
theorem dX11_round_31 : decode cX11_round 31 = .ok (.aload_n 0, 1) := by decide +kernel
theorem dX11_round_32 : decode cX11_round 32 = .ok (.getfield 10, 3) := by decide +kernel
theorem dX11_round_35 : decode cX11_round 35 = .ok (.iload 4, 2) := by decide +kernel
theorem dX11_round_37 : decode cX11_round 37 = .ok (.invokevirtual 230, 3) := by decide +kernel
theorem dX11_round_40 : decode cX11_round 40 = .ok (.istore 5, 2) := by decide +kernel
theorem dX11_round_42 : decode cX11_round 42 = .ok (.iload 5, 2) := by decide +kernel
theorem dX11_round_44 : decode cX11_round 44 = .ok (.invokestatic 145, 3) := by decide +kernel
theorem dX11_round_47 : decode cX11_round 47 = .ok (.ifCond .eq 14, 3) := by decide +kernel
theorem dX11_round_50 : decode cX11_round 50 = .ok (.lload_n 2, 1) := by decide +kernel
theorem dX11_round_51 : decode cX11_round 51 = .ok (.iload 5, 2) := by decide +kernel
theorem dX11_round_53 : decode cX11_round 53 = .ok (.lshr, 1) := by decide +kernel
theorem dX11_round_54 : decode cX11_round 54 = .ok (.lconst 1, 1) := by decide +kernel
theorem dX11_round_55 : decode cX11_round 55 = .ok (.land, 1) := by decide +kernel
theorem dX11_round_56 : decode cX11_round 56 = .ok (.lconst 0, 1) := by decide +kernel
theorem dX11_round_57 : decode cX11_round 57 = .ok (.lcmp, 1) := by decide +kernel
theorem dX11_round_58 : decode cX11_round 58 = .ok (.ifCond .eq 5, 3) := by decide +kernel
theorem dX11_round_61 : decode cX11_round 61 = .ok (.iconst (-1), 1) := by decide +kernel
theorem dX11_round_62 : decode cX11_round 62 = .ok (.ireturn, 1) := by decide +kernel
theorem dX11_round_63 : decode cX11_round 63 = .ok (.lload_n 2, 1) := by decide +kernel
theorem dX11_round_64 : decode cX11_round 64 = .ok (.lconst 1, 1) := by decide +kernel
theorem dX11_round_65 : decode cX11_round 65 = .ok (.iload 5, 2) := by decide +kernel
theorem dX11_round_67 : decode cX11_round 67 = .ok (.lshl, 1) := by decide +kernel
theorem dX11_round_68 : decode cX11_round 68 = .ok (.lor, 1) := by decide +kernel
theorem dX11_round_69 : decode cX11_round 69 = .ok (.lstore_n 2, 1) := by decide +kernel
theorem dX11_round_70 : decode cX11_round 70 = .ok (.iinc 4 1, 3) := by decide +kernel
theorem dX11_round_73 : decode cX11_round 73 = .ok (.goto (-48), 3) := by decide +kernel
theorem dX11_round_76 : decode cX11_round 76 = .ok (.aload_n 0, 1) := by decide +kernel
theorem dX11_round_77 : decode cX11_round 77 = .ok (.getfield 58, 3) := by decide +kernel
theorem dX11_round_80 : decode cX11_round 80 = .ok (.invokevirtual 374, 3) := by decide +kernel
theorem dX11_round_83 : decode cX11_round 83 = .ok (.iconst 0, 1) := by decide +kernel
theorem dX11_round_84 : decode cX11_round 84 = .ok (.istore 4, 2) := by decide +kernel
theorem dX11_round_86 : decode cX11_round 86 = .ok (.iload 4, 2) := by decide +kernel
theorem dX11_round_88 : decode cX11_round 88 = .ok (.iload_n 1, 1) := by decide +kernel
theorem dX11_round_89 : decode cX11_round 89 = .ok (.if_icmp .ge 55, 3) := by decide +kernel
theorem dX11_round_92 : decode cX11_round 92 = .ok (.aload_n 0, 1) := by decide +kernel
theorem dX11_round_93 : decode cX11_round 93 = .ok (.getfield 10, 3) := by decide +kernel
theorem dX11_round_96 : decode cX11_round 96 = .ok (.iload 4, 2) := by decide +kernel
theorem dX11_round_98 : decode cX11_round 98 = .ok (.invokevirtual 230, 3) := by decide +kernel
theorem dX11_round_101 : decode cX11_round 101 = .ok (.istore 5, 2) := by decide +kernel
theorem dX11_round_103 : decode cX11_round 103 = .ok (.aload_n 0, 1) := by decide +kernel
theorem dX11_round_104 : decode cX11_round 104 = .ok (.getfield 58, 3) := by decide +kernel
theorem dX11_round_107 : decode cX11_round 107 = .ok (.iload 5, 2) := by decide +kernel
theorem dX11_round_109 : decode cX11_round 109 = .ok (.aload_n 0, 1) := by decide +kernel
theorem dX11_round_110 : decode cX11_round 110 = .ok (.getfield 19, 3) := by decide +kernel
theorem dX11_round_113 : decode cX11_round 113 = .ok (.getfield 122, 3) := by decide +kernel
theorem dX11_round_116 : decode cX11_round 116 = .ok (.getfield 368, 3) := by decide +kernel
theorem dX11_round_119 : decode cX11_round 119 = .ok (.iload 5, 2) := by decide +kernel
theorem dX11_round_121 : decode cX11_round 121 = .ok (.iaload, 1) := by decide +kernel
theorem dX11_round_122 : decode cX11_round 122 = .ok (.aload_n 0, 1) := by decide +kernel
theorem dX11_round_123 : decode cX11_round 123 = .ok (.getfield 19, 3) := by decide +kernel
theorem dX11_round_126 : decode cX11_round 126 = .ok (.getfield 122, 3) := by decide +kernel
theorem dX11_round_129 : decode cX11_round 129 = .ok (.getfield 371, 3) := by decide +kernel
theorem dX11_round_132 : decode cX11_round 132 = .ok (.iload 5, 2) := by decide +kernel
theorem dX11_round_134 : decode cX11_round 134 = .ok (.iaload, 1) := by decide +kernel
theorem dX11_round_135 : decode cX11_round 135 = .ok (.invokevirtual 375, 3) := by decide +kernel
theorem dX11_round_138 : decode cX11_round 138 = .ok (.iinc 4 1, 3) := by decide +kernel
theorem dX11_round_141 : decode cX11_round 141 = .ok (.goto (-55), 3) := by decide +kernel
theorem dX11_round_144 : decode cX11_round 144 = .ok (.aload_n 0, 1) := by decide +kernel
theorem dX11_round_145 : decode cX11_round 145 = .ok (.getfield 58, 3) := by decide +kernel
theorem dX11_round_148 : decode cX11_round 148 = .ok (.invokevirtual 378, 3) := by decide +kernel
theorem dX11_round_151 : decode cX11_round 151 = .ok (.ireturn, 1) := by decide +kernel
theorem dX11_roundAt_0 : decode cX11_roundAt 0 = .ok (.iload_n 1, 1) := by decide +kernel
theorem dX11_roundAt_1 : decode cX11_roundAt 1 = .ok (.iconst 0, 1) := by decide +kernel
theorem dX11_roundAt_2 : decode cX11_roundAt 2 = .ok (.aload_n 0, 1) := by decide +kernel
theorem dX11_roundAt_3 : decode cX11_roundAt 3 = .ok (.getfield 58, 3) := by decide +kernel
theorem dX11_roundAt_6 : decode cX11_roundAt 6 = .ok (.getfield 381, 3) := by decide +kernel
theorem dX11_roundAt_9 : decode cX11_roundAt 9 = .ok (.iconst 1, 1) := by decide +kernel
theorem dX11_roundAt_10 : decode cX11_roundAt 10 = .ok (.isub, 1) := by decide +kernel
theorem dX11_roundAt_11 : decode cX11_roundAt 11 = .ok (.invokestatic 141, 3) := by decide +kernel
theorem dX11_roundAt_14 : decode cX11_roundAt 14 = .ok (.ifCond .eq 15, 3) := by decide +kernel
theorem dX11_roundAt_17 : decode cX11_roundAt 17 = .ok (.aload_n 0, 1) := by decide +kernel
theorem dX11_roundAt_18 : decode cX11_roundAt 18 = .ok (.getfield 58, 3) := by decide +kernel
theorem dX11_roundAt_21 : decode cX11_roundAt 21 = .ok (.getfield 384, 3) := by decide +kernel
theorem dX11_roundAt_24 : decode cX11_roundAt 24 = .ok (.iload_n 1, 1) := by decide +kernel
theorem dX11_roundAt_25 : decode cX11_roundAt 25 = .ok (.iaload, 1) := by decide +kernel
theorem dX11_roundAt_26 : decode cX11_roundAt 26 = .ok (.goto 4, 3) := by decide +kernel
theorem dX11_roundAt_29 : decode cX11_roundAt 29 = .ok (.iconst (-1), 1) := by decide +kernel
theorem dX11_roundAt_30 : decode cX11_roundAt 30 = .ok (.ireturn, 1) := by decide +kernel
theorem dX11_image_0 : decode cX11_image 0 = .ok (.iload_n 1, 1) := by decide +kernel
theorem dX11_image_1 : decode cX11_image 1 = .ok (.iconst 0, 1) := by decide +kernel
theorem dX11_image_2 : decode cX11_image 2 = .ok (.iconst 1, 1) := by decide +kernel
theorem dX11_image_3 : decode cX11_image 3 = .ok (.invokestatic 141, 3) := by decide +kernel
theorem dX11_image_6 : decode cX11_image 6 = .ok (.ifCond .ne 5, 3) := by decide +kernel
theorem dX11_image_9 : decode cX11_image 9 = .ok (.iconst 0, 1) := by decide +kernel
theorem dX11_image_10 : decode cX11_image 10 = .ok (.ireturn, 1) := by decide +kernel
theorem dX11_image_11 : decode cX11_image 11 = .ok (.aload_n 0, 1) := by decide +kernel
theorem dX11_image_12 : decode cX11_image 12 = .ok (.getfield 23, 3) := by decide +kernel
theorem dX11_image_15 : decode cX11_image 15 = .ok (.iload_n 1, 1) := by decide +kernel
theorem dX11_image_16 : decode cX11_image 16 = .ok (.aaload, 1) := by decide +kernel
theorem dX11_image_17 : decode cX11_image 17 = .ok (.ifnonnull 16, 3) := by decide +kernel
theorem dX11_image_20 : decode cX11_image 20 = .ok (.aload_n 0, 1) := by decide +kernel
theorem dX11_image_21 : decode cX11_image 21 = .ok (.getfield 23, 3) := by decide +kernel
theorem dX11_image_24 : decode cX11_image 24 = .ok (.iload_n 1, 1) := by decide +kernel
theorem dX11_image_25 : decode cX11_image 25 = .ok (.new 16, 3) := by decide +kernel
theorem dX11_image_28 : decode cX11_image 28 = .ok (.dup, 1) := by decide +kernel
theorem dX11_image_29 : decode cX11_image 29 = .ok (.invokespecial 18, 3) := by decide +kernel
theorem dX11_image_32 : decode cX11_image 32 = .ok (.aastore, 1) := by decide +kernel
theorem dX11_image_33 : decode cX11_image 33 = .ok (.aload_n 0, 1) := by decide +kernel
theorem dX11_image_34 : decode cX11_image 34 = .ok (.getfield 23, 3) := by decide +kernel
theorem dX11_image_37 : decode cX11_image 37 = .ok (.iload_n 1, 1) := by decide +kernel
theorem dX11_image_38 : decode cX11_image 38 = .ok (.aaload, 1) := by decide +kernel
theorem dX11_image_39 : decode cX11_image 39 = .ok (.aload_n 0, 1) := by decide +kernel
theorem dX11_image_40 : decode cX11_image 40 = .ok (.getfield 19, 3) := by decide +kernel
theorem dX11_image_43 : decode cX11_image 43 = .ok (.invokevirtual 385, 3) := by decide +kernel
theorem dX11_image_46 : decode cX11_image 46 = .ok (.iconst 1, 1) := by decide +kernel
theorem dX11_image_47 : decode cX11_image 47 = .ok (.ireturn, 1) := by decide +kernel
theorem dX11_restore_0 : decode cX11_restore 0 = .ok (.iload_n 1, 1) := by decide +kernel
theorem dX11_restore_1 : decode cX11_restore 1 = .ok (.iconst 0, 1) := by decide +kernel
theorem dX11_restore_2 : decode cX11_restore 2 = .ok (.iconst 1, 1) := by decide +kernel
theorem dX11_restore_3 : decode cX11_restore 3 = .ok (.invokestatic 141, 3) := by decide +kernel
theorem dX11_restore_6 : decode cX11_restore 6 = .ok (.ifCond .eq 12, 3) := by decide +kernel
theorem dX11_restore_9 : decode cX11_restore 9 = .ok (.aload_n 0, 1) := by decide +kernel
theorem dX11_restore_10 : decode cX11_restore 10 = .ok (.getfield 23, 3) := by decide +kernel
theorem dX11_restore_13 : decode cX11_restore 13 = .ok (.iload_n 1, 1) := by decide +kernel
theorem dX11_restore_14 : decode cX11_restore 14 = .ok (.aaload, 1) := by decide +kernel
theorem dX11_restore_15 : decode cX11_restore 15 = .ok (.ifnonnull 5, 3) := by decide +kernel
theorem dX11_restore_18 : decode cX11_restore 18 = .ok (.iconst 0, 1) := by decide +kernel
theorem dX11_restore_19 : decode cX11_restore 19 = .ok (.ireturn, 1) := by decide +kernel
theorem dX11_restore_20 : decode cX11_restore 20 = .ok (.aload_n 0, 1) := by decide +kernel
theorem dX11_restore_21 : decode cX11_restore 21 = .ok (.getfield 19, 3) := by decide +kernel
theorem dX11_restore_24 : decode cX11_restore 24 = .ok (.aload_n 0, 1) := by decide +kernel
theorem dX11_restore_25 : decode cX11_restore 25 = .ok (.getfield 23, 3) := by decide +kernel
theorem dX11_restore_28 : decode cX11_restore 28 = .ok (.iload_n 1, 1) := by decide +kernel
theorem dX11_restore_29 : decode cX11_restore 29 = .ok (.aaload, 1) := by decide +kernel
theorem dX11_restore_30 : decode cX11_restore 30 = .ok (.invokevirtual 385, 3) := by decide +kernel
theorem dX11_restore_33 : decode cX11_restore 33 = .ok (.iconst 1, 1) := by decide +kernel
theorem dX11_restore_34 : decode cX11_restore 34 = .ok (.ireturn, 1) := by decide +kernel
theorem dX11_count_0 : decode cX11_count 0 = .ok (.iload_n 1, 1) := by decide +kernel
theorem dX11_count_1 : decode cX11_count 1 = .ok (.tableswitch 128 0 9 #[55, 55, 55, 55, 68, 79, 90, 98, 109, 120], 55) := by decide +kernel
theorem dX11_count_56 : decode cX11_count 56 = .ok (.aload_n 0, 1) := by decide +kernel
theorem dX11_count_57 : decode cX11_count 57 = .ok (.getfield 19, 3) := by decide +kernel
theorem dX11_count_60 : decode cX11_count 60 = .ok (.getfield 106, 3) := by decide +kernel
theorem dX11_count_63 : decode cX11_count 63 = .ok (.getfield 138, 3) := by decide +kernel
theorem dX11_count_66 : decode cX11_count 66 = .ok (.iload_n 1, 1) := by decide +kernel
theorem dX11_count_67 : decode cX11_count 67 = .ok (.iaload, 1) := by decide +kernel
theorem dX11_count_68 : decode cX11_count 68 = .ok (.ireturn, 1) := by decide +kernel
theorem dX11_count_69 : decode cX11_count 69 = .ok (.aload_n 0, 1) := by decide +kernel
theorem dX11_count_70 : decode cX11_count 70 = .ok (.getfield 19, 3) := by decide +kernel
theorem dX11_count_73 : decode cX11_count 73 = .ok (.getfield 115, 3) := by decide +kernel
theorem dX11_count_76 : decode cX11_count 76 = .ok (.getfield 137, 3) := by decide +kernel
theorem dX11_count_79 : decode cX11_count 79 = .ok (.ireturn, 1) := by decide +kernel
theorem dX11_count_80 : decode cX11_count 80 = .ok (.aload_n 0, 1) := by decide +kernel
theorem dX11_count_81 : decode cX11_count 81 = .ok (.getfield 19, 3) := by decide +kernel
theorem dX11_count_84 : decode cX11_count 84 = .ok (.getfield 115, 3) := by decide +kernel
theorem dX11_count_87 : decode cX11_count 87 = .ok (.getfield 389, 3) := by decide +kernel
theorem dX11_count_90 : decode cX11_count 90 = .ok (.ireturn, 1) := by decide +kernel
theorem dX11_count_91 : decode cX11_count 91 = .ok (.aload_n 0, 1) := by decide +kernel
theorem dX11_count_92 : decode cX11_count 92 = .ok (.getfield 19, 3) := by decide +kernel
theorem dX11_count_95 : decode cX11_count 95 = .ok (.getfield 134, 3) := by decide +kernel
theorem dX11_count_98 : decode cX11_count 98 = .ok (.ireturn, 1) := by decide +kernel
theorem dX11_count_99 : decode cX11_count 99 = .ok (.aload_n 0, 1) := by decide +kernel
theorem dX11_count_100 : decode cX11_count 100 = .ok (.getfield 19, 3) := by decide +kernel
theorem dX11_count_103 : decode cX11_count 103 = .ok (.getfield 115, 3) := by decide +kernel
theorem dX11_count_106 : decode cX11_count 106 = .ok (.getfield 325, 3) := by decide +kernel
theorem dX11_count_109 : decode cX11_count 109 = .ok (.ireturn, 1) := by decide +kernel
theorem dX11_count_110 : decode cX11_count 110 = .ok (.aload_n 0, 1) := by decide +kernel
theorem dX11_count_111 : decode cX11_count 111 = .ok (.getfield 19, 3) := by decide +kernel
theorem dX11_count_114 : decode cX11_count 114 = .ok (.getfield 122, 3) := by decide +kernel
theorem dX11_count_117 : decode cX11_count 117 = .ok (.getfield 357, 3) := by decide +kernel
theorem dX11_count_120 : decode cX11_count 120 = .ok (.ireturn, 1) := by decide +kernel
theorem dX11_count_121 : decode cX11_count 121 = .ok (.aload_n 0, 1) := by decide +kernel
theorem dX11_count_122 : decode cX11_count 122 = .ok (.getfield 10, 3) := by decide +kernel
theorem dX11_count_125 : decode cX11_count 125 = .ok (.getfield 89, 3) := by decide +kernel
theorem dX11_count_128 : decode cX11_count 128 = .ok (.ireturn, 1) := by decide +kernel
theorem dX11_count_129 : decode cX11_count 129 = .ok (.iconst (-1), 1) := by decide +kernel
theorem dX11_count_130 : decode cX11_count 130 = .ok (.ireturn, 1) := by decide +kernel
theorem dX11_within_0 : decode cX11_within 0 = .ok (.iload_n 0, 1) := by decide +kernel
theorem dX11_within_1 : decode cX11_within 1 = .ok (.iload_n 1, 1) := by decide +kernel
theorem dX11_within_2 : decode cX11_within 2 = .ok (.if_icmp .lt 12, 3) := by decide +kernel
theorem dX11_within_5 : decode cX11_within 5 = .ok (.iload_n 0, 1) := by decide +kernel
theorem dX11_within_6 : decode cX11_within 6 = .ok (.iload_n 2, 1) := by decide +kernel
theorem dX11_within_7 : decode cX11_within 7 = .ok (.if_icmp .gt 7, 3) := by decide +kernel
theorem dX11_within_10 : decode cX11_within 10 = .ok (.iconst 1, 1) := by decide +kernel
theorem dX11_within_11 : decode cX11_within 11 = .ok (.goto 4, 3) := by decide +kernel
theorem dX11_within_14 : decode cX11_within 14 = .ok (.iconst 0, 1) := by decide +kernel
theorem dX11_within_15 : decode cX11_within 15 = .ok (.ireturn, 1) := by decide +kernel
theorem dX11_isDay_0 : decode cX11_isDay 0 = .ok (.iload_n 0, 1) := by decide +kernel
theorem dX11_isDay_1 : decode cX11_isDay 1 = .ok (.iconst 0, 1) := by decide +kernel
theorem dX11_isDay_2 : decode cX11_isDay 2 = .ok (.sipush 199, 3) := by decide +kernel
theorem dX11_isDay_5 : decode cX11_isDay 5 = .ok (.invokestatic 141, 3) := by decide +kernel
theorem dX11_isDay_8 : decode cX11_isDay 8 = .ok (.ireturn, 1) := by decide +kernel
theorem dX11_isCounter_0 : decode cX11_isCounter 0 = .ok (.iload_n 0, 1) := by decide +kernel
theorem dX11_isCounter_1 : decode cX11_isCounter 1 = .ok (.iconst 0, 1) := by decide +kernel
theorem dX11_isCounter_2 : decode cX11_isCounter 2 = .ok (.bipush 39, 2) := by decide +kernel
theorem dX11_isCounter_4 : decode cX11_isCounter 4 = .ok (.invokestatic 141, 3) := by decide +kernel
theorem dX11_isCounter_7 : decode cX11_isCounter 7 = .ok (.ireturn, 1) := by decide +kernel
theorem dX11_isTicket_0 : decode cX11_isTicket 0 = .ok (.iload_n 1, 1) := by decide +kernel
theorem dX11_isTicket_1 : decode cX11_isTicket 1 = .ok (.iconst 0, 1) := by decide +kernel
theorem dX11_isTicket_2 : decode cX11_isTicket 2 = .ok (.aload_n 0, 1) := by decide +kernel
theorem dX11_isTicket_3 : decode cX11_isTicket 3 = .ok (.getfield 19, 3) := by decide +kernel
theorem dX11_isTicket_6 : decode cX11_isTicket 6 = .ok (.getfield 115, 3) := by decide +kernel
theorem dX11_isTicket_9 : decode cX11_isTicket 9 = .ok (.getfield 137, 3) := by decide +kernel
theorem dX11_isTicket_12 : decode cX11_isTicket 12 = .ok (.iconst 1, 1) := by decide +kernel
theorem dX11_isTicket_13 : decode cX11_isTicket 13 = .ok (.isub, 1) := by decide +kernel
theorem dX11_isTicket_14 : decode cX11_isTicket 14 = .ok (.invokestatic 141, 3) := by decide +kernel
theorem dX11_isTicket_17 : decode cX11_isTicket 17 = .ok (.ireturn, 1) := by decide +kernel
theorem dX11_copyRow_0 : decode cX11_copyRow 0 = .ok (.aload_n 0, 1) := by decide +kernel
theorem dX11_copyRow_1 : decode cX11_copyRow 1 = .ok (.iconst 0, 1) := by decide +kernel
theorem dX11_copyRow_2 : decode cX11_copyRow 2 = .ok (.aload_n 1, 1) := by decide +kernel
theorem dX11_copyRow_3 : decode cX11_copyRow 3 = .ok (.iconst 0, 1) := by decide +kernel
theorem dX11_copyRow_4 : decode cX11_copyRow 4 = .ok (.aload_n 0, 1) := by decide +kernel
theorem dX11_copyRow_5 : decode cX11_copyRow 5 = .ok (.arraylength, 1) := by decide +kernel
theorem dX11_copyRow_6 : decode cX11_copyRow 6 = .ok (.aload_n 1, 1) := by decide +kernel
theorem dX11_copyRow_7 : decode cX11_copyRow 7 = .ok (.arraylength, 1) := by decide +kernel
theorem dX11_copyRow_8 : decode cX11_copyRow 8 = .ok (.invokestatic 392, 3) := by decide +kernel
theorem dX11_copyRow_11 : decode cX11_copyRow 11 = .ok (.invokestatic 395, 3) := by decide +kernel
theorem dX11_copyRow_14 : decode cX11_copyRow 14 = .ok (.return_, 1) := by decide +kernel
