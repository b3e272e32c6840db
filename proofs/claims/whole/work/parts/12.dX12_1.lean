theorem dX12_house_98 : decode cX12_house 98 = .ok (.lastore, 1) := by decide +kernel
theorem dX12_house_99 : decode cX12_house 99 = .ok (.iinc 2 1, 3) := by decide +kernel
theorem dX12_house_102 : decode cX12_house 102 = .ok (.goto (-21), 3) := by decide +kernel
theorem dX12_house_105 : decode cX12_house 105 = .ok (.aload_n 0, 1) := by decide +kernel
theorem dX12_house_106 : decode cX12_house 106 = .ok (.invokevirtual 212, 3) := by decide +kernel
theorem dX12_house_109 : decode cX12_house 109 = .ok (.iload_n 1, 1) := by decide +kernel
theorem dX12_house_110 : decode cX12_house 110 = .ok (.ireturn, 1) := by decide +kernel
theorem dX12_fault_0 : decode cX12_fault 0 = .ok (.aload_n 0, 1) := by decide +kernel
theorem dX12_fault_1 : decode cX12_fault 1 = .ok (.iconst 0, 1) := by decide +kernel
theorem dX12_fault_2 : decode cX12_fault 2 = .ok (.putfield 111, 3) := by decide +kernel
theorem dX12_fault_5 : decode cX12_fault 5 = .ok (.aload_n 0, 1) := by decide +kernel
theorem dX12_fault_6 : decode cX12_fault 6 = .ok (.getfield 162, 3) := by decide +kernel
theorem dX12_fault_9 : decode cX12_fault 9 = .ok (.ireturn, 1) := by decide +kernel
theorem dX12_later_0 : decode cX12_later 0 = .ok (.aload_n 0, 1) := by decide +kernel
theorem dX12_later_1 : decode cX12_later 1 = .ok (.iconst 0, 1) := by decide +kernel
theorem dX12_later_2 : decode cX12_later 2 = .ok (.putfield 111, 3) := by decide +kernel
theorem dX12_later_5 : decode cX12_later 5 = .ok (.aload_n 0, 1) := by decide +kernel
theorem dX12_later_6 : decode cX12_later 6 = .ok (.invokevirtual 259, 3) := by decide +kernel
theorem dX12_later_9 : decode cX12_later 9 = .ok (.iload_n 1, 1) := by decide +kernel
theorem dX12_later_10 : decode cX12_later 10 = .ok (.iconst 0, 1) := by decide +kernel
theorem dX12_later_11 : decode cX12_later 11 = .ok (.sipush 199, 3) := by decide +kernel
theorem dX12_later_14 : decode cX12_later 14 = .ok (.invokestatic 171, 3) := by decide +kernel
theorem dX12_later_17 : decode cX12_later 17 = .ok (.ifCond .eq 19, 3) := by decide +kernel
theorem dX12_later_20 : decode cX12_later 20 = .ok (.aload_n 0, 1) := by decide +kernel
theorem dX12_later_21 : decode cX12_later 21 = .ok (.getfield 13, 3) := by decide +kernel
theorem dX12_later_24 : decode cX12_later 24 = .ok (.sipush 130, 3) := by decide +kernel
theorem dX12_later_27 : decode cX12_later 27 = .ok (.iaload, 1) := by decide +kernel
theorem dX12_later_28 : decode cX12_later 28 = .ok (.iload_n 1, 1) := by decide +kernel
theorem dX12_later_29 : decode cX12_later 29 = .ok (.iadd, 1) := by decide +kernel
theorem dX12_later_30 : decode cX12_later 30 = .ok (.sipush 199, 3) := by decide +kernel
theorem dX12_later_33 : decode cX12_later 33 = .ok (.if_icmp .le 5, 3) := by decide +kernel
theorem dX12_later_36 : decode cX12_later 36 = .ok (.iconst (-1), 1) := by decide +kernel
theorem dX12_later_37 : decode cX12_later 37 = .ok (.ireturn, 1) := by decide +kernel
theorem dX12_later_38 : decode cX12_later 38 = .ok (.aload_n 0, 1) := by decide +kernel
theorem dX12_later_39 : decode cX12_later 39 = .ok (.getfield 13, 3) := by decide +kernel
theorem dX12_later_42 : decode cX12_later 42 = .ok (.sipush 130, 3) := by decide +kernel
theorem dX12_later_45 : decode cX12_later 45 = .ok (.dup2, 1) := by decide +kernel
theorem dX12_later_46 : decode cX12_later 46 = .ok (.iaload, 1) := by decide +kernel
theorem dX12_later_47 : decode cX12_later 47 = .ok (.iload_n 1, 1) := by decide +kernel
theorem dX12_later_48 : decode cX12_later 48 = .ok (.iadd, 1) := by decide +kernel
theorem dX12_later_49 : decode cX12_later 49 = .ok (.iastore, 1) := by decide +kernel
theorem dX12_later_50 : decode cX12_later 50 = .ok (.aload_n 0, 1) := by decide +kernel
theorem dX12_later_51 : decode cX12_later 51 = .ok (.getfield 13, 3) := by decide +kernel
theorem dX12_later_54 : decode cX12_later 54 = .ok (.sipush 130, 3) := by decide +kernel
theorem dX12_later_57 : decode cX12_later 57 = .ok (.iaload, 1) := by decide +kernel
theorem dX12_later_58 : decode cX12_later 58 = .ok (.ireturn, 1) := by decide +kernel
theorem dX12_today_0 : decode cX12_today 0 = .ok (.aload_n 0, 1) := by decide +kernel
theorem dX12_today_1 : decode cX12_today 1 = .ok (.getfield 13, 3) := by decide +kernel
theorem dX12_today_4 : decode cX12_today 4 = .ok (.sipush 130, 3) := by decide +kernel
theorem dX12_today_7 : decode cX12_today 7 = .ok (.iaload, 1) := by decide +kernel
theorem dX12_today_8 : decode cX12_today 8 = .ok (.ireturn, 1) := by decide +kernel
theorem dX12_tickets_0 : decode cX12_tickets 0 = .ok (.aload_n 0, 1) := by decide +kernel
theorem dX12_tickets_1 : decode cX12_tickets 1 = .ok (.getfield 13, 3) := by decide +kernel
theorem dX12_tickets_4 : decode cX12_tickets 4 = .ok (.sipush 131, 3) := by decide +kernel
theorem dX12_tickets_7 : decode cX12_tickets 7 = .ok (.iaload, 1) := by decide +kernel
theorem dX12_tickets_8 : decode cX12_tickets 8 = .ok (.ireturn, 1) := by decide +kernel
theorem dX12_of_0 : decode cX12_of 0 = .ok (.aload_n 0, 1) := by decide +kernel
theorem dX12_of_1 : decode cX12_of 1 = .ok (.getfield 13, 3) := by decide +kernel
theorem dX12_of_4 : decode cX12_of 4 = .ok (.sipush 160, 3) := by decide +kernel
theorem dX12_of_7 : decode cX12_of 7 = .ok (.bipush 12, 2) := by decide +kernel
theorem dX12_of_9 : decode cX12_of 9 = .ok (.iload_n 1, 1) := by decide +kernel
theorem dX12_of_10 : decode cX12_of 10 = .ok (.imul, 1) := by decide +kernel
theorem dX12_of_11 : decode cX12_of 11 = .ok (.iadd, 1) := by decide +kernel
theorem dX12_of_12 : decode cX12_of 12 = .ok (.iload_n 2, 1) := by decide +kernel
theorem dX12_of_13 : decode cX12_of 13 = .ok (.iadd, 1) := by decide +kernel
theorem dX12_of_14 : decode cX12_of 14 = .ok (.iaload, 1) := by decide +kernel
theorem dX12_of_15 : decode cX12_of 15 = .ok (.ireturn, 1) := by decide +kernel
theorem dX12_clothOf_0 : decode cX12_clothOf 0 = .ok (.aload_n 0, 1) := by decide +kernel
theorem dX12_clothOf_1 : decode cX12_clothOf 1 = .ok (.getfield 13, 3) := by decide +kernel
theorem dX12_clothOf_4 : decode cX12_clothOf 4 = .ok (.bipush 60, 2) := by decide +kernel
theorem dX12_clothOf_6 : decode cX12_clothOf 6 = .ok (.iconst 4, 1) := by decide +kernel
theorem dX12_clothOf_7 : decode cX12_clothOf 7 = .ok (.iload_n 1, 1) := by decide +kernel
theorem dX12_clothOf_8 : decode cX12_clothOf 8 = .ok (.imul, 1) := by decide +kernel
theorem dX12_clothOf_9 : decode cX12_clothOf 9 = .ok (.iadd, 1) := by decide +kernel
theorem dX12_clothOf_10 : decode cX12_clothOf 10 = .ok (.iload_n 2, 1) := by decide +kernel
theorem dX12_clothOf_11 : decode cX12_clothOf 11 = .ok (.iadd, 1) := by decide +kernel
theorem dX12_clothOf_12 : decode cX12_clothOf 12 = .ok (.iaload, 1) := by decide +kernel
theorem dX12_clothOf_13 : decode cX12_clothOf 13 = .ok (.ireturn, 1) := by decide +kernel
theorem dX12_isTicket_0 : decode cX12_isTicket 0 = .ok (.iload_n 1, 1) := by decide +kernel
theorem dX12_isTicket_1 : decode cX12_isTicket 1 = .ok (.ifCond .lt 15, 3) := by decide +kernel
theorem dX12_isTicket_4 : decode cX12_isTicket 4 = .ok (.iload_n 1, 1) := by decide +kernel
theorem dX12_isTicket_5 : decode cX12_isTicket 5 = .ok (.aload_n 0, 1) := by decide +kernel
theorem dX12_isTicket_6 : decode cX12_isTicket 6 = .ok (.invokevirtual 268, 3) := by decide +kernel
theorem dX12_isTicket_9 : decode cX12_isTicket 9 = .ok (.if_icmp .ge 7, 3) := by decide +kernel
theorem dX12_isTicket_12 : decode cX12_isTicket 12 = .ok (.iconst 1, 1) := by decide +kernel
theorem dX12_isTicket_13 : decode cX12_isTicket 13 = .ok (.goto 4, 3) := by decide +kernel
theorem dX12_isTicket_16 : decode cX12_isTicket 16 = .ok (.iconst 0, 1) := by decide +kernel
theorem dX12_isTicket_17 : decode cX12_isTicket 17 = .ok (.ireturn, 1) := by decide +kernel
theorem dX12_ticket_0 : decode cX12_ticket 0 = .ok (.aload_n 0, 1) := by decide +kernel
theorem dX12_ticket_1 : decode cX12_ticket 1 = .ok (.iconst 0, 1) := by decide +kernel
theorem dX12_ticket_2 : decode cX12_ticket 2 = .ok (.putfield 111, 3) := by decide +kernel
theorem dX12_ticket_5 : decode cX12_ticket 5 = .ok (.aload_n 0, 1) := by decide +kernel
theorem dX12_ticket_6 : decode cX12_ticket 6 = .ok (.invokevirtual 259, 3) := by decide +kernel
theorem dX12_ticket_9 : decode cX12_ticket 9 = .ok (.iload_n 1, 1) := by decide +kernel
theorem dX12_ticket_10 : decode cX12_ticket 10 = .ok (.bipush 100, 2) := by decide +kernel
theorem dX12_ticket_12 : decode cX12_ticket 12 = .ok (.if_icmp .lt 10, 3) := by decide +kernel
theorem dX12_ticket_15 : decode cX12_ticket 15 = .ok (.iload_n 1, 1) := by decide +kernel
theorem dX12_ticket_16 : decode cX12_ticket 16 = .ok (.bipush 100, 2) := by decide +kernel
theorem dX12_ticket_18 : decode cX12_ticket 18 = .ok (.isub, 1) := by decide +kernel
theorem dX12_ticket_19 : decode cX12_ticket 19 = .ok (.goto 4, 3) := by decide +kernel
theorem dX12_ticket_22 : decode cX12_ticket 22 = .ok (.iload_n 1, 1) := by decide +kernel
theorem dX12_ticket_23 : decode cX12_ticket 23 = .ok (.istore 7, 2) := by decide +kernel
theorem dX12_ticket_25 : decode cX12_ticket 25 = .ok (.iload 7, 2) := by decide +kernel
theorem dX12_ticket_27 : decode cX12_ticket 27 = .ok (.iconst 0, 1) := by decide +kernel
theorem dX12_ticket_28 : decode cX12_ticket 28 = .ok (.iconst 3, 1) := by decide +kernel
theorem dX12_ticket_29 : decode cX12_ticket 29 = .ok (.aload_n 0, 1) := by decide +kernel
theorem dX12_ticket_30 : decode cX12_ticket 30 = .ok (.getfield 13, 3) := by decide +kernel
theorem dX12_ticket_33 : decode cX12_ticket 33 = .ok (.iconst 2, 1) := by decide +kernel
theorem dX12_ticket_34 : decode cX12_ticket 34 = .ok (.iaload, 1) := by decide +kernel
theorem dX12_ticket_35 : decode cX12_ticket 35 = .ok (.imul, 1) := by decide +kernel
theorem dX12_ticket_36 : decode cX12_ticket 36 = .ok (.iconst 1, 1) := by decide +kernel
theorem dX12_ticket_37 : decode cX12_ticket 37 = .ok (.isub, 1) := by decide +kernel
theorem dX12_ticket_38 : decode cX12_ticket 38 = .ok (.invokestatic 171, 3) := by decide +kernel
theorem dX12_ticket_41 : decode cX12_ticket 41 = .ok (.ifCond .eq 71, 3) := by decide +kernel
theorem dX12_ticket_44 : decode cX12_ticket 44 = .ok (.iload_n 2, 1) := by decide +kernel
theorem dX12_ticket_45 : decode cX12_ticket 45 = .ok (.iconst 1, 1) := by decide +kernel
theorem dX12_ticket_46 : decode cX12_ticket 46 = .ok (.sipush 200, 3) := by decide +kernel
theorem dX12_ticket_49 : decode cX12_ticket 49 = .ok (.invokestatic 171, 3) := by decide +kernel
theorem dX12_ticket_52 : decode cX12_ticket 52 = .ok (.ifCond .eq 60, 3) := by decide +kernel
theorem dX12_ticket_55 : decode cX12_ticket 55 = .ok (.iload_n 3, 1) := by decide +kernel
theorem dX12_ticket_56 : decode cX12_ticket 56 = .ok (.iconst 0, 1) := by decide +kernel
theorem dX12_ticket_57 : decode cX12_ticket 57 = .ok (.bipush 9, 2) := by decide +kernel
theorem dX12_ticket_59 : decode cX12_ticket 59 = .ok (.invokestatic 171, 3) := by decide +kernel
theorem dX12_ticket_62 : decode cX12_ticket 62 = .ok (.ifCond .eq 50, 3) := by decide +kernel
theorem dX12_ticket_65 : decode cX12_ticket 65 = .ok (.iload 4, 2) := by decide +kernel
theorem dX12_ticket_67 : decode cX12_ticket 67 = .ok (.iconst 0, 1) := by decide +kernel
theorem dX12_ticket_68 : decode cX12_ticket 68 = .ok (.sipush 255, 3) := by decide +kernel
theorem dX12_ticket_71 : decode cX12_ticket 71 = .ok (.invokestatic 171, 3) := by decide +kernel
theorem dX12_ticket_74 : decode cX12_ticket 74 = .ok (.ifCond .eq 38, 3) := by decide +kernel
theorem dX12_ticket_77 : decode cX12_ticket 77 = .ok (.iload 5, 2) := by decide +kernel
theorem dX12_ticket_79 : decode cX12_ticket 79 = .ok (.iconst 0, 1) := by decide +kernel
theorem dX12_ticket_80 : decode cX12_ticket 80 = .ok (.bipush 39, 2) := by decide +kernel
theorem dX12_ticket_82 : decode cX12_ticket 82 = .ok (.invokestatic 171, 3) := by decide +kernel
theorem dX12_ticket_85 : decode cX12_ticket 85 = .ok (.ifCond .eq 27, 3) := by decide +kernel
theorem dX12_ticket_88 : decode cX12_ticket 88 = .ok (.iload 6, 2) := by decide +kernel
theorem dX12_ticket_90 : decode cX12_ticket 90 = .ok (.aload_n 0, 1) := by decide +kernel
theorem dX12_ticket_91 : decode cX12_ticket 91 = .ok (.invokevirtual 271, 3) := by decide +kernel
theorem dX12_ticket_94 : decode cX12_ticket 94 = .ok (.sipush 199, 3) := by decide +kernel
theorem dX12_ticket_97 : decode cX12_ticket 97 = .ok (.invokestatic 171, 3) := by decide +kernel
theorem dX12_ticket_100 : decode cX12_ticket 100 = .ok (.ifCond .eq 12, 3) := by decide +kernel
theorem dX12_ticket_103 : decode cX12_ticket 103 = .ok (.aload_n 0, 1) := by decide +kernel
theorem dX12_ticket_104 : decode cX12_ticket 104 = .ok (.invokevirtual 268, 3) := by decide +kernel
theorem dX12_ticket_107 : decode cX12_ticket 107 = .ok (.bipush 40, 2) := by decide +kernel
theorem dX12_ticket_109 : decode cX12_ticket 109 = .ok (.if_icmp .ne 5, 3) := by decide +kernel
theorem dX12_ticket_112 : decode cX12_ticket 112 = .ok (.iconst (-1), 1) := by decide +kernel
theorem dX12_ticket_113 : decode cX12_ticket 113 = .ok (.ireturn, 1) := by decide +kernel
theorem dX12_ticket_114 : decode cX12_ticket 114 = .ok (.sipush 160, 3) := by decide +kernel
theorem dX12_ticket_117 : decode cX12_ticket 117 = .ok (.bipush 12, 2) := by decide +kernel
theorem dX12_ticket_119 : decode cX12_ticket 119 = .ok (.aload_n 0, 1) := by decide +kernel
theorem dX12_ticket_120 : decode cX12_ticket 120 = .ok (.invokevirtual 268, 3) := by decide +kernel
theorem dX12_ticket_123 : decode cX12_ticket 123 = .ok (.imul, 1) := by decide +kernel
theorem dX12_ticket_124 : decode cX12_ticket 124 = .ok (.iadd, 1) := by decide +kernel
theorem dX12_ticket_125 : decode cX12_ticket 125 = .ok (.istore 8, 2) := by decide +kernel
theorem dX12_ticket_127 : decode cX12_ticket 127 = .ok (.aload_n 0, 1) := by decide +kernel
theorem dX12_ticket_128 : decode cX12_ticket 128 = .ok (.getfield 13, 3) := by decide +kernel
theorem dX12_ticket_131 : decode cX12_ticket 131 = .ok (.iload 8, 2) := by decide +kernel
theorem dX12_ticket_133 : decode cX12_ticket 133 = .ok (.iconst 0, 1) := by decide +kernel
theorem dX12_ticket_134 : decode cX12_ticket 134 = .ok (.iadd, 1) := by decide +kernel
theorem dX12_ticket_135 : decode cX12_ticket 135 = .ok (.iload 7, 2) := by decide +kernel
theorem dX12_ticket_137 : decode cX12_ticket 137 = .ok (.iconst 3, 1) := by decide +kernel
theorem dX12_ticket_138 : decode cX12_ticket 138 = .ok (.idiv, 1) := by decide +kernel
theorem dX12_ticket_139 : decode cX12_ticket 139 = .ok (.iastore, 1) := by decide +kernel
theorem dX12_ticket_140 : decode cX12_ticket 140 = .ok (.aload_n 0, 1) := by decide +kernel
theorem dX12_ticket_141 : decode cX12_ticket 141 = .ok (.getfield 13, 3) := by decide +kernel
theorem dX12_ticket_144 : decode cX12_ticket 144 = .ok (.iload 8, 2) := by decide +kernel
theorem dX12_ticket_146 : decode cX12_ticket 146 = .ok (.iconst 1, 1) := by decide +kernel
theorem dX12_ticket_147 : decode cX12_ticket 147 = .ok (.iadd, 1) := by decide +kernel
theorem dX12_ticket_148 : decode cX12_ticket 148 = .ok (.iload 7, 2) := by decide +kernel
theorem dX12_ticket_150 : decode cX12_ticket 150 = .ok (.iconst 3, 1) := by decide +kernel
theorem dX12_ticket_151 : decode cX12_ticket 151 = .ok (.irem, 1) := by decide +kernel
theorem dX12_ticket_152 : decode cX12_ticket 152 = .ok (.iastore, 1) := by decide +kernel
theorem dX12_ticket_153 : decode cX12_ticket 153 = .ok (.aload_n 0, 1) := by decide +kernel
theorem dX12_ticket_154 : decode cX12_ticket 154 = .ok (.getfield 13, 3) := by decide +kernel
theorem dX12_ticket_157 : decode cX12_ticket 157 = .ok (.iload 8, 2) := by decide +kernel
theorem dX12_ticket_159 : decode cX12_ticket 159 = .ok (.iconst 2, 1) := by decide +kernel
theorem dX12_ticket_160 : decode cX12_ticket 160 = .ok (.iadd, 1) := by decide +kernel
theorem dX12_ticket_161 : decode cX12_ticket 161 = .ok (.iload_n 2, 1) := by decide +kernel
theorem dX12_ticket_162 : decode cX12_ticket 162 = .ok (.iastore, 1) := by decide +kernel
theorem dX12_ticket_163 : decode cX12_ticket 163 = .ok (.aload_n 0, 1) := by decide +kernel
theorem dX12_ticket_164 : decode cX12_ticket 164 = .ok (.getfield 13, 3) := by decide +kernel
theorem dX12_ticket_167 : decode cX12_ticket 167 = .ok (.iload 8, 2) := by decide +kernel
theorem dX12_ticket_169 : decode cX12_ticket 169 = .ok (.iconst 3, 1) := by decide +kernel
theorem dX12_ticket_170 : decode cX12_ticket 170 = .ok (.iadd, 1) := by decide +kernel
theorem dX12_ticket_171 : decode cX12_ticket 171 = .ok (.iload_n 3, 1) := by decide +kernel
theorem dX12_ticket_172 : decode cX12_ticket 172 = .ok (.iastore, 1) := by decide +kernel
theorem dX12_ticket_173 : decode cX12_ticket 173 = .ok (.aload_n 0, 1) := by decide +kernel
theorem dX12_ticket_174 : decode cX12_ticket 174 = .ok (.getfield 13, 3) := by decide +kernel
theorem dX12_ticket_177 : decode cX12_ticket 177 = .ok (.iload 8, 2) := by decide +kernel
theorem dX12_ticket_179 : decode cX12_ticket 179 = .ok (.iconst 4, 1) := by decide +kernel
theorem dX12_ticket_180 : decode cX12_ticket 180 = .ok (.iadd, 1) := by decide +kernel
theorem dX12_ticket_181 : decode cX12_ticket 181 = .ok (.iload 4, 2) := by decide +kernel
theorem dX12_ticket_183 : decode cX12_ticket 183 = .ok (.iastore, 1) := by decide +kernel
theorem dX12_ticket_184 : decode cX12_ticket 184 = .ok (.aload_n 0, 1) := by decide +kernel
theorem dX12_ticket_185 : decode cX12_ticket 185 = .ok (.getfield 13, 3) := by decide +kernel
theorem dX12_ticket_188 : decode cX12_ticket 188 = .ok (.iload 8, 2) := by decide +kernel
theorem dX12_ticket_190 : decode cX12_ticket 190 = .ok (.iconst 5, 1) := by decide +kernel
theorem dX12_ticket_191 : decode cX12_ticket 191 = .ok (.iadd, 1) := by decide +kernel
theorem dX12_ticket_192 : decode cX12_ticket 192 = .ok (.iload 5, 2) := by decide +kernel
theorem dX12_ticket_194 : decode cX12_ticket 194 = .ok (.iastore, 1) := by decide +kernel
theorem dX12_ticket_195 : decode cX12_ticket 195 = .ok (.aload_n 0, 1) := by decide +kernel
theorem dX12_ticket_196 : decode cX12_ticket 196 = .ok (.getfield 13, 3) := by decide +kernel
theorem dX12_ticket_199 : decode cX12_ticket 199 = .ok (.iload 8, 2) := by decide +kernel
theorem dX12_ticket_201 : decode cX12_ticket 201 = .ok (.bipush 6, 2) := by decide +kernel
theorem dX12_ticket_203 : decode cX12_ticket 203 = .ok (.iadd, 1) := by decide +kernel
theorem dX12_ticket_204 : decode cX12_ticket 204 = .ok (.aload_n 0, 1) := by decide +kernel
theorem dX12_ticket_205 : decode cX12_ticket 205 = .ok (.invokevirtual 271, 3) := by decide +kernel
theorem dX12_ticket_208 : decode cX12_ticket 208 = .ok (.iastore, 1) := by decide +kernel
theorem dX12_ticket_209 : decode cX12_ticket 209 = .ok (.aload_n 0, 1) := by decide +kernel
theorem dX12_ticket_210 : decode cX12_ticket 210 = .ok (.getfield 13, 3) := by decide +kernel
theorem dX12_ticket_213 : decode cX12_ticket 213 = .ok (.iload 8, 2) := by decide +kernel
theorem dX12_ticket_215 : decode cX12_ticket 215 = .ok (.bipush 7, 2) := by decide +kernel
theorem dX12_ticket_217 : decode cX12_ticket 217 = .ok (.iadd, 1) := by decide +kernel
theorem dX12_ticket_218 : decode cX12_ticket 218 = .ok (.iload 6, 2) := by decide +kernel
theorem dX12_ticket_220 : decode cX12_ticket 220 = .ok (.iastore, 1) := by decide +kernel
theorem dX12_ticket_221 : decode cX12_ticket 221 = .ok (.aload_n 0, 1) := by decide +kernel
theorem dX12_ticket_222 : decode cX12_ticket 222 = .ok (.getfield 13, 3) := by decide +kernel
theorem dX12_ticket_225 : decode cX12_ticket 225 = .ok (.iload 8, 2) := by decide +kernel
theorem dX12_ticket_227 : decode cX12_ticket 227 = .ok (.bipush 8, 2) := by decide +kernel
theorem dX12_ticket_229 : decode cX12_ticket 229 = .ok (.iadd, 1) := by decide +kernel
theorem dX12_ticket_230 : decode cX12_ticket 230 = .ok (.iload_n 1, 1) := by decide +kernel
theorem dX12_ticket_231 : decode cX12_ticket 231 = .ok (.bipush 100, 2) := by decide +kernel
theorem dX12_ticket_233 : decode cX12_ticket 233 = .ok (.if_icmp .lt 26, 3) := by decide +kernel
theorem dX12_ticket_236 : decode cX12_ticket 236 = .ok (.aload_n 0, 1) := by decide +kernel
theorem dX12_ticket_237 : decode cX12_ticket 237 = .ok (.iload 7, 2) := by decide +kernel
theorem dX12_ticket_239 : decode cX12_ticket 239 = .ok (.iconst 3, 1) := by decide +kernel
theorem dX12_ticket_240 : decode cX12_ticket 240 = .ok (.idiv, 1) := by decide +kernel
theorem dX12_ticket_241 : decode cX12_ticket 241 = .ok (.iconst 1, 1) := by decide +kernel
theorem dX12_ticket_242 : decode cX12_ticket 242 = .ok (.invokevirtual 274, 3) := by decide +kernel
theorem dX12_ticket_245 : decode cX12_ticket 245 = .ok (.aload_n 0, 1) := by decide +kernel
theorem dX12_ticket_246 : decode cX12_ticket 246 = .ok (.getfield 13, 3) := by decide +kernel
theorem dX12_ticket_249 : decode cX12_ticket 249 = .ok (.bipush 7, 2) := by decide +kernel
theorem dX12_ticket_251 : decode cX12_ticket 251 = .ok (.iaload, 1) := by decide +kernel
theorem dX12_ticket_252 : decode cX12_ticket 252 = .ok (.imul, 1) := by decide +kernel
theorem dX12_ticket_253 : decode cX12_ticket 253 = .ok (.bipush 100, 2) := by decide +kernel
theorem dX12_ticket_255 : decode cX12_ticket 255 = .ok (.idiv, 1) := by decide +kernel
theorem dX12_ticket_256 : decode cX12_ticket 256 = .ok (.goto 12, 3) := by decide +kernel
theorem dX12_ticket_259 : decode cX12_ticket 259 = .ok (.aload_n 0, 1) := by decide +kernel
theorem dX12_ticket_260 : decode cX12_ticket 260 = .ok (.iload 7, 2) := by decide +kernel
theorem dX12_ticket_262 : decode cX12_ticket 262 = .ok (.iconst 3, 1) := by decide +kernel
theorem dX12_ticket_263 : decode cX12_ticket 263 = .ok (.idiv, 1) := by decide +kernel
theorem dX12_ticket_264 : decode cX12_ticket 264 = .ok (.iconst 1, 1) := by decide +kernel
theorem dX12_ticket_265 : decode cX12_ticket 265 = .ok (.invokevirtual 274, 3) := by decide +kernel
theorem dX12_ticket_268 : decode cX12_ticket 268 = .ok (.iastore, 1) := by decide +kernel
theorem dX12_ticket_269 : decode cX12_ticket 269 = .ok (.aload_n 0, 1) := by decide +kernel
theorem dX12_ticket_270 : decode cX12_ticket 270 = .ok (.getfield 13, 3) := by decide +kernel
theorem dX12_ticket_273 : decode cX12_ticket 273 = .ok (.iload 8, 2) := by decide +kernel
theorem dX12_ticket_275 : decode cX12_ticket 275 = .ok (.bipush 9, 2) := by decide +kernel
theorem dX12_ticket_277 : decode cX12_ticket 277 = .ok (.iadd, 1) := by decide +kernel
theorem dX12_ticket_278 : decode cX12_ticket 278 = .ok (.iconst 0, 1) := by decide +kernel
theorem dX12_ticket_279 : decode cX12_ticket 279 = .ok (.iastore, 1) := by decide +kernel
theorem dX12_ticket_280 : decode cX12_ticket 280 = .ok (.aload_n 0, 1) := by decide +kernel
theorem dX12_ticket_281 : decode cX12_ticket 281 = .ok (.getfield 13, 3) := by decide +kernel
theorem dX12_ticket_284 : decode cX12_ticket 284 = .ok (.iload 8, 2) := by decide +kernel
theorem dX12_ticket_286 : decode cX12_ticket 286 = .ok (.bipush 10, 2) := by decide +kernel
theorem dX12_ticket_288 : decode cX12_ticket 288 = .ok (.iadd, 1) := by decide +kernel
theorem dX12_ticket_289 : decode cX12_ticket 289 = .ok (.iload_n 1, 1) := by decide +kernel
theorem dX12_ticket_290 : decode cX12_ticket 290 = .ok (.bipush 100, 2) := by decide +kernel
theorem dX12_ticket_292 : decode cX12_ticket 292 = .ok (.if_icmp .lt 7, 3) := by decide +kernel
theorem dX12_ticket_295 : decode cX12_ticket 295 = .ok (.iconst 1, 1) := by decide +kernel
theorem dX12_ticket_296 : decode cX12_ticket 296 = .ok (.goto 4, 3) := by decide +kernel
theorem dX12_ticket_299 : decode cX12_ticket 299 = .ok (.iconst 0, 1) := by decide +kernel
theorem dX12_ticket_300 : decode cX12_ticket 300 = .ok (.iastore, 1) := by decide +kernel
theorem dX12_ticket_301 : decode cX12_ticket 301 = .ok (.aload_n 0, 1) := by decide +kernel
theorem dX12_ticket_302 : decode cX12_ticket 302 = .ok (.getfield 13, 3) := by decide +kernel
theorem dX12_ticket_305 : decode cX12_ticket 305 = .ok (.sipush 131, 3) := by decide +kernel
theorem dX12_ticket_308 : decode cX12_ticket 308 = .ok (.dup2, 1) := by decide +kernel
theorem dX12_ticket_309 : decode cX12_ticket 309 = .ok (.iaload, 1) := by decide +kernel
theorem dX12_ticket_310 : decode cX12_ticket 310 = .ok (.iconst 1, 1) := by decide +kernel
theorem dX12_ticket_311 : decode cX12_ticket 311 = .ok (.iadd, 1) := by decide +kernel
theorem dX12_ticket_312 : decode cX12_ticket 312 = .ok (.iastore, 1) := by decide +kernel
theorem dX12_ticket_313 : decode cX12_ticket 313 = .ok (.aload_n 0, 1) := by decide +kernel
theorem dX12_ticket_314 : decode cX12_ticket 314 = .ok (.invokevirtual 268, 3) := by decide +kernel
theorem dX12_ticket_317 : decode cX12_ticket 317 = .ok (.iconst 1, 1) := by decide +kernel
theorem dX12_ticket_318 : decode cX12_ticket 318 = .ok (.isub, 1) := by decide +kernel
theorem dX12_ticket_319 : decode cX12_ticket 319 = .ok (.ireturn, 1) := by decide +kernel
theorem dX12_about_0 : decode cX12_about 0 = .ok (.aload_n 0, 1) := by decide +kernel
theorem dX12_about_1 : decode cX12_about 1 = .ok (.invokevirtual 259, 3) := by decide +kernel
theorem dX12_about_4 : decode cX12_about 4 = .ok (.aload_n 0, 1) := by decide +kernel
theorem dX12_about_5 : decode cX12_about 5 = .ok (.iload_n 1, 1) := by decide +kernel
theorem dX12_about_6 : decode cX12_about 6 = .ok (.invokevirtual 278, 3) := by decide +kernel
theorem dX12_about_9 : decode cX12_about 9 = .ok (.ifCond .eq 13, 3) := by decide +kernel
theorem dX12_about_12 : decode cX12_about 12 = .ok (.iload_n 2, 1) := by decide +kernel
theorem dX12_about_13 : decode cX12_about 13 = .ok (.iconst 0, 1) := by decide +kernel
theorem dX12_about_14 : decode cX12_about 14 = .ok (.bipush 9, 2) := by decide +kernel
theorem dX12_about_16 : decode cX12_about 16 = .ok (.invokestatic 171, 3) := by decide +kernel
theorem dX12_about_19 : decode cX12_about 19 = .ok (.ifCond .ne 8, 3) := by decide +kernel
theorem dX12_about_22 : decode cX12_about 22 = .ok (.aload_n 0, 1) := by decide +kernel
theorem dX12_about_23 : decode cX12_about 23 = .ok (.invokevirtual 281, 3) := by decide +kernel
theorem dX12_about_26 : decode cX12_about 26 = .ok (.ireturn, 1) := by decide +kernel
theorem dX12_about_27 : decode cX12_about 27 = .ok (.aload_n 0, 1) := by decide +kernel
theorem dX12_about_28 : decode cX12_about 28 = .ok (.iconst 0, 1) := by decide +kernel
theorem dX12_about_29 : decode cX12_about 29 = .ok (.putfield 111, 3) := by decide +kernel
theorem dX12_about_32 : decode cX12_about 32 = .ok (.aload_n 0, 1) := by decide +kernel
theorem dX12_about_33 : decode cX12_about 33 = .ok (.iload_n 1, 1) := by decide +kernel
theorem dX12_about_34 : decode cX12_about 34 = .ok (.iload_n 2, 1) := by decide +kernel
theorem dX12_about_35 : decode cX12_about 35 = .ok (.invokevirtual 284, 3) := by decide +kernel
theorem dX12_about_38 : decode cX12_about 38 = .ok (.ireturn, 1) := by decide +kernel
theorem dX12_news_0 : decode cX12_news 0 = .ok (.aload_n 0, 1) := by decide +kernel
theorem dX12_news_1 : decode cX12_news 1 = .ok (.iconst 0, 1) := by decide +kernel
theorem dX12_news_2 : decode cX12_news 2 = .ok (.putfield 111, 3) := by decide +kernel
theorem dX12_news_5 : decode cX12_news 5 = .ok (.aload_n 0, 1) := by decide +kernel
theorem dX12_news_6 : decode cX12_news 6 = .ok (.invokevirtual 259, 3) := by decide +kernel
theorem dX12_news_9 : decode cX12_news 9 = .ok (.aload_n 0, 1) := by decide +kernel
theorem dX12_news_10 : decode cX12_news 10 = .ok (.iload_n 1, 1) := by decide +kernel
theorem dX12_news_11 : decode cX12_news 11 = .ok (.invokevirtual 278, 3) := by decide +kernel
theorem dX12_news_14 : decode cX12_news 14 = .ok (.ifCond .eq 44, 3) := by decide +kernel
theorem dX12_news_17 : decode cX12_news 17 = .ok (.iload_n 2, 1) := by decide +kernel
theorem dX12_news_18 : decode cX12_news 18 = .ok (.iconst 1, 1) := by decide +kernel
theorem dX12_news_19 : decode cX12_news 19 = .ok (.iconst 5, 1) := by decide +kernel
theorem dX12_news_20 : decode cX12_news 20 = .ok (.invokestatic 171, 3) := by decide +kernel
theorem dX12_news_23 : decode cX12_news 23 = .ok (.ifCond .eq 35, 3) := by decide +kernel
theorem dX12_news_26 : decode cX12_news 26 = .ok (.iload_n 3, 1) := by decide +kernel
theorem dX12_news_27 : decode cX12_news 27 = .ok (.aload_n 0, 1) := by decide +kernel
theorem dX12_news_28 : decode cX12_news 28 = .ok (.iload_n 1, 1) := by decide +kernel
theorem dX12_news_29 : decode cX12_news 29 = .ok (.bipush 6, 2) := by decide +kernel
theorem dX12_news_31 : decode cX12_news 31 = .ok (.invokevirtual 284, 3) := by decide +kernel
theorem dX12_news_34 : decode cX12_news 34 = .ok (.aload_n 0, 1) := by decide +kernel
theorem dX12_news_35 : decode cX12_news 35 = .ok (.invokevirtual 271, 3) := by decide +kernel
theorem dX12_news_38 : decode cX12_news 38 = .ok (.invokestatic 171, 3) := by decide +kernel
theorem dX12_news_41 : decode cX12_news 41 = .ok (.ifCond .eq 17, 3) := by decide +kernel
theorem dX12_news_44 : decode cX12_news 44 = .ok (.aload_n 0, 1) := by decide +kernel
theorem dX12_news_45 : decode cX12_news 45 = .ok (.getfield 13, 3) := by decide +kernel
theorem dX12_news_48 : decode cX12_news 48 = .ok (.sipush 132, 3) := by decide +kernel
theorem dX12_news_51 : decode cX12_news 51 = .ok (.iaload, 1) := by decide +kernel
theorem dX12_news_52 : decode cX12_news 52 = .ok (.sipush 240, 3) := by decide +kernel
theorem dX12_news_55 : decode cX12_news 55 = .ok (.if_icmp .ne 5, 3) := by decide +kernel
theorem dX12_news_58 : decode cX12_news 58 = .ok (.iconst (-1), 1) := by decide +kernel
theorem dX12_news_59 : decode cX12_news 59 = .ok (.ireturn, 1) := by decide +kernel
theorem dX12_news_60 : decode cX12_news 60 = .ok (.sipush 640, 3) := by decide +kernel
theorem dX12_news_63 : decode cX12_news 63 = .ok (.iconst 3, 1) := by decide +kernel
theorem dX12_news_64 : decode cX12_news 64 = .ok (.aload_n 0, 1) := by decide +kernel
theorem dX12_news_65 : decode cX12_news 65 = .ok (.getfield 13, 3) := by decide +kernel
theorem dX12_news_68 : decode cX12_news 68 = .ok (.sipush 132, 3) := by decide +kernel
theorem dX12_news_71 : decode cX12_news 71 = .ok (.iaload, 1) := by decide +kernel
theorem dX12_news_72 : decode cX12_news 72 = .ok (.imul, 1) := by decide +kernel
theorem dX12_news_73 : decode cX12_news 73 = .ok (.iadd, 1) := by decide +kernel
theorem dX12_news_74 : decode cX12_news 74 = .ok (.istore 4, 2) := by decide +kernel
theorem dX12_news_76 : decode cX12_news 76 = .ok (.aload_n 0, 1) := by decide +kernel
theorem dX12_news_77 : decode cX12_news 77 = .ok (.getfield 13, 3) := by decide +kernel
theorem dX12_news_80 : decode cX12_news 80 = .ok (.iload 4, 2) := by decide +kernel
theorem dX12_news_82 : decode cX12_news 82 = .ok (.bipush 8, 2) := by decide +kernel
theorem dX12_news_84 : decode cX12_news 84 = .ok (.iload_n 1, 1) := by decide +kernel
theorem dX12_news_85 : decode cX12_news 85 = .ok (.imul, 1) := by decide +kernel
theorem dX12_news_86 : decode cX12_news 86 = .ok (.iload_n 2, 1) := by decide +kernel
theorem dX12_news_87 : decode cX12_news 87 = .ok (.iadd, 1) := by decide +kernel
theorem dX12_news_88 : decode cX12_news 88 = .ok (.iastore, 1) := by decide +kernel
theorem dX12_news_89 : decode cX12_news 89 = .ok (.aload_n 0, 1) := by decide +kernel
theorem dX12_news_90 : decode cX12_news 90 = .ok (.getfield 13, 3) := by decide +kernel
theorem dX12_news_93 : decode cX12_news 93 = .ok (.iload 4, 2) := by decide +kernel
theorem dX12_news_95 : decode cX12_news 95 = .ok (.iconst 1, 1) := by decide +kernel
theorem dX12_news_96 : decode cX12_news 96 = .ok (.iadd, 1) := by decide +kernel
theorem dX12_news_97 : decode cX12_news 97 = .ok (.iload_n 3, 1) := by decide +kernel
theorem dX12_news_98 : decode cX12_news 98 = .ok (.iastore, 1) := by decide +kernel
theorem dX12_news_99 : decode cX12_news 99 = .ok (.aload_n 0, 1) := by decide +kernel
theorem dX12_news_100 : decode cX12_news 100 = .ok (.getfield 13, 3) := by decide +kernel
theorem dX12_news_103 : decode cX12_news 103 = .ok (.iload 4, 2) := by decide +kernel
theorem dX12_news_105 : decode cX12_news 105 = .ok (.iconst 2, 1) := by decide +kernel
theorem dX12_news_106 : decode cX12_news 106 = .ok (.iadd, 1) := by decide +kernel
theorem dX12_news_107 : decode cX12_news 107 = .ok (.aload_n 0, 1) := by decide +kernel
theorem dX12_news_108 : decode cX12_news 108 = .ok (.invokevirtual 271, 3) := by decide +kernel
theorem dX12_news_111 : decode cX12_news 111 = .ok (.iastore, 1) := by decide +kernel
theorem dX12_news_112 : decode cX12_news 112 = .ok (.aload_n 0, 1) := by decide +kernel
theorem dX12_news_113 : decode cX12_news 113 = .ok (.getfield 13, 3) := by decide +kernel
theorem dX12_news_116 : decode cX12_news 116 = .ok (.sipush 132, 3) := by decide +kernel
theorem dX12_news_119 : decode cX12_news 119 = .ok (.dup2, 1) := by decide +kernel
theorem dX12_news_120 : decode cX12_news 120 = .ok (.iaload, 1) := by decide +kernel
theorem dX12_news_121 : decode cX12_news 121 = .ok (.iconst 1, 1) := by decide +kernel
theorem dX12_news_122 : decode cX12_news 122 = .ok (.iadd, 1) := by decide +kernel
theorem dX12_news_123 : decode cX12_news 123 = .ok (.iastore, 1) := by decide +kernel
theorem dX12_news_124 : decode cX12_news 124 = .ok (.aload_n 0, 1) := by decide +kernel
theorem dX12_news_125 : decode cX12_news 125 = .ok (.getfield 13, 3) := by decide +kernel
theorem dX12_news_128 : decode cX12_news 128 = .ok (.sipush 132, 3) := by decide +kernel
theorem dX12_news_131 : decode cX12_news 131 = .ok (.iaload, 1) := by decide +kernel
theorem dX12_news_132 : decode cX12_news 132 = .ok (.iconst 1, 1) := by decide +kernel
theorem dX12_news_133 : decode cX12_news 133 = .ok (.isub, 1) := by decide +kernel
theorem dX12_news_134 : decode cX12_news 134 = .ok (.ireturn, 1) := by decide +kernel
theorem dX12_standsOn_0 : decode cX12_standsOn 0 = .ok (.iconst 0, 1) := by decide +kernel
theorem dX12_standsOn_1 : decode cX12_standsOn 1 = .ok (.istore 4, 2) := by decide +kernel
theorem dX12_standsOn_3 : decode cX12_standsOn 3 = .ok (.iconst (-1), 1) := by decide +kernel
theorem dX12_standsOn_4 : decode cX12_standsOn 4 = .ok (.istore 5, 2) := by decide +kernel
theorem dX12_standsOn_6 : decode cX12_standsOn 6 = .ok (.iconst 0, 1) := by decide +kernel
theorem dX12_standsOn_7 : decode cX12_standsOn 7 = .ok (.istore 6, 2) := by decide +kernel
theorem dX12_standsOn_9 : decode cX12_standsOn 9 = .ok (.iload 6, 2) := by decide +kernel
theorem dX12_standsOn_11 : decode cX12_standsOn 11 = .ok (.aload_n 0, 1) := by decide +kernel
theorem dX12_standsOn_12 : decode cX12_standsOn 12 = .ok (.getfield 13, 3) := by decide +kernel
theorem dX12_standsOn_15 : decode cX12_standsOn 15 = .ok (.sipush 132, 3) := by decide +kernel
theorem dX12_standsOn_18 : decode cX12_standsOn 18 = .ok (.iaload, 1) := by decide +kernel
theorem dX12_standsOn_19 : decode cX12_standsOn 19 = .ok (.if_icmp .ge 99, 3) := by decide +kernel
theorem dX12_standsOn_22 : decode cX12_standsOn 22 = .ok (.sipush 640, 3) := by decide +kernel
theorem dX12_standsOn_25 : decode cX12_standsOn 25 = .ok (.iconst 3, 1) := by decide +kernel
theorem dX12_standsOn_26 : decode cX12_standsOn 26 = .ok (.iload 6, 2) := by decide +kernel
theorem dX12_standsOn_28 : decode cX12_standsOn 28 = .ok (.imul, 1) := by decide +kernel
theorem dX12_standsOn_29 : decode cX12_standsOn 29 = .ok (.iadd, 1) := by decide +kernel
theorem dX12_standsOn_30 : decode cX12_standsOn 30 = .ok (.istore 7, 2) := by decide +kernel
theorem dX12_standsOn_32 : decode cX12_standsOn 32 = .ok (.aload_n 0, 1) := by decide +kernel
theorem dX12_standsOn_33 : decode cX12_standsOn 33 = .ok (.getfield 13, 3) := by decide +kernel
theorem dX12_standsOn_36 : decode cX12_standsOn 36 = .ok (.iload 7, 2) := by decide +kernel
theorem dX12_standsOn_38 : decode cX12_standsOn 38 = .ok (.iaload, 1) := by decide +kernel
theorem dX12_standsOn_39 : decode cX12_standsOn 39 = .ok (.bipush 8, 2) := by decide +kernel
theorem dX12_standsOn_41 : decode cX12_standsOn 41 = .ok (.idiv, 1) := by decide +kernel
theorem dX12_standsOn_42 : decode cX12_standsOn 42 = .ok (.iload_n 1, 1) := by decide +kernel
theorem dX12_standsOn_43 : decode cX12_standsOn 43 = .ok (.if_icmp .ne 69, 3) := by decide +kernel
theorem dX12_standsOn_46 : decode cX12_standsOn 46 = .ok (.aload_n 0, 1) := by decide +kernel
theorem dX12_standsOn_47 : decode cX12_standsOn 47 = .ok (.getfield 13, 3) := by decide +kernel
theorem dX12_standsOn_50 : decode cX12_standsOn 50 = .ok (.iload 7, 2) := by decide +kernel
theorem dX12_standsOn_52 : decode cX12_standsOn 52 = .ok (.iconst 1, 1) := by decide +kernel
theorem dX12_standsOn_53 : decode cX12_standsOn 53 = .ok (.iadd, 1) := by decide +kernel
theorem dX12_standsOn_54 : decode cX12_standsOn 54 = .ok (.iaload, 1) := by decide +kernel
theorem dX12_standsOn_55 : decode cX12_standsOn 55 = .ok (.iload_n 2, 1) := by decide +kernel
theorem dX12_standsOn_56 : decode cX12_standsOn 56 = .ok (.if_icmp .gt 56, 3) := by decide +kernel
theorem dX12_standsOn_59 : decode cX12_standsOn 59 = .ok (.aload_n 0, 1) := by decide +kernel
theorem dX12_standsOn_60 : decode cX12_standsOn 60 = .ok (.getfield 13, 3) := by decide +kernel
theorem dX12_standsOn_63 : decode cX12_standsOn 63 = .ok (.iload 7, 2) := by decide +kernel
theorem dX12_standsOn_65 : decode cX12_standsOn 65 = .ok (.iconst 2, 1) := by decide +kernel
theorem dX12_standsOn_66 : decode cX12_standsOn 66 = .ok (.iadd, 1) := by decide +kernel
theorem dX12_standsOn_67 : decode cX12_standsOn 67 = .ok (.iaload, 1) := by decide +kernel
theorem dX12_standsOn_68 : decode cX12_standsOn 68 = .ok (.iload_n 3, 1) := by decide +kernel
theorem dX12_standsOn_69 : decode cX12_standsOn 69 = .ok (.if_icmp .gt 43, 3) := by decide +kernel
theorem dX12_standsOn_72 : decode cX12_standsOn 72 = .ok (.aload_n 0, 1) := by decide +kernel
theorem dX12_standsOn_73 : decode cX12_standsOn 73 = .ok (.getfield 13, 3) := by decide +kernel
theorem dX12_standsOn_76 : decode cX12_standsOn 76 = .ok (.iload 7, 2) := by decide +kernel
theorem dX12_standsOn_78 : decode cX12_standsOn 78 = .ok (.iconst 1, 1) := by decide +kernel
theorem dX12_standsOn_79 : decode cX12_standsOn 79 = .ok (.iadd, 1) := by decide +kernel
theorem dX12_standsOn_80 : decode cX12_standsOn 80 = .ok (.iaload, 1) := by decide +kernel
theorem dX12_standsOn_81 : decode cX12_standsOn 81 = .ok (.iload 5, 2) := by decide +kernel
theorem dX12_standsOn_83 : decode cX12_standsOn 83 = .ok (.if_icmp .ge 6, 3) := by decide +kernel
theorem dX12_standsOn_86 : decode cX12_standsOn 86 = .ok (.goto 26, 3) := by decide +kernel
theorem dX12_standsOn_89 : decode cX12_standsOn 89 = .ok (.aload_n 0, 1) := by decide +kernel
theorem dX12_standsOn_90 : decode cX12_standsOn 90 = .ok (.getfield 13, 3) := by decide +kernel
theorem dX12_standsOn_93 : decode cX12_standsOn 93 = .ok (.iload 7, 2) := by decide +kernel
theorem dX12_standsOn_95 : decode cX12_standsOn 95 = .ok (.iconst 1, 1) := by decide +kernel
theorem dX12_standsOn_96 : decode cX12_standsOn 96 = .ok (.iadd, 1) := by decide +kernel
theorem dX12_standsOn_97 : decode cX12_standsOn 97 = .ok (.iaload, 1) := by decide +kernel
theorem dX12_standsOn_98 : decode cX12_standsOn 98 = .ok (.istore 5, 2) := by decide +kernel
theorem dX12_standsOn_100 : decode cX12_standsOn 100 = .ok (.aload_n 0, 1) := by decide +kernel
theorem dX12_standsOn_101 : decode cX12_standsOn 101 = .ok (.getfield 13, 3) := by decide +kernel
theorem dX12_standsOn_104 : decode cX12_standsOn 104 = .ok (.iload 7, 2) := by decide +kernel
theorem dX12_standsOn_106 : decode cX12_standsOn 106 = .ok (.iaload, 1) := by decide +kernel
theorem dX12_standsOn_107 : decode cX12_standsOn 107 = .ok (.bipush 8, 2) := by decide +kernel
theorem dX12_standsOn_109 : decode cX12_standsOn 109 = .ok (.irem, 1) := by decide +kernel
theorem dX12_standsOn_110 : decode cX12_standsOn 110 = .ok (.istore 4, 2) := by decide +kernel
theorem dX12_standsOn_112 : decode cX12_standsOn 112 = .ok (.iinc 6 1, 3) := by decide +kernel
theorem dX12_standsOn_115 : decode cX12_standsOn 115 = .ok (.goto (-106), 3) := by decide +kernel
theorem dX12_standsOn_118 : decode cX12_standsOn 118 = .ok (.iload 4, 2) := by decide +kernel
theorem dX12_standsOn_120 : decode cX12_standsOn 120 = .ok (.ireturn, 1) := by decide +kernel
theorem dX12_standsNow_0 : decode cX12_standsNow 0 = .ok (.aload_n 0, 1) := by decide +kernel
theorem dX12_standsNow_1 : decode cX12_standsNow 1 = .ok (.iload_n 1, 1) := by decide +kernel
theorem dX12_standsNow_2 : decode cX12_standsNow 2 = .ok (.aload_n 0, 1) := by decide +kernel
theorem dX12_standsNow_3 : decode cX12_standsNow 3 = .ok (.invokevirtual 271, 3) := by decide +kernel
theorem dX12_standsNow_6 : decode cX12_standsNow 6 = .ok (.aload_n 0, 1) := by decide +kernel
theorem dX12_standsNow_7 : decode cX12_standsNow 7 = .ok (.invokevirtual 271, 3) := by decide +kernel
theorem dX12_standsNow_10 : decode cX12_standsNow 10 = .ok (.invokevirtual 287, 3) := by decide +kernel
theorem dX12_standsNow_13 : decode cX12_standsNow 13 = .ok (.ireturn, 1) := by decide +kernel
theorem dX12_isOpen_0 : decode cX12_isOpen 0 = .ok (.aload_n 0, 1) := by decide +kernel
theorem dX12_isOpen_1 : decode cX12_isOpen 1 = .ok (.iload_n 1, 1) := by decide +kernel
theorem dX12_isOpen_2 : decode cX12_isOpen 2 = .ok (.invokevirtual 291, 3) := by decide +kernel
theorem dX12_isOpen_5 : decode cX12_isOpen 5 = .ok (.iconst 3, 1) := by decide +kernel
theorem dX12_isOpen_6 : decode cX12_isOpen 6 = .ok (.if_icmp .ge 7, 3) := by decide +kernel
theorem dX12_isOpen_9 : decode cX12_isOpen 9 = .ok (.iconst 1, 1) := by decide +kernel
theorem dX12_isOpen_10 : decode cX12_isOpen 10 = .ok (.goto 4, 3) := by decide +kernel
theorem dX12_isOpen_13 : decode cX12_isOpen 13 = .ok (.iconst 0, 1) := by decide +kernel
theorem dX12_isOpen_14 : decode cX12_isOpen 14 = .ok (.ireturn, 1) := by decide +kernel
theorem dX12_stands_0 : decode cX12_stands 0 = .ok (.aload_n 0, 1) := by decide +kernel
theorem dX12_stands_1 : decode cX12_stands 1 = .ok (.iconst 0, 1) := by decide +kernel
theorem dX12_stands_2 : decode cX12_stands 2 = .ok (.putfield 111, 3) := by decide +kernel
theorem dX12_stands_5 : decode cX12_stands 5 = .ok (.aload_n 0, 1) := by decide +kernel
theorem dX12_stands_6 : decode cX12_stands 6 = .ok (.invokevirtual 259, 3) := by decide +kernel
theorem dX12_stands_9 : decode cX12_stands 9 = .ok (.aload_n 0, 1) := by decide +kernel
theorem dX12_stands_10 : decode cX12_stands 10 = .ok (.iload_n 1, 1) := by decide +kernel
theorem dX12_stands_11 : decode cX12_stands 11 = .ok (.invokevirtual 278, 3) := by decide +kernel
theorem dX12_stands_14 : decode cX12_stands 14 = .ok (.ifCond .eq 47, 3) := by decide +kernel
theorem dX12_stands_17 : decode cX12_stands 17 = .ok (.iload_n 2, 1) := by decide +kernel
theorem dX12_stands_18 : decode cX12_stands 18 = .ok (.iconst 0, 1) := by decide +kernel
theorem dX12_stands_19 : decode cX12_stands 19 = .ok (.sipush 199, 3) := by decide +kernel
theorem dX12_stands_22 : decode cX12_stands 22 = .ok (.invokestatic 171, 3) := by decide +kernel
theorem dX12_stands_25 : decode cX12_stands 25 = .ok (.ifCond .eq 36, 3) := by decide +kernel
theorem dX12_stands_28 : decode cX12_stands 28 = .ok (.iload_n 3, 1) := by decide +kernel
theorem dX12_stands_29 : decode cX12_stands 29 = .ok (.iconst 0, 1) := by decide +kernel
theorem dX12_stands_30 : decode cX12_stands 30 = .ok (.sipush 199, 3) := by decide +kernel
theorem dX12_stands_33 : decode cX12_stands 33 = .ok (.invokestatic 171, 3) := by decide +kernel
theorem dX12_stands_36 : decode cX12_stands 36 = .ok (.ifCond .eq 25, 3) := by decide +kernel
theorem dX12_stands_39 : decode cX12_stands 39 = .ok (.aload_n 0, 1) := by decide +kernel
theorem dX12_stands_40 : decode cX12_stands 40 = .ok (.iload_n 1, 1) := by decide +kernel
theorem dX12_stands_41 : decode cX12_stands 41 = .ok (.bipush 6, 2) := by decide +kernel
theorem dX12_stands_43 : decode cX12_stands 43 = .ok (.invokevirtual 284, 3) := by decide +kernel
theorem dX12_stands_46 : decode cX12_stands 46 = .ok (.iload_n 2, 1) := by decide +kernel
theorem dX12_stands_47 : decode cX12_stands 47 = .ok (.if_icmp .gt 14, 3) := by decide +kernel
theorem dX12_stands_50 : decode cX12_stands 50 = .ok (.aload_n 0, 1) := by decide +kernel
theorem dX12_stands_51 : decode cX12_stands 51 = .ok (.iload_n 1, 1) := by decide +kernel
theorem dX12_stands_52 : decode cX12_stands 52 = .ok (.bipush 6, 2) := by decide +kernel
theorem dX12_stands_54 : decode cX12_stands 54 = .ok (.invokevirtual 284, 3) := by decide +kernel
theorem dX12_stands_57 : decode cX12_stands 57 = .ok (.iload_n 3, 1) := by decide +kernel
theorem dX12_stands_58 : decode cX12_stands 58 = .ok (.if_icmp .le 5, 3) := by decide +kernel
theorem dX12_stands_61 : decode cX12_stands 61 = .ok (.iconst (-1), 1) := by decide +kernel
theorem dX12_stands_62 : decode cX12_stands 62 = .ok (.ireturn, 1) := by decide +kernel
theorem dX12_stands_63 : decode cX12_stands 63 = .ok (.aload_n 0, 1) := by decide +kernel
theorem dX12_stands_64 : decode cX12_stands 64 = .ok (.iload_n 1, 1) := by decide +kernel
theorem dX12_stands_65 : decode cX12_stands 65 = .ok (.iload_n 2, 1) := by decide +kernel
theorem dX12_stands_66 : decode cX12_stands 66 = .ok (.iload_n 3, 1) := by decide +kernel
theorem dX12_stands_67 : decode cX12_stands 67 = .ok (.invokevirtual 287, 3) := by decide +kernel
theorem dX12_stands_70 : decode cX12_stands 70 = .ok (.ireturn, 1) := by decide +kernel
theorem dX12_open_0 : decode cX12_open 0 = .ok (.aload_n 0, 1) := by decide +kernel
theorem dX12_open_1 : decode cX12_open 1 = .ok (.iconst 0, 1) := by decide +kernel
theorem dX12_open_2 : decode cX12_open 2 = .ok (.putfield 111, 3) := by decide +kernel
theorem dX12_open_5 : decode cX12_open 5 = .ok (.aload_n 0, 1) := by decide +kernel
theorem dX12_open_6 : decode cX12_open 6 = .ok (.invokevirtual 259, 3) := by decide +kernel
theorem dX12_open_9 : decode cX12_open 9 = .ok (.iload_n 1, 1) := by decide +kernel
theorem dX12_open_10 : decode cX12_open 10 = .ok (.iconst 0, 1) := by decide +kernel
theorem dX12_open_11 : decode cX12_open 11 = .ok (.iconst 3, 1) := by decide +kernel
theorem dX12_open_12 : decode cX12_open 12 = .ok (.invokestatic 171, 3) := by decide +kernel
theorem dX12_open_15 : decode cX12_open 15 = .ok (.ifCond .ne 5, 3) := by decide +kernel
theorem dX12_open_18 : decode cX12_open 18 = .ok (.iconst (-1), 1) := by decide +kernel
theorem dX12_open_19 : decode cX12_open 19 = .ok (.ireturn, 1) := by decide +kernel
theorem dX12_open_20 : decode cX12_open 20 = .ok (.iconst 0, 1) := by decide +kernel
theorem dX12_open_21 : decode cX12_open 21 = .ok (.istore_n 2, 1) := by decide +kernel
theorem dX12_open_22 : decode cX12_open 22 = .ok (.iconst 0, 1) := by decide +kernel
theorem dX12_open_23 : decode cX12_open 23 = .ok (.istore_n 3, 1) := by decide +kernel
theorem dX12_open_24 : decode cX12_open 24 = .ok (.iload_n 3, 1) := by decide +kernel
theorem dX12_open_25 : decode cX12_open 25 = .ok (.aload_n 0, 1) := by decide +kernel
theorem dX12_open_26 : decode cX12_open 26 = .ok (.invokevirtual 268, 3) := by decide +kernel
theorem dX12_open_29 : decode cX12_open 29 = .ok (.if_icmp .ge 84, 3) := by decide +kernel
theorem dX12_open_32 : decode cX12_open 32 = .ok (.aload_n 0, 1) := by decide +kernel
theorem dX12_open_33 : decode cX12_open 33 = .ok (.iload_n 3, 1) := by decide +kernel
theorem dX12_open_34 : decode cX12_open 34 = .ok (.invokevirtual 291, 3) := by decide +kernel
theorem dX12_open_37 : decode cX12_open 37 = .ok (.istore 4, 2) := by decide +kernel
theorem dX12_open_39 : decode cX12_open 39 = .ok (.iload_n 1, 1) := by decide +kernel
theorem dX12_open_40 : decode cX12_open 40 = .ok (.ifCond .ne 9, 3) := by decide +kernel
theorem dX12_open_43 : decode cX12_open 43 = .ok (.iload 4, 2) := by decide +kernel
theorem dX12_open_45 : decode cX12_open 45 = .ok (.iconst 3, 1) := by decide +kernel
theorem dX12_open_46 : decode cX12_open 46 = .ok (.if_icmp .lt 37, 3) := by decide +kernel
theorem dX12_open_49 : decode cX12_open 49 = .ok (.iload_n 1, 1) := by decide +kernel
theorem dX12_open_50 : decode cX12_open 50 = .ok (.iconst 1, 1) := by decide +kernel
theorem dX12_open_51 : decode cX12_open 51 = .ok (.if_icmp .ne 8, 3) := by decide +kernel
theorem dX12_open_54 : decode cX12_open 54 = .ok (.iload 4, 2) := by decide +kernel
theorem dX12_open_56 : decode cX12_open 56 = .ok (.ifCond .eq 27, 3) := by decide +kernel
theorem dX12_open_59 : decode cX12_open 59 = .ok (.iload_n 1, 1) := by decide +kernel
theorem dX12_open_60 : decode cX12_open 60 = .ok (.iconst 2, 1) := by decide +kernel
theorem dX12_open_61 : decode cX12_open 61 = .ok (.if_icmp .ne 25, 3) := by decide +kernel
theorem dX12_open_64 : decode cX12_open 64 = .ok (.iload 4, 2) := by decide +kernel
theorem dX12_open_66 : decode cX12_open 66 = .ok (.ifCond .ne 20, 3) := by decide +kernel
theorem dX12_open_69 : decode cX12_open 69 = .ok (.aload_n 0, 1) := by decide +kernel
theorem dX12_open_70 : decode cX12_open 70 = .ok (.iload_n 3, 1) := by decide +kernel
theorem dX12_open_71 : decode cX12_open 71 = .ok (.bipush 7, 2) := by decide +kernel
theorem dX12_open_73 : decode cX12_open 73 = .ok (.invokevirtual 284, 3) := by decide +kernel
theorem dX12_open_76 : decode cX12_open 76 = .ok (.aload_n 0, 1) := by decide +kernel
theorem dX12_open_77 : decode cX12_open 77 = .ok (.invokevirtual 271, 3) := by decide +kernel
theorem dX12_open_80 : decode cX12_open 80 = .ok (.if_icmp .ge 6, 3) := by decide +kernel
theorem dX12_open_83 : decode cX12_open 83 = .ok (.iinc 2 1, 3) := by decide +kernel
theorem dX12_open_86 : decode cX12_open 86 = .ok (.iload_n 1, 1) := by decide +kernel
theorem dX12_open_87 : decode cX12_open 87 = .ok (.iconst 3, 1) := by decide +kernel
theorem dX12_open_88 : decode cX12_open 88 = .ok (.if_icmp .ne 19, 3) := by decide +kernel
theorem dX12_open_91 : decode cX12_open 91 = .ok (.iload 4, 2) := by decide +kernel
theorem dX12_open_93 : decode cX12_open 93 = .ok (.iconst 3, 1) := by decide +kernel
theorem dX12_open_94 : decode cX12_open 94 = .ok (.if_icmp .ne 13, 3) := by decide +kernel
theorem dX12_open_97 : decode cX12_open 97 = .ok (.iload_n 2, 1) := by decide +kernel
theorem dX12_open_98 : decode cX12_open 98 = .ok (.aload_n 0, 1) := by decide +kernel
theorem dX12_open_99 : decode cX12_open 99 = .ok (.iload_n 3, 1) := by decide +kernel
theorem dX12_open_100 : decode cX12_open 100 = .ok (.bipush 8, 2) := by decide +kernel
theorem dX12_open_102 : decode cX12_open 102 = .ok (.invokevirtual 284, 3) := by decide +kernel
theorem dX12_open_105 : decode cX12_open 105 = .ok (.iadd, 1) := by decide +kernel
theorem dX12_open_106 : decode cX12_open 106 = .ok (.istore_n 2, 1) := by decide +kernel
theorem dX12_open_107 : decode cX12_open 107 = .ok (.iinc 3 1, 3) := by decide +kernel
theorem dX12_open_110 : decode cX12_open 110 = .ok (.goto (-86), 3) := by decide +kernel
theorem dX12_open_113 : decode cX12_open 113 = .ok (.iload_n 2, 1) := by decide +kernel
theorem dX12_open_114 : decode cX12_open 114 = .ok (.ireturn, 1) := by decide +kernel
theorem dX12_drumsFor_0 : decode cX12_drumsFor 0 = .ok (.iconst 0, 1) := by decide +kernel
theorem dX12_drumsFor_1 : decode cX12_drumsFor 1 = .ok (.istore_n 3, 1) := by decide +kernel
theorem dX12_drumsFor_2 : decode cX12_drumsFor 2 = .ok (.iconst 0, 1) := by decide +kernel
theorem dX12_drumsFor_3 : decode cX12_drumsFor 3 = .ok (.istore 4, 2) := by decide +kernel
theorem dX12_drumsFor_5 : decode cX12_drumsFor 5 = .ok (.iload 4, 2) := by decide +kernel
theorem dX12_drumsFor_7 : decode cX12_drumsFor 7 = .ok (.aload_n 0, 1) := by decide +kernel
theorem dX12_drumsFor_8 : decode cX12_drumsFor 8 = .ok (.getfield 13, 3) := by decide +kernel
theorem dX12_drumsFor_11 : decode cX12_drumsFor 11 = .ok (.iconst 3, 1) := by decide +kernel
theorem dX12_drumsFor_12 : decode cX12_drumsFor 12 = .ok (.iaload, 1) := by decide +kernel
theorem dX12_drumsFor_13 : decode cX12_drumsFor 13 = .ok (.if_icmp .ge 58, 3) := by decide +kernel
theorem dX12_drumsFor_16 : decode cX12_drumsFor 16 = .ok (.aload_n 0, 1) := by decide +kernel
theorem dX12_drumsFor_17 : decode cX12_drumsFor 17 = .ok (.iload_n 1, 1) := by decide +kernel
theorem dX12_drumsFor_18 : decode cX12_drumsFor 18 = .ok (.iconst 0, 1) := by decide +kernel
theorem dX12_drumsFor_19 : decode cX12_drumsFor 19 = .ok (.invokevirtual 274, 3) := by decide +kernel
theorem dX12_drumsFor_22 : decode cX12_drumsFor 22 = .ok (.aload_n 0, 1) := by decide +kernel
theorem dX12_drumsFor_23 : decode cX12_drumsFor 23 = .ok (.getfield 13, 3) := by decide +kernel
theorem dX12_drumsFor_26 : decode cX12_drumsFor 26 = .ok (.bipush 110, 2) := by decide +kernel
theorem dX12_drumsFor_28 : decode cX12_drumsFor 28 = .ok (.iconst 2, 1) := by decide +kernel
theorem dX12_drumsFor_29 : decode cX12_drumsFor 29 = .ok (.iload 4, 2) := by decide +kernel
theorem dX12_drumsFor_31 : decode cX12_drumsFor 31 = .ok (.imul, 1) := by decide +kernel
theorem dX12_drumsFor_32 : decode cX12_drumsFor 32 = .ok (.iadd, 1) := by decide +kernel
theorem dX12_drumsFor_33 : decode cX12_drumsFor 33 = .ok (.iconst 1, 1) := by decide +kernel
theorem dX12_drumsFor_34 : decode cX12_drumsFor 34 = .ok (.iadd, 1) := by decide +kernel
theorem dX12_drumsFor_35 : decode cX12_drumsFor 35 = .ok (.iaload, 1) := by decide +kernel
theorem dX12_drumsFor_36 : decode cX12_drumsFor 36 = .ok (.if_icmp .lt 29, 3) := by decide +kernel
theorem dX12_drumsFor_39 : decode cX12_drumsFor 39 = .ok (.iload_n 2, 1) := by decide +kernel
theorem dX12_drumsFor_40 : decode cX12_drumsFor 40 = .ok (.bipush 10, 2) := by decide +kernel
theorem dX12_drumsFor_42 : decode cX12_drumsFor 42 = .ok (.aload_n 0, 1) := by decide +kernel
theorem dX12_drumsFor_43 : decode cX12_drumsFor 43 = .ok (.getfield 13, 3) := by decide +kernel
theorem dX12_drumsFor_46 : decode cX12_drumsFor 46 = .ok (.bipush 110, 2) := by decide +kernel
theorem dX12_drumsFor_48 : decode cX12_drumsFor 48 = .ok (.iconst 2, 1) := by decide +kernel
theorem dX12_drumsFor_49 : decode cX12_drumsFor 49 = .ok (.iload 4, 2) := by decide +kernel
theorem dX12_drumsFor_51 : decode cX12_drumsFor 51 = .ok (.imul, 1) := by decide +kernel
theorem dX12_drumsFor_52 : decode cX12_drumsFor 52 = .ok (.iadd, 1) := by decide +kernel
theorem dX12_drumsFor_53 : decode cX12_drumsFor 53 = .ok (.iaload, 1) := by decide +kernel
theorem dX12_drumsFor_54 : decode cX12_drumsFor 54 = .ok (.imul, 1) := by decide +kernel
theorem dX12_drumsFor_55 : decode cX12_drumsFor 55 = .ok (.if_icmp .gt 10, 3) := by decide +kernel
theorem dX12_drumsFor_58 : decode cX12_drumsFor 58 = .ok (.iload_n 3, 1) := by decide +kernel
theorem dX12_drumsFor_59 : decode cX12_drumsFor 59 = .ok (.iconst 1, 1) := by decide +kernel
theorem dX12_drumsFor_60 : decode cX12_drumsFor 60 = .ok (.iload 4, 2) := by decide +kernel
theorem dX12_drumsFor_62 : decode cX12_drumsFor 62 = .ok (.ishl, 1) := by decide +kernel
theorem dX12_drumsFor_63 : decode cX12_drumsFor 63 = .ok (.ior, 1) := by decide +kernel
theorem dX12_drumsFor_64 : decode cX12_drumsFor 64 = .ok (.istore_n 3, 1) := by decide +kernel
theorem dX12_drumsFor_65 : decode cX12_drumsFor 65 = .ok (.iinc 4 1, 3) := by decide +kernel
theorem dX12_drumsFor_68 : decode cX12_drumsFor 68 = .ok (.goto (-63), 3) := by decide +kernel
theorem dX12_drumsFor_71 : decode cX12_drumsFor 71 = .ok (.iload_n 3, 1) := by decide +kernel
theorem dX12_drumsFor_72 : decode cX12_drumsFor 72 = .ok (.ireturn, 1) := by decide +kernel
theorem dX12_bigEnough_0 : decode cX12_bigEnough 0 = .ok (.iconst 0, 1) := by decide +kernel
theorem dX12_bigEnough_1 : decode cX12_bigEnough 1 = .ok (.istore_n 3, 1) := by decide +kernel
theorem dX12_bigEnough_2 : decode cX12_bigEnough 2 = .ok (.iconst 0, 1) := by decide +kernel
theorem dX12_bigEnough_3 : decode cX12_bigEnough 3 = .ok (.istore 4, 2) := by decide +kernel
theorem dX12_bigEnough_5 : decode cX12_bigEnough 5 = .ok (.iload 4, 2) := by decide +kernel
theorem dX12_bigEnough_7 : decode cX12_bigEnough 7 = .ok (.aload_n 0, 1) := by decide +kernel
theorem dX12_bigEnough_8 : decode cX12_bigEnough 8 = .ok (.getfield 13, 3) := by decide +kernel
theorem dX12_bigEnough_11 : decode cX12_bigEnough 11 = .ok (.iconst 3, 1) := by decide +kernel
theorem dX12_bigEnough_12 : decode cX12_bigEnough 12 = .ok (.iaload, 1) := by decide +kernel
theorem dX12_bigEnough_13 : decode cX12_bigEnough 13 = .ok (.if_icmp .ge 44, 3) := by decide +kernel
theorem dX12_bigEnough_16 : decode cX12_bigEnough 16 = .ok (.iload_n 1, 1) := by decide +kernel
theorem dX12_bigEnough_17 : decode cX12_bigEnough 17 = .ok (.iload 4, 2) := by decide +kernel
theorem dX12_bigEnough_19 : decode cX12_bigEnough 19 = .ok (.invokestatic 225, 3) := by decide +kernel
theorem dX12_bigEnough_22 : decode cX12_bigEnough 22 = .ok (.ifCond .eq 29, 3) := by decide +kernel
theorem dX12_bigEnough_25 : decode cX12_bigEnough 25 = .ok (.iload_n 2, 1) := by decide +kernel
theorem dX12_bigEnough_26 : decode cX12_bigEnough 26 = .ok (.bipush 10, 2) := by decide +kernel
theorem dX12_bigEnough_28 : decode cX12_bigEnough 28 = .ok (.aload_n 0, 1) := by decide +kernel
theorem dX12_bigEnough_29 : decode cX12_bigEnough 29 = .ok (.getfield 13, 3) := by decide +kernel
theorem dX12_bigEnough_32 : decode cX12_bigEnough 32 = .ok (.bipush 110, 2) := by decide +kernel
theorem dX12_bigEnough_34 : decode cX12_bigEnough 34 = .ok (.iconst 2, 1) := by decide +kernel
theorem dX12_bigEnough_35 : decode cX12_bigEnough 35 = .ok (.iload 4, 2) := by decide +kernel
theorem dX12_bigEnough_37 : decode cX12_bigEnough 37 = .ok (.imul, 1) := by decide +kernel
theorem dX12_bigEnough_38 : decode cX12_bigEnough 38 = .ok (.iadd, 1) := by decide +kernel
theorem dX12_bigEnough_39 : decode cX12_bigEnough 39 = .ok (.iaload, 1) := by decide +kernel
theorem dX12_bigEnough_40 : decode cX12_bigEnough 40 = .ok (.imul, 1) := by decide +kernel
theorem dX12_bigEnough_41 : decode cX12_bigEnough 41 = .ok (.if_icmp .gt 10, 3) := by decide +kernel
theorem dX12_bigEnough_44 : decode cX12_bigEnough 44 = .ok (.iload_n 3, 1) := by decide +kernel
theorem dX12_bigEnough_45 : decode cX12_bigEnough 45 = .ok (.iconst 1, 1) := by decide +kernel
theorem dX12_bigEnough_46 : decode cX12_bigEnough 46 = .ok (.iload 4, 2) := by decide +kernel
theorem dX12_bigEnough_48 : decode cX12_bigEnough 48 = .ok (.ishl, 1) := by decide +kernel
theorem dX12_bigEnough_49 : decode cX12_bigEnough 49 = .ok (.ior, 1) := by decide +kernel
theorem dX12_bigEnough_50 : decode cX12_bigEnough 50 = .ok (.istore_n 3, 1) := by decide +kernel
theorem dX12_bigEnough_51 : decode cX12_bigEnough 51 = .ok (.iinc 4 1, 3) := by decide +kernel
theorem dX12_bigEnough_54 : decode cX12_bigEnough 54 = .ok (.goto (-49), 3) := by decide +kernel
theorem dX12_bigEnough_57 : decode cX12_bigEnough 57 = .ok (.iload_n 3, 1) := by decide +kernel
theorem dX12_bigEnough_58 : decode cX12_bigEnough 58 = .ok (.ireturn, 1) := by decide +kernel
theorem dX12_canBeDone_0 : decode cX12_canBeDone 0 = .ok (.iconst 0, 1) := by decide +kernel
theorem dX12_canBeDone_1 : decode cX12_canBeDone 1 = .ok (.istore_n 1, 1) := by decide +kernel
theorem dX12_canBeDone_2 : decode cX12_canBeDone 2 = .ok (.iload_n 1, 1) := by decide +kernel
theorem dX12_canBeDone_3 : decode cX12_canBeDone 3 = .ok (.aload_n 0, 1) := by decide +kernel
theorem dX12_canBeDone_4 : decode cX12_canBeDone 4 = .ok (.getfield 294, 3) := by decide +kernel
theorem dX12_canBeDone_7 : decode cX12_canBeDone 7 = .ok (.if_icmp .ge 61, 3) := by decide +kernel
theorem dX12_canBeDone_10 : decode cX12_canBeDone 10 = .ok (.aload_n 0, 1) := by decide +kernel
theorem dX12_canBeDone_11 : decode cX12_canBeDone 11 = .ok (.getfield 51, 3) := by decide +kernel
theorem dX12_canBeDone_14 : decode cX12_canBeDone 14 = .ok (.iload_n 1, 1) := by decide +kernel
theorem dX12_canBeDone_15 : decode cX12_canBeDone 15 = .ok (.iaload, 1) := by decide +kernel
theorem dX12_canBeDone_16 : decode cX12_canBeDone 16 = .ok (.istore_n 2, 1) := by decide +kernel
theorem dX12_canBeDone_17 : decode cX12_canBeDone 17 = .ok (.iload_n 1, 1) := by decide +kernel
theorem dX12_canBeDone_18 : decode cX12_canBeDone 18 = .ok (.istore_n 3, 1) := by decide +kernel
theorem dX12_canBeDone_19 : decode cX12_canBeDone 19 = .ok (.iload_n 3, 1) := by decide +kernel
theorem dX12_canBeDone_20 : decode cX12_canBeDone 20 = .ok (.ifCond .le 35, 3) := by decide +kernel
theorem dX12_canBeDone_23 : decode cX12_canBeDone 23 = .ok (.aload_n 0, 1) := by decide +kernel
theorem dX12_canBeDone_24 : decode cX12_canBeDone 24 = .ok (.getfield 57, 3) := by decide +kernel
theorem dX12_canBeDone_27 : decode cX12_canBeDone 27 = .ok (.iload_n 3, 1) := by decide +kernel
theorem dX12_canBeDone_28 : decode cX12_canBeDone 28 = .ok (.iconst 1, 1) := by decide +kernel
theorem dX12_canBeDone_29 : decode cX12_canBeDone 29 = .ok (.isub, 1) := by decide +kernel
theorem dX12_canBeDone_30 : decode cX12_canBeDone 30 = .ok (.iaload, 1) := by decide +kernel
theorem dX12_canBeDone_31 : decode cX12_canBeDone 31 = .ok (.iload_n 2, 1) := by decide +kernel
theorem dX12_canBeDone_32 : decode cX12_canBeDone 32 = .ok (.if_icmp .le 23, 3) := by decide +kernel
theorem dX12_canBeDone_35 : decode cX12_canBeDone 35 = .ok (.aload_n 0, 1) := by decide +kernel
theorem dX12_canBeDone_36 : decode cX12_canBeDone 36 = .ok (.getfield 57, 3) := by decide +kernel
theorem dX12_canBeDone_39 : decode cX12_canBeDone 39 = .ok (.iload_n 3, 1) := by decide +kernel
theorem dX12_canBeDone_40 : decode cX12_canBeDone 40 = .ok (.aload_n 0, 1) := by decide +kernel
theorem dX12_canBeDone_41 : decode cX12_canBeDone 41 = .ok (.getfield 57, 3) := by decide +kernel
theorem dX12_canBeDone_44 : decode cX12_canBeDone 44 = .ok (.iload_n 3, 1) := by decide +kernel
theorem dX12_canBeDone_45 : decode cX12_canBeDone 45 = .ok (.iconst 1, 1) := by decide +kernel
theorem dX12_canBeDone_46 : decode cX12_canBeDone 46 = .ok (.isub, 1) := by decide +kernel
theorem dX12_canBeDone_47 : decode cX12_canBeDone 47 = .ok (.iaload, 1) := by decide +kernel
theorem dX12_canBeDone_48 : decode cX12_canBeDone 48 = .ok (.iastore, 1) := by decide +kernel
theorem dX12_canBeDone_49 : decode cX12_canBeDone 49 = .ok (.iinc 3 (-1), 3) := by decide +kernel
theorem dX12_canBeDone_52 : decode cX12_canBeDone 52 = .ok (.goto (-33), 3) := by decide +kernel
theorem dX12_canBeDone_55 : decode cX12_canBeDone 55 = .ok (.aload_n 0, 1) := by decide +kernel
theorem dX12_canBeDone_56 : decode cX12_canBeDone 56 = .ok (.getfield 57, 3) := by decide +kernel
theorem dX12_canBeDone_59 : decode cX12_canBeDone 59 = .ok (.iload_n 3, 1) := by decide +kernel
theorem dX12_canBeDone_60 : decode cX12_canBeDone 60 = .ok (.iload_n 2, 1) := by decide +kernel
theorem dX12_canBeDone_61 : decode cX12_canBeDone 61 = .ok (.iastore, 1) := by decide +kernel
theorem dX12_canBeDone_62 : decode cX12_canBeDone 62 = .ok (.iinc 1 1, 3) := by decide +kernel
theorem dX12_canBeDone_65 : decode cX12_canBeDone 65 = .ok (.goto (-63), 3) := by decide +kernel
theorem dX12_canBeDone_68 : decode cX12_canBeDone 68 = .ok (.iconst 0, 1) := by decide +kernel
theorem dX12_canBeDone_69 : decode cX12_canBeDone 69 = .ok (.istore_n 1, 1) := by decide +kernel
theorem dX12_canBeDone_70 : decode cX12_canBeDone 70 = .ok (.iload_n 1, 1) := by decide +kernel
theorem dX12_canBeDone_71 : decode cX12_canBeDone 71 = .ok (.aload_n 0, 1) := by decide +kernel
theorem dX12_canBeDone_72 : decode cX12_canBeDone 72 = .ok (.getfield 294, 3) := by decide +kernel
theorem dX12_canBeDone_75 : decode cX12_canBeDone 75 = .ok (.if_icmp .ge 33, 3) := by decide +kernel
theorem dX12_canBeDone_78 : decode cX12_canBeDone 78 = .ok (.aload_n 0, 1) := by decide +kernel
theorem dX12_canBeDone_79 : decode cX12_canBeDone 79 = .ok (.getfield 297, 3) := by decide +kernel
theorem dX12_canBeDone_82 : decode cX12_canBeDone 82 = .ok (.iload_n 1, 1) := by decide +kernel
theorem dX12_canBeDone_83 : decode cX12_canBeDone 83 = .ok (.aload_n 0, 1) := by decide +kernel
theorem dX12_canBeDone_84 : decode cX12_canBeDone 84 = .ok (.getfield 13, 3) := by decide +kernel
theorem dX12_canBeDone_87 : decode cX12_canBeDone 87 = .ok (.iconst 4, 1) := by decide +kernel
theorem dX12_canBeDone_88 : decode cX12_canBeDone 88 = .ok (.iaload, 1) := by decide +kernel
theorem dX12_canBeDone_89 : decode cX12_canBeDone 89 = .ok (.idiv, 1) := by decide +kernel
theorem dX12_canBeDone_90 : decode cX12_canBeDone 90 = .ok (.iadd, 1) := by decide +kernel
theorem dX12_canBeDone_91 : decode cX12_canBeDone 91 = .ok (.aload_n 0, 1) := by decide +kernel
theorem dX12_canBeDone_92 : decode cX12_canBeDone 92 = .ok (.getfield 57, 3) := by decide +kernel
theorem dX12_canBeDone_95 : decode cX12_canBeDone 95 = .ok (.iload_n 1, 1) := by decide +kernel
theorem dX12_canBeDone_96 : decode cX12_canBeDone 96 = .ok (.iaload, 1) := by decide +kernel
theorem dX12_canBeDone_97 : decode cX12_canBeDone 97 = .ok (.if_icmp .le 5, 3) := by decide +kernel
theorem dX12_canBeDone_100 : decode cX12_canBeDone 100 = .ok (.iconst 0, 1) := by decide +kernel
theorem dX12_canBeDone_101 : decode cX12_canBeDone 101 = .ok (.ireturn, 1) := by decide +kernel
theorem dX12_canBeDone_102 : decode cX12_canBeDone 102 = .ok (.iinc 1 1, 3) := by decide +kernel
theorem dX12_canBeDone_105 : decode cX12_canBeDone 105 = .ok (.goto (-35), 3) := by decide +kernel
theorem dX12_canBeDone_108 : decode cX12_canBeDone 108 = .ok (.iconst 1, 1) := by decide +kernel
theorem dX12_canBeDone_109 : decode cX12_canBeDone 109 = .ok (.ireturn, 1) := by decide +kernel
theorem dX12_part_0 : decode cX12_part 0 = .ok (.aload_n 0, 1) := by decide +kernel
theorem dX12_part_1 : decode cX12_part 1 = .ok (.getfield 294, 3) := by decide +kernel
theorem dX12_part_4 : decode cX12_part 4 = .ok (.aload_n 0, 1) := by decide +kernel
theorem dX12_part_5 : decode cX12_part 5 = .ok (.getfield 300, 3) := by decide +kernel
theorem dX12_part_8 : decode cX12_part 8 = .ok (.if_icmp .lt 4, 3) := by decide +kernel
theorem dX12_part_11 : decode cX12_part 11 = .ok (.return_, 1) := by decide +kernel
theorem dX12_part_12 : decode cX12_part 12 = .ok (.iload_n 1, 1) := by decide +kernel
theorem dX12_part_13 : decode cX12_part 13 = .ok (.aload_n 0, 1) := by decide +kernel
theorem dX12_part_14 : decode cX12_part 14 = .ok (.getfield 303, 3) := by decide +kernel
theorem dX12_part_17 : decode cX12_part 17 = .ok (.if_icmp .ne 19, 3) := by decide +kernel
theorem dX12_part_20 : decode cX12_part 20 = .ok (.aload_n 0, 1) := by decide +kernel
theorem dX12_part_21 : decode cX12_part 21 = .ok (.invokevirtual 306, 3) := by decide +kernel
theorem dX12_part_24 : decode cX12_part 24 = .ok (.ifCond .eq 11, 3) := by decide +kernel
theorem dX12_part_27 : decode cX12_part 27 = .ok (.aload_n 0, 1) := by decide +kernel
theorem dX12_part_28 : decode cX12_part 28 = .ok (.aload_n 0, 1) := by decide +kernel
theorem dX12_part_29 : decode cX12_part 29 = .ok (.getfield 294, 3) := by decide +kernel
theorem dX12_part_32 : decode cX12_part 32 = .ok (.putfield 300, 3) := by decide +kernel
theorem dX12_part_35 : decode cX12_part 35 = .ok (.return_, 1) := by decide +kernel
theorem dX12_part_36 : decode cX12_part 36 = .ok (.aload_n 0, 1) := by decide +kernel
theorem dX12_part_37 : decode cX12_part 37 = .ok (.getfield 36, 3) := by decide +kernel
theorem dX12_part_40 : decode cX12_part 40 = .ok (.iload_n 1, 1) := by decide +kernel
theorem dX12_part_41 : decode cX12_part 41 = .ok (.iaload, 1) := by decide +kernel
theorem dX12_part_42 : decode cX12_part 42 = .ok (.istore_n 2, 1) := by decide +kernel
theorem dX12_part_43 : decode cX12_part 43 = .ok (.iconst 0, 1) := by decide +kernel
theorem dX12_part_44 : decode cX12_part 44 = .ok (.istore_n 3, 1) := by decide +kernel
theorem dX12_part_45 : decode cX12_part 45 = .ok (.iload_n 3, 1) := by decide +kernel
theorem dX12_part_46 : decode cX12_part 46 = .ok (.aload_n 0, 1) := by decide +kernel
theorem dX12_part_47 : decode cX12_part 47 = .ok (.getfield 294, 3) := by decide +kernel
theorem dX12_part_50 : decode cX12_part 50 = .ok (.if_icmp .ge 165, 3) := by decide +kernel
theorem dX12_part_53 : decode cX12_part 53 = .ok (.aload_n 0, 1) := by decide +kernel
theorem dX12_part_54 : decode cX12_part 54 = .ok (.getfield 45, 3) := by decide +kernel
theorem dX12_part_57 : decode cX12_part 57 = .ok (.iload_n 3, 1) := by decide +kernel
theorem dX12_part_58 : decode cX12_part 58 = .ok (.iaload, 1) := by decide +kernel
theorem dX12_part_59 : decode cX12_part 59 = .ok (.aload_n 0, 1) := by decide +kernel
theorem dX12_part_60 : decode cX12_part 60 = .ok (.iload_n 2, 1) := by decide +kernel
theorem dX12_part_61 : decode cX12_part 61 = .ok (.iconst 1, 1) := by decide +kernel
theorem dX12_part_62 : decode cX12_part 62 = .ok (.invokevirtual 284, 3) := by decide +kernel
theorem dX12_part_65 : decode cX12_part 65 = .ok (.if_icmp .eq 6, 3) := by decide +kernel
theorem dX12_part_68 : decode cX12_part 68 = .ok (.goto 141, 3) := by decide +kernel
theorem dX12_part_71 : decode cX12_part 71 = .ok (.aload_n 0, 1) := by decide +kernel
theorem dX12_part_72 : decode cX12_part 72 = .ok (.getfield 48, 3) := by decide +kernel
theorem dX12_part_75 : decode cX12_part 75 = .ok (.iload_n 3, 1) := by decide +kernel
theorem dX12_part_76 : decode cX12_part 76 = .ok (.iaload, 1) := by decide +kernel
theorem dX12_part_77 : decode cX12_part 77 = .ok (.istore 4, 2) := by decide +kernel
theorem dX12_part_79 : decode cX12_part 79 = .ok (.aload_n 0, 1) := by decide +kernel
theorem dX12_part_80 : decode cX12_part 80 = .ok (.getfield 51, 3) := by decide +kernel
theorem dX12_part_83 : decode cX12_part 83 = .ok (.iload_n 3, 1) := by decide +kernel
theorem dX12_part_84 : decode cX12_part 84 = .ok (.iaload, 1) := by decide +kernel
theorem dX12_part_85 : decode cX12_part 85 = .ok (.istore 5, 2) := by decide +kernel
theorem dX12_part_87 : decode cX12_part 87 = .ok (.aload_n 0, 1) := by decide +kernel
theorem dX12_part_88 : decode cX12_part 88 = .ok (.getfield 54, 3) := by decide +kernel
theorem dX12_part_91 : decode cX12_part 91 = .ok (.iload_n 3, 1) := by decide +kernel
theorem dX12_part_92 : decode cX12_part 92 = .ok (.iaload, 1) := by decide +kernel
theorem dX12_part_93 : decode cX12_part 93 = .ok (.istore 6, 2) := by decide +kernel
theorem dX12_part_95 : decode cX12_part 95 = .ok (.aload_n 0, 1) := by decide +kernel
theorem dX12_part_96 : decode cX12_part 96 = .ok (.iload 6, 2) := by decide +kernel
theorem dX12_part_98 : decode cX12_part 98 = .ok (.iload 4, 2) := by decide +kernel
theorem dX12_part_100 : decode cX12_part 100 = .ok (.aload_n 0, 1) := by decide +kernel
theorem dX12_part_101 : decode cX12_part 101 = .ok (.iload_n 2, 1) := by decide +kernel
theorem dX12_part_102 : decode cX12_part 102 = .ok (.iconst 2, 1) := by decide +kernel
theorem dX12_part_103 : decode cX12_part 103 = .ok (.invokevirtual 284, 3) := by decide +kernel
theorem dX12_part_106 : decode cX12_part 106 = .ok (.iadd, 1) := by decide +kernel
theorem dX12_part_107 : decode cX12_part 107 = .ok (.invokevirtual 309, 3) := by decide +kernel
theorem dX12_part_110 : decode cX12_part 110 = .ok (.aload_n 0, 1) := by decide +kernel
theorem dX12_part_111 : decode cX12_part 111 = .ok (.aload_n 0, 1) := by decide +kernel
theorem dX12_part_112 : decode cX12_part 112 = .ok (.iload_n 2, 1) := by decide +kernel
theorem dX12_part_113 : decode cX12_part 113 = .ok (.iconst 0, 1) := by decide +kernel
theorem dX12_part_114 : decode cX12_part 114 = .ok (.invokevirtual 284, 3) := by decide +kernel
theorem dX12_part_117 : decode cX12_part 117 = .ok (.iconst 0, 1) := by decide +kernel
theorem dX12_part_118 : decode cX12_part 118 = .ok (.invokevirtual 312, 3) := by decide +kernel
theorem dX12_part_121 : decode cX12_part 121 = .ok (.iand, 1) := by decide +kernel
theorem dX12_part_122 : decode cX12_part 122 = .ok (.istore 7, 2) := by decide +kernel
theorem dX12_part_124 : decode cX12_part 124 = .ok (.iload 7, 2) := by decide +kernel
theorem dX12_part_126 : decode cX12_part 126 = .ok (.ifCond .ne 6, 3) := by decide +kernel
theorem dX12_part_129 : decode cX12_part 129 = .ok (.goto 80, 3) := by decide +kernel
theorem dX12_part_132 : decode cX12_part 132 = .ok (.aload_n 0, 1) := by decide +kernel
theorem dX12_part_133 : decode cX12_part 133 = .ok (.getfield 48, 3) := by decide +kernel
theorem dX12_part_136 : decode cX12_part 136 = .ok (.iload_n 3, 1) := by decide +kernel
theorem dX12_part_137 : decode cX12_part 137 = .ok (.iload 4, 2) := by decide +kernel
theorem dX12_part_139 : decode cX12_part 139 = .ok (.aload_n 0, 1) := by decide +kernel
theorem dX12_part_140 : decode cX12_part 140 = .ok (.iload_n 2, 1) := by decide +kernel
theorem dX12_part_141 : decode cX12_part 141 = .ok (.iconst 2, 1) := by decide +kernel
theorem dX12_part_142 : decode cX12_part 142 = .ok (.invokevirtual 284, 3) := by decide +kernel
theorem dX12_part_145 : decode cX12_part 145 = .ok (.iadd, 1) := by decide +kernel
theorem dX12_part_146 : decode cX12_part 146 = .ok (.iastore, 1) := by decide +kernel
theorem dX12_part_147 : decode cX12_part 147 = .ok (.aload_n 0, 1) := by decide +kernel
theorem dX12_part_148 : decode cX12_part 148 = .ok (.getfield 54, 3) := by decide +kernel
theorem dX12_part_151 : decode cX12_part 151 = .ok (.iload_n 3, 1) := by decide +kernel
theorem dX12_part_152 : decode cX12_part 152 = .ok (.iload 7, 2) := by decide +kernel
theorem dX12_part_154 : decode cX12_part 154 = .ok (.iastore, 1) := by decide +kernel
theorem dX12_part_155 : decode cX12_part 155 = .ok (.aload_n 0, 1) := by decide +kernel
theorem dX12_part_156 : decode cX12_part 156 = .ok (.getfield 39, 3) := by decide +kernel
theorem dX12_part_159 : decode cX12_part 159 = .ok (.iload_n 1, 1) := by decide +kernel
theorem dX12_part_160 : decode cX12_part 160 = .ok (.iaload, 1) := by decide +kernel
theorem dX12_part_161 : decode cX12_part 161 = .ok (.iload 5, 2) := by decide +kernel
theorem dX12_part_163 : decode cX12_part 163 = .ok (.if_icmp .ge 15, 3) := by decide +kernel
theorem dX12_part_166 : decode cX12_part 166 = .ok (.aload_n 0, 1) := by decide +kernel
theorem dX12_part_167 : decode cX12_part 167 = .ok (.getfield 51, 3) := by decide +kernel
theorem dX12_part_170 : decode cX12_part 170 = .ok (.iload_n 3, 1) := by decide +kernel
theorem dX12_part_171 : decode cX12_part 171 = .ok (.aload_n 0, 1) := by decide +kernel
theorem dX12_part_172 : decode cX12_part 172 = .ok (.getfield 39, 3) := by decide +kernel
theorem dX12_part_175 : decode cX12_part 175 = .ok (.iload_n 1, 1) := by decide +kernel
theorem dX12_part_176 : decode cX12_part 176 = .ok (.iaload, 1) := by decide +kernel
theorem dX12_part_177 : decode cX12_part 177 = .ok (.iastore, 1) := by decide +kernel
theorem dX12_part_178 : decode cX12_part 178 = .ok (.aload_n 0, 1) := by decide +kernel
theorem dX12_part_179 : decode cX12_part 179 = .ok (.iload_n 1, 1) := by decide +kernel
theorem dX12_part_180 : decode cX12_part 180 = .ok (.iconst 1, 1) := by decide +kernel
theorem dX12_part_181 : decode cX12_part 181 = .ok (.iadd, 1) := by decide +kernel
theorem dX12_part_182 : decode cX12_part 182 = .ok (.invokevirtual 315, 3) := by decide +kernel
theorem dX12_part_185 : decode cX12_part 185 = .ok (.aload_n 0, 1) := by decide +kernel
theorem dX12_part_186 : decode cX12_part 186 = .ok (.getfield 48, 3) := by decide +kernel
theorem dX12_part_189 : decode cX12_part 189 = .ok (.iload_n 3, 1) := by decide +kernel
theorem dX12_part_190 : decode cX12_part 190 = .ok (.iload 4, 2) := by decide +kernel
theorem dX12_part_192 : decode cX12_part 192 = .ok (.iastore, 1) := by decide +kernel
theorem dX12_part_193 : decode cX12_part 193 = .ok (.aload_n 0, 1) := by decide +kernel
theorem dX12_part_194 : decode cX12_part 194 = .ok (.getfield 51, 3) := by decide +kernel
theorem dX12_part_197 : decode cX12_part 197 = .ok (.iload_n 3, 1) := by decide +kernel
theorem dX12_part_198 : decode cX12_part 198 = .ok (.iload 5, 2) := by decide +kernel
theorem dX12_part_200 : decode cX12_part 200 = .ok (.iastore, 1) := by decide +kernel
theorem dX12_part_201 : decode cX12_part 201 = .ok (.aload_n 0, 1) := by decide +kernel
theorem dX12_part_202 : decode cX12_part 202 = .ok (.getfield 54, 3) := by decide +kernel
theorem dX12_part_205 : decode cX12_part 205 = .ok (.iload_n 3, 1) := by decide +kernel
theorem dX12_part_206 : decode cX12_part 206 = .ok (.iload 6, 2) := by decide +kernel
theorem dX12_part_208 : decode cX12_part 208 = .ok (.iastore, 1) := by decide +kernel
theorem dX12_part_209 : decode cX12_part 209 = .ok (.iinc 3 1, 3) := by decide +kernel
theorem dX12_part_212 : decode cX12_part 212 = .ok (.goto (-167), 3) := by decide +kernel
theorem dX12_part_215 : decode cX12_part 215 = .ok (.aload_n 0, 1) := by decide +kernel
theorem dX12_part_216 : decode cX12_part 216 = .ok (.aload_n 0, 1) := by decide +kernel
theorem dX12_part_217 : decode cX12_part 217 = .ok (.iload_n 2, 1) := by decide +kernel
theorem dX12_part_218 : decode cX12_part 218 = .ok (.iconst 0, 1) := by decide +kernel
theorem dX12_part_219 : decode cX12_part 219 = .ok (.invokevirtual 284, 3) := by decide +kernel
theorem dX12_part_222 : decode cX12_part 222 = .ok (.aload_n 0, 1) := by decide +kernel
theorem dX12_part_223 : decode cX12_part 223 = .ok (.iload_n 2, 1) := by decide +kernel
theorem dX12_part_224 : decode cX12_part 224 = .ok (.iconst 2, 1) := by decide +kernel
theorem dX12_part_225 : decode cX12_part 225 = .ok (.invokevirtual 284, 3) := by decide +kernel
theorem dX12_part_228 : decode cX12_part 228 = .ok (.invokevirtual 312, 3) := by decide +kernel
theorem dX12_part_231 : decode cX12_part 231 = .ok (.istore_n 3, 1) := by decide +kernel
theorem dX12_part_232 : decode cX12_part 232 = .ok (.iload_n 3, 1) := by decide +kernel
theorem dX12_part_233 : decode cX12_part 233 = .ok (.ifCond .ne 4, 3) := by decide +kernel
theorem dX12_part_236 : decode cX12_part 236 = .ok (.return_, 1) := by decide +kernel
theorem dX12_part_237 : decode cX12_part 237 = .ok (.aload_n 0, 1) := by decide +kernel
theorem dX12_part_238 : decode cX12_part 238 = .ok (.getfield 45, 3) := by decide +kernel
theorem dX12_part_241 : decode cX12_part 241 = .ok (.aload_n 0, 1) := by decide +kernel
theorem dX12_part_242 : decode cX12_part 242 = .ok (.getfield 294, 3) := by decide +kernel
theorem dX12_part_245 : decode cX12_part 245 = .ok (.aload_n 0, 1) := by decide +kernel
theorem dX12_part_246 : decode cX12_part 246 = .ok (.iload_n 2, 1) := by decide +kernel
theorem dX12_part_247 : decode cX12_part 247 = .ok (.iconst 1, 1) := by decide +kernel
theorem dX12_part_248 : decode cX12_part 248 = .ok (.invokevirtual 284, 3) := by decide +kernel
theorem dX12_part_251 : decode cX12_part 251 = .ok (.iastore, 1) := by decide +kernel
theorem dX12_part_252 : decode cX12_part 252 = .ok (.aload_n 0, 1) := by decide +kernel
theorem dX12_part_253 : decode cX12_part 253 = .ok (.getfield 48, 3) := by decide +kernel
theorem dX12_part_256 : decode cX12_part 256 = .ok (.aload_n 0, 1) := by decide +kernel
theorem dX12_part_257 : decode cX12_part 257 = .ok (.getfield 294, 3) := by decide +kernel
theorem dX12_part_260 : decode cX12_part 260 = .ok (.aload_n 0, 1) := by decide +kernel
theorem dX12_part_261 : decode cX12_part 261 = .ok (.iload_n 2, 1) := by decide +kernel
theorem dX12_part_262 : decode cX12_part 262 = .ok (.iconst 2, 1) := by decide +kernel
theorem dX12_part_263 : decode cX12_part 263 = .ok (.invokevirtual 284, 3) := by decide +kernel
theorem dX12_part_266 : decode cX12_part 266 = .ok (.iastore, 1) := by decide +kernel
theorem dX12_part_267 : decode cX12_part 267 = .ok (.aload_n 0, 1) := by decide +kernel
theorem dX12_part_268 : decode cX12_part 268 = .ok (.getfield 51, 3) := by decide +kernel
theorem dX12_part_271 : decode cX12_part 271 = .ok (.aload_n 0, 1) := by decide +kernel
theorem dX12_part_272 : decode cX12_part 272 = .ok (.getfield 294, 3) := by decide +kernel
theorem dX12_part_275 : decode cX12_part 275 = .ok (.aload_n 0, 1) := by decide +kernel
theorem dX12_part_276 : decode cX12_part 276 = .ok (.getfield 39, 3) := by decide +kernel
theorem dX12_part_279 : decode cX12_part 279 = .ok (.iload_n 1, 1) := by decide +kernel
theorem dX12_part_280 : decode cX12_part 280 = .ok (.iaload, 1) := by decide +kernel
theorem dX12_part_281 : decode cX12_part 281 = .ok (.iastore, 1) := by decide +kernel
theorem dX12_part_282 : decode cX12_part 282 = .ok (.aload_n 0, 1) := by decide +kernel
theorem dX12_part_283 : decode cX12_part 283 = .ok (.getfield 54, 3) := by decide +kernel
theorem dX12_part_286 : decode cX12_part 286 = .ok (.aload_n 0, 1) := by decide +kernel
theorem dX12_part_287 : decode cX12_part 287 = .ok (.getfield 294, 3) := by decide +kernel
theorem dX12_part_290 : decode cX12_part 290 = .ok (.iload_n 3, 1) := by decide +kernel
theorem dX12_part_291 : decode cX12_part 291 = .ok (.iastore, 1) := by decide +kernel
theorem dX12_part_292 : decode cX12_part 292 = .ok (.aload_n 0, 1) := by decide +kernel
theorem dX12_part_293 : decode cX12_part 293 = .ok (.dup, 1) := by decide +kernel
theorem dX12_part_294 : decode cX12_part 294 = .ok (.getfield 294, 3) := by decide +kernel
theorem dX12_part_297 : decode cX12_part 297 = .ok (.iconst 1, 1) := by decide +kernel
theorem dX12_part_298 : decode cX12_part 298 = .ok (.iadd, 1) := by decide +kernel
theorem dX12_part_299 : decode cX12_part 299 = .ok (.putfield 294, 3) := by decide +kernel
theorem dX12_part_302 : decode cX12_part 302 = .ok (.aload_n 0, 1) := by decide +kernel
theorem dX12_part_303 : decode cX12_part 303 = .ok (.iload_n 1, 1) := by decide +kernel
theorem dX12_part_304 : decode cX12_part 304 = .ok (.iconst 1, 1) := by decide +kernel
theorem dX12_part_305 : decode cX12_part 305 = .ok (.iadd, 1) := by decide +kernel
theorem dX12_part_306 : decode cX12_part 306 = .ok (.invokevirtual 315, 3) := by decide +kernel
theorem dX12_part_309 : decode cX12_part 309 = .ok (.aload_n 0, 1) := by decide +kernel
theorem dX12_part_310 : decode cX12_part 310 = .ok (.dup, 1) := by decide +kernel
theorem dX12_part_311 : decode cX12_part 311 = .ok (.getfield 294, 3) := by decide +kernel
theorem dX12_part_314 : decode cX12_part 314 = .ok (.iconst 1, 1) := by decide +kernel
theorem dX12_part_315 : decode cX12_part 315 = .ok (.isub, 1) := by decide +kernel
theorem dX12_part_316 : decode cX12_part 316 = .ok (.putfield 294, 3) := by decide +kernel
theorem dX12_part_319 : decode cX12_part 319 = .ok (.return_, 1) := by decide +kernel
theorem dX12_fewestFrom_0 : decode cX12_fewestFrom 0 = .ok (.aload_n 0, 1) := by decide +kernel
theorem dX12_fewestFrom_1 : decode cX12_fewestFrom 1 = .ok (.iload_n 1, 1) := by decide +kernel
theorem dX12_fewestFrom_2 : decode cX12_fewestFrom 2 = .ok (.putfield 297, 3) := by decide +kernel
theorem dX12_fewestFrom_5 : decode cX12_fewestFrom 5 = .ok (.aload_n 0, 1) := by decide +kernel
theorem dX12_fewestFrom_6 : decode cX12_fewestFrom 6 = .ok (.iconst 0, 1) := by decide +kernel
theorem dX12_fewestFrom_7 : decode cX12_fewestFrom 7 = .ok (.putfield 294, 3) := by decide +kernel
theorem dX12_fewestFrom_10 : decode cX12_fewestFrom 10 = .ok (.aload_n 0, 1) := by decide +kernel
theorem dX12_fewestFrom_11 : decode cX12_fewestFrom 11 = .ok (.aload_n 0, 1) := by decide +kernel
theorem dX12_fewestFrom_12 : decode cX12_fewestFrom 12 = .ok (.getfield 303, 3) := by decide +kernel
theorem dX12_fewestFrom_15 : decode cX12_fewestFrom 15 = .ok (.iconst 1, 1) := by decide +kernel
theorem dX12_fewestFrom_16 : decode cX12_fewestFrom 16 = .ok (.iadd, 1) := by decide +kernel
theorem dX12_fewestFrom_17 : decode cX12_fewestFrom 17 = .ok (.putfield 300, 3) := by decide +kernel
theorem dX12_fewestFrom_20 : decode cX12_fewestFrom 20 = .ok (.aload_n 0, 1) := by decide +kernel
theorem dX12_fewestFrom_21 : decode cX12_fewestFrom 21 = .ok (.iconst 0, 1) := by decide +kernel
theorem dX12_fewestFrom_22 : decode cX12_fewestFrom 22 = .ok (.invokevirtual 315, 3) := by decide +kernel
theorem dX12_fewestFrom_25 : decode cX12_fewestFrom 25 = .ok (.aload_n 0, 1) := by decide +kernel
theorem dX12_fewestFrom_26 : decode cX12_fewestFrom 26 = .ok (.getfield 300, 3) := by decide +kernel
theorem dX12_fewestFrom_29 : decode cX12_fewestFrom 29 = .ok (.aload_n 0, 1) := by decide +kernel
theorem dX12_fewestFrom_30 : decode cX12_fewestFrom 30 = .ok (.getfield 303, 3) := by decide +kernel
theorem dX12_fewestFrom_33 : decode cX12_fewestFrom 33 = .ok (.if_icmp .le 7, 3) := by decide +kernel
theorem dX12_fewestFrom_36 : decode cX12_fewestFrom 36 = .ok (.iconst (-1), 1) := by decide +kernel
theorem dX12_fewestFrom_37 : decode cX12_fewestFrom 37 = .ok (.goto 7, 3) := by decide +kernel
theorem dX12_fewestFrom_40 : decode cX12_fewestFrom 40 = .ok (.aload_n 0, 1) := by decide +kernel
theorem dX12_fewestFrom_41 : decode cX12_fewestFrom 41 = .ok (.getfield 300, 3) := by decide +kernel
theorem dX12_fewestFrom_44 : decode cX12_fewestFrom 44 = .ok (.ireturn, 1) := by decide +kernel
theorem dX12_takesTickets_0 : decode cX12_takesTickets 0 = .ok (.aload_n 0, 1) := by decide +kernel
theorem dX12_takesTickets_1 : decode cX12_takesTickets 1 = .ok (.invokevirtual 259, 3) := by decide +kernel
theorem dX12_takesTickets_4 : decode cX12_takesTickets 4 = .ok (.aload_n 0, 1) := by decide +kernel
theorem dX12_takesTickets_5 : decode cX12_takesTickets 5 = .ok (.aload_n 0, 1) := by decide +kernel
theorem dX12_takesTickets_6 : decode cX12_takesTickets 6 = .ok (.invokevirtual 184, 3) := by decide +kernel
theorem dX12_takesTickets_9 : decode cX12_takesTickets 9 = .ok (.putfield 303, 3) := by decide +kernel
theorem dX12_takesTickets_12 : decode cX12_takesTickets 12 = .ok (.aload_n 0, 1) := by decide +kernel
theorem dX12_takesTickets_13 : decode cX12_takesTickets 13 = .ok (.getfield 303, 3) := by decide +kernel
theorem dX12_takesTickets_16 : decode cX12_takesTickets 16 = .ok (.iconst 1, 1) := by decide +kernel
theorem dX12_takesTickets_17 : decode cX12_takesTickets 17 = .ok (.bipush 10, 2) := by decide +kernel
theorem dX12_takesTickets_19 : decode cX12_takesTickets 19 = .ok (.invokestatic 171, 3) := by decide +kernel
theorem dX12_takesTickets_22 : decode cX12_takesTickets 22 = .ok (.ifCond .ne 5, 3) := by decide +kernel
theorem dX12_takesTickets_25 : decode cX12_takesTickets 25 = .ok (.iconst 0, 1) := by decide +kernel
theorem dX12_takesTickets_26 : decode cX12_takesTickets 26 = .ok (.ireturn, 1) := by decide +kernel
theorem dX12_takesTickets_27 : decode cX12_takesTickets 27 = .ok (.lconst 0, 1) := by decide +kernel
theorem dX12_takesTickets_28 : decode cX12_takesTickets 28 = .ok (.lstore_n 1, 1) := by decide +kernel
theorem dX12_takesTickets_29 : decode cX12_takesTickets 29 = .ok (.iconst 0, 1) := by decide +kernel
theorem dX12_takesTickets_30 : decode cX12_takesTickets 30 = .ok (.istore_n 3, 1) := by decide +kernel
theorem dX12_takesTickets_31 : decode cX12_takesTickets 31 = .ok (.iload_n 3, 1) := by decide +kernel
theorem dX12_takesTickets_32 : decode cX12_takesTickets 32 = .ok (.aload_n 0, 1) := by decide +kernel
theorem dX12_takesTickets_33 : decode cX12_takesTickets 33 = .ok (.getfield 303, 3) := by decide +kernel
theorem dX12_takesTickets_36 : decode cX12_takesTickets 36 = .ok (.if_icmp .ge 77, 3) := by decide +kernel
theorem dX12_takesTickets_39 : decode cX12_takesTickets 39 = .ok (.aload_n 0, 1) := by decide +kernel
theorem dX12_takesTickets_40 : decode cX12_takesTickets 40 = .ok (.getfield 7, 3) := by decide +kernel
theorem dX12_takesTickets_43 : decode cX12_takesTickets 43 = .ok (.iload_n 3, 1) := by decide +kernel
theorem dX12_takesTickets_44 : decode cX12_takesTickets 44 = .ok (.iaload, 1) := by decide +kernel
theorem dX12_takesTickets_45 : decode cX12_takesTickets 45 = .ok (.istore 4, 2) := by decide +kernel
theorem dX12_takesTickets_47 : decode cX12_takesTickets 47 = .ok (.aload_n 0, 1) := by decide +kernel
theorem dX12_takesTickets_48 : decode cX12_takesTickets 48 = .ok (.iload 4, 2) := by decide +kernel
theorem dX12_takesTickets_50 : decode cX12_takesTickets 50 = .ok (.invokevirtual 278, 3) := by decide +kernel
theorem dX12_takesTickets_53 : decode cX12_takesTickets 53 = .ok (.ifCond .eq 23, 3) := by decide +kernel
theorem dX12_takesTickets_56 : decode cX12_takesTickets 56 = .ok (.lload_n 1, 1) := by decide +kernel
theorem dX12_takesTickets_57 : decode cX12_takesTickets 57 = .ok (.iload 4, 2) := by decide +kernel
theorem dX12_takesTickets_59 : decode cX12_takesTickets 59 = .ok (.lshr, 1) := by decide +kernel
theorem dX12_takesTickets_60 : decode cX12_takesTickets 60 = .ok (.lconst 1, 1) := by decide +kernel
theorem dX12_takesTickets_61 : decode cX12_takesTickets 61 = .ok (.land, 1) := by decide +kernel
theorem dX12_takesTickets_62 : decode cX12_takesTickets 62 = .ok (.lconst 1, 1) := by decide +kernel
theorem dX12_takesTickets_63 : decode cX12_takesTickets 63 = .ok (.lcmp, 1) := by decide +kernel
theorem dX12_takesTickets_64 : decode cX12_takesTickets 64 = .ok (.ifCond .eq 12, 3) := by decide +kernel
theorem dX12_takesTickets_67 : decode cX12_takesTickets 67 = .ok (.aload_n 0, 1) := by decide +kernel
theorem dX12_takesTickets_68 : decode cX12_takesTickets 68 = .ok (.iload 4, 2) := by decide +kernel
theorem dX12_takesTickets_70 : decode cX12_takesTickets 70 = .ok (.invokevirtual 291, 3) := by decide +kernel
theorem dX12_takesTickets_73 : decode cX12_takesTickets 73 = .ok (.ifCond .eq 5, 3) := by decide +kernel
theorem dX12_takesTickets_76 : decode cX12_takesTickets 76 = .ok (.iconst 0, 1) := by decide +kernel
theorem dX12_takesTickets_77 : decode cX12_takesTickets 77 = .ok (.ireturn, 1) := by decide +kernel
theorem dX12_takesTickets_78 : decode cX12_takesTickets 78 = .ok (.lload_n 1, 1) := by decide +kernel
theorem dX12_takesTickets_79 : decode cX12_takesTickets 79 = .ok (.lconst 1, 1) := by decide +kernel
theorem dX12_takesTickets_80 : decode cX12_takesTickets 80 = .ok (.iload 4, 2) := by decide +kernel
theorem dX12_takesTickets_82 : decode cX12_takesTickets 82 = .ok (.lshl, 1) := by decide +kernel
theorem dX12_takesTickets_83 : decode cX12_takesTickets 83 = .ok (.lor, 1) := by decide +kernel
theorem dX12_takesTickets_84 : decode cX12_takesTickets 84 = .ok (.lstore_n 1, 1) := by decide +kernel
theorem dX12_takesTickets_85 : decode cX12_takesTickets 85 = .ok (.aload_n 0, 1) := by decide +kernel
theorem dX12_takesTickets_86 : decode cX12_takesTickets 86 = .ok (.getfield 36, 3) := by decide +kernel
theorem dX12_takesTickets_89 : decode cX12_takesTickets 89 = .ok (.iload_n 3, 1) := by decide +kernel
theorem dX12_takesTickets_90 : decode cX12_takesTickets 90 = .ok (.iload 4, 2) := by decide +kernel
theorem dX12_takesTickets_92 : decode cX12_takesTickets 92 = .ok (.iastore, 1) := by decide +kernel
theorem dX12_takesTickets_93 : decode cX12_takesTickets 93 = .ok (.aload_n 0, 1) := by decide +kernel
theorem dX12_takesTickets_94 : decode cX12_takesTickets 94 = .ok (.getfield 39, 3) := by decide +kernel
theorem dX12_takesTickets_97 : decode cX12_takesTickets 97 = .ok (.iload_n 3, 1) := by decide +kernel
theorem dX12_takesTickets_98 : decode cX12_takesTickets 98 = .ok (.aload_n 0, 1) := by decide +kernel
theorem dX12_takesTickets_99 : decode cX12_takesTickets 99 = .ok (.iload 4, 2) := by decide +kernel
theorem dX12_takesTickets_101 : decode cX12_takesTickets 101 = .ok (.bipush 7, 2) := by decide +kernel
theorem dX12_takesTickets_103 : decode cX12_takesTickets 103 = .ok (.invokevirtual 284, 3) := by decide +kernel
theorem dX12_takesTickets_106 : decode cX12_takesTickets 106 = .ok (.iastore, 1) := by decide +kernel
theorem dX12_takesTickets_107 : decode cX12_takesTickets 107 = .ok (.iinc 3 1, 3) := by decide +kernel
theorem dX12_takesTickets_110 : decode cX12_takesTickets 110 = .ok (.goto (-79), 3) := by decide +kernel
theorem dX12_takesTickets_113 : decode cX12_takesTickets 113 = .ok (.iconst 1, 1) := by decide +kernel
theorem dX12_takesTickets_114 : decode cX12_takesTickets 114 = .ok (.ireturn, 1) := by decide +kernel
theorem dX12_loads_0 : decode cX12_loads 0 = .ok (.aload_n 0, 1) := by decide +kernel
theorem dX12_loads_1 : decode cX12_loads 1 = .ok (.iconst 0, 1) := by decide +kernel
theorem dX12_loads_2 : decode cX12_loads 2 = .ok (.putfield 111, 3) := by decide +kernel
theorem dX12_loads_5 : decode cX12_loads 5 = .ok (.aload_n 0, 1) := by decide +kernel
theorem dX12_loads_6 : decode cX12_loads 6 = .ok (.invokevirtual 318, 3) := by decide +kernel
theorem dX12_loads_9 : decode cX12_loads 9 = .ok (.ifCond .eq 14, 3) := by decide +kernel
theorem dX12_loads_12 : decode cX12_loads 12 = .ok (.aload_n 0, 1) := by decide +kernel
theorem dX12_loads_13 : decode cX12_loads 13 = .ok (.aload_n 0, 1) := by decide +kernel
theorem dX12_loads_14 : decode cX12_loads 14 = .ok (.invokevirtual 271, 3) := by decide +kernel
theorem dX12_loads_17 : decode cX12_loads 17 = .ok (.invokevirtual 321, 3) := by decide +kernel
theorem dX12_loads_20 : decode cX12_loads 20 = .ok (.goto 5, 3) := by decide +kernel
theorem dX12_loads_23 : decode cX12_loads 23 = .ok (.bipush (-2), 2) := by decide +kernel
theorem dX12_loads_25 : decode cX12_loads 25 = .ok (.ireturn, 1) := by decide +kernel
theorem dX12_hurry_0 : decode cX12_hurry 0 = .ok (.aload_n 0, 1) := by decide +kernel
theorem dX12_hurry_1 : decode cX12_hurry 1 = .ok (.iconst 0, 1) := by decide +kernel
theorem dX12_hurry_2 : decode cX12_hurry 2 = .ok (.putfield 111, 3) := by decide +kernel
theorem dX12_hurry_5 : decode cX12_hurry 5 = .ok (.aload_n 0, 1) := by decide +kernel
theorem dX12_hurry_6 : decode cX12_hurry 6 = .ok (.invokevirtual 318, 3) := by decide +kernel
theorem dX12_hurry_9 : decode cX12_hurry 9 = .ok (.ifCond .ne 6, 3) := by decide +kernel
theorem dX12_hurry_12 : decode cX12_hurry 12 = .ok (.bipush (-2), 2) := by decide +kernel
theorem dX12_hurry_14 : decode cX12_hurry 14 = .ok (.ireturn, 1) := by decide +kernel
theorem dX12_hurry_15 : decode cX12_hurry 15 = .ok (.aload_n 0, 1) := by decide +kernel
theorem dX12_hurry_16 : decode cX12_hurry 16 = .ok (.getfield 39, 3) := by decide +kernel
theorem dX12_hurry_19 : decode cX12_hurry 19 = .ok (.iconst 0, 1) := by decide +kernel
theorem dX12_hurry_20 : decode cX12_hurry 20 = .ok (.aload_n 0, 1) := by decide +kernel
theorem dX12_hurry_21 : decode cX12_hurry 21 = .ok (.invokevirtual 271, 3) := by decide +kernel
theorem dX12_hurry_24 : decode cX12_hurry 24 = .ok (.iastore, 1) := by decide +kernel
theorem dX12_hurry_25 : decode cX12_hurry 25 = .ok (.aload_n 0, 1) := by decide +kernel
theorem dX12_hurry_26 : decode cX12_hurry 26 = .ok (.aload_n 0, 1) := by decide +kernel
theorem dX12_hurry_27 : decode cX12_hurry 27 = .ok (.invokevirtual 271, 3) := by decide +kernel
theorem dX12_hurry_30 : decode cX12_hurry 30 = .ok (.invokevirtual 321, 3) := by decide +kernel
theorem dX12_hurry_33 : decode cX12_hurry 33 = .ok (.ireturn, 1) := by decide +kernel
theorem dX12_patience_0 : decode cX12_patience 0 = .ok (.aload_n 0, 1) := by decide +kernel
theorem dX12_patience_1 : decode cX12_patience 1 = .ok (.iconst 0, 1) := by decide +kernel
theorem dX12_patience_2 : decode cX12_patience 2 = .ok (.putfield 111, 3) := by decide +kernel
theorem dX12_patience_5 : decode cX12_patience 5 = .ok (.aload_n 0, 1) := by decide +kernel
theorem dX12_patience_6 : decode cX12_patience 6 = .ok (.invokevirtual 318, 3) := by decide +kernel
theorem dX12_patience_9 : decode cX12_patience 9 = .ok (.ifCond .ne 6, 3) := by decide +kernel
theorem dX12_patience_12 : decode cX12_patience 12 = .ok (.bipush (-2), 2) := by decide +kernel
theorem dX12_patience_14 : decode cX12_patience 14 = .ok (.ireturn, 1) := by decide +kernel
theorem dX12_patience_15 : decode cX12_patience 15 = .ok (.sipush 199, 3) := by decide +kernel
theorem dX12_patience_18 : decode cX12_patience 18 = .ok (.istore_n 1, 1) := by decide +kernel
theorem dX12_patience_19 : decode cX12_patience 19 = .ok (.iload_n 1, 1) := by decide +kernel
theorem dX12_patience_20 : decode cX12_patience 20 = .ok (.aload_n 0, 1) := by decide +kernel
theorem dX12_patience_21 : decode cX12_patience 21 = .ok (.invokevirtual 271, 3) := by decide +kernel
theorem dX12_patience_24 : decode cX12_patience 24 = .ok (.if_icmp .lt 54, 3) := by decide +kernel
theorem dX12_patience_27 : decode cX12_patience 27 = .ok (.iconst 0, 1) := by decide +kernel
theorem dX12_patience_28 : decode cX12_patience 28 = .ok (.istore_n 2, 1) := by decide +kernel
theorem dX12_patience_29 : decode cX12_patience 29 = .ok (.iconst 0, 1) := by decide +kernel
theorem dX12_patience_30 : decode cX12_patience 30 = .ok (.istore_n 3, 1) := by decide +kernel
theorem dX12_patience_31 : decode cX12_patience 31 = .ok (.iload_n 3, 1) := by decide +kernel
theorem dX12_patience_32 : decode cX12_patience 32 = .ok (.aload_n 0, 1) := by decide +kernel
theorem dX12_patience_33 : decode cX12_patience 33 = .ok (.getfield 303, 3) := by decide +kernel
theorem dX12_patience_36 : decode cX12_patience 36 = .ok (.if_icmp .ge 21, 3) := by decide +kernel
theorem dX12_patience_39 : decode cX12_patience 39 = .ok (.aload_n 0, 1) := by decide +kernel
theorem dX12_patience_40 : decode cX12_patience 40 = .ok (.getfield 39, 3) := by decide +kernel
theorem dX12_patience_43 : decode cX12_patience 43 = .ok (.iload_n 3, 1) := by decide +kernel
theorem dX12_patience_44 : decode cX12_patience 44 = .ok (.iaload, 1) := by decide +kernel
theorem dX12_patience_45 : decode cX12_patience 45 = .ok (.iload_n 1, 1) := by decide +kernel
theorem dX12_patience_46 : decode cX12_patience 46 = .ok (.if_icmp .ge 5, 3) := by decide +kernel
theorem dX12_patience_49 : decode cX12_patience 49 = .ok (.iconst 1, 1) := by decide +kernel
theorem dX12_patience_50 : decode cX12_patience 50 = .ok (.istore_n 2, 1) := by decide +kernel
theorem dX12_patience_51 : decode cX12_patience 51 = .ok (.iinc 3 1, 3) := by decide +kernel
theorem dX12_patience_54 : decode cX12_patience 54 = .ok (.goto (-23), 3) := by decide +kernel
theorem dX12_patience_57 : decode cX12_patience 57 = .ok (.iload_n 2, 1) := by decide +kernel
theorem dX12_patience_58 : decode cX12_patience 58 = .ok (.ifCond .ne 14, 3) := by decide +kernel
theorem dX12_patience_61 : decode cX12_patience 61 = .ok (.aload_n 0, 1) := by decide +kernel
theorem dX12_patience_62 : decode cX12_patience 62 = .ok (.iload_n 1, 1) := by decide +kernel
theorem dX12_patience_63 : decode cX12_patience 63 = .ok (.invokevirtual 321, 3) := by decide +kernel
theorem dX12_patience_66 : decode cX12_patience 66 = .ok (.iconst (-1), 1) := by decide +kernel
theorem dX12_patience_67 : decode cX12_patience 67 = .ok (.if_icmp .eq 5, 3) := by decide +kernel
theorem dX12_patience_70 : decode cX12_patience 70 = .ok (.iload_n 1, 1) := by decide +kernel
theorem dX12_patience_71 : decode cX12_patience 71 = .ok (.ireturn, 1) := by decide +kernel
theorem dX12_patience_72 : decode cX12_patience 72 = .ok (.iinc 1 (-1), 3) := by decide +kernel
theorem dX12_patience_75 : decode cX12_patience 75 = .ok (.goto (-56), 3) := by decide +kernel
theorem dX12_patience_78 : decode cX12_patience 78 = .ok (.iconst (-1), 1) := by decide +kernel
theorem dX12_patience_79 : decode cX12_patience 79 = .ok (.ireturn, 1) := by decide +kernel
theorem dX12_isFitting_0 : decode cX12_isFitting 0 = .ok (.bipush 6, 2) := by decide +kernel
theorem dX12_isFitting_2 : decode cX12_isFitting 2 = .ok (.iload_n 1, 1) := by decide +kernel
theorem dX12_isFitting_3 : decode cX12_isFitting 3 = .ok (.imul, 1) := by decide +kernel
theorem dX12_isFitting_4 : decode cX12_isFitting 4 = .ok (.istore_n 3, 1) := by decide +kernel
theorem dX12_isFitting_5 : decode cX12_isFitting 5 = .ok (.aload_n 0, 1) := by decide +kernel
theorem dX12_isFitting_6 : decode cX12_isFitting 6 = .ok (.iload_n 2, 1) := by decide +kernel
theorem dX12_isFitting_7 : decode cX12_isFitting 7 = .ok (.invokevirtual 324, 3) := by decide +kernel
theorem dX12_isFitting_10 : decode cX12_isFitting 10 = .ok (.ifCond .eq 72, 3) := by decide +kernel
theorem dX12_isFitting_13 : decode cX12_isFitting 13 = .ok (.aload_n 0, 1) := by decide +kernel
theorem dX12_isFitting_14 : decode cX12_isFitting 14 = .ok (.iload_n 2, 1) := by decide +kernel
theorem dX12_isFitting_15 : decode cX12_isFitting 15 = .ok (.iconst 0, 1) := by decide +kernel
theorem dX12_isFitting_16 : decode cX12_isFitting 16 = .ok (.invokevirtual 284, 3) := by decide +kernel
theorem dX12_isFitting_19 : decode cX12_isFitting 19 = .ok (.aload_n 0, 1) := by decide +kernel
theorem dX12_isFitting_20 : decode cX12_isFitting 20 = .ok (.getfield 7, 3) := by decide +kernel
theorem dX12_isFitting_23 : decode cX12_isFitting 23 = .ok (.iload_n 3, 1) := by decide +kernel
theorem dX12_isFitting_24 : decode cX12_isFitting 24 = .ok (.iaload, 1) := by decide +kernel
theorem dX12_isFitting_25 : decode cX12_isFitting 25 = .ok (.if_icmp .ne 57, 3) := by decide +kernel
theorem dX12_isFitting_28 : decode cX12_isFitting 28 = .ok (.aload_n 0, 1) := by decide +kernel
theorem dX12_isFitting_29 : decode cX12_isFitting 29 = .ok (.iload_n 2, 1) := by decide +kernel
theorem dX12_isFitting_30 : decode cX12_isFitting 30 = .ok (.iconst 1, 1) := by decide +kernel
theorem dX12_isFitting_31 : decode cX12_isFitting 31 = .ok (.invokevirtual 284, 3) := by decide +kernel
theorem dX12_isFitting_34 : decode cX12_isFitting 34 = .ok (.aload_n 0, 1) := by decide +kernel
theorem dX12_isFitting_35 : decode cX12_isFitting 35 = .ok (.getfield 7, 3) := by decide +kernel
theorem dX12_isFitting_38 : decode cX12_isFitting 38 = .ok (.iload_n 3, 1) := by decide +kernel
theorem dX12_isFitting_39 : decode cX12_isFitting 39 = .ok (.iconst 1, 1) := by decide +kernel
theorem dX12_isFitting_40 : decode cX12_isFitting 40 = .ok (.iadd, 1) := by decide +kernel
theorem dX12_isFitting_41 : decode cX12_isFitting 41 = .ok (.iaload, 1) := by decide +kernel
theorem dX12_isFitting_42 : decode cX12_isFitting 42 = .ok (.if_icmp .ne 40, 3) := by decide +kernel
theorem dX12_isFitting_45 : decode cX12_isFitting 45 = .ok (.aload_n 0, 1) := by decide +kernel
theorem dX12_isFitting_46 : decode cX12_isFitting 46 = .ok (.iload_n 2, 1) := by decide +kernel
theorem dX12_isFitting_47 : decode cX12_isFitting 47 = .ok (.iconst 3, 1) := by decide +kernel
theorem dX12_isFitting_48 : decode cX12_isFitting 48 = .ok (.invokevirtual 284, 3) := by decide +kernel
theorem dX12_isFitting_51 : decode cX12_isFitting 51 = .ok (.aload_n 0, 1) := by decide +kernel
theorem dX12_isFitting_52 : decode cX12_isFitting 52 = .ok (.getfield 7, 3) := by decide +kernel
theorem dX12_isFitting_55 : decode cX12_isFitting 55 = .ok (.iload_n 3, 1) := by decide +kernel
theorem dX12_isFitting_56 : decode cX12_isFitting 56 = .ok (.iconst 2, 1) := by decide +kernel
theorem dX12_isFitting_57 : decode cX12_isFitting 57 = .ok (.iadd, 1) := by decide +kernel
theorem dX12_isFitting_58 : decode cX12_isFitting 58 = .ok (.iaload, 1) := by decide +kernel
theorem dX12_isFitting_59 : decode cX12_isFitting 59 = .ok (.if_icmp .ne 23, 3) := by decide +kernel
theorem dX12_isFitting_62 : decode cX12_isFitting 62 = .ok (.aload_n 0, 1) := by decide +kernel
theorem dX12_isFitting_63 : decode cX12_isFitting 63 = .ok (.getfield 7, 3) := by decide +kernel
theorem dX12_isFitting_66 : decode cX12_isFitting 66 = .ok (.iload_n 3, 1) := by decide +kernel
theorem dX12_isFitting_67 : decode cX12_isFitting 67 = .ok (.iconst 3, 1) := by decide +kernel
theorem dX12_isFitting_68 : decode cX12_isFitting 68 = .ok (.iadd, 1) := by decide +kernel
theorem dX12_isFitting_69 : decode cX12_isFitting 69 = .ok (.iaload, 1) := by decide +kernel
theorem dX12_isFitting_70 : decode cX12_isFitting 70 = .ok (.aload_n 0, 1) := by decide +kernel
theorem dX12_isFitting_71 : decode cX12_isFitting 71 = .ok (.iload_n 2, 1) := by decide +kernel
theorem dX12_isFitting_72 : decode cX12_isFitting 72 = .ok (.iconst 4, 1) := by decide +kernel
theorem dX12_isFitting_73 : decode cX12_isFitting 73 = .ok (.invokevirtual 284, 3) := by decide +kernel
theorem dX12_isFitting_76 : decode cX12_isFitting 76 = .ok (.iconst (-1), 1) := by decide +kernel
theorem dX12_isFitting_77 : decode cX12_isFitting 77 = .ok (.ixor, 1) := by decide +kernel
theorem dX12_isFitting_78 : decode cX12_isFitting 78 = .ok (.iand, 1) := by decide +kernel
theorem dX12_isFitting_79 : decode cX12_isFitting 79 = .ok (.ifCond .eq 5, 3) := by decide +kernel
theorem dX12_isFitting_82 : decode cX12_isFitting 82 = .ok (.iconst 0, 1) := by decide +kernel
theorem dX12_isFitting_83 : decode cX12_isFitting 83 = .ok (.ireturn, 1) := by decide +kernel
theorem dX12_isFitting_84 : decode cX12_isFitting 84 = .ok (.aload_n 0, 1) := by decide +kernel
theorem dX12_isFitting_85 : decode cX12_isFitting 85 = .ok (.getfield 7, 3) := by decide +kernel
theorem dX12_isFitting_88 : decode cX12_isFitting 88 = .ok (.iload_n 3, 1) := by decide +kernel
theorem dX12_isFitting_89 : decode cX12_isFitting 89 = .ok (.iconst 4, 1) := by decide +kernel
theorem dX12_isFitting_90 : decode cX12_isFitting 90 = .ok (.iadd, 1) := by decide +kernel
theorem dX12_isFitting_91 : decode cX12_isFitting 91 = .ok (.iaload, 1) := by decide +kernel
theorem dX12_isFitting_92 : decode cX12_isFitting 92 = .ok (.bipush 10, 2) := by decide +kernel
theorem dX12_isFitting_94 : decode cX12_isFitting 94 = .ok (.if_icmp .eq 18, 3) := by decide +kernel
theorem dX12_isFitting_97 : decode cX12_isFitting 97 = .ok (.aload_n 0, 1) := by decide +kernel
theorem dX12_isFitting_98 : decode cX12_isFitting 98 = .ok (.getfield 7, 3) := by decide +kernel
theorem dX12_isFitting_101 : decode cX12_isFitting 101 = .ok (.iload_n 3, 1) := by decide +kernel
theorem dX12_isFitting_102 : decode cX12_isFitting 102 = .ok (.iconst 4, 1) := by decide +kernel
theorem dX12_isFitting_103 : decode cX12_isFitting 103 = .ok (.iadd, 1) := by decide +kernel
theorem dX12_isFitting_104 : decode cX12_isFitting 104 = .ok (.iaload, 1) := by decide +kernel
theorem dX12_isFitting_105 : decode cX12_isFitting 105 = .ok (.iload_n 2, 1) := by decide +kernel
theorem dX12_isFitting_106 : decode cX12_isFitting 106 = .ok (.bipush 10, 2) := by decide +kernel
theorem dX12_isFitting_108 : decode cX12_isFitting 108 = .ok (.idiv, 1) := by decide +kernel
theorem dX12_isFitting_109 : decode cX12_isFitting 109 = .ok (.if_icmp .ne 35, 3) := by decide +kernel
theorem dX12_isFitting_112 : decode cX12_isFitting 112 = .ok (.aload_n 0, 1) := by decide +kernel
theorem dX12_isFitting_113 : decode cX12_isFitting 113 = .ok (.getfield 7, 3) := by decide +kernel
theorem dX12_isFitting_116 : decode cX12_isFitting 116 = .ok (.iload_n 3, 1) := by decide +kernel
theorem dX12_isFitting_117 : decode cX12_isFitting 117 = .ok (.iconst 5, 1) := by decide +kernel
theorem dX12_isFitting_118 : decode cX12_isFitting 118 = .ok (.iadd, 1) := by decide +kernel
theorem dX12_isFitting_119 : decode cX12_isFitting 119 = .ok (.iaload, 1) := by decide +kernel
theorem dX12_isFitting_120 : decode cX12_isFitting 120 = .ok (.bipush 10, 2) := by decide +kernel
theorem dX12_isFitting_122 : decode cX12_isFitting 122 = .ok (.if_icmp .eq 18, 3) := by decide +kernel
theorem dX12_isFitting_125 : decode cX12_isFitting 125 = .ok (.aload_n 0, 1) := by decide +kernel
theorem dX12_isFitting_126 : decode cX12_isFitting 126 = .ok (.getfield 7, 3) := by decide +kernel
theorem dX12_isFitting_129 : decode cX12_isFitting 129 = .ok (.iload_n 3, 1) := by decide +kernel
theorem dX12_isFitting_130 : decode cX12_isFitting 130 = .ok (.iconst 5, 1) := by decide +kernel
theorem dX12_isFitting_131 : decode cX12_isFitting 131 = .ok (.iadd, 1) := by decide +kernel
theorem dX12_isFitting_132 : decode cX12_isFitting 132 = .ok (.iaload, 1) := by decide +kernel
theorem dX12_isFitting_133 : decode cX12_isFitting 133 = .ok (.iload_n 2, 1) := by decide +kernel
theorem dX12_isFitting_134 : decode cX12_isFitting 134 = .ok (.bipush 10, 2) := by decide +kernel
theorem dX12_isFitting_136 : decode cX12_isFitting 136 = .ok (.irem, 1) := by decide +kernel
theorem dX12_isFitting_137 : decode cX12_isFitting 137 = .ok (.if_icmp .ne 7, 3) := by decide +kernel
theorem dX12_isFitting_140 : decode cX12_isFitting 140 = .ok (.iconst 1, 1) := by decide +kernel
theorem dX12_isFitting_141 : decode cX12_isFitting 141 = .ok (.goto 4, 3) := by decide +kernel
theorem dX12_isFitting_144 : decode cX12_isFitting 144 = .ok (.iconst 0, 1) := by decide +kernel
theorem dX12_isFitting_145 : decode cX12_isFitting 145 = .ok (.ireturn, 1) := by decide +kernel
theorem dX12_waysOf_0 : decode cX12_waysOf 0 = .ok (.iconst 1, 1) := by decide +kernel
theorem dX12_waysOf_1 : decode cX12_waysOf 1 = .ok (.iload_n 1, 1) := by decide +kernel
theorem dX12_waysOf_2 : decode cX12_waysOf 2 = .ok (.ishl, 1) := by decide +kernel
theorem dX12_waysOf_3 : decode cX12_waysOf 3 = .ok (.iconst 1, 1) := by decide +kernel
theorem dX12_waysOf_4 : decode cX12_waysOf 4 = .ok (.isub, 1) := by decide +kernel
theorem dX12_waysOf_5 : decode cX12_waysOf 5 = .ok (.istore 4, 2) := by decide +kernel
theorem dX12_waysOf_7 : decode cX12_waysOf 7 = .ok (.iconst 0, 1) := by decide +kernel
theorem dX12_waysOf_8 : decode cX12_waysOf 8 = .ok (.istore 5, 2) := by decide +kernel
theorem dX12_waysOf_10 : decode cX12_waysOf 10 = .ok (.iload 5, 2) := by decide +kernel
theorem dX12_waysOf_12 : decode cX12_waysOf 12 = .ok (.iload 4, 2) := by decide +kernel
theorem dX12_waysOf_14 : decode cX12_waysOf 14 = .ok (.if_icmp .gt 17, 3) := by decide +kernel
theorem dX12_waysOf_17 : decode cX12_waysOf 17 = .ok (.aload_n 0, 1) := by decide +kernel
theorem dX12_waysOf_18 : decode cX12_waysOf 18 = .ok (.getfield 66, 3) := by decide +kernel
theorem dX12_waysOf_21 : decode cX12_waysOf 21 = .ok (.iload 5, 2) := by decide +kernel
theorem dX12_waysOf_23 : decode cX12_waysOf 23 = .ok (.lconst 0, 1) := by decide +kernel
theorem dX12_waysOf_24 : decode cX12_waysOf 24 = .ok (.lastore, 1) := by decide +kernel
theorem dX12_waysOf_25 : decode cX12_waysOf 25 = .ok (.iinc 5 1, 3) := by decide +kernel
theorem dX12_waysOf_28 : decode cX12_waysOf 28 = .ok (.goto (-18), 3) := by decide +kernel
theorem dX12_waysOf_31 : decode cX12_waysOf 31 = .ok (.aload_n 0, 1) := by decide +kernel
theorem dX12_waysOf_32 : decode cX12_waysOf 32 = .ok (.getfield 66, 3) := by decide +kernel
theorem dX12_waysOf_35 : decode cX12_waysOf 35 = .ok (.iload_n 2, 1) := by decide +kernel
theorem dX12_waysOf_36 : decode cX12_waysOf 36 = .ok (.lconst 1, 1) := by decide +kernel
theorem dX12_waysOf_37 : decode cX12_waysOf 37 = .ok (.lastore, 1) := by decide +kernel
theorem dX12_waysOf_38 : decode cX12_waysOf 38 = .ok (.iconst 0, 1) := by decide +kernel
theorem dX12_waysOf_39 : decode cX12_waysOf 39 = .ok (.istore 5, 2) := by decide +kernel
theorem dX12_waysOf_41 : decode cX12_waysOf 41 = .ok (.iload 5, 2) := by decide +kernel
theorem dX12_waysOf_43 : decode cX12_waysOf 43 = .ok (.aload_n 0, 1) := by decide +kernel
theorem dX12_waysOf_44 : decode cX12_waysOf 44 = .ok (.invokevirtual 268, 3) := by decide +kernel
theorem dX12_waysOf_47 : decode cX12_waysOf 47 = .ok (.if_icmp .ge 111, 3) := by decide +kernel
theorem dX12_waysOf_50 : decode cX12_waysOf 50 = .ok (.iload 5, 2) := by decide +kernel
theorem dX12_waysOf_52 : decode cX12_waysOf 52 = .ok (.iload_n 3, 1) := by decide +kernel
theorem dX12_waysOf_53 : decode cX12_waysOf 53 = .ok (.if_icmp .ne 6, 3) := by decide +kernel
theorem dX12_waysOf_56 : decode cX12_waysOf 56 = .ok (.goto 96, 3) := by decide +kernel
theorem dX12_waysOf_59 : decode cX12_waysOf 59 = .ok (.iload 4, 2) := by decide +kernel
theorem dX12_waysOf_61 : decode cX12_waysOf 61 = .ok (.istore 6, 2) := by decide +kernel
theorem dX12_waysOf_63 : decode cX12_waysOf 63 = .ok (.iload 6, 2) := by decide +kernel
theorem dX12_waysOf_65 : decode cX12_waysOf 65 = .ok (.ifCond .lt 87, 3) := by decide +kernel
theorem dX12_waysOf_68 : decode cX12_waysOf 68 = .ok (.aload_n 0, 1) := by decide +kernel
theorem dX12_waysOf_69 : decode cX12_waysOf 69 = .ok (.getfield 66, 3) := by decide +kernel
theorem dX12_waysOf_72 : decode cX12_waysOf 72 = .ok (.iload 6, 2) := by decide +kernel
theorem dX12_waysOf_74 : decode cX12_waysOf 74 = .ok (.laload, 1) := by decide +kernel
theorem dX12_waysOf_75 : decode cX12_waysOf 75 = .ok (.lconst 0, 1) := by decide +kernel
theorem dX12_waysOf_76 : decode cX12_waysOf 76 = .ok (.lcmp, 1) := by decide +kernel
theorem dX12_waysOf_77 : decode cX12_waysOf 77 = .ok (.ifCond .ne 6, 3) := by decide +kernel
theorem dX12_waysOf_80 : decode cX12_waysOf 80 = .ok (.goto 66, 3) := by decide +kernel
theorem dX12_waysOf_83 : decode cX12_waysOf 83 = .ok (.iconst 0, 1) := by decide +kernel
theorem dX12_waysOf_84 : decode cX12_waysOf 84 = .ok (.istore 7, 2) := by decide +kernel
theorem dX12_waysOf_86 : decode cX12_waysOf 86 = .ok (.iload 7, 2) := by decide +kernel
theorem dX12_waysOf_88 : decode cX12_waysOf 88 = .ok (.iload_n 1, 1) := by decide +kernel
theorem dX12_waysOf_89 : decode cX12_waysOf 89 = .ok (.if_icmp .ge 57, 3) := by decide +kernel
theorem dX12_waysOf_92 : decode cX12_waysOf 92 = .ok (.iload 6, 2) := by decide +kernel
theorem dX12_waysOf_94 : decode cX12_waysOf 94 = .ok (.iload 7, 2) := by decide +kernel
theorem dX12_waysOf_96 : decode cX12_waysOf 96 = .ok (.invokestatic 225, 3) := by decide +kernel
theorem dX12_waysOf_99 : decode cX12_waysOf 99 = .ok (.ifCond .ne 41, 3) := by decide +kernel
theorem dX12_waysOf_102 : decode cX12_waysOf 102 = .ok (.aload_n 0, 1) := by decide +kernel
theorem dX12_waysOf_103 : decode cX12_waysOf 103 = .ok (.getfield 60, 3) := by decide +kernel
theorem dX12_waysOf_106 : decode cX12_waysOf 106 = .ok (.bipush 40, 2) := by decide +kernel
theorem dX12_waysOf_108 : decode cX12_waysOf 108 = .ok (.iload 7, 2) := by decide +kernel
theorem dX12_waysOf_110 : decode cX12_waysOf 110 = .ok (.imul, 1) := by decide +kernel
theorem dX12_waysOf_111 : decode cX12_waysOf 111 = .ok (.iload 5, 2) := by decide +kernel
theorem dX12_waysOf_113 : decode cX12_waysOf 113 = .ok (.iadd, 1) := by decide +kernel
theorem dX12_waysOf_114 : decode cX12_waysOf 114 = .ok (.baload, 1) := by decide +kernel
theorem dX12_waysOf_115 : decode cX12_waysOf 115 = .ok (.ifCond .eq 25, 3) := by decide +kernel
theorem dX12_waysOf_118 : decode cX12_waysOf 118 = .ok (.aload_n 0, 1) := by decide +kernel
theorem dX12_waysOf_119 : decode cX12_waysOf 119 = .ok (.getfield 66, 3) := by decide +kernel
theorem dX12_waysOf_122 : decode cX12_waysOf 122 = .ok (.iload 6, 2) := by decide +kernel
theorem dX12_waysOf_124 : decode cX12_waysOf 124 = .ok (.iconst 1, 1) := by decide +kernel
theorem dX12_waysOf_125 : decode cX12_waysOf 125 = .ok (.iload 7, 2) := by decide +kernel
theorem dX12_waysOf_127 : decode cX12_waysOf 127 = .ok (.ishl, 1) := by decide +kernel
theorem dX12_waysOf_128 : decode cX12_waysOf 128 = .ok (.ior, 1) := by decide +kernel
theorem dX12_waysOf_129 : decode cX12_waysOf 129 = .ok (.dup2, 1) := by decide +kernel
theorem dX12_waysOf_130 : decode cX12_waysOf 130 = .ok (.laload, 1) := by decide +kernel
theorem dX12_waysOf_131 : decode cX12_waysOf 131 = .ok (.aload_n 0, 1) := by decide +kernel
theorem dX12_waysOf_132 : decode cX12_waysOf 132 = .ok (.getfield 66, 3) := by decide +kernel
theorem dX12_waysOf_135 : decode cX12_waysOf 135 = .ok (.iload 6, 2) := by decide +kernel
theorem dX12_waysOf_137 : decode cX12_waysOf 137 = .ok (.laload, 1) := by decide +kernel
theorem dX12_waysOf_138 : decode cX12_waysOf 138 = .ok (.ladd, 1) := by decide +kernel
theorem dX12_waysOf_139 : decode cX12_waysOf 139 = .ok (.lastore, 1) := by decide +kernel
theorem dX12_waysOf_140 : decode cX12_waysOf 140 = .ok (.iinc 7 1, 3) := by decide +kernel
theorem dX12_waysOf_143 : decode cX12_waysOf 143 = .ok (.goto (-57), 3) := by decide +kernel
theorem dX12_waysOf_146 : decode cX12_waysOf 146 = .ok (.iinc 6 (-1), 3) := by decide +kernel
theorem dX12_waysOf_149 : decode cX12_waysOf 149 = .ok (.goto (-86), 3) := by decide +kernel
theorem dX12_waysOf_152 : decode cX12_waysOf 152 = .ok (.iinc 5 1, 3) := by decide +kernel
theorem dX12_waysOf_155 : decode cX12_waysOf 155 = .ok (.goto (-114), 3) := by decide +kernel
theorem dX12_waysOf_158 : decode cX12_waysOf 158 = .ok (.aload_n 0, 1) := by decide +kernel
theorem dX12_waysOf_159 : decode cX12_waysOf 159 = .ok (.getfield 66, 3) := by decide +kernel
theorem dX12_waysOf_162 : decode cX12_waysOf 162 = .ok (.iload 4, 2) := by decide +kernel
theorem dX12_waysOf_164 : decode cX12_waysOf 164 = .ok (.laload, 1) := by decide +kernel
theorem dX12_waysOf_165 : decode cX12_waysOf 165 = .ok (.lreturn, 1) := by decide +kernel
theorem dX12_found_0 : decode cX12_found 0 = .ok (.aload_n 0, 1) := by decide +kernel
theorem dX12_found_1 : decode cX12_found 1 = .ok (.iconst 0, 1) := by decide +kernel
theorem dX12_found_2 : decode cX12_found 2 = .ok (.putfield 111, 3) := by decide +kernel
theorem dX12_found_5 : decode cX12_found 5 = .ok (.aload_n 0, 1) := by decide +kernel
theorem dX12_found_6 : decode cX12_found 6 = .ok (.invokevirtual 259, 3) := by decide +kernel
theorem dX12_found_9 : decode cX12_found 9 = .ok (.aload_n 0, 1) := by decide +kernel
theorem dX12_found_10 : decode cX12_found 10 = .ok (.invokevirtual 184, 3) := by decide +kernel
theorem dX12_found_13 : decode cX12_found 13 = .ok (.istore_n 1, 1) := by decide +kernel
theorem dX12_found_14 : decode cX12_found 14 = .ok (.iload_n 1, 1) := by decide +kernel
theorem dX12_found_15 : decode cX12_found 15 = .ok (.bipush 6, 2) := by decide +kernel
theorem dX12_found_17 : decode cX12_found 17 = .ok (.idiv, 1) := by decide +kernel
theorem dX12_found_18 : decode cX12_found 18 = .ok (.istore_n 2, 1) := by decide +kernel
theorem dX12_found_19 : decode cX12_found 19 = .ok (.iload_n 1, 1) := by decide +kernel
theorem dX12_found_20 : decode cX12_found 20 = .ok (.bipush 6, 2) := by decide +kernel
theorem dX12_found_22 : decode cX12_found 22 = .ok (.irem, 1) := by decide +kernel
theorem dX12_found_23 : decode cX12_found 23 = .ok (.ifCond .ne 13, 3) := by decide +kernel
theorem dX12_found_26 : decode cX12_found 26 = .ok (.iload_n 2, 1) := by decide +kernel
theorem dX12_found_27 : decode cX12_found 27 = .ok (.iconst 1, 1) := by decide +kernel
theorem dX12_found_28 : decode cX12_found 28 = .ok (.bipush 8, 2) := by decide +kernel
theorem dX12_found_30 : decode cX12_found 30 = .ok (.invokestatic 171, 3) := by decide +kernel
theorem dX12_found_33 : decode cX12_found 33 = .ok (.ifCond .ne 7, 3) := by decide +kernel
theorem dX12_found_36 : decode cX12_found 36 = .ok (.ldc2_w 327, 3) := by decide +kernel
theorem dX12_found_39 : decode cX12_found 39 = .ok (.lreturn, 1) := by decide +kernel
theorem dX12_found_40 : decode cX12_found 40 = .ok (.iconst 0, 1) := by decide +kernel
theorem dX12_found_41 : decode cX12_found 41 = .ok (.istore_n 3, 1) := by decide +kernel
theorem dX12_found_42 : decode cX12_found 42 = .ok (.iload_n 3, 1) := by decide +kernel
theorem dX12_found_43 : decode cX12_found 43 = .ok (.iload_n 2, 1) := by decide +kernel
theorem dX12_found_44 : decode cX12_found 44 = .ok (.if_icmp .ge 94, 3) := by decide +kernel
theorem dX12_found_47 : decode cX12_found 47 = .ok (.aload_n 0, 1) := by decide +kernel
theorem dX12_found_48 : decode cX12_found 48 = .ok (.getfield 7, 3) := by decide +kernel
theorem dX12_found_51 : decode cX12_found 51 = .ok (.bipush 6, 2) := by decide +kernel
theorem dX12_found_53 : decode cX12_found 53 = .ok (.iload_n 3, 1) := by decide +kernel
theorem dX12_found_54 : decode cX12_found 54 = .ok (.imul, 1) := by decide +kernel
theorem dX12_found_55 : decode cX12_found 55 = .ok (.iaload, 1) := by decide +kernel
theorem dX12_found_56 : decode cX12_found 56 = .ok (.aload_n 0, 1) := by decide +kernel
theorem dX12_found_57 : decode cX12_found 57 = .ok (.getfield 13, 3) := by decide +kernel
theorem dX12_found_60 : decode cX12_found 60 = .ok (.iconst 2, 1) := by decide +kernel
theorem dX12_found_61 : decode cX12_found 61 = .ok (.iaload, 1) := by decide +kernel
theorem dX12_found_62 : decode cX12_found 62 = .ok (.if_icmp .ge 66, 3) := by decide +kernel
theorem dX12_found_65 : decode cX12_found 65 = .ok (.aload_n 0, 1) := by decide +kernel
theorem dX12_found_66 : decode cX12_found 66 = .ok (.getfield 7, 3) := by decide +kernel
theorem dX12_found_69 : decode cX12_found 69 = .ok (.bipush 6, 2) := by decide +kernel
theorem dX12_found_71 : decode cX12_found 71 = .ok (.iload_n 3, 1) := by decide +kernel
theorem dX12_found_72 : decode cX12_found 72 = .ok (.imul, 1) := by decide +kernel
theorem dX12_found_73 : decode cX12_found 73 = .ok (.iconst 1, 1) := by decide +kernel
theorem dX12_found_74 : decode cX12_found 74 = .ok (.iadd, 1) := by decide +kernel
theorem dX12_found_75 : decode cX12_found 75 = .ok (.iaload, 1) := by decide +kernel
theorem dX12_found_76 : decode cX12_found 76 = .ok (.iconst 2, 1) := by decide +kernel
theorem dX12_found_77 : decode cX12_found 77 = .ok (.if_icmp .gt 51, 3) := by decide +kernel
theorem dX12_found_80 : decode cX12_found 80 = .ok (.aload_n 0, 1) := by decide +kernel
theorem dX12_found_81 : decode cX12_found 81 = .ok (.getfield 7, 3) := by decide +kernel
theorem dX12_found_84 : decode cX12_found 84 = .ok (.bipush 6, 2) := by decide +kernel
theorem dX12_found_86 : decode cX12_found 86 = .ok (.iload_n 3, 1) := by decide +kernel
theorem dX12_found_87 : decode cX12_found 87 = .ok (.imul, 1) := by decide +kernel
theorem dX12_found_88 : decode cX12_found 88 = .ok (.iconst 2, 1) := by decide +kernel
theorem dX12_found_89 : decode cX12_found 89 = .ok (.iadd, 1) := by decide +kernel
theorem dX12_found_90 : decode cX12_found 90 = .ok (.iaload, 1) := by decide +kernel
theorem dX12_found_91 : decode cX12_found 91 = .ok (.bipush 9, 2) := by decide +kernel
theorem dX12_found_93 : decode cX12_found 93 = .ok (.if_icmp .gt 35, 3) := by decide +kernel
theorem dX12_found_96 : decode cX12_found 96 = .ok (.aload_n 0, 1) := by decide +kernel
theorem dX12_found_97 : decode cX12_found 97 = .ok (.getfield 7, 3) := by decide +kernel
theorem dX12_found_100 : decode cX12_found 100 = .ok (.bipush 6, 2) := by decide +kernel
theorem dX12_found_102 : decode cX12_found 102 = .ok (.iload_n 3, 1) := by decide +kernel
theorem dX12_found_103 : decode cX12_found 103 = .ok (.imul, 1) := by decide +kernel
theorem dX12_found_104 : decode cX12_found 104 = .ok (.iconst 4, 1) := by decide +kernel
theorem dX12_found_105 : decode cX12_found 105 = .ok (.iadd, 1) := by decide +kernel
theorem dX12_found_106 : decode cX12_found 106 = .ok (.iaload, 1) := by decide +kernel
theorem dX12_found_107 : decode cX12_found 107 = .ok (.bipush 10, 2) := by decide +kernel
theorem dX12_found_109 : decode cX12_found 109 = .ok (.if_icmp .gt 19, 3) := by decide +kernel
theorem dX12_found_112 : decode cX12_found 112 = .ok (.aload_n 0, 1) := by decide +kernel
theorem dX12_found_113 : decode cX12_found 113 = .ok (.getfield 7, 3) := by decide +kernel
theorem dX12_found_116 : decode cX12_found 116 = .ok (.bipush 6, 2) := by decide +kernel
theorem dX12_found_118 : decode cX12_found 118 = .ok (.iload_n 3, 1) := by decide +kernel
theorem dX12_found_119 : decode cX12_found 119 = .ok (.imul, 1) := by decide +kernel
theorem dX12_found_120 : decode cX12_found 120 = .ok (.iconst 5, 1) := by decide +kernel
theorem dX12_found_121 : decode cX12_found 121 = .ok (.iadd, 1) := by decide +kernel
theorem dX12_found_122 : decode cX12_found 122 = .ok (.iaload, 1) := by decide +kernel
theorem dX12_found_123 : decode cX12_found 123 = .ok (.bipush 10, 2) := by decide +kernel
theorem dX12_found_125 : decode cX12_found 125 = .ok (.if_icmp .le 7, 3) := by decide +kernel
theorem dX12_found_128 : decode cX12_found 128 = .ok (.ldc2_w 327, 3) := by decide +kernel
theorem dX12_found_131 : decode cX12_found 131 = .ok (.lreturn, 1) := by decide +kernel
theorem dX12_found_132 : decode cX12_found 132 = .ok (.iinc 3 1, 3) := by decide +kernel
theorem dX12_found_135 : decode cX12_found 135 = .ok (.goto (-93), 3) := by decide +kernel
theorem dX12_found_138 : decode cX12_found 138 = .ok (.iconst 0, 1) := by decide +kernel
theorem dX12_found_139 : decode cX12_found 139 = .ok (.istore_n 3, 1) := by decide +kernel
theorem dX12_found_140 : decode cX12_found 140 = .ok (.iload_n 3, 1) := by decide +kernel
theorem dX12_found_141 : decode cX12_found 141 = .ok (.iload_n 2, 1) := by decide +kernel
theorem dX12_found_142 : decode cX12_found 142 = .ok (.if_icmp .ge 61, 3) := by decide +kernel
theorem dX12_found_145 : decode cX12_found 145 = .ok (.iconst 0, 1) := by decide +kernel
theorem dX12_found_146 : decode cX12_found 146 = .ok (.istore 4, 2) := by decide +kernel
theorem dX12_found_148 : decode cX12_found 148 = .ok (.iload 4, 2) := by decide +kernel
theorem dX12_found_150 : decode cX12_found 150 = .ok (.bipush 40, 2) := by decide +kernel
theorem dX12_found_152 : decode cX12_found 152 = .ok (.if_icmp .ge 45, 3) := by decide +kernel
theorem dX12_found_155 : decode cX12_found 155 = .ok (.aload_n 0, 1) := by decide +kernel
theorem dX12_found_156 : decode cX12_found 156 = .ok (.getfield 60, 3) := by decide +kernel
theorem dX12_found_159 : decode cX12_found 159 = .ok (.bipush 40, 2) := by decide +kernel
theorem dX12_found_161 : decode cX12_found 161 = .ok (.iload_n 3, 1) := by decide +kernel
theorem dX12_found_162 : decode cX12_found 162 = .ok (.imul, 1) := by decide +kernel
theorem dX12_found_163 : decode cX12_found 163 = .ok (.iload 4, 2) := by decide +kernel
theorem dX12_found_165 : decode cX12_found 165 = .ok (.iadd, 1) := by decide +kernel
theorem dX12_found_166 : decode cX12_found 166 = .ok (.iload 4, 2) := by decide +kernel
theorem dX12_found_168 : decode cX12_found 168 = .ok (.aload_n 0, 1) := by decide +kernel
theorem dX12_found_169 : decode cX12_found 169 = .ok (.invokevirtual 268, 3) := by decide +kernel
theorem dX12_found_172 : decode cX12_found 172 = .ok (.if_icmp .ge 17, 3) := by decide +kernel
theorem dX12_found_175 : decode cX12_found 175 = .ok (.aload_n 0, 1) := by decide +kernel
theorem dX12_found_176 : decode cX12_found 176 = .ok (.iload_n 3, 1) := by decide +kernel
theorem dX12_found_177 : decode cX12_found 177 = .ok (.iload 4, 2) := by decide +kernel
theorem dX12_found_179 : decode cX12_found 179 = .ok (.invokevirtual 329, 3) := by decide +kernel
theorem dX12_found_182 : decode cX12_found 182 = .ok (.ifCond .eq 7, 3) := by decide +kernel
theorem dX12_found_185 : decode cX12_found 185 = .ok (.iconst 1, 1) := by decide +kernel
theorem dX12_found_186 : decode cX12_found 186 = .ok (.goto 4, 3) := by decide +kernel
theorem dX12_found_189 : decode cX12_found 189 = .ok (.iconst 0, 1) := by decide +kernel
theorem dX12_found_190 : decode cX12_found 190 = .ok (.bastore, 1) := by decide +kernel
theorem dX12_found_191 : decode cX12_found 191 = .ok (.iinc 4 1, 3) := by decide +kernel
theorem dX12_found_194 : decode cX12_found 194 = .ok (.goto (-46), 3) := by decide +kernel
theorem dX12_found_197 : decode cX12_found 197 = .ok (.iinc 3 1, 3) := by decide +kernel
theorem dX12_found_200 : decode cX12_found 200 = .ok (.goto (-60), 3) := by decide +kernel
theorem dX12_found_203 : decode cX12_found 203 = .ok (.aload_n 0, 1) := by decide +kernel
theorem dX12_found_204 : decode cX12_found 204 = .ok (.iload_n 2, 1) := by decide +kernel
theorem dX12_found_205 : decode cX12_found 205 = .ok (.iconst 0, 1) := by decide +kernel
theorem dX12_found_206 : decode cX12_found 206 = .ok (.iconst (-1), 1) := by decide +kernel
theorem dX12_found_207 : decode cX12_found 207 = .ok (.invokevirtual 332, 3) := by decide +kernel
theorem dX12_found_210 : decode cX12_found 210 = .ok (.lstore_n 3, 1) := by decide +kernel
theorem dX12_found_211 : decode cX12_found 211 = .ok (.lload_n 3, 1) := by decide +kernel
theorem dX12_found_212 : decode cX12_found 212 = .ok (.lconst 0, 1) := by decide +kernel
theorem dX12_found_213 : decode cX12_found 213 = .ok (.lcmp, 1) := by decide +kernel
theorem dX12_found_214 : decode cX12_found 214 = .ok (.ifCond .ne 5, 3) := by decide +kernel
theorem dX12_found_217 : decode cX12_found 217 = .ok (.lconst 0, 1) := by decide +kernel
theorem dX12_found_218 : decode cX12_found 218 = .ok (.lreturn, 1) := by decide +kernel
theorem dX12_found_219 : decode cX12_found 219 = .ok (.aload_n 0, 1) := by decide +kernel
theorem dX12_found_220 : decode cX12_found 220 = .ok (.iload_n 2, 1) := by decide +kernel
theorem dX12_found_221 : decode cX12_found 221 = .ok (.putfield 336, 3) := by decide +kernel
theorem dX12_found_224 : decode cX12_found 224 = .ok (.iconst 0, 1) := by decide +kernel
theorem dX12_found_225 : decode cX12_found 225 = .ok (.istore 5, 2) := by decide +kernel
theorem dX12_found_227 : decode cX12_found 227 = .ok (.iload 5, 2) := by decide +kernel
theorem dX12_found_229 : decode cX12_found 229 = .ok (.iload_n 2, 1) := by decide +kernel
theorem dX12_found_230 : decode cX12_found 230 = .ok (.if_icmp .ge 76, 3) := by decide +kernel
theorem dX12_found_233 : decode cX12_found 233 = .ok (.aload_n 0, 1) := by decide +kernel
theorem dX12_found_234 : decode cX12_found 234 = .ok (.getfield 69, 3) := by decide +kernel
theorem dX12_found_237 : decode cX12_found 237 = .ok (.iload 5, 2) := by decide +kernel
theorem dX12_found_239 : decode cX12_found 239 = .ok (.iconst (-1), 1) := by decide +kernel
theorem dX12_found_240 : decode cX12_found 240 = .ok (.iastore, 1) := by decide +kernel
theorem dX12_found_241 : decode cX12_found 241 = .ok (.iconst 0, 1) := by decide +kernel
theorem dX12_found_242 : decode cX12_found 242 = .ok (.istore 6, 2) := by decide +kernel
theorem dX12_found_244 : decode cX12_found 244 = .ok (.iload 6, 2) := by decide +kernel
theorem dX12_found_246 : decode cX12_found 246 = .ok (.aload_n 0, 1) := by decide +kernel
theorem dX12_found_247 : decode cX12_found 247 = .ok (.invokevirtual 268, 3) := by decide +kernel
theorem dX12_found_250 : decode cX12_found 250 = .ok (.if_icmp .ge 50, 3) := by decide +kernel
theorem dX12_found_253 : decode cX12_found 253 = .ok (.aload_n 0, 1) := by decide +kernel
theorem dX12_found_254 : decode cX12_found 254 = .ok (.getfield 60, 3) := by decide +kernel
theorem dX12_found_257 : decode cX12_found 257 = .ok (.bipush 40, 2) := by decide +kernel
theorem dX12_found_259 : decode cX12_found 259 = .ok (.iload 5, 2) := by decide +kernel
theorem dX12_found_261 : decode cX12_found 261 = .ok (.imul, 1) := by decide +kernel
theorem dX12_found_262 : decode cX12_found 262 = .ok (.iload 6, 2) := by decide +kernel
theorem dX12_found_264 : decode cX12_found 264 = .ok (.iadd, 1) := by decide +kernel
theorem dX12_found_265 : decode cX12_found 265 = .ok (.baload, 1) := by decide +kernel
theorem dX12_found_266 : decode cX12_found 266 = .ok (.ifCond .eq 28, 3) := by decide +kernel
theorem dX12_found_269 : decode cX12_found 269 = .ok (.aload_n 0, 1) := by decide +kernel
theorem dX12_found_270 : decode cX12_found 270 = .ok (.iload_n 2, 1) := by decide +kernel
theorem dX12_found_271 : decode cX12_found 271 = .ok (.iconst 1, 1) := by decide +kernel
theorem dX12_found_272 : decode cX12_found 272 = .ok (.iload 5, 2) := by decide +kernel
theorem dX12_found_274 : decode cX12_found 274 = .ok (.ishl, 1) := by decide +kernel
theorem dX12_found_275 : decode cX12_found 275 = .ok (.iload 6, 2) := by decide +kernel
theorem dX12_found_277 : decode cX12_found 277 = .ok (.invokevirtual 332, 3) := by decide +kernel
theorem dX12_found_280 : decode cX12_found 280 = .ok (.lload_n 3, 1) := by decide +kernel
theorem dX12_found_281 : decode cX12_found 281 = .ok (.lcmp, 1) := by decide +kernel
theorem dX12_found_282 : decode cX12_found 282 = .ok (.ifCond .ne 12, 3) := by decide +kernel
theorem dX12_found_285 : decode cX12_found 285 = .ok (.aload_n 0, 1) := by decide +kernel
theorem dX12_found_286 : decode cX12_found 286 = .ok (.getfield 69, 3) := by decide +kernel
theorem dX12_found_289 : decode cX12_found 289 = .ok (.iload 5, 2) := by decide +kernel
theorem dX12_found_291 : decode cX12_found 291 = .ok (.iload 6, 2) := by decide +kernel
theorem dX12_found_293 : decode cX12_found 293 = .ok (.iastore, 1) := by decide +kernel
theorem dX12_found_294 : decode cX12_found 294 = .ok (.iinc 6 1, 3) := by decide +kernel
theorem dX12_found_297 : decode cX12_found 297 = .ok (.goto (-53), 3) := by decide +kernel
theorem dX12_found_300 : decode cX12_found 300 = .ok (.iinc 5 1, 3) := by decide +kernel
theorem dX12_found_303 : decode cX12_found 303 = .ok (.goto (-76), 3) := by decide +kernel
theorem dX12_found_306 : decode cX12_found 306 = .ok (.lload_n 3, 1) := by decide +kernel
theorem dX12_found_307 : decode cX12_found 307 = .ok (.lreturn, 1) := by decide +kernel
theorem dX12_sure_0 : decode cX12_sure 0 = .ok (.aload_n 0, 1) := by decide +kernel
theorem dX12_sure_1 : decode cX12_sure 1 = .ok (.iconst 0, 1) := by decide +kernel
theorem dX12_sure_2 : decode cX12_sure 2 = .ok (.putfield 111, 3) := by decide +kernel
theorem dX12_sure_5 : decode cX12_sure 5 = .ok (.iload_n 1, 1) := by decide +kernel
theorem dX12_sure_6 : decode cX12_sure 6 = .ok (.ifCond .lt 20, 3) := by decide +kernel
theorem dX12_sure_9 : decode cX12_sure 9 = .ok (.iload_n 1, 1) := by decide +kernel
theorem dX12_sure_10 : decode cX12_sure 10 = .ok (.aload_n 0, 1) := by decide +kernel
theorem dX12_sure_11 : decode cX12_sure 11 = .ok (.getfield 336, 3) := by decide +kernel
theorem dX12_sure_14 : decode cX12_sure 14 = .ok (.if_icmp .ge 12, 3) := by decide +kernel
theorem dX12_sure_17 : decode cX12_sure 17 = .ok (.aload_n 0, 1) := by decide +kernel
theorem dX12_sure_18 : decode cX12_sure 18 = .ok (.getfield 69, 3) := by decide +kernel
theorem dX12_sure_21 : decode cX12_sure 21 = .ok (.iload_n 1, 1) := by decide +kernel
theorem dX12_sure_22 : decode cX12_sure 22 = .ok (.iaload, 1) := by decide +kernel
theorem dX12_sure_23 : decode cX12_sure 23 = .ok (.goto 4, 3) := by decide +kernel
theorem dX12_sure_26 : decode cX12_sure 26 = .ok (.iconst (-1), 1) := by decide +kernel
theorem dX12_sure_27 : decode cX12_sure 27 = .ok (.ireturn, 1) := by decide +kernel
theorem dX12_chanceOf_0 : decode cX12_chanceOf 0 = .ok (.aload_n 0, 1) := by decide +kernel
theorem dX12_chanceOf_1 : decode cX12_chanceOf 1 = .ok (.getfield 13, 3) := by decide +kernel
theorem dX12_chanceOf_4 : decode cX12_chanceOf 4 = .ok (.bipush 10, 2) := by decide +kernel
theorem dX12_chanceOf_6 : decode cX12_chanceOf 6 = .ok (.bipush 8, 2) := by decide +kernel
theorem dX12_chanceOf_8 : decode cX12_chanceOf 8 = .ok (.iload_n 1, 1) := by decide +kernel
theorem dX12_chanceOf_9 : decode cX12_chanceOf 9 = .ok (.imul, 1) := by decide +kernel
theorem dX12_chanceOf_10 : decode cX12_chanceOf 10 = .ok (.iadd, 1) := by decide +kernel
theorem dX12_chanceOf_11 : decode cX12_chanceOf 11 = .ok (.iconst 1, 1) := by decide +kernel
theorem dX12_chanceOf_12 : decode cX12_chanceOf 12 = .ok (.iadd, 1) := by decide +kernel
theorem dX12_chanceOf_13 : decode cX12_chanceOf 13 = .ok (.iload_n 2, 1) := by decide +kernel
theorem dX12_chanceOf_14 : decode cX12_chanceOf 14 = .ok (.iadd, 1) := by decide +kernel
theorem dX12_chanceOf_15 : decode cX12_chanceOf 15 = .ok (.iaload, 1) := by decide +kernel
theorem dX12_chanceOf_16 : decode cX12_chanceOf 16 = .ok (.ireturn, 1) := by decide +kernel
theorem dX12_takesStain_0 : decode cX12_takesStain 0 = .ok (.aload_n 0, 1) := by decide +kernel
theorem dX12_takesStain_1 : decode cX12_takesStain 1 = .ok (.invokevirtual 259, 3) := by decide +kernel
theorem dX12_takesStain_4 : decode cX12_takesStain 4 = .ok (.aload_n 0, 1) := by decide +kernel
theorem dX12_takesStain_5 : decode cX12_takesStain 5 = .ok (.invokevirtual 184, 3) := by decide +kernel
theorem dX12_takesStain_8 : decode cX12_takesStain 8 = .ok (.istore_n 2, 1) := by decide +kernel
theorem dX12_takesStain_9 : decode cX12_takesStain 9 = .ok (.iconst 0, 1) := by decide +kernel
theorem dX12_takesStain_10 : decode cX12_takesStain 10 = .ok (.istore_n 3, 1) := by decide +kernel
theorem dX12_takesStain_11 : decode cX12_takesStain 11 = .ok (.iconst 0, 1) := by decide +kernel
theorem dX12_takesStain_12 : decode cX12_takesStain 12 = .ok (.istore 4, 2) := by decide +kernel
theorem dX12_takesStain_14 : decode cX12_takesStain 14 = .ok (.iload 4, 2) := by decide +kernel
theorem dX12_takesStain_16 : decode cX12_takesStain 16 = .ok (.iload_n 2, 1) := by decide +kernel
theorem dX12_takesStain_17 : decode cX12_takesStain 17 = .ok (.if_icmp .ge 26, 3) := by decide +kernel
theorem dX12_takesStain_20 : decode cX12_takesStain 20 = .ok (.iload 4, 2) := by decide +kernel
theorem dX12_takesStain_22 : decode cX12_takesStain 22 = .ok (.bipush 6, 2) := by decide +kernel
theorem dX12_takesStain_24 : decode cX12_takesStain 24 = .ok (.if_icmp .ge 19, 3) := by decide +kernel
theorem dX12_takesStain_27 : decode cX12_takesStain 27 = .ok (.iload_n 3, 1) := by decide +kernel
theorem dX12_takesStain_28 : decode cX12_takesStain 28 = .ok (.aload_n 0, 1) := by decide +kernel
theorem dX12_takesStain_29 : decode cX12_takesStain 29 = .ok (.getfield 7, 3) := by decide +kernel
theorem dX12_takesStain_32 : decode cX12_takesStain 32 = .ok (.iload 4, 2) := by decide +kernel
theorem dX12_takesStain_34 : decode cX12_takesStain 34 = .ok (.iaload, 1) := by decide +kernel
theorem dX12_takesStain_35 : decode cX12_takesStain 35 = .ok (.iadd, 1) := by decide +kernel
theorem dX12_takesStain_36 : decode cX12_takesStain 36 = .ok (.istore_n 3, 1) := by decide +kernel
theorem dX12_takesStain_37 : decode cX12_takesStain 37 = .ok (.iinc 4 1, 3) := by decide +kernel
theorem dX12_takesStain_40 : decode cX12_takesStain 40 = .ok (.goto (-26), 3) := by decide +kernel
theorem dX12_takesStain_43 : decode cX12_takesStain 43 = .ok (.iload_n 1, 1) := by decide +kernel
theorem dX12_takesStain_44 : decode cX12_takesStain 44 = .ok (.iconst 0, 1) := by decide +kernel
theorem dX12_takesStain_45 : decode cX12_takesStain 45 = .ok (.aload_n 0, 1) := by decide +kernel
theorem dX12_takesStain_46 : decode cX12_takesStain 46 = .ok (.getfield 13, 3) := by decide +kernel
theorem dX12_takesStain_49 : decode cX12_takesStain 49 = .ok (.iconst 2, 1) := by decide +kernel
theorem dX12_takesStain_50 : decode cX12_takesStain 50 = .ok (.iaload, 1) := by decide +kernel
theorem dX12_takesStain_51 : decode cX12_takesStain 51 = .ok (.iconst 1, 1) := by decide +kernel
theorem dX12_takesStain_52 : decode cX12_takesStain 52 = .ok (.isub, 1) := by decide +kernel
