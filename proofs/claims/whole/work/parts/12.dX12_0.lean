theorem dX12_init_0 : decode cX12_init 0 = .ok (.aload_n 0, 1) := by decide +kernel
theorem dX12_init_1 : decode cX12_init 1 = .ok (.invokespecial 1, 3) := by decide +kernel
theorem dX12_init_4 : decode cX12_init 4 = .ok (.aload_n 0, 1) := by decide +kernel
theorem dX12_init_5 : decode cX12_init 5 = .ok (.sipush 940, 3) := by decide +kernel
theorem dX12_init_8 : decode cX12_init 8 = .ok (.newarray .int, 2) := by decide +kernel
theorem dX12_init_10 : decode cX12_init 10 = .ok (.putfield 7, 3) := by decide +kernel
theorem dX12_init_13 : decode cX12_init 13 = .ok (.aload_n 0, 1) := by decide +kernel
theorem dX12_init_14 : decode cX12_init 14 = .ok (.sipush 2560, 3) := by decide +kernel
theorem dX12_init_17 : decode cX12_init 17 = .ok (.newarray .int, 2) := by decide +kernel
theorem dX12_init_19 : decode cX12_init 19 = .ok (.putfield 13, 3) := by decide +kernel
theorem dX12_init_22 : decode cX12_init 22 = .ok (.aload_n 0, 1) := by decide +kernel
theorem dX12_init_23 : decode cX12_init 23 = .ok (.sipush 130, 3) := by decide +kernel
theorem dX12_init_26 : decode cX12_init 26 = .ok (.newarray .int, 2) := by decide +kernel
theorem dX12_init_28 : decode cX12_init 28 = .ok (.putfield 16, 3) := by decide +kernel
theorem dX12_init_31 : decode cX12_init 31 = .ok (.aload_n 0, 1) := by decide +kernel
theorem dX12_init_32 : decode cX12_init 32 = .ok (.sipush 5120, 3) := by decide +kernel
theorem dX12_init_35 : decode cX12_init 35 = .ok (.newarray .int, 2) := by decide +kernel
theorem dX12_init_37 : decode cX12_init 37 = .ok (.putfield 19, 3) := by decide +kernel
theorem dX12_init_40 : decode cX12_init 40 = .ok (.aload_n 0, 1) := by decide +kernel
theorem dX12_init_41 : decode cX12_init 41 = .ok (.bipush 24, 2) := by decide +kernel
theorem dX12_init_43 : decode cX12_init 43 = .ok (.newarray .long, 2) := by decide +kernel
theorem dX12_init_45 : decode cX12_init 45 = .ok (.putfield 22, 3) := by decide +kernel
theorem dX12_init_48 : decode cX12_init 48 = .ok (.aload_n 0, 1) := by decide +kernel
theorem dX12_init_49 : decode cX12_init 49 = .ok (.bipush 24, 2) := by decide +kernel
theorem dX12_init_51 : decode cX12_init 51 = .ok (.newarray .long, 2) := by decide +kernel
theorem dX12_init_53 : decode cX12_init 53 = .ok (.putfield 26, 3) := by decide +kernel
theorem dX12_init_56 : decode cX12_init 56 = .ok (.aload_n 0, 1) := by decide +kernel
theorem dX12_init_57 : decode cX12_init 57 = .ok (.bipush 48, 2) := by decide +kernel
theorem dX12_init_59 : decode cX12_init 59 = .ok (.newarray .long, 2) := by decide +kernel
theorem dX12_init_61 : decode cX12_init 61 = .ok (.putfield 29, 3) := by decide +kernel
theorem dX12_init_64 : decode cX12_init 64 = .ok (.aload_n 0, 1) := by decide +kernel
theorem dX12_init_65 : decode cX12_init 65 = .ok (.iconst 2, 1) := by decide +kernel
theorem dX12_init_66 : decode cX12_init 66 = .ok (.newarray .boolean, 2) := by decide +kernel
theorem dX12_init_68 : decode cX12_init 68 = .ok (.putfield 32, 3) := by decide +kernel
theorem dX12_init_71 : decode cX12_init 71 = .ok (.aload_n 0, 1) := by decide +kernel
theorem dX12_init_72 : decode cX12_init 72 = .ok (.bipush 10, 2) := by decide +kernel
theorem dX12_init_74 : decode cX12_init 74 = .ok (.newarray .int, 2) := by decide +kernel
theorem dX12_init_76 : decode cX12_init 76 = .ok (.putfield 36, 3) := by decide +kernel
theorem dX12_init_79 : decode cX12_init 79 = .ok (.aload_n 0, 1) := by decide +kernel
theorem dX12_init_80 : decode cX12_init 80 = .ok (.bipush 10, 2) := by decide +kernel
theorem dX12_init_82 : decode cX12_init 82 = .ok (.newarray .int, 2) := by decide +kernel
theorem dX12_init_84 : decode cX12_init 84 = .ok (.putfield 39, 3) := by decide +kernel
theorem dX12_init_87 : decode cX12_init 87 = .ok (.aload_n 0, 1) := by decide +kernel
theorem dX12_init_88 : decode cX12_init 88 = .ok (.bipush 10, 2) := by decide +kernel
theorem dX12_init_90 : decode cX12_init 90 = .ok (.newarray .int, 2) := by decide +kernel
theorem dX12_init_92 : decode cX12_init 92 = .ok (.putfield 42, 3) := by decide +kernel
theorem dX12_init_95 : decode cX12_init 95 = .ok (.aload_n 0, 1) := by decide +kernel
theorem dX12_init_96 : decode cX12_init 96 = .ok (.bipush 10, 2) := by decide +kernel
theorem dX12_init_98 : decode cX12_init 98 = .ok (.newarray .int, 2) := by decide +kernel
theorem dX12_init_100 : decode cX12_init 100 = .ok (.putfield 45, 3) := by decide +kernel
theorem dX12_init_103 : decode cX12_init 103 = .ok (.aload_n 0, 1) := by decide +kernel
theorem dX12_init_104 : decode cX12_init 104 = .ok (.bipush 10, 2) := by decide +kernel
theorem dX12_init_106 : decode cX12_init 106 = .ok (.newarray .int, 2) := by decide +kernel
theorem dX12_init_108 : decode cX12_init 108 = .ok (.putfield 48, 3) := by decide +kernel
theorem dX12_init_111 : decode cX12_init 111 = .ok (.aload_n 0, 1) := by decide +kernel
theorem dX12_init_112 : decode cX12_init 112 = .ok (.bipush 10, 2) := by decide +kernel
theorem dX12_init_114 : decode cX12_init 114 = .ok (.newarray .int, 2) := by decide +kernel
theorem dX12_init_116 : decode cX12_init 116 = .ok (.putfield 51, 3) := by decide +kernel
theorem dX12_init_119 : decode cX12_init 119 = .ok (.aload_n 0, 1) := by decide +kernel
theorem dX12_init_120 : decode cX12_init 120 = .ok (.bipush 10, 2) := by decide +kernel
theorem dX12_init_122 : decode cX12_init 122 = .ok (.newarray .int, 2) := by decide +kernel
theorem dX12_init_124 : decode cX12_init 124 = .ok (.putfield 54, 3) := by decide +kernel
theorem dX12_init_127 : decode cX12_init 127 = .ok (.aload_n 0, 1) := by decide +kernel
theorem dX12_init_128 : decode cX12_init 128 = .ok (.bipush 10, 2) := by decide +kernel
theorem dX12_init_130 : decode cX12_init 130 = .ok (.newarray .int, 2) := by decide +kernel
theorem dX12_init_132 : decode cX12_init 132 = .ok (.putfield 57, 3) := by decide +kernel
theorem dX12_init_135 : decode cX12_init 135 = .ok (.aload_n 0, 1) := by decide +kernel
theorem dX12_init_136 : decode cX12_init 136 = .ok (.sipush 320, 3) := by decide +kernel
theorem dX12_init_139 : decode cX12_init 139 = .ok (.newarray .boolean, 2) := by decide +kernel
theorem dX12_init_141 : decode cX12_init 141 = .ok (.putfield 60, 3) := by decide +kernel
theorem dX12_init_144 : decode cX12_init 144 = .ok (.aload_n 0, 1) := by decide +kernel
theorem dX12_init_145 : decode cX12_init 145 = .ok (.sipush 256, 3) := by decide +kernel
theorem dX12_init_148 : decode cX12_init 148 = .ok (.newarray .long, 2) := by decide +kernel
theorem dX12_init_150 : decode cX12_init 150 = .ok (.putfield 63, 3) := by decide +kernel
theorem dX12_init_153 : decode cX12_init 153 = .ok (.aload_n 0, 1) := by decide +kernel
theorem dX12_init_154 : decode cX12_init 154 = .ok (.sipush 256, 3) := by decide +kernel
theorem dX12_init_157 : decode cX12_init 157 = .ok (.newarray .long, 2) := by decide +kernel
theorem dX12_init_159 : decode cX12_init 159 = .ok (.putfield 66, 3) := by decide +kernel
theorem dX12_init_162 : decode cX12_init 162 = .ok (.aload_n 0, 1) := by decide +kernel
theorem dX12_init_163 : decode cX12_init 163 = .ok (.bipush 8, 2) := by decide +kernel
theorem dX12_init_165 : decode cX12_init 165 = .ok (.newarray .int, 2) := by decide +kernel
theorem dX12_init_167 : decode cX12_init 167 = .ok (.putfield 69, 3) := by decide +kernel
theorem dX12_init_170 : decode cX12_init 170 = .ok (.aload_n 0, 1) := by decide +kernel
theorem dX12_init_171 : decode cX12_init 171 = .ok (.bipush 6, 2) := by decide +kernel
theorem dX12_init_173 : decode cX12_init 173 = .ok (.newarray .long, 2) := by decide +kernel
theorem dX12_init_175 : decode cX12_init 175 = .ok (.putfield 72, 3) := by decide +kernel
theorem dX12_init_178 : decode cX12_init 178 = .ok (.aload_n 0, 1) := by decide +kernel
theorem dX12_init_179 : decode cX12_init 179 = .ok (.bipush 6, 2) := by decide +kernel
theorem dX12_init_181 : decode cX12_init 181 = .ok (.newarray .int, 2) := by decide +kernel
theorem dX12_init_183 : decode cX12_init 183 = .ok (.putfield 75, 3) := by decide +kernel
theorem dX12_init_186 : decode cX12_init 186 = .ok (.aload_n 0, 1) := by decide +kernel
theorem dX12_init_187 : decode cX12_init 187 = .ok (.bipush 6, 2) := by decide +kernel
theorem dX12_init_189 : decode cX12_init 189 = .ok (.newarray .int, 2) := by decide +kernel
theorem dX12_init_191 : decode cX12_init 191 = .ok (.putfield 78, 3) := by decide +kernel
theorem dX12_init_194 : decode cX12_init 194 = .ok (.aload_n 0, 1) := by decide +kernel
theorem dX12_init_195 : decode cX12_init 195 = .ok (.bipush 6, 2) := by decide +kernel
theorem dX12_init_197 : decode cX12_init 197 = .ok (.newarray .int, 2) := by decide +kernel
theorem dX12_init_199 : decode cX12_init 199 = .ok (.putfield 81, 3) := by decide +kernel
theorem dX12_init_202 : decode cX12_init 202 = .ok (.aload_n 0, 1) := by decide +kernel
theorem dX12_init_203 : decode cX12_init 203 = .ok (.bipush 40, 2) := by decide +kernel
theorem dX12_init_205 : decode cX12_init 205 = .ok (.newarray .int, 2) := by decide +kernel
theorem dX12_init_207 : decode cX12_init 207 = .ok (.putfield 84, 3) := by decide +kernel
theorem dX12_init_210 : decode cX12_init 210 = .ok (.aload_n 0, 1) := by decide +kernel
theorem dX12_init_211 : decode cX12_init 211 = .ok (.bipush 36, 2) := by decide +kernel
theorem dX12_init_213 : decode cX12_init 213 = .ok (.newarray .int, 2) := by decide +kernel
theorem dX12_init_215 : decode cX12_init 215 = .ok (.putfield 87, 3) := by decide +kernel
theorem dX12_init_218 : decode cX12_init 218 = .ok (.aload_n 0, 1) := by decide +kernel
theorem dX12_init_219 : decode cX12_init 219 = .ok (.bipush 36, 2) := by decide +kernel
theorem dX12_init_221 : decode cX12_init 221 = .ok (.newarray .int, 2) := by decide +kernel
theorem dX12_init_223 : decode cX12_init 223 = .ok (.putfield 90, 3) := by decide +kernel
theorem dX12_init_226 : decode cX12_init 226 = .ok (.aload_n 0, 1) := by decide +kernel
theorem dX12_init_227 : decode cX12_init 227 = .ok (.bipush 12, 2) := by decide +kernel
theorem dX12_init_229 : decode cX12_init 229 = .ok (.newarray .int, 2) := by decide +kernel
theorem dX12_init_231 : decode cX12_init 231 = .ok (.putfield 93, 3) := by decide +kernel
theorem dX12_init_234 : decode cX12_init 234 = .ok (.aload_n 0, 1) := by decide +kernel
theorem dX12_init_235 : decode cX12_init 235 = .ok (.bipush 12, 2) := by decide +kernel
theorem dX12_init_237 : decode cX12_init 237 = .ok (.newarray .int, 2) := by decide +kernel
theorem dX12_init_239 : decode cX12_init 239 = .ok (.putfield 96, 3) := by decide +kernel
theorem dX12_init_242 : decode cX12_init 242 = .ok (.aload_n 0, 1) := by decide +kernel
theorem dX12_init_243 : decode cX12_init 243 = .ok (.sipush 4608, 3) := by decide +kernel
theorem dX12_init_246 : decode cX12_init 246 = .ok (.newarray .int, 2) := by decide +kernel
theorem dX12_init_248 : decode cX12_init 248 = .ok (.putfield 99, 3) := by decide +kernel
theorem dX12_init_251 : decode cX12_init 251 = .ok (.aload_n 0, 1) := by decide +kernel
theorem dX12_init_252 : decode cX12_init 252 = .ok (.bipush 9, 2) := by decide +kernel
theorem dX12_init_254 : decode cX12_init 254 = .ok (.newarray .int, 2) := by decide +kernel
theorem dX12_init_256 : decode cX12_init 256 = .ok (.putfield 102, 3) := by decide +kernel
theorem dX12_init_259 : decode cX12_init 259 = .ok (.aload_n 0, 1) := by decide +kernel
theorem dX12_init_260 : decode cX12_init 260 = .ok (.bipush 9, 2) := by decide +kernel
theorem dX12_init_262 : decode cX12_init 262 = .ok (.newarray .int, 2) := by decide +kernel
theorem dX12_init_264 : decode cX12_init 264 = .ok (.putfield 105, 3) := by decide +kernel
theorem dX12_init_267 : decode cX12_init 267 = .ok (.aload_n 0, 1) := by decide +kernel
theorem dX12_init_268 : decode cX12_init 268 = .ok (.sipush 240, 3) := by decide +kernel
theorem dX12_init_271 : decode cX12_init 271 = .ok (.newarray .int, 2) := by decide +kernel
theorem dX12_init_273 : decode cX12_init 273 = .ok (.putfield 108, 3) := by decide +kernel
theorem dX12_init_276 : decode cX12_init 276 = .ok (.return_, 1) := by decide +kernel
theorem dX12_thrown_0 : decode cX12_thrown 0 = .ok (.aload_n 0, 1) := by decide +kernel
theorem dX12_thrown_1 : decode cX12_thrown 1 = .ok (.getfield 111, 3) := by decide +kernel
theorem dX12_thrown_4 : decode cX12_thrown 4 = .ok (.ireturn, 1) := by decide +kernel
theorem dX12_refuse_0 : decode cX12_refuse 0 = .ok (.aload_n 0, 1) := by decide +kernel
theorem dX12_refuse_1 : decode cX12_refuse 1 = .ok (.iconst 1, 1) := by decide +kernel
theorem dX12_refuse_2 : decode cX12_refuse 2 = .ok (.putfield 111, 3) := by decide +kernel
theorem dX12_refuse_5 : decode cX12_refuse 5 = .ok (.iconst 0, 1) := by decide +kernel
theorem dX12_refuse_6 : decode cX12_refuse 6 = .ok (.ireturn, 1) := by decide +kernel
theorem dX12_come_0 : decode cX12_come 0 = .ok (.bipush 24, 2) := by decide +kernel
theorem dX12_come_2 : decode cX12_come 2 = .ok (.istore_n 2, 1) := by decide +kernel
theorem dX12_come_3 : decode cX12_come 3 = .ok (.iload_n 2, 1) := by decide +kernel
theorem dX12_come_4 : decode cX12_come 4 = .ok (.ifCond .lt 35, 3) := by decide +kernel
theorem dX12_come_7 : decode cX12_come 7 = .ok (.aload_n 0, 1) := by decide +kernel
theorem dX12_come_8 : decode cX12_come 8 = .ok (.getfield 7, 3) := by decide +kernel
theorem dX12_come_11 : decode cX12_come 11 = .ok (.aload_n 0, 1) := by decide +kernel
theorem dX12_come_12 : decode cX12_come 12 = .ok (.getfield 115, 3) := by decide +kernel
theorem dX12_come_15 : decode cX12_come 15 = .ok (.iload_n 1, 1) := by decide +kernel
theorem dX12_come_16 : decode cX12_come 16 = .ok (.iload_n 2, 1) := by decide +kernel
theorem dX12_come_17 : decode cX12_come 17 = .ok (.iushr, 1) := by decide +kernel
theorem dX12_come_18 : decode cX12_come 18 = .ok (.sipush 255, 3) := by decide +kernel
theorem dX12_come_21 : decode cX12_come 21 = .ok (.iand, 1) := by decide +kernel
theorem dX12_come_22 : decode cX12_come 22 = .ok (.iastore, 1) := by decide +kernel
theorem dX12_come_23 : decode cX12_come 23 = .ok (.aload_n 0, 1) := by decide +kernel
theorem dX12_come_24 : decode cX12_come 24 = .ok (.dup, 1) := by decide +kernel
theorem dX12_come_25 : decode cX12_come 25 = .ok (.getfield 115, 3) := by decide +kernel
theorem dX12_come_28 : decode cX12_come 28 = .ok (.iconst 1, 1) := by decide +kernel
theorem dX12_come_29 : decode cX12_come 29 = .ok (.iadd, 1) := by decide +kernel
theorem dX12_come_30 : decode cX12_come 30 = .ok (.putfield 115, 3) := by decide +kernel
theorem dX12_come_33 : decode cX12_come 33 = .ok (.iinc 2 (-8), 3) := by decide +kernel
theorem dX12_come_36 : decode cX12_come 36 = .ok (.goto (-33), 3) := by decide +kernel
theorem dX12_come_39 : decode cX12_come 39 = .ok (.return_, 1) := by decide +kernel
theorem dX12_feed_0 : decode cX12_feed 0 = .ok (.aload_n 0, 1) := by decide +kernel
theorem dX12_feed_1 : decode cX12_feed 1 = .ok (.iconst 0, 1) := by decide +kernel
theorem dX12_feed_2 : decode cX12_feed 2 = .ok (.putfield 111, 3) := by decide +kernel
theorem dX12_feed_5 : decode cX12_feed 5 = .ok (.aload_n 0, 1) := by decide +kernel
theorem dX12_feed_6 : decode cX12_feed 6 = .ok (.getfield 115, 3) := by decide +kernel
theorem dX12_feed_9 : decode cX12_feed 9 = .ok (.bipush 20, 2) := by decide +kernel
theorem dX12_feed_11 : decode cX12_feed 11 = .ok (.iadd, 1) := by decide +kernel
theorem dX12_feed_12 : decode cX12_feed 12 = .ok (.sipush 940, 3) := by decide +kernel
theorem dX12_feed_15 : decode cX12_feed 15 = .ok (.if_icmp .le 5, 3) := by decide +kernel
theorem dX12_feed_18 : decode cX12_feed 18 = .ok (.iconst (-1), 1) := by decide +kernel
theorem dX12_feed_19 : decode cX12_feed 19 = .ok (.ireturn, 1) := by decide +kernel
theorem dX12_feed_20 : decode cX12_feed 20 = .ok (.aload_n 0, 1) := by decide +kernel
theorem dX12_feed_21 : decode cX12_feed 21 = .ok (.iload_n 1, 1) := by decide +kernel
theorem dX12_feed_22 : decode cX12_feed 22 = .ok (.invokevirtual 118, 3) := by decide +kernel
theorem dX12_feed_25 : decode cX12_feed 25 = .ok (.aload_n 0, 1) := by decide +kernel
theorem dX12_feed_26 : decode cX12_feed 26 = .ok (.iload_n 2, 1) := by decide +kernel
theorem dX12_feed_27 : decode cX12_feed 27 = .ok (.invokevirtual 118, 3) := by decide +kernel
theorem dX12_feed_30 : decode cX12_feed 30 = .ok (.aload_n 0, 1) := by decide +kernel
theorem dX12_feed_31 : decode cX12_feed 31 = .ok (.iload_n 3, 1) := by decide +kernel
theorem dX12_feed_32 : decode cX12_feed 32 = .ok (.invokevirtual 118, 3) := by decide +kernel
theorem dX12_feed_35 : decode cX12_feed 35 = .ok (.aload_n 0, 1) := by decide +kernel
theorem dX12_feed_36 : decode cX12_feed 36 = .ok (.iload 4, 2) := by decide +kernel
theorem dX12_feed_38 : decode cX12_feed 38 = .ok (.invokevirtual 118, 3) := by decide +kernel
theorem dX12_feed_41 : decode cX12_feed 41 = .ok (.aload_n 0, 1) := by decide +kernel
theorem dX12_feed_42 : decode cX12_feed 42 = .ok (.iload 5, 2) := by decide +kernel
theorem dX12_feed_44 : decode cX12_feed 44 = .ok (.invokevirtual 118, 3) := by decide +kernel
theorem dX12_feed_47 : decode cX12_feed 47 = .ok (.aload_n 0, 1) := by decide +kernel
theorem dX12_feed_48 : decode cX12_feed 48 = .ok (.getfield 115, 3) := by decide +kernel
theorem dX12_feed_51 : decode cX12_feed 51 = .ok (.ireturn, 1) := by decide +kernel
theorem dX12_end_0 : decode cX12_end 0 = .ok (.aload_n 0, 1) := by decide +kernel
theorem dX12_end_1 : decode cX12_end 1 = .ok (.iconst 0, 1) := by decide +kernel
theorem dX12_end_2 : decode cX12_end 2 = .ok (.putfield 111, 3) := by decide +kernel
theorem dX12_end_5 : decode cX12_end 5 = .ok (.iload_n 1, 1) := by decide +kernel
theorem dX12_end_6 : decode cX12_end 6 = .ok (.ifCond .lt 11, 3) := by decide +kernel
theorem dX12_end_9 : decode cX12_end 9 = .ok (.iload_n 1, 1) := by decide +kernel
theorem dX12_end_10 : decode cX12_end 10 = .ok (.aload_n 0, 1) := by decide +kernel
theorem dX12_end_11 : decode cX12_end 11 = .ok (.getfield 115, 3) := by decide +kernel
theorem dX12_end_14 : decode cX12_end 14 = .ok (.if_icmp .le 5, 3) := by decide +kernel
theorem dX12_end_17 : decode cX12_end 17 = .ok (.iconst 0, 1) := by decide +kernel
theorem dX12_end_18 : decode cX12_end 18 = .ok (.ireturn, 1) := by decide +kernel
theorem dX12_end_19 : decode cX12_end 19 = .ok (.aload_n 0, 1) := by decide +kernel
theorem dX12_end_20 : decode cX12_end 20 = .ok (.iload_n 1, 1) := by decide +kernel
theorem dX12_end_21 : decode cX12_end 21 = .ok (.putfield 115, 3) := by decide +kernel
theorem dX12_end_24 : decode cX12_end 24 = .ok (.iconst 1, 1) := by decide +kernel
theorem dX12_end_25 : decode cX12_end 25 = .ok (.ireturn, 1) := by decide +kernel
theorem dX12_take_0 : decode cX12_take 0 = .ok (.aload_n 0, 1) := by decide +kernel
theorem dX12_take_1 : decode cX12_take 1 = .ok (.getfield 115, 3) := by decide +kernel
theorem dX12_take_4 : decode cX12_take 4 = .ok (.istore_n 1, 1) := by decide +kernel
theorem dX12_take_5 : decode cX12_take 5 = .ok (.aload_n 0, 1) := by decide +kernel
theorem dX12_take_6 : decode cX12_take 6 = .ok (.iconst 0, 1) := by decide +kernel
theorem dX12_take_7 : decode cX12_take 7 = .ok (.putfield 115, 3) := by decide +kernel
theorem dX12_take_10 : decode cX12_take 10 = .ok (.iload_n 1, 1) := by decide +kernel
theorem dX12_take_11 : decode cX12_take 11 = .ok (.ireturn, 1) := by decide +kernel
theorem dX12_isIn_0 : decode cX12_isIn 0 = .ok (.iload_n 0, 1) := by decide +kernel
theorem dX12_isIn_1 : decode cX12_isIn 1 = .ok (.iload_n 1, 1) := by decide +kernel
theorem dX12_isIn_2 : decode cX12_isIn 2 = .ok (.if_icmp .lt 12, 3) := by decide +kernel
theorem dX12_isIn_5 : decode cX12_isIn 5 = .ok (.iload_n 0, 1) := by decide +kernel
theorem dX12_isIn_6 : decode cX12_isIn 6 = .ok (.iload_n 2, 1) := by decide +kernel
theorem dX12_isIn_7 : decode cX12_isIn 7 = .ok (.if_icmp .gt 7, 3) := by decide +kernel
theorem dX12_isIn_10 : decode cX12_isIn 10 = .ok (.iconst 1, 1) := by decide +kernel
theorem dX12_isIn_11 : decode cX12_isIn 11 = .ok (.goto 4, 3) := by decide +kernel
theorem dX12_isIn_14 : decode cX12_isIn 14 = .ok (.iconst 0, 1) := by decide +kernel
theorem dX12_isIn_15 : decode cX12_isIn 15 = .ok (.ireturn, 1) := by decide +kernel
theorem dX12_has_0 : decode cX12_has 0 = .ok (.iload_n 0, 1) := by decide +kernel
theorem dX12_has_1 : decode cX12_has 1 = .ok (.iload_n 1, 1) := by decide +kernel
theorem dX12_has_2 : decode cX12_has 2 = .ok (.ishr, 1) := by decide +kernel
theorem dX12_has_3 : decode cX12_has 3 = .ok (.iconst 1, 1) := by decide +kernel
theorem dX12_has_4 : decode cX12_has 4 = .ok (.iand, 1) := by decide +kernel
theorem dX12_has_5 : decode cX12_has 5 = .ok (.iconst 1, 1) := by decide +kernel
theorem dX12_has_6 : decode cX12_has 6 = .ok (.if_icmp .ne 7, 3) := by decide +kernel
theorem dX12_has_9 : decode cX12_has 9 = .ok (.iconst 1, 1) := by decide +kernel
theorem dX12_has_10 : decode cX12_has 10 = .ok (.goto 4, 3) := by decide +kernel
theorem dX12_has_13 : decode cX12_has 13 = .ok (.iconst 0, 1) := by decide +kernel
theorem dX12_has_14 : decode cX12_has 14 = .ok (.ireturn, 1) := by decide +kernel
theorem dX12_byteAt_0 : decode cX12_byteAt 0 = .ok (.iload_n 1, 1) := by decide +kernel
theorem dX12_byteAt_1 : decode cX12_byteAt 1 = .ok (.aload_n 0, 1) := by decide +kernel
theorem dX12_byteAt_2 : decode cX12_byteAt 2 = .ok (.getfield 122, 3) := by decide +kernel
theorem dX12_byteAt_5 : decode cX12_byteAt 5 = .ok (.if_icmp .ge 12, 3) := by decide +kernel
theorem dX12_byteAt_8 : decode cX12_byteAt 8 = .ok (.aload_n 0, 1) := by decide +kernel
theorem dX12_byteAt_9 : decode cX12_byteAt 9 = .ok (.getfield 7, 3) := by decide +kernel
theorem dX12_byteAt_12 : decode cX12_byteAt 12 = .ok (.iload_n 1, 1) := by decide +kernel
theorem dX12_byteAt_13 : decode cX12_byteAt 13 = .ok (.iaload, 1) := by decide +kernel
theorem dX12_byteAt_14 : decode cX12_byteAt 14 = .ok (.goto 4, 3) := by decide +kernel
theorem dX12_byteAt_17 : decode cX12_byteAt 17 = .ok (.iconst 0, 1) := by decide +kernel
theorem dX12_byteAt_18 : decode cX12_byteAt 18 = .ok (.ireturn, 1) := by decide +kernel
theorem dX12_isDigit_0 : decode cX12_isDigit 0 = .ok (.iload_n 0, 1) := by decide +kernel
theorem dX12_isDigit_1 : decode cX12_isDigit 1 = .ok (.bipush 48, 2) := by decide +kernel
theorem dX12_isDigit_3 : decode cX12_isDigit 3 = .ok (.if_icmp .lt 13, 3) := by decide +kernel
theorem dX12_isDigit_6 : decode cX12_isDigit 6 = .ok (.iload_n 0, 1) := by decide +kernel
theorem dX12_isDigit_7 : decode cX12_isDigit 7 = .ok (.bipush 57, 2) := by decide +kernel
theorem dX12_isDigit_9 : decode cX12_isDigit 9 = .ok (.if_icmp .gt 7, 3) := by decide +kernel
theorem dX12_isDigit_12 : decode cX12_isDigit 12 = .ok (.iconst 1, 1) := by decide +kernel
theorem dX12_isDigit_13 : decode cX12_isDigit 13 = .ok (.goto 4, 3) := by decide +kernel
theorem dX12_isDigit_16 : decode cX12_isDigit 16 = .ok (.iconst 0, 1) := by decide +kernel
theorem dX12_isDigit_17 : decode cX12_isDigit 17 = .ok (.ireturn, 1) := by decide +kernel
theorem dX12_isLetter_0 : decode cX12_isLetter 0 = .ok (.iload_n 0, 1) := by decide +kernel
theorem dX12_isLetter_1 : decode cX12_isLetter 1 = .ok (.bipush 97, 2) := by decide +kernel
theorem dX12_isLetter_3 : decode cX12_isLetter 3 = .ok (.if_icmp .lt 13, 3) := by decide +kernel
theorem dX12_isLetter_6 : decode cX12_isLetter 6 = .ok (.iload_n 0, 1) := by decide +kernel
theorem dX12_isLetter_7 : decode cX12_isLetter 7 = .ok (.bipush 122, 2) := by decide +kernel
theorem dX12_isLetter_9 : decode cX12_isLetter 9 = .ok (.if_icmp .gt 7, 3) := by decide +kernel
theorem dX12_isLetter_12 : decode cX12_isLetter 12 = .ok (.iconst 1, 1) := by decide +kernel
theorem dX12_isLetter_13 : decode cX12_isLetter 13 = .ok (.goto 4, 3) := by decide +kernel
theorem dX12_isLetter_16 : decode cX12_isLetter 16 = .ok (.iconst 0, 1) := by decide +kernel
theorem dX12_isLetter_17 : decode cX12_isLetter 17 = .ok (.ireturn, 1) := by decide +kernel
theorem dX12_go_0 : decode cX12_go 0 = .ok (.aload_n 0, 1) := by decide +kernel
theorem dX12_go_1 : decode cX12_go 1 = .ok (.getfield 125, 3) := by decide +kernel
theorem dX12_go_4 : decode cX12_go 4 = .ok (.aload_n 0, 1) := by decide +kernel
theorem dX12_go_5 : decode cX12_go 5 = .ok (.getfield 122, 3) := by decide +kernel
theorem dX12_go_8 : decode cX12_go 8 = .ok (.if_icmp .ge 44, 3) := by decide +kernel
theorem dX12_go_11 : decode cX12_go 11 = .ok (.aload_n 0, 1) := by decide +kernel
theorem dX12_go_12 : decode cX12_go 12 = .ok (.getfield 7, 3) := by decide +kernel
theorem dX12_go_15 : decode cX12_go 15 = .ok (.aload_n 0, 1) := by decide +kernel
theorem dX12_go_16 : decode cX12_go 16 = .ok (.getfield 125, 3) := by decide +kernel
theorem dX12_go_19 : decode cX12_go 19 = .ok (.iaload, 1) := by decide +kernel
theorem dX12_go_20 : decode cX12_go 20 = .ok (.bipush 32, 2) := by decide +kernel
theorem dX12_go_22 : decode cX12_go 22 = .ok (.if_icmp .eq 17, 3) := by decide +kernel
theorem dX12_go_25 : decode cX12_go 25 = .ok (.aload_n 0, 1) := by decide +kernel
theorem dX12_go_26 : decode cX12_go 26 = .ok (.getfield 7, 3) := by decide +kernel
theorem dX12_go_29 : decode cX12_go 29 = .ok (.aload_n 0, 1) := by decide +kernel
theorem dX12_go_30 : decode cX12_go 30 = .ok (.getfield 125, 3) := by decide +kernel
theorem dX12_go_33 : decode cX12_go 33 = .ok (.iaload, 1) := by decide +kernel
theorem dX12_go_34 : decode cX12_go 34 = .ok (.bipush 10, 2) := by decide +kernel
theorem dX12_go_36 : decode cX12_go 36 = .ok (.if_icmp .ne 16, 3) := by decide +kernel
theorem dX12_go_39 : decode cX12_go 39 = .ok (.aload_n 0, 1) := by decide +kernel
theorem dX12_go_40 : decode cX12_go 40 = .ok (.dup, 1) := by decide +kernel
theorem dX12_go_41 : decode cX12_go 41 = .ok (.getfield 125, 3) := by decide +kernel
theorem dX12_go_44 : decode cX12_go 44 = .ok (.iconst 1, 1) := by decide +kernel
theorem dX12_go_45 : decode cX12_go 45 = .ok (.iadd, 1) := by decide +kernel
theorem dX12_go_46 : decode cX12_go 46 = .ok (.putfield 125, 3) := by decide +kernel
theorem dX12_go_49 : decode cX12_go 49 = .ok (.goto (-49), 3) := by decide +kernel
theorem dX12_go_52 : decode cX12_go 52 = .ok (.aload_n 0, 1) := by decide +kernel
theorem dX12_go_53 : decode cX12_go 53 = .ok (.aload_n 0, 1) := by decide +kernel
theorem dX12_go_54 : decode cX12_go 54 = .ok (.getfield 125, 3) := by decide +kernel
theorem dX12_go_57 : decode cX12_go 57 = .ok (.putfield 128, 3) := by decide +kernel
theorem dX12_go_60 : decode cX12_go 60 = .ok (.aload_n 0, 1) := by decide +kernel
theorem dX12_go_61 : decode cX12_go 61 = .ok (.getfield 122, 3) := by decide +kernel
theorem dX12_go_64 : decode cX12_go 64 = .ok (.aload_n 0, 1) := by decide +kernel
theorem dX12_go_65 : decode cX12_go 65 = .ok (.getfield 131, 3) := by decide +kernel
theorem dX12_go_68 : decode cX12_go 68 = .ok (.if_icmp .le 28, 3) := by decide +kernel
theorem dX12_go_71 : decode cX12_go 71 = .ok (.aload_n 0, 1) := by decide +kernel
theorem dX12_go_72 : decode cX12_go 72 = .ok (.getfield 128, 3) := by decide +kernel
theorem dX12_go_75 : decode cX12_go 75 = .ok (.aload_n 0, 1) := by decide +kernel
theorem dX12_go_76 : decode cX12_go 76 = .ok (.getfield 131, 3) := by decide +kernel
theorem dX12_go_79 : decode cX12_go 79 = .ok (.if_icmp .lt 17, 3) := by decide +kernel
theorem dX12_go_82 : decode cX12_go 82 = .ok (.aload_n 0, 1) := by decide +kernel
theorem dX12_go_83 : decode cX12_go 83 = .ok (.aload_n 0, 1) := by decide +kernel
theorem dX12_go_84 : decode cX12_go 84 = .ok (.getfield 131, 3) := by decide +kernel
theorem dX12_go_87 : decode cX12_go 87 = .ok (.putfield 128, 3) := by decide +kernel
theorem dX12_go_90 : decode cX12_go 90 = .ok (.aload_n 0, 1) := by decide +kernel
theorem dX12_go_91 : decode cX12_go 91 = .ok (.iconst 1, 1) := by decide +kernel
theorem dX12_go_92 : decode cX12_go 92 = .ok (.putfield 134, 3) := by decide +kernel
theorem dX12_go_95 : decode cX12_go 95 = .ok (.return_, 1) := by decide +kernel
theorem dX12_go_96 : decode cX12_go 96 = .ok (.aload_n 0, 1) := by decide +kernel
theorem dX12_go_97 : decode cX12_go 97 = .ok (.getfield 125, 3) := by decide +kernel
theorem dX12_go_100 : decode cX12_go 100 = .ok (.aload_n 0, 1) := by decide +kernel
theorem dX12_go_101 : decode cX12_go 101 = .ok (.getfield 122, 3) := by decide +kernel
theorem dX12_go_104 : decode cX12_go 104 = .ok (.if_icmp .lt 9, 3) := by decide +kernel
theorem dX12_go_107 : decode cX12_go 107 = .ok (.aload_n 0, 1) := by decide +kernel
theorem dX12_go_108 : decode cX12_go 108 = .ok (.iconst 0, 1) := by decide +kernel
theorem dX12_go_109 : decode cX12_go 109 = .ok (.putfield 134, 3) := by decide +kernel
theorem dX12_go_112 : decode cX12_go 112 = .ok (.return_, 1) := by decide +kernel
theorem dX12_go_113 : decode cX12_go 113 = .ok (.aload_n 0, 1) := by decide +kernel
theorem dX12_go_114 : decode cX12_go 114 = .ok (.getfield 7, 3) := by decide +kernel
theorem dX12_go_117 : decode cX12_go 117 = .ok (.aload_n 0, 1) := by decide +kernel
theorem dX12_go_118 : decode cX12_go 118 = .ok (.getfield 125, 3) := by decide +kernel
theorem dX12_go_121 : decode cX12_go 121 = .ok (.iaload, 1) := by decide +kernel
theorem dX12_go_122 : decode cX12_go 122 = .ok (.istore_n 1, 1) := by decide +kernel
theorem dX12_go_123 : decode cX12_go 123 = .ok (.iload_n 1, 1) := by decide +kernel
theorem dX12_go_124 : decode cX12_go 124 = .ok (.invokestatic 137, 3) := by decide +kernel
theorem dX12_go_127 : decode cX12_go 127 = .ok (.ifCond .ne 71, 3) := by decide +kernel
theorem dX12_go_130 : decode cX12_go 130 = .ok (.iload_n 1, 1) := by decide +kernel
theorem dX12_go_131 : decode cX12_go 131 = .ok (.invokestatic 141, 3) := by decide +kernel
theorem dX12_go_134 : decode cX12_go 134 = .ok (.ifCond .ne 64, 3) := by decide +kernel
theorem dX12_go_137 : decode cX12_go 137 = .ok (.aload_n 0, 1) := by decide +kernel
theorem dX12_go_138 : decode cX12_go 138 = .ok (.iload_n 1, 1) := by decide +kernel
theorem dX12_go_139 : decode cX12_go 139 = .ok (.bipush 59, 2) := by decide +kernel
theorem dX12_go_141 : decode cX12_go 141 = .ok (.if_icmp .eq 33, 3) := by decide +kernel
theorem dX12_go_144 : decode cX12_go 144 = .ok (.iload_n 1, 1) := by decide +kernel
theorem dX12_go_145 : decode cX12_go 145 = .ok (.bipush 40, 2) := by decide +kernel
theorem dX12_go_147 : decode cX12_go 147 = .ok (.if_icmp .eq 27, 3) := by decide +kernel
theorem dX12_go_150 : decode cX12_go 150 = .ok (.iload_n 1, 1) := by decide +kernel
theorem dX12_go_151 : decode cX12_go 151 = .ok (.bipush 41, 2) := by decide +kernel
theorem dX12_go_153 : decode cX12_go 153 = .ok (.if_icmp .eq 21, 3) := by decide +kernel
theorem dX12_go_156 : decode cX12_go 156 = .ok (.iload_n 1, 1) := by decide +kernel
theorem dX12_go_157 : decode cX12_go 157 = .ok (.bipush 60, 2) := by decide +kernel
theorem dX12_go_159 : decode cX12_go 159 = .ok (.if_icmp .eq 15, 3) := by decide +kernel
theorem dX12_go_162 : decode cX12_go 162 = .ok (.iload_n 1, 1) := by decide +kernel
theorem dX12_go_163 : decode cX12_go 163 = .ok (.bipush 61, 2) := by decide +kernel
theorem dX12_go_165 : decode cX12_go 165 = .ok (.if_icmp .eq 9, 3) := by decide +kernel
theorem dX12_go_168 : decode cX12_go 168 = .ok (.iload_n 1, 1) := by decide +kernel
theorem dX12_go_169 : decode cX12_go 169 = .ok (.bipush 62, 2) := by decide +kernel
theorem dX12_go_171 : decode cX12_go 171 = .ok (.if_icmp .ne 7, 3) := by decide +kernel
theorem dX12_go_174 : decode cX12_go 174 = .ok (.iconst 4, 1) := by decide +kernel
theorem dX12_go_175 : decode cX12_go 175 = .ok (.goto 4, 3) := by decide +kernel
theorem dX12_go_178 : decode cX12_go 178 = .ok (.iconst 1, 1) := by decide +kernel
theorem dX12_go_179 : decode cX12_go 179 = .ok (.putfield 134, 3) := by decide +kernel
theorem dX12_go_182 : decode cX12_go 182 = .ok (.aload_n 0, 1) := by decide +kernel
theorem dX12_go_183 : decode cX12_go 183 = .ok (.iload_n 1, 1) := by decide +kernel
theorem dX12_go_184 : decode cX12_go 184 = .ok (.putfield 144, 3) := by decide +kernel
theorem dX12_go_187 : decode cX12_go 187 = .ok (.aload_n 0, 1) := by decide +kernel
theorem dX12_go_188 : decode cX12_go 188 = .ok (.dup, 1) := by decide +kernel
theorem dX12_go_189 : decode cX12_go 189 = .ok (.getfield 125, 3) := by decide +kernel
theorem dX12_go_192 : decode cX12_go 192 = .ok (.iconst 1, 1) := by decide +kernel
theorem dX12_go_193 : decode cX12_go 193 = .ok (.iadd, 1) := by decide +kernel
theorem dX12_go_194 : decode cX12_go 194 = .ok (.putfield 125, 3) := by decide +kernel
theorem dX12_go_197 : decode cX12_go 197 = .ok (.return_, 1) := by decide +kernel
theorem dX12_go_198 : decode cX12_go 198 = .ok (.iload_n 1, 1) := by decide +kernel
theorem dX12_go_199 : decode cX12_go 199 = .ok (.invokestatic 137, 3) := by decide +kernel
theorem dX12_go_202 : decode cX12_go 202 = .ok (.istore_n 2, 1) := by decide +kernel
theorem dX12_go_203 : decode cX12_go 203 = .ok (.iconst 1, 1) := by decide +kernel
theorem dX12_go_204 : decode cX12_go 204 = .ok (.istore_n 3, 1) := by decide +kernel
theorem dX12_go_205 : decode cX12_go 205 = .ok (.aload_n 0, 1) := by decide +kernel
theorem dX12_go_206 : decode cX12_go 206 = .ok (.lconst 0, 1) := by decide +kernel
theorem dX12_go_207 : decode cX12_go 207 = .ok (.putfield 147, 3) := by decide +kernel
theorem dX12_go_210 : decode cX12_go 210 = .ok (.aload_n 0, 1) := by decide +kernel
theorem dX12_go_211 : decode cX12_go 211 = .ok (.iconst 0, 1) := by decide +kernel
theorem dX12_go_212 : decode cX12_go 212 = .ok (.putfield 151, 3) := by decide +kernel
theorem dX12_go_215 : decode cX12_go 215 = .ok (.aload_n 0, 1) := by decide +kernel
theorem dX12_go_216 : decode cX12_go 216 = .ok (.aload_n 0, 1) := by decide +kernel
theorem dX12_go_217 : decode cX12_go 217 = .ok (.getfield 125, 3) := by decide +kernel
theorem dX12_go_220 : decode cX12_go 220 = .ok (.invokevirtual 154, 3) := by decide +kernel
theorem dX12_go_223 : decode cX12_go 223 = .ok (.invokestatic 137, 3) := by decide +kernel
theorem dX12_go_226 : decode cX12_go 226 = .ok (.ifCond .ne 17, 3) := by decide +kernel
theorem dX12_go_229 : decode cX12_go 229 = .ok (.aload_n 0, 1) := by decide +kernel
theorem dX12_go_230 : decode cX12_go 230 = .ok (.aload_n 0, 1) := by decide +kernel
theorem dX12_go_231 : decode cX12_go 231 = .ok (.getfield 125, 3) := by decide +kernel
theorem dX12_go_234 : decode cX12_go 234 = .ok (.invokevirtual 154, 3) := by decide +kernel
theorem dX12_go_237 : decode cX12_go 237 = .ok (.invokestatic 141, 3) := by decide +kernel
theorem dX12_go_240 : decode cX12_go 240 = .ok (.ifCond .eq 110, 3) := by decide +kernel
theorem dX12_go_243 : decode cX12_go 243 = .ok (.aload_n 0, 1) := by decide +kernel
theorem dX12_go_244 : decode cX12_go 244 = .ok (.getfield 7, 3) := by decide +kernel
theorem dX12_go_247 : decode cX12_go 247 = .ok (.aload_n 0, 1) := by decide +kernel
theorem dX12_go_248 : decode cX12_go 248 = .ok (.getfield 125, 3) := by decide +kernel
theorem dX12_go_251 : decode cX12_go 251 = .ok (.iaload, 1) := by decide +kernel
theorem dX12_go_252 : decode cX12_go 252 = .ok (.istore 4, 2) := by decide +kernel
theorem dX12_go_254 : decode cX12_go 254 = .ok (.iload_n 3, 1) := by decide +kernel
theorem dX12_go_255 : decode cX12_go 255 = .ok (.ifCond .eq 16, 3) := by decide +kernel
theorem dX12_go_258 : decode cX12_go 258 = .ok (.iload 4, 2) := by decide +kernel
theorem dX12_go_260 : decode cX12_go 260 = .ok (.invokestatic 137, 3) := by decide +kernel
theorem dX12_go_263 : decode cX12_go 263 = .ok (.iload_n 2, 1) := by decide +kernel
theorem dX12_go_264 : decode cX12_go 264 = .ok (.if_icmp .ne 7, 3) := by decide +kernel
theorem dX12_go_267 : decode cX12_go 267 = .ok (.iconst 1, 1) := by decide +kernel
theorem dX12_go_268 : decode cX12_go 268 = .ok (.goto 4, 3) := by decide +kernel
theorem dX12_go_271 : decode cX12_go 271 = .ok (.iconst 0, 1) := by decide +kernel
theorem dX12_go_272 : decode cX12_go 272 = .ok (.istore_n 3, 1) := by decide +kernel
theorem dX12_go_273 : decode cX12_go 273 = .ok (.aload_n 0, 1) := by decide +kernel
theorem dX12_go_274 : decode cX12_go 274 = .ok (.getfield 125, 3) := by decide +kernel
theorem dX12_go_277 : decode cX12_go 277 = .ok (.aload_n 0, 1) := by decide +kernel
theorem dX12_go_278 : decode cX12_go 278 = .ok (.getfield 128, 3) := by decide +kernel
theorem dX12_go_281 : decode cX12_go 281 = .ok (.isub, 1) := by decide +kernel
theorem dX12_go_282 : decode cX12_go 282 = .ok (.bipush 7, 2) := by decide +kernel
theorem dX12_go_284 : decode cX12_go 284 = .ok (.if_icmp .ge 23, 3) := by decide +kernel
theorem dX12_go_287 : decode cX12_go 287 = .ok (.aload_n 0, 1) := by decide +kernel
theorem dX12_go_288 : decode cX12_go 288 = .ok (.ldc2_w 158, 3) := by decide +kernel
theorem dX12_go_291 : decode cX12_go 291 = .ok (.aload_n 0, 1) := by decide +kernel
theorem dX12_go_292 : decode cX12_go 292 = .ok (.getfield 147, 3) := by decide +kernel
theorem dX12_go_295 : decode cX12_go 295 = .ok (.lmul, 1) := by decide +kernel
theorem dX12_go_296 : decode cX12_go 296 = .ok (.iload 4, 2) := by decide +kernel
theorem dX12_go_298 : decode cX12_go 298 = .ok (.i2l, 1) := by decide +kernel
theorem dX12_go_299 : decode cX12_go 299 = .ok (.ladd, 1) := by decide +kernel
theorem dX12_go_300 : decode cX12_go 300 = .ok (.ldc2_w 160, 3) := by decide +kernel
theorem dX12_go_303 : decode cX12_go 303 = .ok (.lsub, 1) := by decide +kernel
theorem dX12_go_304 : decode cX12_go 304 = .ok (.putfield 147, 3) := by decide +kernel
theorem dX12_go_307 : decode cX12_go 307 = .ok (.aload_n 0, 1) := by decide +kernel
theorem dX12_go_308 : decode cX12_go 308 = .ok (.getfield 125, 3) := by decide +kernel
theorem dX12_go_311 : decode cX12_go 311 = .ok (.aload_n 0, 1) := by decide +kernel
theorem dX12_go_312 : decode cX12_go 312 = .ok (.getfield 128, 3) := by decide +kernel
theorem dX12_go_315 : decode cX12_go 315 = .ok (.isub, 1) := by decide +kernel
theorem dX12_go_316 : decode cX12_go 316 = .ok (.iconst 3, 1) := by decide +kernel
theorem dX12_go_317 : decode cX12_go 317 = .ok (.if_icmp .ge 20, 3) := by decide +kernel
theorem dX12_go_320 : decode cX12_go 320 = .ok (.aload_n 0, 1) := by decide +kernel
theorem dX12_go_321 : decode cX12_go 321 = .ok (.bipush 10, 2) := by decide +kernel
theorem dX12_go_323 : decode cX12_go 323 = .ok (.aload_n 0, 1) := by decide +kernel
theorem dX12_go_324 : decode cX12_go 324 = .ok (.getfield 151, 3) := by decide +kernel
theorem dX12_go_327 : decode cX12_go 327 = .ok (.imul, 1) := by decide +kernel
theorem dX12_go_328 : decode cX12_go 328 = .ok (.iload 4, 2) := by decide +kernel
theorem dX12_go_330 : decode cX12_go 330 = .ok (.iadd, 1) := by decide +kernel
theorem dX12_go_331 : decode cX12_go 331 = .ok (.bipush 48, 2) := by decide +kernel
theorem dX12_go_333 : decode cX12_go 333 = .ok (.isub, 1) := by decide +kernel
theorem dX12_go_334 : decode cX12_go 334 = .ok (.putfield 151, 3) := by decide +kernel
theorem dX12_go_337 : decode cX12_go 337 = .ok (.aload_n 0, 1) := by decide +kernel
theorem dX12_go_338 : decode cX12_go 338 = .ok (.dup, 1) := by decide +kernel
theorem dX12_go_339 : decode cX12_go 339 = .ok (.getfield 125, 3) := by decide +kernel
theorem dX12_go_342 : decode cX12_go 342 = .ok (.iconst 1, 1) := by decide +kernel
theorem dX12_go_343 : decode cX12_go 343 = .ok (.iadd, 1) := by decide +kernel
theorem dX12_go_344 : decode cX12_go 344 = .ok (.putfield 125, 3) := by decide +kernel
theorem dX12_go_347 : decode cX12_go 347 = .ok (.goto (-132), 3) := by decide +kernel
theorem dX12_go_350 : decode cX12_go 350 = .ok (.aload_n 0, 1) := by decide +kernel
theorem dX12_go_351 : decode cX12_go 351 = .ok (.iload_n 3, 1) := by decide +kernel
theorem dX12_go_352 : decode cX12_go 352 = .ok (.ifCond .eq 25, 3) := by decide +kernel
theorem dX12_go_355 : decode cX12_go 355 = .ok (.aload_n 0, 1) := by decide +kernel
theorem dX12_go_356 : decode cX12_go 356 = .ok (.getfield 125, 3) := by decide +kernel
theorem dX12_go_359 : decode cX12_go 359 = .ok (.aload_n 0, 1) := by decide +kernel
theorem dX12_go_360 : decode cX12_go 360 = .ok (.getfield 128, 3) := by decide +kernel
theorem dX12_go_363 : decode cX12_go 363 = .ok (.isub, 1) := by decide +kernel
theorem dX12_go_364 : decode cX12_go 364 = .ok (.iload_n 2, 1) := by decide +kernel
theorem dX12_go_365 : decode cX12_go 365 = .ok (.ifCond .eq 8, 3) := by decide +kernel
theorem dX12_go_368 : decode cX12_go 368 = .ok (.bipush 7, 2) := by decide +kernel
theorem dX12_go_370 : decode cX12_go 370 = .ok (.goto 4, 3) := by decide +kernel
theorem dX12_go_373 : decode cX12_go 373 = .ok (.iconst 3, 1) := by decide +kernel
theorem dX12_go_374 : decode cX12_go 374 = .ok (.if_icmp .le 7, 3) := by decide +kernel
theorem dX12_go_377 : decode cX12_go 377 = .ok (.iconst 1, 1) := by decide +kernel
theorem dX12_go_378 : decode cX12_go 378 = .ok (.goto 12, 3) := by decide +kernel
theorem dX12_go_381 : decode cX12_go 381 = .ok (.iload_n 2, 1) := by decide +kernel
theorem dX12_go_382 : decode cX12_go 382 = .ok (.ifCond .eq 7, 3) := by decide +kernel
theorem dX12_go_385 : decode cX12_go 385 = .ok (.iconst 2, 1) := by decide +kernel
theorem dX12_go_386 : decode cX12_go 386 = .ok (.goto 4, 3) := by decide +kernel
theorem dX12_go_389 : decode cX12_go 389 = .ok (.iconst 3, 1) := by decide +kernel
theorem dX12_go_390 : decode cX12_go 390 = .ok (.putfield 134, 3) := by decide +kernel
theorem dX12_go_393 : decode cX12_go 393 = .ok (.return_, 1) := by decide +kernel
theorem dX12_spelt_0 : decode cX12_spelt 0 = .ok (.ldc2_w 158, 3) := by decide +kernel
theorem dX12_spelt_3 : decode cX12_spelt 3 = .ok (.iload_n 0, 1) := by decide +kernel
theorem dX12_spelt_4 : decode cX12_spelt 4 = .ok (.i2l, 1) := by decide +kernel
theorem dX12_spelt_5 : decode cX12_spelt 5 = .ok (.ldc2_w 160, 3) := by decide +kernel
theorem dX12_spelt_8 : decode cX12_spelt 8 = .ok (.lsub, 1) := by decide +kernel
theorem dX12_spelt_9 : decode cX12_spelt 9 = .ok (.lmul, 1) := by decide +kernel
theorem dX12_spelt_10 : decode cX12_spelt 10 = .ok (.iload_n 1, 1) := by decide +kernel
theorem dX12_spelt_11 : decode cX12_spelt 11 = .ok (.i2l, 1) := by decide +kernel
theorem dX12_spelt_12 : decode cX12_spelt 12 = .ok (.ladd, 1) := by decide +kernel
theorem dX12_spelt_13 : decode cX12_spelt 13 = .ok (.ldc2_w 160, 3) := by decide +kernel
theorem dX12_spelt_16 : decode cX12_spelt 16 = .ok (.lsub, 1) := by decide +kernel
theorem dX12_spelt_17 : decode cX12_spelt 17 = .ok (.lstore 4, 2) := by decide +kernel
theorem dX12_spelt_19 : decode cX12_spelt 19 = .ok (.iload_n 2, 1) := by decide +kernel
theorem dX12_spelt_20 : decode cX12_spelt 20 = .ok (.ifCond .le 18, 3) := by decide +kernel
theorem dX12_spelt_23 : decode cX12_spelt 23 = .ok (.ldc2_w 158, 3) := by decide +kernel
theorem dX12_spelt_26 : decode cX12_spelt 26 = .ok (.lload 4, 2) := by decide +kernel
theorem dX12_spelt_28 : decode cX12_spelt 28 = .ok (.lmul, 1) := by decide +kernel
theorem dX12_spelt_29 : decode cX12_spelt 29 = .ok (.iload_n 2, 1) := by decide +kernel
theorem dX12_spelt_30 : decode cX12_spelt 30 = .ok (.i2l, 1) := by decide +kernel
theorem dX12_spelt_31 : decode cX12_spelt 31 = .ok (.ladd, 1) := by decide +kernel
theorem dX12_spelt_32 : decode cX12_spelt 32 = .ok (.ldc2_w 160, 3) := by decide +kernel
theorem dX12_spelt_35 : decode cX12_spelt 35 = .ok (.lsub, 1) := by decide +kernel
theorem dX12_spelt_36 : decode cX12_spelt 36 = .ok (.lstore 4, 2) := by decide +kernel
theorem dX12_spelt_38 : decode cX12_spelt 38 = .ok (.iload_n 3, 1) := by decide +kernel
theorem dX12_spelt_39 : decode cX12_spelt 39 = .ok (.ifCond .le 19, 3) := by decide +kernel
theorem dX12_spelt_42 : decode cX12_spelt 42 = .ok (.ldc2_w 158, 3) := by decide +kernel
theorem dX12_spelt_45 : decode cX12_spelt 45 = .ok (.lload 4, 2) := by decide +kernel
theorem dX12_spelt_47 : decode cX12_spelt 47 = .ok (.lmul, 1) := by decide +kernel
theorem dX12_spelt_48 : decode cX12_spelt 48 = .ok (.iload_n 3, 1) := by decide +kernel
theorem dX12_spelt_49 : decode cX12_spelt 49 = .ok (.i2l, 1) := by decide +kernel
theorem dX12_spelt_50 : decode cX12_spelt 50 = .ok (.ladd, 1) := by decide +kernel
theorem dX12_spelt_51 : decode cX12_spelt 51 = .ok (.ldc2_w 160, 3) := by decide +kernel
theorem dX12_spelt_54 : decode cX12_spelt 54 = .ok (.lsub, 1) := by decide +kernel
theorem dX12_spelt_55 : decode cX12_spelt 55 = .ok (.goto 5, 3) := by decide +kernel
theorem dX12_spelt_58 : decode cX12_spelt 58 = .ok (.lload 4, 2) := by decide +kernel
theorem dX12_spelt_60 : decode cX12_spelt 60 = .ok (.lreturn, 1) := by decide +kernel
theorem dX12_on_0 : decode cX12_on 0 = .ok (.ldc2_w 158, 3) := by decide +kernel
theorem dX12_on_3 : decode cX12_on 3 = .ok (.lload_n 0, 1) := by decide +kernel
theorem dX12_on_4 : decode cX12_on 4 = .ok (.lmul, 1) := by decide +kernel
theorem dX12_on_5 : decode cX12_on 5 = .ok (.iload_n 2, 1) := by decide +kernel
theorem dX12_on_6 : decode cX12_on 6 = .ok (.i2l, 1) := by decide +kernel
theorem dX12_on_7 : decode cX12_on 7 = .ok (.ladd, 1) := by decide +kernel
theorem dX12_on_8 : decode cX12_on 8 = .ok (.ldc2_w 160, 3) := by decide +kernel
theorem dX12_on_11 : decode cX12_on 11 = .ok (.lsub, 1) := by decide +kernel
theorem dX12_on_12 : decode cX12_on 12 = .ok (.lstore 5, 2) := by decide +kernel
theorem dX12_on_14 : decode cX12_on 14 = .ok (.iload_n 3, 1) := by decide +kernel
theorem dX12_on_15 : decode cX12_on 15 = .ok (.ifCond .le 18, 3) := by decide +kernel
theorem dX12_on_18 : decode cX12_on 18 = .ok (.ldc2_w 158, 3) := by decide +kernel
theorem dX12_on_21 : decode cX12_on 21 = .ok (.lload 5, 2) := by decide +kernel
theorem dX12_on_23 : decode cX12_on 23 = .ok (.lmul, 1) := by decide +kernel
theorem dX12_on_24 : decode cX12_on 24 = .ok (.iload_n 3, 1) := by decide +kernel
theorem dX12_on_25 : decode cX12_on 25 = .ok (.i2l, 1) := by decide +kernel
theorem dX12_on_26 : decode cX12_on 26 = .ok (.ladd, 1) := by decide +kernel
theorem dX12_on_27 : decode cX12_on 27 = .ok (.ldc2_w 160, 3) := by decide +kernel
theorem dX12_on_30 : decode cX12_on 30 = .ok (.lsub, 1) := by decide +kernel
theorem dX12_on_31 : decode cX12_on 31 = .ok (.lstore 5, 2) := by decide +kernel
theorem dX12_on_33 : decode cX12_on 33 = .ok (.iload 4, 2) := by decide +kernel
theorem dX12_on_35 : decode cX12_on 35 = .ok (.ifCond .le 20, 3) := by decide +kernel
theorem dX12_on_38 : decode cX12_on 38 = .ok (.ldc2_w 158, 3) := by decide +kernel
theorem dX12_on_41 : decode cX12_on 41 = .ok (.lload 5, 2) := by decide +kernel
theorem dX12_on_43 : decode cX12_on 43 = .ok (.lmul, 1) := by decide +kernel
theorem dX12_on_44 : decode cX12_on 44 = .ok (.iload 4, 2) := by decide +kernel
theorem dX12_on_46 : decode cX12_on 46 = .ok (.i2l, 1) := by decide +kernel
theorem dX12_on_47 : decode cX12_on 47 = .ok (.ladd, 1) := by decide +kernel
theorem dX12_on_48 : decode cX12_on 48 = .ok (.ldc2_w 160, 3) := by decide +kernel
theorem dX12_on_51 : decode cX12_on 51 = .ok (.lsub, 1) := by decide +kernel
theorem dX12_on_52 : decode cX12_on 52 = .ok (.goto 5, 3) := by decide +kernel
theorem dX12_on_55 : decode cX12_on 55 = .ok (.lload 5, 2) := by decide +kernel
theorem dX12_on_57 : decode cX12_on 57 = .ok (.lreturn, 1) := by decide +kernel
theorem dX12_isKey_0 : decode cX12_isKey 0 = .ok (.aload_n 0, 1) := by decide +kernel
theorem dX12_isKey_1 : decode cX12_isKey 1 = .ok (.getfield 134, 3) := by decide +kernel
theorem dX12_isKey_4 : decode cX12_isKey 4 = .ok (.iconst 2, 1) := by decide +kernel
theorem dX12_isKey_5 : decode cX12_isKey 5 = .ok (.if_icmp .ne 16, 3) := by decide +kernel
theorem dX12_isKey_8 : decode cX12_isKey 8 = .ok (.aload_n 0, 1) := by decide +kernel
theorem dX12_isKey_9 : decode cX12_isKey 9 = .ok (.getfield 147, 3) := by decide +kernel
theorem dX12_isKey_12 : decode cX12_isKey 12 = .ok (.lload_n 1, 1) := by decide +kernel
theorem dX12_isKey_13 : decode cX12_isKey 13 = .ok (.lcmp, 1) := by decide +kernel
theorem dX12_isKey_14 : decode cX12_isKey 14 = .ok (.ifCond .ne 7, 3) := by decide +kernel
theorem dX12_isKey_17 : decode cX12_isKey 17 = .ok (.iconst 1, 1) := by decide +kernel
theorem dX12_isKey_18 : decode cX12_isKey 18 = .ok (.goto 4, 3) := by decide +kernel
theorem dX12_isKey_21 : decode cX12_isKey 21 = .ok (.iconst 0, 1) := by decide +kernel
theorem dX12_isKey_22 : decode cX12_isKey 22 = .ok (.ireturn, 1) := by decide +kernel
theorem dX12_isSign_0 : decode cX12_isSign 0 = .ok (.aload_n 0, 1) := by decide +kernel
theorem dX12_isSign_1 : decode cX12_isSign 1 = .ok (.getfield 134, 3) := by decide +kernel
theorem dX12_isSign_4 : decode cX12_isSign 4 = .ok (.iconst 4, 1) := by decide +kernel
theorem dX12_isSign_5 : decode cX12_isSign 5 = .ok (.if_icmp .ne 15, 3) := by decide +kernel
theorem dX12_isSign_8 : decode cX12_isSign 8 = .ok (.aload_n 0, 1) := by decide +kernel
theorem dX12_isSign_9 : decode cX12_isSign 9 = .ok (.getfield 144, 3) := by decide +kernel
theorem dX12_isSign_12 : decode cX12_isSign 12 = .ok (.iload_n 1, 1) := by decide +kernel
theorem dX12_isSign_13 : decode cX12_isSign 13 = .ok (.if_icmp .ne 7, 3) := by decide +kernel
theorem dX12_isSign_16 : decode cX12_isSign 16 = .ok (.iconst 1, 1) := by decide +kernel
theorem dX12_isSign_17 : decode cX12_isSign 17 = .ok (.goto 4, 3) := by decide +kernel
theorem dX12_isSign_20 : decode cX12_isSign 20 = .ok (.iconst 0, 1) := by decide +kernel
theorem dX12_isSign_21 : decode cX12_isSign 21 = .ok (.ireturn, 1) := by decide +kernel
theorem dX12_bad_0 : decode cX12_bad 0 = .ok (.aload_n 0, 1) := by decide +kernel
theorem dX12_bad_1 : decode cX12_bad 1 = .ok (.aload_n 0, 1) := by decide +kernel
theorem dX12_bad_2 : decode cX12_bad 2 = .ok (.getfield 134, 3) := by decide +kernel
theorem dX12_bad_5 : decode cX12_bad 5 = .ok (.iconst 1, 1) := by decide +kernel
theorem dX12_bad_6 : decode cX12_bad 6 = .ok (.if_icmp .ne 7, 3) := by decide +kernel
theorem dX12_bad_9 : decode cX12_bad 9 = .ok (.iconst 1, 1) := by decide +kernel
theorem dX12_bad_10 : decode cX12_bad 10 = .ok (.goto 4, 3) := by decide +kernel
theorem dX12_bad_13 : decode cX12_bad 13 = .ok (.iload_n 1, 1) := by decide +kernel
theorem dX12_bad_14 : decode cX12_bad 14 = .ok (.putfield 162, 3) := by decide +kernel
theorem dX12_bad_17 : decode cX12_bad 17 = .ok (.aload_n 0, 1) := by decide +kernel
theorem dX12_bad_18 : decode cX12_bad 18 = .ok (.aload_n 0, 1) := by decide +kernel
theorem dX12_bad_19 : decode cX12_bad 19 = .ok (.getfield 128, 3) := by decide +kernel
theorem dX12_bad_22 : decode cX12_bad 22 = .ok (.putfield 165, 3) := by decide +kernel
theorem dX12_bad_25 : decode cX12_bad 25 = .ok (.iconst 0, 1) := by decide +kernel
theorem dX12_bad_26 : decode cX12_bad 26 = .ok (.ireturn, 1) := by decide +kernel
theorem dX12_readNumber_0 : decode cX12_readNumber 0 = .ok (.aload_n 0, 1) := by decide +kernel
theorem dX12_readNumber_1 : decode cX12_readNumber 1 = .ok (.getfield 134, 3) := by decide +kernel
theorem dX12_readNumber_4 : decode cX12_readNumber 4 = .ok (.iconst 3, 1) := by decide +kernel
theorem dX12_readNumber_5 : decode cX12_readNumber 5 = .ok (.if_icmp .eq 9, 3) := by decide +kernel
theorem dX12_readNumber_8 : decode cX12_readNumber 8 = .ok (.aload_n 0, 1) := by decide +kernel
theorem dX12_readNumber_9 : decode cX12_readNumber 9 = .ok (.iconst 1, 1) := by decide +kernel
theorem dX12_readNumber_10 : decode cX12_readNumber 10 = .ok (.invokevirtual 168, 3) := by decide +kernel
theorem dX12_readNumber_13 : decode cX12_readNumber 13 = .ok (.ireturn, 1) := by decide +kernel
theorem dX12_readNumber_14 : decode cX12_readNumber 14 = .ok (.aload_n 0, 1) := by decide +kernel
theorem dX12_readNumber_15 : decode cX12_readNumber 15 = .ok (.getfield 151, 3) := by decide +kernel
theorem dX12_readNumber_18 : decode cX12_readNumber 18 = .ok (.iload_n 1, 1) := by decide +kernel
theorem dX12_readNumber_19 : decode cX12_readNumber 19 = .ok (.iload_n 2, 1) := by decide +kernel
theorem dX12_readNumber_20 : decode cX12_readNumber 20 = .ok (.invokestatic 171, 3) := by decide +kernel
theorem dX12_readNumber_23 : decode cX12_readNumber 23 = .ok (.ifCond .ne 9, 3) := by decide +kernel
theorem dX12_readNumber_26 : decode cX12_readNumber 26 = .ok (.aload_n 0, 1) := by decide +kernel
theorem dX12_readNumber_27 : decode cX12_readNumber 27 = .ok (.iconst 2, 1) := by decide +kernel
theorem dX12_readNumber_28 : decode cX12_readNumber 28 = .ok (.invokevirtual 168, 3) := by decide +kernel
theorem dX12_readNumber_31 : decode cX12_readNumber 31 = .ok (.ireturn, 1) := by decide +kernel
theorem dX12_readNumber_32 : decode cX12_readNumber 32 = .ok (.aload_n 0, 1) := by decide +kernel
theorem dX12_readNumber_33 : decode cX12_readNumber 33 = .ok (.aload_n 0, 1) := by decide +kernel
theorem dX12_readNumber_34 : decode cX12_readNumber 34 = .ok (.getfield 151, 3) := by decide +kernel
theorem dX12_readNumber_37 : decode cX12_readNumber 37 = .ok (.putfield 175, 3) := by decide +kernel
theorem dX12_readNumber_40 : decode cX12_readNumber 40 = .ok (.aload_n 0, 1) := by decide +kernel
theorem dX12_readNumber_41 : decode cX12_readNumber 41 = .ok (.invokevirtual 178, 3) := by decide +kernel
theorem dX12_readNumber_44 : decode cX12_readNumber 44 = .ok (.iconst 1, 1) := by decide +kernel
theorem dX12_readNumber_45 : decode cX12_readNumber 45 = .ok (.ireturn, 1) := by decide +kernel
theorem dX12_readEnd_0 : decode cX12_readEnd 0 = .ok (.aload_n 0, 1) := by decide +kernel
theorem dX12_readEnd_1 : decode cX12_readEnd 1 = .ok (.bipush 59, 2) := by decide +kernel
theorem dX12_readEnd_3 : decode cX12_readEnd 3 = .ok (.invokevirtual 181, 3) := by decide +kernel
theorem dX12_readEnd_6 : decode cX12_readEnd 6 = .ok (.ifCond .ne 9, 3) := by decide +kernel
theorem dX12_readEnd_9 : decode cX12_readEnd 9 = .ok (.aload_n 0, 1) := by decide +kernel
theorem dX12_readEnd_10 : decode cX12_readEnd 10 = .ok (.iconst 1, 1) := by decide +kernel
theorem dX12_readEnd_11 : decode cX12_readEnd 11 = .ok (.invokevirtual 168, 3) := by decide +kernel
theorem dX12_readEnd_14 : decode cX12_readEnd 14 = .ok (.ireturn, 1) := by decide +kernel
theorem dX12_readEnd_15 : decode cX12_readEnd 15 = .ok (.aload_n 0, 1) := by decide +kernel
theorem dX12_readEnd_16 : decode cX12_readEnd 16 = .ok (.invokevirtual 178, 3) := by decide +kernel
theorem dX12_readEnd_19 : decode cX12_readEnd 19 = .ok (.iconst 1, 1) := by decide +kernel
theorem dX12_readEnd_20 : decode cX12_readEnd 20 = .ok (.ireturn, 1) := by decide +kernel
theorem dX12_begin_0 : decode cX12_begin 0 = .ok (.aload_n 0, 1) := by decide +kernel
theorem dX12_begin_1 : decode cX12_begin 1 = .ok (.iconst 0, 1) := by decide +kernel
theorem dX12_begin_2 : decode cX12_begin 2 = .ok (.putfield 111, 3) := by decide +kernel
theorem dX12_begin_5 : decode cX12_begin 5 = .ok (.aload_n 0, 1) := by decide +kernel
theorem dX12_begin_6 : decode cX12_begin 6 = .ok (.aload_n 0, 1) := by decide +kernel
theorem dX12_begin_7 : decode cX12_begin 7 = .ok (.invokevirtual 184, 3) := by decide +kernel
theorem dX12_begin_10 : decode cX12_begin 10 = .ok (.putfield 122, 3) := by decide +kernel
theorem dX12_begin_13 : decode cX12_begin 13 = .ok (.aload_n 0, 1) := by decide +kernel
theorem dX12_begin_14 : decode cX12_begin 14 = .ok (.iload_n 1, 1) := by decide +kernel
theorem dX12_begin_15 : decode cX12_begin 15 = .ok (.putfield 131, 3) := by decide +kernel
theorem dX12_begin_18 : decode cX12_begin 18 = .ok (.aload_n 0, 1) := by decide +kernel
theorem dX12_begin_19 : decode cX12_begin 19 = .ok (.iconst 0, 1) := by decide +kernel
theorem dX12_begin_20 : decode cX12_begin 20 = .ok (.putfield 162, 3) := by decide +kernel
theorem dX12_begin_23 : decode cX12_begin 23 = .ok (.aload_n 0, 1) := by decide +kernel
theorem dX12_begin_24 : decode cX12_begin 24 = .ok (.iconst 0, 1) := by decide +kernel
theorem dX12_begin_25 : decode cX12_begin 25 = .ok (.putfield 125, 3) := by decide +kernel
theorem dX12_begin_28 : decode cX12_begin 28 = .ok (.aload_n 0, 1) := by decide +kernel
theorem dX12_begin_29 : decode cX12_begin 29 = .ok (.invokevirtual 178, 3) := by decide +kernel
theorem dX12_begin_32 : decode cX12_begin 32 = .ok (.return_, 1) := by decide +kernel
theorem dX12_wordOf_0 : decode cX12_wordOf 0 = .ok (.iload_n 0, 1) := by decide +kernel
theorem dX12_wordOf_1 : decode cX12_wordOf 1 = .ok (.tableswitch 469 0 23 #[111, 123, 142, 161, 173, 192, 204, 216, 237, 257, 268, 278, 289, 299, 309, 329, 341, 362, 373, 385, 404, 424, 436, 457], 111) := by decide +kernel
theorem dX12_wordOf_112 : decode cX12_wordOf 112 = .ok (.bipush 115, 2) := by decide +kernel
theorem dX12_wordOf_114 : decode cX12_wordOf 114 = .ok (.bipush 112, 2) := by decide +kernel
theorem dX12_wordOf_116 : decode cX12_wordOf 116 = .ok (.bipush 111, 2) := by decide +kernel
theorem dX12_wordOf_118 : decode cX12_wordOf 118 = .ok (.bipush 116, 2) := by decide +kernel
theorem dX12_wordOf_120 : decode cX12_wordOf 120 = .ok (.invokestatic 188, 3) := by decide +kernel
theorem dX12_wordOf_123 : decode cX12_wordOf 123 = .ok (.lreturn, 1) := by decide +kernel
theorem dX12_wordOf_124 : decode cX12_wordOf 124 = .ok (.bipush 97, 2) := by decide +kernel
theorem dX12_wordOf_126 : decode cX12_wordOf 126 = .ok (.bipush 103, 2) := by decide +kernel
theorem dX12_wordOf_128 : decode cX12_wordOf 128 = .ok (.bipush 101, 2) := by decide +kernel
theorem dX12_wordOf_130 : decode cX12_wordOf 130 = .ok (.bipush 110, 2) := by decide +kernel
theorem dX12_wordOf_132 : decode cX12_wordOf 132 = .ok (.invokestatic 188, 3) := by decide +kernel
theorem dX12_wordOf_135 : decode cX12_wordOf 135 = .ok (.bipush 116, 2) := by decide +kernel
theorem dX12_wordOf_137 : decode cX12_wordOf 137 = .ok (.iconst 0, 1) := by decide +kernel
theorem dX12_wordOf_138 : decode cX12_wordOf 138 = .ok (.iconst 0, 1) := by decide +kernel
theorem dX12_wordOf_139 : decode cX12_wordOf 139 = .ok (.invokestatic 192, 3) := by decide +kernel
theorem dX12_wordOf_142 : decode cX12_wordOf 142 = .ok (.lreturn, 1) := by decide +kernel
theorem dX12_wordOf_143 : decode cX12_wordOf 143 = .ok (.bipush 99, 2) := by decide +kernel
theorem dX12_wordOf_145 : decode cX12_wordOf 145 = .ok (.bipush 108, 2) := by decide +kernel
theorem dX12_wordOf_147 : decode cX12_wordOf 147 = .ok (.bipush 111, 2) := by decide +kernel
theorem dX12_wordOf_149 : decode cX12_wordOf 149 = .ok (.bipush 116, 2) := by decide +kernel
theorem dX12_wordOf_151 : decode cX12_wordOf 151 = .ok (.invokestatic 188, 3) := by decide +kernel
theorem dX12_wordOf_154 : decode cX12_wordOf 154 = .ok (.bipush 104, 2) := by decide +kernel
theorem dX12_wordOf_156 : decode cX12_wordOf 156 = .ok (.iconst 0, 1) := by decide +kernel
theorem dX12_wordOf_157 : decode cX12_wordOf 157 = .ok (.iconst 0, 1) := by decide +kernel
theorem dX12_wordOf_158 : decode cX12_wordOf 158 = .ok (.invokestatic 192, 3) := by decide +kernel
theorem dX12_wordOf_161 : decode cX12_wordOf 161 = .ok (.lreturn, 1) := by decide +kernel
theorem dX12_wordOf_162 : decode cX12_wordOf 162 = .ok (.bipush 100, 2) := by decide +kernel
theorem dX12_wordOf_164 : decode cX12_wordOf 164 = .ok (.bipush 114, 2) := by decide +kernel
theorem dX12_wordOf_166 : decode cX12_wordOf 166 = .ok (.bipush 117, 2) := by decide +kernel
theorem dX12_wordOf_168 : decode cX12_wordOf 168 = .ok (.bipush 109, 2) := by decide +kernel
theorem dX12_wordOf_170 : decode cX12_wordOf 170 = .ok (.invokestatic 188, 3) := by decide +kernel
theorem dX12_wordOf_173 : decode cX12_wordOf 173 = .ok (.lreturn, 1) := by decide +kernel
theorem dX12_wordOf_174 : decode cX12_wordOf 174 = .ok (.bipush 108, 2) := by decide +kernel
theorem dX12_wordOf_176 : decode cX12_wordOf 176 = .ok (.bipush 111, 2) := by decide +kernel
theorem dX12_wordOf_178 : decode cX12_wordOf 178 = .ok (.bipush 97, 2) := by decide +kernel
theorem dX12_wordOf_180 : decode cX12_wordOf 180 = .ok (.bipush 100, 2) := by decide +kernel
theorem dX12_wordOf_182 : decode cX12_wordOf 182 = .ok (.invokestatic 188, 3) := by decide +kernel
theorem dX12_wordOf_185 : decode cX12_wordOf 185 = .ok (.bipush 115, 2) := by decide +kernel
theorem dX12_wordOf_187 : decode cX12_wordOf 187 = .ok (.iconst 0, 1) := by decide +kernel
theorem dX12_wordOf_188 : decode cX12_wordOf 188 = .ok (.iconst 0, 1) := by decide +kernel
theorem dX12_wordOf_189 : decode cX12_wordOf 189 = .ok (.invokestatic 192, 3) := by decide +kernel
theorem dX12_wordOf_192 : decode cX12_wordOf 192 = .ok (.lreturn, 1) := by decide +kernel
theorem dX12_wordOf_193 : decode cX12_wordOf 193 = .ok (.bipush 115, 2) := by decide +kernel
theorem dX12_wordOf_195 : decode cX12_wordOf 195 = .ok (.bipush 101, 2) := by decide +kernel
theorem dX12_wordOf_197 : decode cX12_wordOf 197 = .ok (.bipush 108, 2) := by decide +kernel
theorem dX12_wordOf_199 : decode cX12_wordOf 199 = .ok (.bipush 108, 2) := by decide +kernel
theorem dX12_wordOf_201 : decode cX12_wordOf 201 = .ok (.invokestatic 188, 3) := by decide +kernel
theorem dX12_wordOf_204 : decode cX12_wordOf 204 = .ok (.lreturn, 1) := by decide +kernel
theorem dX12_wordOf_205 : decode cX12_wordOf 205 = .ok (.bipush 108, 2) := by decide +kernel
theorem dX12_wordOf_207 : decode cX12_wordOf 207 = .ok (.bipush 111, 2) := by decide +kernel
theorem dX12_wordOf_209 : decode cX12_wordOf 209 = .ok (.bipush 115, 2) := by decide +kernel
theorem dX12_wordOf_211 : decode cX12_wordOf 211 = .ok (.bipush 101, 2) := by decide +kernel
theorem dX12_wordOf_213 : decode cX12_wordOf 213 = .ok (.invokestatic 188, 3) := by decide +kernel
theorem dX12_wordOf_216 : decode cX12_wordOf 216 = .ok (.lreturn, 1) := by decide +kernel
theorem dX12_wordOf_217 : decode cX12_wordOf 217 = .ok (.bipush 101, 2) := by decide +kernel
theorem dX12_wordOf_219 : decode cX12_wordOf 219 = .ok (.bipush 120, 2) := by decide +kernel
theorem dX12_wordOf_221 : decode cX12_wordOf 221 = .ok (.bipush 112, 2) := by decide +kernel
theorem dX12_wordOf_223 : decode cX12_wordOf 223 = .ok (.bipush 114, 2) := by decide +kernel
theorem dX12_wordOf_225 : decode cX12_wordOf 225 = .ok (.invokestatic 188, 3) := by decide +kernel
theorem dX12_wordOf_228 : decode cX12_wordOf 228 = .ok (.bipush 101, 2) := by decide +kernel
theorem dX12_wordOf_230 : decode cX12_wordOf 230 = .ok (.bipush 115, 2) := by decide +kernel
theorem dX12_wordOf_232 : decode cX12_wordOf 232 = .ok (.bipush 115, 2) := by decide +kernel
theorem dX12_wordOf_234 : decode cX12_wordOf 234 = .ok (.invokestatic 192, 3) := by decide +kernel
theorem dX12_wordOf_237 : decode cX12_wordOf 237 = .ok (.lreturn, 1) := by decide +kernel
theorem dX12_wordOf_238 : decode cX12_wordOf 238 = .ok (.bipush 98, 2) := by decide +kernel
theorem dX12_wordOf_240 : decode cX12_wordOf 240 = .ok (.bipush 108, 2) := by decide +kernel
theorem dX12_wordOf_242 : decode cX12_wordOf 242 = .ok (.bipush 101, 2) := by decide +kernel
theorem dX12_wordOf_244 : decode cX12_wordOf 244 = .ok (.bipush 101, 2) := by decide +kernel
theorem dX12_wordOf_246 : decode cX12_wordOf 246 = .ok (.invokestatic 188, 3) := by decide +kernel
theorem dX12_wordOf_249 : decode cX12_wordOf 249 = .ok (.bipush 100, 2) := by decide +kernel
theorem dX12_wordOf_251 : decode cX12_wordOf 251 = .ok (.bipush 115, 2) := by decide +kernel
theorem dX12_wordOf_253 : decode cX12_wordOf 253 = .ok (.iconst 0, 1) := by decide +kernel
theorem dX12_wordOf_254 : decode cX12_wordOf 254 = .ok (.invokestatic 192, 3) := by decide +kernel
theorem dX12_wordOf_257 : decode cX12_wordOf 257 = .ok (.lreturn, 1) := by decide +kernel
theorem dX12_wordOf_258 : decode cX12_wordOf 258 = .ok (.bipush 110, 2) := by decide +kernel
theorem dX12_wordOf_260 : decode cX12_wordOf 260 = .ok (.bipush 111, 2) := by decide +kernel
theorem dX12_wordOf_262 : decode cX12_wordOf 262 = .ok (.bipush 116, 2) := by decide +kernel
theorem dX12_wordOf_264 : decode cX12_wordOf 264 = .ok (.iconst 0, 1) := by decide +kernel
theorem dX12_wordOf_265 : decode cX12_wordOf 265 = .ok (.invokestatic 188, 3) := by decide +kernel
theorem dX12_wordOf_268 : decode cX12_wordOf 268 = .ok (.lreturn, 1) := by decide +kernel
theorem dX12_wordOf_269 : decode cX12_wordOf 269 = .ok (.bipush 111, 2) := by decide +kernel
theorem dX12_wordOf_271 : decode cX12_wordOf 271 = .ok (.bipush 114, 2) := by decide +kernel
theorem dX12_wordOf_273 : decode cX12_wordOf 273 = .ok (.iconst 0, 1) := by decide +kernel
theorem dX12_wordOf_274 : decode cX12_wordOf 274 = .ok (.iconst 0, 1) := by decide +kernel
theorem dX12_wordOf_275 : decode cX12_wordOf 275 = .ok (.invokestatic 188, 3) := by decide +kernel
theorem dX12_wordOf_278 : decode cX12_wordOf 278 = .ok (.lreturn, 1) := by decide +kernel
theorem dX12_wordOf_279 : decode cX12_wordOf 279 = .ok (.bipush 97, 2) := by decide +kernel
theorem dX12_wordOf_281 : decode cX12_wordOf 281 = .ok (.bipush 110, 2) := by decide +kernel
theorem dX12_wordOf_283 : decode cX12_wordOf 283 = .ok (.bipush 100, 2) := by decide +kernel
theorem dX12_wordOf_285 : decode cX12_wordOf 285 = .ok (.iconst 0, 1) := by decide +kernel
theorem dX12_wordOf_286 : decode cX12_wordOf 286 = .ok (.invokestatic 188, 3) := by decide +kernel
theorem dX12_wordOf_289 : decode cX12_wordOf 289 = .ok (.lreturn, 1) := by decide +kernel
theorem dX12_wordOf_290 : decode cX12_wordOf 290 = .ok (.bipush 110, 2) := by decide +kernel
theorem dX12_wordOf_292 : decode cX12_wordOf 292 = .ok (.bipush 111, 2) := by decide +kernel
theorem dX12_wordOf_294 : decode cX12_wordOf 294 = .ok (.iconst 0, 1) := by decide +kernel
theorem dX12_wordOf_295 : decode cX12_wordOf 295 = .ok (.iconst 0, 1) := by decide +kernel
theorem dX12_wordOf_296 : decode cX12_wordOf 296 = .ok (.invokestatic 188, 3) := by decide +kernel
theorem dX12_wordOf_299 : decode cX12_wordOf 299 = .ok (.lreturn, 1) := by decide +kernel
theorem dX12_wordOf_300 : decode cX12_wordOf 300 = .ok (.bipush 105, 2) := by decide +kernel
theorem dX12_wordOf_302 : decode cX12_wordOf 302 = .ok (.bipush 115, 2) := by decide +kernel
theorem dX12_wordOf_304 : decode cX12_wordOf 304 = .ok (.iconst 0, 1) := by decide +kernel
theorem dX12_wordOf_305 : decode cX12_wordOf 305 = .ok (.iconst 0, 1) := by decide +kernel
theorem dX12_wordOf_306 : decode cX12_wordOf 306 = .ok (.invokestatic 188, 3) := by decide +kernel
theorem dX12_wordOf_309 : decode cX12_wordOf 309 = .ok (.lreturn, 1) := by decide +kernel
theorem dX12_wordOf_310 : decode cX12_wordOf 310 = .ok (.bipush 115, 2) := by decide +kernel
theorem dX12_wordOf_312 : decode cX12_wordOf 312 = .ok (.bipush 116, 2) := by decide +kernel
theorem dX12_wordOf_314 : decode cX12_wordOf 314 = .ok (.bipush 97, 2) := by decide +kernel
theorem dX12_wordOf_316 : decode cX12_wordOf 316 = .ok (.bipush 110, 2) := by decide +kernel
theorem dX12_wordOf_318 : decode cX12_wordOf 318 = .ok (.invokestatic 188, 3) := by decide +kernel
theorem dX12_wordOf_321 : decode cX12_wordOf 321 = .ok (.bipush 100, 2) := by decide +kernel
theorem dX12_wordOf_323 : decode cX12_wordOf 323 = .ok (.bipush 115, 2) := by decide +kernel
theorem dX12_wordOf_325 : decode cX12_wordOf 325 = .ok (.iconst 0, 1) := by decide +kernel
theorem dX12_wordOf_326 : decode cX12_wordOf 326 = .ok (.invokestatic 192, 3) := by decide +kernel
theorem dX12_wordOf_329 : decode cX12_wordOf 329 = .ok (.lreturn, 1) := by decide +kernel
theorem dX12_wordOf_330 : decode cX12_wordOf 330 = .ok (.bipush 102, 2) := by decide +kernel
theorem dX12_wordOf_332 : decode cX12_wordOf 332 = .ok (.bipush 97, 2) := by decide +kernel
theorem dX12_wordOf_334 : decode cX12_wordOf 334 = .ok (.bipush 115, 2) := by decide +kernel
theorem dX12_wordOf_336 : decode cX12_wordOf 336 = .ok (.bipush 116, 2) := by decide +kernel
theorem dX12_wordOf_338 : decode cX12_wordOf 338 = .ok (.invokestatic 188, 3) := by decide +kernel
theorem dX12_wordOf_341 : decode cX12_wordOf 341 = .ok (.lreturn, 1) := by decide +kernel
theorem dX12_wordOf_342 : decode cX12_wordOf 342 = .ok (.bipush 99, 2) := by decide +kernel
theorem dX12_wordOf_344 : decode cX12_wordOf 344 = .ok (.bipush 108, 2) := by decide +kernel
theorem dX12_wordOf_346 : decode cX12_wordOf 346 = .ok (.bipush 97, 2) := by decide +kernel
theorem dX12_wordOf_348 : decode cX12_wordOf 348 = .ok (.bipush 105, 2) := by decide +kernel
theorem dX12_wordOf_350 : decode cX12_wordOf 350 = .ok (.invokestatic 188, 3) := by decide +kernel
theorem dX12_wordOf_353 : decode cX12_wordOf 353 = .ok (.bipush 109, 2) := by decide +kernel
theorem dX12_wordOf_355 : decode cX12_wordOf 355 = .ok (.bipush 101, 2) := by decide +kernel
theorem dX12_wordOf_357 : decode cX12_wordOf 357 = .ok (.bipush 100, 2) := by decide +kernel
theorem dX12_wordOf_359 : decode cX12_wordOf 359 = .ok (.invokestatic 192, 3) := by decide +kernel
theorem dX12_wordOf_362 : decode cX12_wordOf 362 = .ok (.lreturn, 1) := by decide +kernel
theorem dX12_wordOf_363 : decode cX12_wordOf 363 = .ok (.bipush 97, 2) := by decide +kernel
theorem dX12_wordOf_365 : decode cX12_wordOf 365 = .ok (.bipush 103, 2) := by decide +kernel
theorem dX12_wordOf_367 : decode cX12_wordOf 367 = .ok (.bipush 101, 2) := by decide +kernel
theorem dX12_wordOf_369 : decode cX12_wordOf 369 = .ok (.iconst 0, 1) := by decide +kernel
theorem dX12_wordOf_370 : decode cX12_wordOf 370 = .ok (.invokestatic 188, 3) := by decide +kernel
theorem dX12_wordOf_373 : decode cX12_wordOf 373 = .ok (.lreturn, 1) := by decide +kernel
theorem dX12_wordOf_374 : decode cX12_wordOf 374 = .ok (.bipush 108, 2) := by decide +kernel
theorem dX12_wordOf_376 : decode cX12_wordOf 376 = .ok (.bipush 97, 2) := by decide +kernel
theorem dX12_wordOf_378 : decode cX12_wordOf 378 = .ok (.bipush 116, 2) := by decide +kernel
theorem dX12_wordOf_380 : decode cX12_wordOf 380 = .ok (.bipush 101, 2) := by decide +kernel
theorem dX12_wordOf_382 : decode cX12_wordOf 382 = .ok (.invokestatic 188, 3) := by decide +kernel
theorem dX12_wordOf_385 : decode cX12_wordOf 385 = .ok (.lreturn, 1) := by decide +kernel
theorem dX12_wordOf_386 : decode cX12_wordOf 386 = .ok (.bipush 112, 2) := by decide +kernel
theorem dX12_wordOf_388 : decode cX12_wordOf 388 = .ok (.bipush 114, 2) := by decide +kernel
theorem dX12_wordOf_390 : decode cX12_wordOf 390 = .ok (.bipush 105, 2) := by decide +kernel
theorem dX12_wordOf_392 : decode cX12_wordOf 392 = .ok (.bipush 99, 2) := by decide +kernel
theorem dX12_wordOf_394 : decode cX12_wordOf 394 = .ok (.invokestatic 188, 3) := by decide +kernel
theorem dX12_wordOf_397 : decode cX12_wordOf 397 = .ok (.bipush 101, 2) := by decide +kernel
theorem dX12_wordOf_399 : decode cX12_wordOf 399 = .ok (.iconst 0, 1) := by decide +kernel
theorem dX12_wordOf_400 : decode cX12_wordOf 400 = .ok (.iconst 0, 1) := by decide +kernel
theorem dX12_wordOf_401 : decode cX12_wordOf 401 = .ok (.invokestatic 192, 3) := by decide +kernel
theorem dX12_wordOf_404 : decode cX12_wordOf 404 = .ok (.lreturn, 1) := by decide +kernel
theorem dX12_wordOf_405 : decode cX12_wordOf 405 = .ok (.bipush 119, 2) := by decide +kernel
theorem dX12_wordOf_407 : decode cX12_wordOf 407 = .ok (.bipush 101, 2) := by decide +kernel
theorem dX12_wordOf_409 : decode cX12_wordOf 409 = .ok (.bipush 105, 2) := by decide +kernel
theorem dX12_wordOf_411 : decode cX12_wordOf 411 = .ok (.bipush 103, 2) := by decide +kernel
theorem dX12_wordOf_413 : decode cX12_wordOf 413 = .ok (.invokestatic 188, 3) := by decide +kernel
theorem dX12_wordOf_416 : decode cX12_wordOf 416 = .ok (.bipush 104, 2) := by decide +kernel
theorem dX12_wordOf_418 : decode cX12_wordOf 418 = .ok (.bipush 116, 2) := by decide +kernel
theorem dX12_wordOf_420 : decode cX12_wordOf 420 = .ok (.iconst 0, 1) := by decide +kernel
theorem dX12_wordOf_421 : decode cX12_wordOf 421 = .ok (.invokestatic 192, 3) := by decide +kernel
theorem dX12_wordOf_424 : decode cX12_wordOf 424 = .ok (.lreturn, 1) := by decide +kernel
theorem dX12_wordOf_425 : decode cX12_wordOf 425 = .ok (.bipush 115, 2) := by decide +kernel
theorem dX12_wordOf_427 : decode cX12_wordOf 427 = .ok (.bipush 105, 2) := by decide +kernel
theorem dX12_wordOf_429 : decode cX12_wordOf 429 = .ok (.bipush 122, 2) := by decide +kernel
theorem dX12_wordOf_431 : decode cX12_wordOf 431 = .ok (.bipush 101, 2) := by decide +kernel
theorem dX12_wordOf_433 : decode cX12_wordOf 433 = .ok (.invokestatic 188, 3) := by decide +kernel
theorem dX12_wordOf_436 : decode cX12_wordOf 436 = .ok (.lreturn, 1) := by decide +kernel
theorem dX12_wordOf_437 : decode cX12_wordOf 437 = .ok (.bipush 99, 2) := by decide +kernel
theorem dX12_wordOf_439 : decode cX12_wordOf 439 = .ok (.bipush 111, 2) := by decide +kernel
theorem dX12_wordOf_441 : decode cX12_wordOf 441 = .ok (.bipush 117, 2) := by decide +kernel
theorem dX12_wordOf_443 : decode cX12_wordOf 443 = .ok (.bipush 110, 2) := by decide +kernel
theorem dX12_wordOf_445 : decode cX12_wordOf 445 = .ok (.invokestatic 188, 3) := by decide +kernel
theorem dX12_wordOf_448 : decode cX12_wordOf 448 = .ok (.bipush 116, 2) := by decide +kernel
theorem dX12_wordOf_450 : decode cX12_wordOf 450 = .ok (.bipush 101, 2) := by decide +kernel
theorem dX12_wordOf_452 : decode cX12_wordOf 452 = .ok (.bipush 114, 2) := by decide +kernel
theorem dX12_wordOf_454 : decode cX12_wordOf 454 = .ok (.invokestatic 192, 3) := by decide +kernel
theorem dX12_wordOf_457 : decode cX12_wordOf 457 = .ok (.lreturn, 1) := by decide +kernel
theorem dX12_wordOf_458 : decode cX12_wordOf 458 = .ok (.bipush 108, 2) := by decide +kernel
theorem dX12_wordOf_460 : decode cX12_wordOf 460 = .ok (.bipush 111, 2) := by decide +kernel
theorem dX12_wordOf_462 : decode cX12_wordOf 462 = .ok (.bipush 97, 2) := by decide +kernel
theorem dX12_wordOf_464 : decode cX12_wordOf 464 = .ok (.bipush 100, 2) := by decide +kernel
theorem dX12_wordOf_466 : decode cX12_wordOf 466 = .ok (.invokestatic 188, 3) := by decide +kernel
theorem dX12_wordOf_469 : decode cX12_wordOf 469 = .ok (.lreturn, 1) := by decide +kernel
theorem dX12_wordOf_470 : decode cX12_wordOf 470 = .ok (.bipush 108, 2) := by decide +kernel
theorem dX12_wordOf_472 : decode cX12_wordOf 472 = .ok (.bipush 111, 2) := by decide +kernel
theorem dX12_wordOf_474 : decode cX12_wordOf 474 = .ok (.bipush 97, 2) := by decide +kernel
theorem dX12_wordOf_476 : decode cX12_wordOf 476 = .ok (.bipush 100, 2) := by decide +kernel
theorem dX12_wordOf_478 : decode cX12_wordOf 478 = .ok (.invokestatic 188, 3) := by decide +kernel
theorem dX12_wordOf_481 : decode cX12_wordOf 481 = .ok (.bipush 101, 2) := by decide +kernel
theorem dX12_wordOf_483 : decode cX12_wordOf 483 = .ok (.bipush 100, 2) := by decide +kernel
theorem dX12_wordOf_485 : decode cX12_wordOf 485 = .ok (.iconst 0, 1) := by decide +kernel
theorem dX12_wordOf_486 : decode cX12_wordOf 486 = .ok (.invokestatic 192, 3) := by decide +kernel
theorem dX12_wordOf_489 : decode cX12_wordOf 489 = .ok (.lreturn, 1) := by decide +kernel
theorem dX12_isWord_0 : decode cX12_isWord 0 = .ok (.aload_n 0, 1) := by decide +kernel
theorem dX12_isWord_1 : decode cX12_isWord 1 = .ok (.iload_n 1, 1) := by decide +kernel
theorem dX12_isWord_2 : decode cX12_isWord 2 = .ok (.invokestatic 196, 3) := by decide +kernel
theorem dX12_isWord_5 : decode cX12_isWord 5 = .ok (.invokevirtual 200, 3) := by decide +kernel
theorem dX12_isWord_8 : decode cX12_isWord 8 = .ok (.ireturn, 1) := by decide +kernel
theorem dX12_isName_0 : decode cX12_isName 0 = .ok (.aload_n 0, 1) := by decide +kernel
theorem dX12_isName_1 : decode cX12_isName 1 = .ok (.getfield 134, 3) := by decide +kernel
theorem dX12_isName_4 : decode cX12_isName 4 = .ok (.iconst 2, 1) := by decide +kernel
theorem dX12_isName_5 : decode cX12_isName 5 = .ok (.if_icmp .eq 5, 3) := by decide +kernel
theorem dX12_isName_8 : decode cX12_isName 8 = .ok (.iconst 0, 1) := by decide +kernel
theorem dX12_isName_9 : decode cX12_isName 9 = .ok (.ireturn, 1) := by decide +kernel
theorem dX12_isName_10 : decode cX12_isName 10 = .ok (.iconst 0, 1) := by decide +kernel
theorem dX12_isName_11 : decode cX12_isName 11 = .ok (.istore_n 1, 1) := by decide +kernel
theorem dX12_isName_12 : decode cX12_isName 12 = .ok (.iload_n 1, 1) := by decide +kernel
theorem dX12_isName_13 : decode cX12_isName 13 = .ok (.bipush 24, 2) := by decide +kernel
theorem dX12_isName_15 : decode cX12_isName 15 = .ok (.if_icmp .gt 23, 3) := by decide +kernel
theorem dX12_isName_18 : decode cX12_isName 18 = .ok (.aload_n 0, 1) := by decide +kernel
theorem dX12_isName_19 : decode cX12_isName 19 = .ok (.getfield 147, 3) := by decide +kernel
theorem dX12_isName_22 : decode cX12_isName 22 = .ok (.iload_n 1, 1) := by decide +kernel
theorem dX12_isName_23 : decode cX12_isName 23 = .ok (.invokestatic 196, 3) := by decide +kernel
theorem dX12_isName_26 : decode cX12_isName 26 = .ok (.lcmp, 1) := by decide +kernel
theorem dX12_isName_27 : decode cX12_isName 27 = .ok (.ifCond .ne 5, 3) := by decide +kernel
theorem dX12_isName_30 : decode cX12_isName 30 = .ok (.iconst 0, 1) := by decide +kernel
theorem dX12_isName_31 : decode cX12_isName 31 = .ok (.ireturn, 1) := by decide +kernel
theorem dX12_isName_32 : decode cX12_isName 32 = .ok (.iinc 1 1, 3) := by decide +kernel
theorem dX12_isName_35 : decode cX12_isName 35 = .ok (.goto (-23), 3) := by decide +kernel
theorem dX12_isName_38 : decode cX12_isName 38 = .ok (.iconst 1, 1) := by decide +kernel
theorem dX12_isName_39 : decode cX12_isName 39 = .ok (.ireturn, 1) := by decide +kernel
theorem dX12_lay_0 : decode cX12_lay 0 = .ok (.aload_n 0, 1) := by decide +kernel
theorem dX12_lay_1 : decode cX12_lay 1 = .ok (.getfield 204, 3) := by decide +kernel
theorem dX12_lay_4 : decode cX12_lay 4 = .ok (.ifCond .eq 4, 3) := by decide +kernel
theorem dX12_lay_7 : decode cX12_lay 7 = .ok (.return_, 1) := by decide +kernel
theorem dX12_lay_8 : decode cX12_lay 8 = .ok (.aload_n 0, 1) := by decide +kernel
theorem dX12_lay_9 : decode cX12_lay 9 = .ok (.iconst 1, 1) := by decide +kernel
theorem dX12_lay_10 : decode cX12_lay 10 = .ok (.putfield 204, 3) := by decide +kernel
theorem dX12_lay_13 : decode cX12_lay 13 = .ok (.aload_n 0, 1) := by decide +kernel
theorem dX12_lay_14 : decode cX12_lay 14 = .ok (.getfield 13, 3) := by decide +kernel
theorem dX12_lay_17 : decode cX12_lay 17 = .ok (.invokestatic 208, 3) := by decide +kernel
theorem dX12_lay_20 : decode cX12_lay 20 = .ok (.aload_n 0, 1) := by decide +kernel
theorem dX12_lay_21 : decode cX12_lay 21 = .ok (.invokevirtual 212, 3) := by decide +kernel
theorem dX12_lay_24 : decode cX12_lay 24 = .ok (.return_, 1) := by decide +kernel
theorem dX12_standard_0 : decode cX12_standard 0 = .ok (.iconst 0, 1) := by decide +kernel
theorem dX12_standard_1 : decode cX12_standard 1 = .ok (.istore_n 1, 1) := by decide +kernel
theorem dX12_standard_2 : decode cX12_standard 2 = .ok (.iload_n 1, 1) := by decide +kernel
theorem dX12_standard_3 : decode cX12_standard 3 = .ok (.sipush 130, 3) := by decide +kernel
theorem dX12_standard_6 : decode cX12_standard 6 = .ok (.if_icmp .ge 13, 3) := by decide +kernel
theorem dX12_standard_9 : decode cX12_standard 9 = .ok (.aload_n 0, 1) := by decide +kernel
theorem dX12_standard_10 : decode cX12_standard 10 = .ok (.iload_n 1, 1) := by decide +kernel
theorem dX12_standard_11 : decode cX12_standard 11 = .ok (.iconst 0, 1) := by decide +kernel
theorem dX12_standard_12 : decode cX12_standard 12 = .ok (.iastore, 1) := by decide +kernel
theorem dX12_standard_13 : decode cX12_standard 13 = .ok (.iinc 1 1, 3) := by decide +kernel
theorem dX12_standard_16 : decode cX12_standard 16 = .ok (.goto (-14), 3) := by decide +kernel
theorem dX12_standard_19 : decode cX12_standard 19 = .ok (.aload_n 0, 1) := by decide +kernel
theorem dX12_standard_20 : decode cX12_standard 20 = .ok (.iconst 4, 1) := by decide +kernel
theorem dX12_standard_21 : decode cX12_standard 21 = .ok (.iconst 2, 1) := by decide +kernel
theorem dX12_standard_22 : decode cX12_standard 22 = .ok (.iastore, 1) := by decide +kernel
theorem dX12_standard_23 : decode cX12_standard 23 = .ok (.aload_n 0, 1) := by decide +kernel
theorem dX12_standard_24 : decode cX12_standard 24 = .ok (.iconst 5, 1) := by decide +kernel
theorem dX12_standard_25 : decode cX12_standard 25 = .ok (.bipush 30, 2) := by decide +kernel
theorem dX12_standard_27 : decode cX12_standard 27 = .ok (.iastore, 1) := by decide +kernel
theorem dX12_standard_28 : decode cX12_standard 28 = .ok (.aload_n 0, 1) := by decide +kernel
theorem dX12_standard_29 : decode cX12_standard 29 = .ok (.bipush 6, 2) := by decide +kernel
theorem dX12_standard_31 : decode cX12_standard 31 = .ok (.bipush 20, 2) := by decide +kernel
theorem dX12_standard_33 : decode cX12_standard 33 = .ok (.iastore, 1) := by decide +kernel
theorem dX12_standard_34 : decode cX12_standard 34 = .ok (.aload_n 0, 1) := by decide +kernel
theorem dX12_standard_35 : decode cX12_standard 35 = .ok (.bipush 7, 2) := by decide +kernel
theorem dX12_standard_37 : decode cX12_standard 37 = .ok (.sipush 150, 3) := by decide +kernel
theorem dX12_standard_40 : decode cX12_standard 40 = .ok (.iastore, 1) := by decide +kernel
theorem dX12_standard_41 : decode cX12_standard 41 = .ok (.return_, 1) := by decide +kernel
theorem dX12_empty_0 : decode cX12_empty 0 = .ok (.aload_n 0, 1) := by decide +kernel
theorem dX12_empty_1 : decode cX12_empty 1 = .ok (.getfield 13, 3) := by decide +kernel
theorem dX12_empty_4 : decode cX12_empty 4 = .ok (.sipush 131, 3) := by decide +kernel
theorem dX12_empty_7 : decode cX12_empty 7 = .ok (.iconst 0, 1) := by decide +kernel
theorem dX12_empty_8 : decode cX12_empty 8 = .ok (.iastore, 1) := by decide +kernel
theorem dX12_empty_9 : decode cX12_empty 9 = .ok (.aload_n 0, 1) := by decide +kernel
theorem dX12_empty_10 : decode cX12_empty 10 = .ok (.getfield 13, 3) := by decide +kernel
theorem dX12_empty_13 : decode cX12_empty 13 = .ok (.sipush 132, 3) := by decide +kernel
theorem dX12_empty_16 : decode cX12_empty 16 = .ok (.iconst 0, 1) := by decide +kernel
theorem dX12_empty_17 : decode cX12_empty 17 = .ok (.iastore, 1) := by decide +kernel
theorem dX12_empty_18 : decode cX12_empty 18 = .ok (.aload_n 0, 1) := by decide +kernel
theorem dX12_empty_19 : decode cX12_empty 19 = .ok (.getfield 13, 3) := by decide +kernel
theorem dX12_empty_22 : decode cX12_empty 22 = .ok (.sipush 133, 3) := by decide +kernel
theorem dX12_empty_25 : decode cX12_empty 25 = .ok (.iconst 0, 1) := by decide +kernel
theorem dX12_empty_26 : decode cX12_empty 26 = .ok (.iastore, 1) := by decide +kernel
theorem dX12_empty_27 : decode cX12_empty 27 = .ok (.aload_n 0, 1) := by decide +kernel
theorem dX12_empty_28 : decode cX12_empty 28 = .ok (.getfield 13, 3) := by decide +kernel
theorem dX12_empty_31 : decode cX12_empty 31 = .ok (.sipush 134, 3) := by decide +kernel
theorem dX12_empty_34 : decode cX12_empty 34 = .ok (.iconst 0, 1) := by decide +kernel
theorem dX12_empty_35 : decode cX12_empty 35 = .ok (.iastore, 1) := by decide +kernel
theorem dX12_empty_36 : decode cX12_empty 36 = .ok (.aload_n 0, 1) := by decide +kernel
theorem dX12_empty_37 : decode cX12_empty 37 = .ok (.getfield 13, 3) := by decide +kernel
theorem dX12_empty_40 : decode cX12_empty 40 = .ok (.sipush 135, 3) := by decide +kernel
theorem dX12_empty_43 : decode cX12_empty 43 = .ok (.iconst 0, 1) := by decide +kernel
theorem dX12_empty_44 : decode cX12_empty 44 = .ok (.iastore, 1) := by decide +kernel
theorem dX12_empty_45 : decode cX12_empty 45 = .ok (.iconst 0, 1) := by decide +kernel
theorem dX12_empty_46 : decode cX12_empty 46 = .ok (.istore_n 1, 1) := by decide +kernel
theorem dX12_empty_47 : decode cX12_empty 47 = .ok (.iload_n 1, 1) := by decide +kernel
theorem dX12_empty_48 : decode cX12_empty 48 = .ok (.bipush 100, 2) := by decide +kernel
theorem dX12_empty_50 : decode cX12_empty 50 = .ok (.if_icmp .ge 20, 3) := by decide +kernel
theorem dX12_empty_53 : decode cX12_empty 53 = .ok (.aload_n 0, 1) := by decide +kernel
theorem dX12_empty_54 : decode cX12_empty 54 = .ok (.getfield 13, 3) := by decide +kernel
theorem dX12_empty_57 : decode cX12_empty 57 = .ok (.sipush 2240, 3) := by decide +kernel
theorem dX12_empty_60 : decode cX12_empty 60 = .ok (.iload_n 1, 1) := by decide +kernel
theorem dX12_empty_61 : decode cX12_empty 61 = .ok (.iadd, 1) := by decide +kernel
theorem dX12_empty_62 : decode cX12_empty 62 = .ok (.iconst (-1), 1) := by decide +kernel
theorem dX12_empty_63 : decode cX12_empty 63 = .ok (.iastore, 1) := by decide +kernel
theorem dX12_empty_64 : decode cX12_empty 64 = .ok (.iinc 1 1, 3) := by decide +kernel
theorem dX12_empty_67 : decode cX12_empty 67 = .ok (.goto (-20), 3) := by decide +kernel
theorem dX12_empty_70 : decode cX12_empty 70 = .ok (.iconst 0, 1) := by decide +kernel
theorem dX12_empty_71 : decode cX12_empty 71 = .ok (.istore_n 1, 1) := by decide +kernel
theorem dX12_empty_72 : decode cX12_empty 72 = .ok (.iload_n 1, 1) := by decide +kernel
theorem dX12_empty_73 : decode cX12_empty 73 = .ok (.bipush 100, 2) := by decide +kernel
theorem dX12_empty_75 : decode cX12_empty 75 = .ok (.if_icmp .ge 20, 3) := by decide +kernel
theorem dX12_empty_78 : decode cX12_empty 78 = .ok (.aload_n 0, 1) := by decide +kernel
theorem dX12_empty_79 : decode cX12_empty 79 = .ok (.getfield 13, 3) := by decide +kernel
theorem dX12_empty_82 : decode cX12_empty 82 = .ok (.sipush 2340, 3) := by decide +kernel
theorem dX12_empty_85 : decode cX12_empty 85 = .ok (.iload_n 1, 1) := by decide +kernel
theorem dX12_empty_86 : decode cX12_empty 86 = .ok (.iadd, 1) := by decide +kernel
theorem dX12_empty_87 : decode cX12_empty 87 = .ok (.iconst (-1), 1) := by decide +kernel
theorem dX12_empty_88 : decode cX12_empty 88 = .ok (.iastore, 1) := by decide +kernel
theorem dX12_empty_89 : decode cX12_empty 89 = .ok (.iinc 1 1, 3) := by decide +kernel
theorem dX12_empty_92 : decode cX12_empty 92 = .ok (.goto (-20), 3) := by decide +kernel
theorem dX12_empty_95 : decode cX12_empty 95 = .ok (.return_, 1) := by decide +kernel
theorem dX12_base_0 : decode cX12_base 0 = .ok (.iload_n 0, 1) := by decide +kernel
theorem dX12_base_1 : decode cX12_base 1 = .ok (.ifCond .ne 7, 3) := by decide +kernel
theorem dX12_base_4 : decode cX12_base 4 = .ok (.iconst 0, 1) := by decide +kernel
theorem dX12_base_5 : decode cX12_base 5 = .ok (.goto 25, 3) := by decide +kernel
theorem dX12_base_8 : decode cX12_base 8 = .ok (.iload_n 0, 1) := by decide +kernel
theorem dX12_base_9 : decode cX12_base 9 = .ok (.iconst 1, 1) := by decide +kernel
theorem dX12_base_10 : decode cX12_base 10 = .ok (.if_icmp .ne 8, 3) := by decide +kernel
theorem dX12_base_13 : decode cX12_base 13 = .ok (.bipush 6, 2) := by decide +kernel
theorem dX12_base_15 : decode cX12_base 15 = .ok (.goto 15, 3) := by decide +kernel
theorem dX12_base_18 : decode cX12_base 18 = .ok (.iload_n 0, 1) := by decide +kernel
theorem dX12_base_19 : decode cX12_base 19 = .ok (.iconst 2, 1) := by decide +kernel
theorem dX12_base_20 : decode cX12_base 20 = .ok (.if_icmp .ne 8, 3) := by decide +kernel
theorem dX12_base_23 : decode cX12_base 23 = .ok (.bipush 12, 2) := by decide +kernel
theorem dX12_base_25 : decode cX12_base 25 = .ok (.goto 5, 3) := by decide +kernel
theorem dX12_base_28 : decode cX12_base 28 = .ok (.bipush 20, 2) := by decide +kernel
theorem dX12_base_30 : decode cX12_base 30 = .ok (.ireturn, 1) := by decide +kernel
theorem dX12_most_0 : decode cX12_most 0 = .ok (.iload_n 0, 1) := by decide +kernel
theorem dX12_most_1 : decode cX12_most 1 = .ok (.ifCond .ne 8, 3) := by decide +kernel
theorem dX12_most_4 : decode cX12_most 4 = .ok (.bipush 6, 2) := by decide +kernel
theorem dX12_most_6 : decode cX12_most 6 = .ok (.goto 24, 3) := by decide +kernel
theorem dX12_most_9 : decode cX12_most 9 = .ok (.iload_n 0, 1) := by decide +kernel
theorem dX12_most_10 : decode cX12_most 10 = .ok (.iconst 1, 1) := by decide +kernel
theorem dX12_most_11 : decode cX12_most 11 = .ok (.if_icmp .ne 8, 3) := by decide +kernel
theorem dX12_most_14 : decode cX12_most 14 = .ok (.bipush 6, 2) := by decide +kernel
theorem dX12_most_16 : decode cX12_most 16 = .ok (.goto 14, 3) := by decide +kernel
theorem dX12_most_19 : decode cX12_most 19 = .ok (.iload_n 0, 1) := by decide +kernel
theorem dX12_most_20 : decode cX12_most 20 = .ok (.iconst 2, 1) := by decide +kernel
theorem dX12_most_21 : decode cX12_most 21 = .ok (.if_icmp .ne 8, 3) := by decide +kernel
theorem dX12_most_24 : decode cX12_most 24 = .ok (.bipush 8, 2) := by decide +kernel
theorem dX12_most_26 : decode cX12_most 26 = .ok (.goto 4, 3) := by decide +kernel
theorem dX12_most_29 : decode cX12_most 29 = .ok (.iconst 4, 1) := by decide +kernel
theorem dX12_most_30 : decode cX12_most 30 = .ok (.ireturn, 1) := by decide +kernel
theorem dX12_findRead_0 : decode cX12_findRead 0 = .ok (.iconst 0, 1) := by decide +kernel
theorem dX12_findRead_1 : decode cX12_findRead 1 = .ok (.istore_n 2, 1) := by decide +kernel
theorem dX12_findRead_2 : decode cX12_findRead 2 = .ok (.iload_n 2, 1) := by decide +kernel
theorem dX12_findRead_3 : decode cX12_findRead 3 = .ok (.aload_n 0, 1) := by decide +kernel
theorem dX12_findRead_4 : decode cX12_findRead 4 = .ok (.getfield 16, 3) := by decide +kernel
theorem dX12_findRead_7 : decode cX12_findRead 7 = .ok (.iload_n 1, 1) := by decide +kernel
theorem dX12_findRead_8 : decode cX12_findRead 8 = .ok (.iaload, 1) := by decide +kernel
theorem dX12_findRead_9 : decode cX12_findRead 9 = .ok (.if_icmp .ge 30, 3) := by decide +kernel
theorem dX12_findRead_12 : decode cX12_findRead 12 = .ok (.aload_n 0, 1) := by decide +kernel
theorem dX12_findRead_13 : decode cX12_findRead 13 = .ok (.getfield 26, 3) := by decide +kernel
theorem dX12_findRead_16 : decode cX12_findRead 16 = .ok (.iload_n 1, 1) := by decide +kernel
theorem dX12_findRead_17 : decode cX12_findRead 17 = .ok (.invokestatic 215, 3) := by decide +kernel
theorem dX12_findRead_20 : decode cX12_findRead 20 = .ok (.iload_n 2, 1) := by decide +kernel
theorem dX12_findRead_21 : decode cX12_findRead 21 = .ok (.iadd, 1) := by decide +kernel
theorem dX12_findRead_22 : decode cX12_findRead 22 = .ok (.laload, 1) := by decide +kernel
theorem dX12_findRead_23 : decode cX12_findRead 23 = .ok (.aload_n 0, 1) := by decide +kernel
theorem dX12_findRead_24 : decode cX12_findRead 24 = .ok (.getfield 147, 3) := by decide +kernel
theorem dX12_findRead_27 : decode cX12_findRead 27 = .ok (.lcmp, 1) := by decide +kernel
theorem dX12_findRead_28 : decode cX12_findRead 28 = .ok (.ifCond .ne 5, 3) := by decide +kernel
theorem dX12_findRead_31 : decode cX12_findRead 31 = .ok (.iload_n 2, 1) := by decide +kernel
theorem dX12_findRead_32 : decode cX12_findRead 32 = .ok (.ireturn, 1) := by decide +kernel
theorem dX12_findRead_33 : decode cX12_findRead 33 = .ok (.iinc 2 1, 3) := by decide +kernel
theorem dX12_findRead_36 : decode cX12_findRead 36 = .ok (.goto (-34), 3) := by decide +kernel
theorem dX12_findRead_39 : decode cX12_findRead 39 = .ok (.iconst (-1), 1) := by decide +kernel
theorem dX12_findRead_40 : decode cX12_findRead 40 = .ok (.ireturn, 1) := by decide +kernel
theorem dX12_readNew_0 : decode cX12_readNew 0 = .ok (.aload_n 0, 1) := by decide +kernel
theorem dX12_readNew_1 : decode cX12_readNew 1 = .ok (.invokevirtual 218, 3) := by decide +kernel
theorem dX12_readNew_4 : decode cX12_readNew 4 = .ok (.ifCond .ne 9, 3) := by decide +kernel
theorem dX12_readNew_7 : decode cX12_readNew 7 = .ok (.aload_n 0, 1) := by decide +kernel
theorem dX12_readNew_8 : decode cX12_readNew 8 = .ok (.iconst 1, 1) := by decide +kernel
theorem dX12_readNew_9 : decode cX12_readNew 9 = .ok (.invokevirtual 168, 3) := by decide +kernel
theorem dX12_readNew_12 : decode cX12_readNew 12 = .ok (.ireturn, 1) := by decide +kernel
theorem dX12_readNew_13 : decode cX12_readNew 13 = .ok (.iconst 0, 1) := by decide +kernel
theorem dX12_readNew_14 : decode cX12_readNew 14 = .ok (.istore_n 2, 1) := by decide +kernel
theorem dX12_readNew_15 : decode cX12_readNew 15 = .ok (.iload_n 2, 1) := by decide +kernel
theorem dX12_readNew_16 : decode cX12_readNew 16 = .ok (.iconst 4, 1) := by decide +kernel
theorem dX12_readNew_17 : decode cX12_readNew 17 = .ok (.if_icmp .ge 24, 3) := by decide +kernel
theorem dX12_readNew_20 : decode cX12_readNew 20 = .ok (.aload_n 0, 1) := by decide +kernel
theorem dX12_readNew_21 : decode cX12_readNew 21 = .ok (.iload_n 2, 1) := by decide +kernel
theorem dX12_readNew_22 : decode cX12_readNew 22 = .ok (.invokevirtual 222, 3) := by decide +kernel
theorem dX12_readNew_25 : decode cX12_readNew 25 = .ok (.iconst (-1), 1) := by decide +kernel
theorem dX12_readNew_26 : decode cX12_readNew 26 = .ok (.if_icmp .eq 9, 3) := by decide +kernel
theorem dX12_readNew_29 : decode cX12_readNew 29 = .ok (.aload_n 0, 1) := by decide +kernel
theorem dX12_readNew_30 : decode cX12_readNew 30 = .ok (.iconst 3, 1) := by decide +kernel
theorem dX12_readNew_31 : decode cX12_readNew 31 = .ok (.invokevirtual 168, 3) := by decide +kernel
theorem dX12_readNew_34 : decode cX12_readNew 34 = .ok (.ireturn, 1) := by decide +kernel
theorem dX12_readNew_35 : decode cX12_readNew 35 = .ok (.iinc 2 1, 3) := by decide +kernel
theorem dX12_readNew_38 : decode cX12_readNew 38 = .ok (.goto (-23), 3) := by decide +kernel
theorem dX12_readNew_41 : decode cX12_readNew 41 = .ok (.aload_n 0, 1) := by decide +kernel
theorem dX12_readNew_42 : decode cX12_readNew 42 = .ok (.getfield 26, 3) := by decide +kernel
theorem dX12_readNew_45 : decode cX12_readNew 45 = .ok (.iload_n 1, 1) := by decide +kernel
theorem dX12_readNew_46 : decode cX12_readNew 46 = .ok (.invokestatic 215, 3) := by decide +kernel
theorem dX12_readNew_49 : decode cX12_readNew 49 = .ok (.aload_n 0, 1) := by decide +kernel
theorem dX12_readNew_50 : decode cX12_readNew 50 = .ok (.getfield 16, 3) := by decide +kernel
theorem dX12_readNew_53 : decode cX12_readNew 53 = .ok (.iload_n 1, 1) := by decide +kernel
theorem dX12_readNew_54 : decode cX12_readNew 54 = .ok (.iaload, 1) := by decide +kernel
theorem dX12_readNew_55 : decode cX12_readNew 55 = .ok (.iadd, 1) := by decide +kernel
theorem dX12_readNew_56 : decode cX12_readNew 56 = .ok (.aload_n 0, 1) := by decide +kernel
theorem dX12_readNew_57 : decode cX12_readNew 57 = .ok (.getfield 147, 3) := by decide +kernel
theorem dX12_readNew_60 : decode cX12_readNew 60 = .ok (.lastore, 1) := by decide +kernel
theorem dX12_readNew_61 : decode cX12_readNew 61 = .ok (.aload_n 0, 1) := by decide +kernel
theorem dX12_readNew_62 : decode cX12_readNew 62 = .ok (.invokevirtual 178, 3) := by decide +kernel
theorem dX12_readNew_65 : decode cX12_readNew 65 = .ok (.iconst 1, 1) := by decide +kernel
theorem dX12_readNew_66 : decode cX12_readNew 66 = .ok (.ireturn, 1) := by decide +kernel
theorem dX12_readOld_0 : decode cX12_readOld 0 = .ok (.aload_n 0, 1) := by decide +kernel
theorem dX12_readOld_1 : decode cX12_readOld 1 = .ok (.invokevirtual 218, 3) := by decide +kernel
theorem dX12_readOld_4 : decode cX12_readOld 4 = .ok (.ifCond .ne 9, 3) := by decide +kernel
theorem dX12_readOld_7 : decode cX12_readOld 7 = .ok (.aload_n 0, 1) := by decide +kernel
theorem dX12_readOld_8 : decode cX12_readOld 8 = .ok (.iconst 1, 1) := by decide +kernel
theorem dX12_readOld_9 : decode cX12_readOld 9 = .ok (.invokevirtual 168, 3) := by decide +kernel
theorem dX12_readOld_12 : decode cX12_readOld 12 = .ok (.ireturn, 1) := by decide +kernel
theorem dX12_readOld_13 : decode cX12_readOld 13 = .ok (.aload_n 0, 1) := by decide +kernel
theorem dX12_readOld_14 : decode cX12_readOld 14 = .ok (.iload_n 1, 1) := by decide +kernel
theorem dX12_readOld_15 : decode cX12_readOld 15 = .ok (.invokevirtual 222, 3) := by decide +kernel
theorem dX12_readOld_18 : decode cX12_readOld 18 = .ok (.istore_n 3, 1) := by decide +kernel
theorem dX12_readOld_19 : decode cX12_readOld 19 = .ok (.iload_n 3, 1) := by decide +kernel
theorem dX12_readOld_20 : decode cX12_readOld 20 = .ok (.iconst (-1), 1) := by decide +kernel
theorem dX12_readOld_21 : decode cX12_readOld 21 = .ok (.if_icmp .eq 11, 3) := by decide +kernel
theorem dX12_readOld_24 : decode cX12_readOld 24 = .ok (.iload_n 2, 1) := by decide +kernel
theorem dX12_readOld_25 : decode cX12_readOld 25 = .ok (.iload_n 3, 1) := by decide +kernel
theorem dX12_readOld_26 : decode cX12_readOld 26 = .ok (.invokestatic 225, 3) := by decide +kernel
theorem dX12_readOld_29 : decode cX12_readOld 29 = .ok (.ifCond .eq 9, 3) := by decide +kernel
theorem dX12_readOld_32 : decode cX12_readOld 32 = .ok (.aload_n 0, 1) := by decide +kernel
theorem dX12_readOld_33 : decode cX12_readOld 33 = .ok (.iconst 3, 1) := by decide +kernel
theorem dX12_readOld_34 : decode cX12_readOld 34 = .ok (.invokevirtual 168, 3) := by decide +kernel
theorem dX12_readOld_37 : decode cX12_readOld 37 = .ok (.ireturn, 1) := by decide +kernel
theorem dX12_readOld_38 : decode cX12_readOld 38 = .ok (.aload_n 0, 1) := by decide +kernel
theorem dX12_readOld_39 : decode cX12_readOld 39 = .ok (.invokevirtual 178, 3) := by decide +kernel
theorem dX12_readOld_42 : decode cX12_readOld 42 = .ok (.aload_n 0, 1) := by decide +kernel
theorem dX12_readOld_43 : decode cX12_readOld 43 = .ok (.iload_n 3, 1) := by decide +kernel
theorem dX12_readOld_44 : decode cX12_readOld 44 = .ok (.putfield 175, 3) := by decide +kernel
theorem dX12_readOld_47 : decode cX12_readOld 47 = .ok (.iconst 1, 1) := by decide +kernel
theorem dX12_readOld_48 : decode cX12_readOld 48 = .ok (.ireturn, 1) := by decide +kernel
theorem dX12_readLine_0 : decode cX12_readLine 0 = .ok (.iconst 0, 1) := by decide +kernel
theorem dX12_readLine_1 : decode cX12_readLine 1 = .ok (.istore_n 1, 1) := by decide +kernel
theorem dX12_readLine_2 : decode cX12_readLine 2 = .ok (.iload_n 1, 1) := by decide +kernel
theorem dX12_readLine_3 : decode cX12_readLine 3 = .ok (.bipush 8, 2) := by decide +kernel
theorem dX12_readLine_5 : decode cX12_readLine 5 = .ok (.if_icmp .ge 17, 3) := by decide +kernel
theorem dX12_readLine_8 : decode cX12_readLine 8 = .ok (.aload_n 0, 1) := by decide +kernel
theorem dX12_readLine_9 : decode cX12_readLine 9 = .ok (.iload_n 1, 1) := by decide +kernel
theorem dX12_readLine_10 : decode cX12_readLine 10 = .ok (.invokevirtual 229, 3) := by decide +kernel
theorem dX12_readLine_13 : decode cX12_readLine 13 = .ok (.ifCond .ne 9, 3) := by decide +kernel
theorem dX12_readLine_16 : decode cX12_readLine 16 = .ok (.iinc 1 1, 3) := by decide +kernel
theorem dX12_readLine_19 : decode cX12_readLine 19 = .ok (.goto (-17), 3) := by decide +kernel
theorem dX12_readLine_22 : decode cX12_readLine 22 = .ok (.iload_n 1, 1) := by decide +kernel
theorem dX12_readLine_23 : decode cX12_readLine 23 = .ok (.bipush 8, 2) := by decide +kernel
theorem dX12_readLine_25 : decode cX12_readLine 25 = .ok (.if_icmp .ne 9, 3) := by decide +kernel
theorem dX12_readLine_28 : decode cX12_readLine 28 = .ok (.aload_n 0, 1) := by decide +kernel
theorem dX12_readLine_29 : decode cX12_readLine 29 = .ok (.iconst 1, 1) := by decide +kernel
theorem dX12_readLine_30 : decode cX12_readLine 30 = .ok (.invokevirtual 168, 3) := by decide +kernel
theorem dX12_readLine_33 : decode cX12_readLine 33 = .ok (.ireturn, 1) := by decide +kernel
theorem dX12_readLine_34 : decode cX12_readLine 34 = .ok (.iload_n 1, 1) := by decide +kernel
theorem dX12_readLine_35 : decode cX12_readLine 35 = .ok (.iconst 3, 1) := by decide +kernel
theorem dX12_readLine_36 : decode cX12_readLine 36 = .ok (.if_icmp .le 116, 3) := by decide +kernel
theorem dX12_readLine_39 : decode cX12_readLine 39 = .ok (.aload_n 0, 1) := by decide +kernel
theorem dX12_readLine_40 : decode cX12_readLine 40 = .ok (.getfield 232, 3) := by decide +kernel
theorem dX12_readLine_43 : decode cX12_readLine 43 = .ok (.iload_n 1, 1) := by decide +kernel
theorem dX12_readLine_44 : decode cX12_readLine 44 = .ok (.invokestatic 225, 3) := by decide +kernel
theorem dX12_readLine_47 : decode cX12_readLine 47 = .ok (.ifCond .eq 9, 3) := by decide +kernel
theorem dX12_readLine_50 : decode cX12_readLine 50 = .ok (.aload_n 0, 1) := by decide +kernel
theorem dX12_readLine_51 : decode cX12_readLine 51 = .ok (.iconst 3, 1) := by decide +kernel
theorem dX12_readLine_52 : decode cX12_readLine 52 = .ok (.invokevirtual 168, 3) := by decide +kernel
theorem dX12_readLine_55 : decode cX12_readLine 55 = .ok (.ireturn, 1) := by decide +kernel
theorem dX12_readLine_56 : decode cX12_readLine 56 = .ok (.aload_n 0, 1) := by decide +kernel
theorem dX12_readLine_57 : decode cX12_readLine 57 = .ok (.dup, 1) := by decide +kernel
theorem dX12_readLine_58 : decode cX12_readLine 58 = .ok (.getfield 232, 3) := by decide +kernel
theorem dX12_readLine_61 : decode cX12_readLine 61 = .ok (.iconst 1, 1) := by decide +kernel
theorem dX12_readLine_62 : decode cX12_readLine 62 = .ok (.iload_n 1, 1) := by decide +kernel
theorem dX12_readLine_63 : decode cX12_readLine 63 = .ok (.ishl, 1) := by decide +kernel
theorem dX12_readLine_64 : decode cX12_readLine 64 = .ok (.ior, 1) := by decide +kernel
theorem dX12_readLine_65 : decode cX12_readLine 65 = .ok (.putfield 232, 3) := by decide +kernel
theorem dX12_readLine_68 : decode cX12_readLine 68 = .ok (.aload_n 0, 1) := by decide +kernel
theorem dX12_readLine_69 : decode cX12_readLine 69 = .ok (.invokevirtual 178, 3) := by decide +kernel
theorem dX12_readLine_72 : decode cX12_readLine 72 = .ok (.iload_n 1, 1) := by decide +kernel
theorem dX12_readLine_73 : decode cX12_readLine 73 = .ok (.iconst 4, 1) := by decide +kernel
theorem dX12_readLine_74 : decode cX12_readLine 74 = .ok (.if_icmp .ne 12, 3) := by decide +kernel
theorem dX12_readLine_77 : decode cX12_readLine 77 = .ok (.aload_n 0, 1) := by decide +kernel
theorem dX12_readLine_78 : decode cX12_readLine 78 = .ok (.iconst 1, 1) := by decide +kernel
theorem dX12_readLine_79 : decode cX12_readLine 79 = .ok (.iconst 4, 1) := by decide +kernel
theorem dX12_readLine_80 : decode cX12_readLine 80 = .ok (.invokevirtual 235, 3) := by decide +kernel
theorem dX12_readLine_83 : decode cX12_readLine 83 = .ok (.goto 43, 3) := by decide +kernel
theorem dX12_readLine_86 : decode cX12_readLine 86 = .ok (.iload_n 1, 1) := by decide +kernel
theorem dX12_readLine_87 : decode cX12_readLine 87 = .ok (.iconst 5, 1) := by decide +kernel
theorem dX12_readLine_88 : decode cX12_readLine 88 = .ok (.if_icmp .ne 13, 3) := by decide +kernel
theorem dX12_readLine_91 : decode cX12_readLine 91 = .ok (.aload_n 0, 1) := by decide +kernel
theorem dX12_readLine_92 : decode cX12_readLine 92 = .ok (.iconst 1, 1) := by decide +kernel
theorem dX12_readLine_93 : decode cX12_readLine 93 = .ok (.bipush 99, 2) := by decide +kernel
theorem dX12_readLine_95 : decode cX12_readLine 95 = .ok (.invokevirtual 235, 3) := by decide +kernel
theorem dX12_readLine_98 : decode cX12_readLine 98 = .ok (.goto 28, 3) := by decide +kernel
theorem dX12_readLine_101 : decode cX12_readLine 101 = .ok (.iload_n 1, 1) := by decide +kernel
theorem dX12_readLine_102 : decode cX12_readLine 102 = .ok (.bipush 6, 2) := by decide +kernel
theorem dX12_readLine_104 : decode cX12_readLine 104 = .ok (.if_icmp .ne 13, 3) := by decide +kernel
theorem dX12_readLine_107 : decode cX12_readLine 107 = .ok (.aload_n 0, 1) := by decide +kernel
theorem dX12_readLine_108 : decode cX12_readLine 108 = .ok (.iconst 0, 1) := by decide +kernel
theorem dX12_readLine_109 : decode cX12_readLine 109 = .ok (.bipush 99, 2) := by decide +kernel
theorem dX12_readLine_111 : decode cX12_readLine 111 = .ok (.invokevirtual 235, 3) := by decide +kernel
theorem dX12_readLine_114 : decode cX12_readLine 114 = .ok (.goto 12, 3) := by decide +kernel
theorem dX12_readLine_117 : decode cX12_readLine 117 = .ok (.aload_n 0, 1) := by decide +kernel
theorem dX12_readLine_118 : decode cX12_readLine 118 = .ok (.bipush 100, 2) := by decide +kernel
theorem dX12_readLine_120 : decode cX12_readLine 120 = .ok (.sipush 300, 3) := by decide +kernel
theorem dX12_readLine_123 : decode cX12_readLine 123 = .ok (.invokevirtual 235, 3) := by decide +kernel
theorem dX12_readLine_126 : decode cX12_readLine 126 = .ok (.istore_n 2, 1) := by decide +kernel
theorem dX12_readLine_127 : decode cX12_readLine 127 = .ok (.iload_n 2, 1) := by decide +kernel
theorem dX12_readLine_128 : decode cX12_readLine 128 = .ok (.ifCond .ne 5, 3) := by decide +kernel
theorem dX12_readLine_131 : decode cX12_readLine 131 = .ok (.iconst 0, 1) := by decide +kernel
theorem dX12_readLine_132 : decode cX12_readLine 132 = .ok (.ireturn, 1) := by decide +kernel
theorem dX12_readLine_133 : decode cX12_readLine 133 = .ok (.aload_n 0, 1) := by decide +kernel
theorem dX12_readLine_134 : decode cX12_readLine 134 = .ok (.getfield 16, 3) := by decide +kernel
theorem dX12_readLine_137 : decode cX12_readLine 137 = .ok (.iconst 4, 1) := by decide +kernel
theorem dX12_readLine_138 : decode cX12_readLine 138 = .ok (.iload_n 1, 1) := by decide +kernel
theorem dX12_readLine_139 : decode cX12_readLine 139 = .ok (.iadd, 1) := by decide +kernel
theorem dX12_readLine_140 : decode cX12_readLine 140 = .ok (.iconst 4, 1) := by decide +kernel
theorem dX12_readLine_141 : decode cX12_readLine 141 = .ok (.isub, 1) := by decide +kernel
theorem dX12_readLine_142 : decode cX12_readLine 142 = .ok (.aload_n 0, 1) := by decide +kernel
theorem dX12_readLine_143 : decode cX12_readLine 143 = .ok (.getfield 175, 3) := by decide +kernel
theorem dX12_readLine_146 : decode cX12_readLine 146 = .ok (.iastore, 1) := by decide +kernel
theorem dX12_readLine_147 : decode cX12_readLine 147 = .ok (.aload_n 0, 1) := by decide +kernel
theorem dX12_readLine_148 : decode cX12_readLine 148 = .ok (.invokevirtual 238, 3) := by decide +kernel
theorem dX12_readLine_151 : decode cX12_readLine 151 = .ok (.ireturn, 1) := by decide +kernel
theorem dX12_readLine_152 : decode cX12_readLine 152 = .ok (.aload_n 0, 1) := by decide +kernel
theorem dX12_readLine_153 : decode cX12_readLine 153 = .ok (.getfield 16, 3) := by decide +kernel
theorem dX12_readLine_156 : decode cX12_readLine 156 = .ok (.iload_n 1, 1) := by decide +kernel
theorem dX12_readLine_157 : decode cX12_readLine 157 = .ok (.iaload, 1) := by decide +kernel
theorem dX12_readLine_158 : decode cX12_readLine 158 = .ok (.iload_n 1, 1) := by decide +kernel
theorem dX12_readLine_159 : decode cX12_readLine 159 = .ok (.invokestatic 241, 3) := by decide +kernel
theorem dX12_readLine_162 : decode cX12_readLine 162 = .ok (.if_icmp .ne 9, 3) := by decide +kernel
theorem dX12_readLine_165 : decode cX12_readLine 165 = .ok (.aload_n 0, 1) := by decide +kernel
theorem dX12_readLine_166 : decode cX12_readLine 166 = .ok (.iconst 4, 1) := by decide +kernel
theorem dX12_readLine_167 : decode cX12_readLine 167 = .ok (.invokevirtual 168, 3) := by decide +kernel
theorem dX12_readLine_170 : decode cX12_readLine 170 = .ok (.ireturn, 1) := by decide +kernel
theorem dX12_readLine_171 : decode cX12_readLine 171 = .ok (.aload_n 0, 1) := by decide +kernel
theorem dX12_readLine_172 : decode cX12_readLine 172 = .ok (.invokevirtual 178, 3) := by decide +kernel
theorem dX12_readLine_175 : decode cX12_readLine 175 = .ok (.aload_n 0, 1) := by decide +kernel
theorem dX12_readLine_176 : decode cX12_readLine 176 = .ok (.iload_n 1, 1) := by decide +kernel
theorem dX12_readLine_177 : decode cX12_readLine 177 = .ok (.invokevirtual 244, 3) := by decide +kernel
theorem dX12_readLine_180 : decode cX12_readLine 180 = .ok (.ifCond .ne 5, 3) := by decide +kernel
theorem dX12_readLine_183 : decode cX12_readLine 183 = .ok (.iconst 0, 1) := by decide +kernel
theorem dX12_readLine_184 : decode cX12_readLine 184 = .ok (.ireturn, 1) := by decide +kernel
theorem dX12_readLine_185 : decode cX12_readLine 185 = .ok (.iload_n 1, 1) := by decide +kernel
theorem dX12_readLine_186 : decode cX12_readLine 186 = .ok (.ifCond .eq 40, 3) := by decide +kernel
theorem dX12_readLine_189 : decode cX12_readLine 189 = .ok (.iload_n 1, 1) := by decide +kernel
theorem dX12_readLine_190 : decode cX12_readLine 190 = .ok (.iconst 1, 1) := by decide +kernel
theorem dX12_readLine_191 : decode cX12_readLine 191 = .ok (.if_icmp .ne 13, 3) := by decide +kernel
theorem dX12_readLine_194 : decode cX12_readLine 194 = .ok (.aload_n 0, 1) := by decide +kernel
theorem dX12_readLine_195 : decode cX12_readLine 195 = .ok (.invokevirtual 247, 3) := by decide +kernel
theorem dX12_readLine_198 : decode cX12_readLine 198 = .ok (.ifCond .eq 32, 3) := by decide +kernel
theorem dX12_readLine_201 : decode cX12_readLine 201 = .ok (.goto 25, 3) := by decide +kernel
theorem dX12_readLine_204 : decode cX12_readLine 204 = .ok (.iload_n 1, 1) := by decide +kernel
theorem dX12_readLine_205 : decode cX12_readLine 205 = .ok (.iconst 2, 1) := by decide +kernel
theorem dX12_readLine_206 : decode cX12_readLine 206 = .ok (.if_icmp .ne 13, 3) := by decide +kernel
theorem dX12_readLine_209 : decode cX12_readLine 209 = .ok (.aload_n 0, 1) := by decide +kernel
theorem dX12_readLine_210 : decode cX12_readLine 210 = .ok (.invokevirtual 250, 3) := by decide +kernel
theorem dX12_readLine_213 : decode cX12_readLine 213 = .ok (.ifCond .eq 17, 3) := by decide +kernel
theorem dX12_readLine_216 : decode cX12_readLine 216 = .ok (.goto 10, 3) := by decide +kernel
theorem dX12_readLine_219 : decode cX12_readLine 219 = .ok (.aload_n 0, 1) := by decide +kernel
theorem dX12_readLine_220 : decode cX12_readLine 220 = .ok (.invokevirtual 253, 3) := by decide +kernel
theorem dX12_readLine_223 : decode cX12_readLine 223 = .ok (.ifCond .eq 7, 3) := by decide +kernel
theorem dX12_readLine_226 : decode cX12_readLine 226 = .ok (.iconst 1, 1) := by decide +kernel
theorem dX12_readLine_227 : decode cX12_readLine 227 = .ok (.goto 4, 3) := by decide +kernel
theorem dX12_readLine_230 : decode cX12_readLine 230 = .ok (.iconst 0, 1) := by decide +kernel
theorem dX12_readLine_231 : decode cX12_readLine 231 = .ok (.istore_n 2, 1) := by decide +kernel
theorem dX12_readLine_232 : decode cX12_readLine 232 = .ok (.iload_n 2, 1) := by decide +kernel
theorem dX12_readLine_233 : decode cX12_readLine 233 = .ok (.ifCond .ne 5, 3) := by decide +kernel
theorem dX12_readLine_236 : decode cX12_readLine 236 = .ok (.iconst 0, 1) := by decide +kernel
theorem dX12_readLine_237 : decode cX12_readLine 237 = .ok (.ireturn, 1) := by decide +kernel
theorem dX12_readLine_238 : decode cX12_readLine 238 = .ok (.aload_n 0, 1) := by decide +kernel
theorem dX12_readLine_239 : decode cX12_readLine 239 = .ok (.getfield 16, 3) := by decide +kernel
theorem dX12_readLine_242 : decode cX12_readLine 242 = .ok (.iload_n 1, 1) := by decide +kernel
theorem dX12_readLine_243 : decode cX12_readLine 243 = .ok (.dup2, 1) := by decide +kernel
theorem dX12_readLine_244 : decode cX12_readLine 244 = .ok (.iaload, 1) := by decide +kernel
theorem dX12_readLine_245 : decode cX12_readLine 245 = .ok (.iconst 1, 1) := by decide +kernel
theorem dX12_readLine_246 : decode cX12_readLine 246 = .ok (.iadd, 1) := by decide +kernel
theorem dX12_readLine_247 : decode cX12_readLine 247 = .ok (.iastore, 1) := by decide +kernel
theorem dX12_readLine_248 : decode cX12_readLine 248 = .ok (.aload_n 0, 1) := by decide +kernel
theorem dX12_readLine_249 : decode cX12_readLine 249 = .ok (.invokevirtual 238, 3) := by decide +kernel
theorem dX12_readLine_252 : decode cX12_readLine 252 = .ok (.ireturn, 1) := by decide +kernel
theorem dX12_readAgent_0 : decode cX12_readAgent 0 = .ok (.bipush 10, 2) := by decide +kernel
theorem dX12_readAgent_2 : decode cX12_readAgent 2 = .ok (.bipush 8, 2) := by decide +kernel
theorem dX12_readAgent_4 : decode cX12_readAgent 4 = .ok (.aload_n 0, 1) := by decide +kernel
theorem dX12_readAgent_5 : decode cX12_readAgent 5 = .ok (.getfield 16, 3) := by decide +kernel
theorem dX12_readAgent_8 : decode cX12_readAgent 8 = .ok (.iconst 1, 1) := by decide +kernel
theorem dX12_readAgent_9 : decode cX12_readAgent 9 = .ok (.iaload, 1) := by decide +kernel
theorem dX12_readAgent_10 : decode cX12_readAgent 10 = .ok (.imul, 1) := by decide +kernel
theorem dX12_readAgent_11 : decode cX12_readAgent 11 = .ok (.iadd, 1) := by decide +kernel
theorem dX12_readAgent_12 : decode cX12_readAgent 12 = .ok (.istore_n 1, 1) := by decide +kernel
theorem dX12_readAgent_13 : decode cX12_readAgent 13 = .ok (.aload_n 0, 1) := by decide +kernel
theorem dX12_readAgent_14 : decode cX12_readAgent 14 = .ok (.iconst 0, 1) := by decide +kernel
theorem dX12_readAgent_15 : decode cX12_readAgent 15 = .ok (.bipush 99, 2) := by decide +kernel
theorem dX12_readAgent_17 : decode cX12_readAgent 17 = .ok (.invokevirtual 235, 3) := by decide +kernel
theorem dX12_readAgent_20 : decode cX12_readAgent 20 = .ok (.ifCond .ne 5, 3) := by decide +kernel
theorem dX12_readAgent_23 : decode cX12_readAgent 23 = .ok (.iconst 0, 1) := by decide +kernel
theorem dX12_readAgent_24 : decode cX12_readAgent 24 = .ok (.ireturn, 1) := by decide +kernel
theorem dX12_readAgent_25 : decode cX12_readAgent 25 = .ok (.aload_n 0, 1) := by decide +kernel
theorem dX12_readAgent_26 : decode cX12_readAgent 26 = .ok (.getfield 16, 3) := by decide +kernel
theorem dX12_readAgent_29 : decode cX12_readAgent 29 = .ok (.iload_n 1, 1) := by decide +kernel
theorem dX12_readAgent_30 : decode cX12_readAgent 30 = .ok (.aload_n 0, 1) := by decide +kernel
theorem dX12_readAgent_31 : decode cX12_readAgent 31 = .ok (.getfield 175, 3) := by decide +kernel
theorem dX12_readAgent_34 : decode cX12_readAgent 34 = .ok (.iastore, 1) := by decide +kernel
theorem dX12_readAgent_35 : decode cX12_readAgent 35 = .ok (.iconst 0, 1) := by decide +kernel
theorem dX12_readAgent_36 : decode cX12_readAgent 36 = .ok (.istore_n 2, 1) := by decide +kernel
theorem dX12_readAgent_37 : decode cX12_readAgent 37 = .ok (.iload_n 2, 1) := by decide +kernel
theorem dX12_readAgent_38 : decode cX12_readAgent 38 = .ok (.bipush 6, 2) := by decide +kernel
theorem dX12_readAgent_40 : decode cX12_readAgent 40 = .ok (.if_icmp .ge 20, 3) := by decide +kernel
theorem dX12_readAgent_43 : decode cX12_readAgent 43 = .ok (.aload_n 0, 1) := by decide +kernel
theorem dX12_readAgent_44 : decode cX12_readAgent 44 = .ok (.getfield 16, 3) := by decide +kernel
theorem dX12_readAgent_47 : decode cX12_readAgent 47 = .ok (.iload_n 1, 1) := by decide +kernel
theorem dX12_readAgent_48 : decode cX12_readAgent 48 = .ok (.iconst 1, 1) := by decide +kernel
theorem dX12_readAgent_49 : decode cX12_readAgent 49 = .ok (.iadd, 1) := by decide +kernel
theorem dX12_readAgent_50 : decode cX12_readAgent 50 = .ok (.iload_n 2, 1) := by decide +kernel
theorem dX12_readAgent_51 : decode cX12_readAgent 51 = .ok (.iadd, 1) := by decide +kernel
theorem dX12_readAgent_52 : decode cX12_readAgent 52 = .ok (.iconst 0, 1) := by decide +kernel
theorem dX12_readAgent_53 : decode cX12_readAgent 53 = .ok (.iastore, 1) := by decide +kernel
theorem dX12_readAgent_54 : decode cX12_readAgent 54 = .ok (.iinc 2 1, 3) := by decide +kernel
theorem dX12_readAgent_57 : decode cX12_readAgent 57 = .ok (.goto (-20), 3) := by decide +kernel
theorem dX12_readAgent_60 : decode cX12_readAgent 60 = .ok (.iconst 0, 1) := by decide +kernel
theorem dX12_readAgent_61 : decode cX12_readAgent 61 = .ok (.istore_n 2, 1) := by decide +kernel
theorem dX12_readAgent_62 : decode cX12_readAgent 62 = .ok (.aload_n 0, 1) := by decide +kernel
theorem dX12_readAgent_63 : decode cX12_readAgent 63 = .ok (.getfield 134, 3) := by decide +kernel
theorem dX12_readAgent_66 : decode cX12_readAgent 66 = .ok (.iconst 2, 1) := by decide +kernel
theorem dX12_readAgent_67 : decode cX12_readAgent 67 = .ok (.if_icmp .ne 54, 3) := by decide +kernel
theorem dX12_readAgent_70 : decode cX12_readAgent 70 = .ok (.aload_n 0, 1) := by decide +kernel
theorem dX12_readAgent_71 : decode cX12_readAgent 71 = .ok (.iconst 0, 1) := by decide +kernel
theorem dX12_readAgent_72 : decode cX12_readAgent 72 = .ok (.iload_n 2, 1) := by decide +kernel
theorem dX12_readAgent_73 : decode cX12_readAgent 73 = .ok (.invokevirtual 256, 3) := by decide +kernel
theorem dX12_readAgent_76 : decode cX12_readAgent 76 = .ok (.ifCond .ne 5, 3) := by decide +kernel
theorem dX12_readAgent_79 : decode cX12_readAgent 79 = .ok (.iconst 0, 1) := by decide +kernel
theorem dX12_readAgent_80 : decode cX12_readAgent 80 = .ok (.ireturn, 1) := by decide +kernel
theorem dX12_readAgent_81 : decode cX12_readAgent 81 = .ok (.aload_n 0, 1) := by decide +kernel
theorem dX12_readAgent_82 : decode cX12_readAgent 82 = .ok (.getfield 175, 3) := by decide +kernel
theorem dX12_readAgent_85 : decode cX12_readAgent 85 = .ok (.istore_n 3, 1) := by decide +kernel
theorem dX12_readAgent_86 : decode cX12_readAgent 86 = .ok (.iload_n 2, 1) := by decide +kernel
theorem dX12_readAgent_87 : decode cX12_readAgent 87 = .ok (.iconst 1, 1) := by decide +kernel
theorem dX12_readAgent_88 : decode cX12_readAgent 88 = .ok (.iload_n 3, 1) := by decide +kernel
theorem dX12_readAgent_89 : decode cX12_readAgent 89 = .ok (.ishl, 1) := by decide +kernel
theorem dX12_readAgent_90 : decode cX12_readAgent 90 = .ok (.ior, 1) := by decide +kernel
theorem dX12_readAgent_91 : decode cX12_readAgent 91 = .ok (.istore_n 2, 1) := by decide +kernel
theorem dX12_readAgent_92 : decode cX12_readAgent 92 = .ok (.aload_n 0, 1) := by decide +kernel
theorem dX12_readAgent_93 : decode cX12_readAgent 93 = .ok (.iconst 0, 1) := by decide +kernel
theorem dX12_readAgent_94 : decode cX12_readAgent 94 = .ok (.bipush 20, 2) := by decide +kernel
theorem dX12_readAgent_96 : decode cX12_readAgent 96 = .ok (.invokevirtual 235, 3) := by decide +kernel
theorem dX12_readAgent_99 : decode cX12_readAgent 99 = .ok (.ifCond .ne 5, 3) := by decide +kernel
theorem dX12_readAgent_102 : decode cX12_readAgent 102 = .ok (.iconst 0, 1) := by decide +kernel
theorem dX12_readAgent_103 : decode cX12_readAgent 103 = .ok (.ireturn, 1) := by decide +kernel
theorem dX12_readAgent_104 : decode cX12_readAgent 104 = .ok (.aload_n 0, 1) := by decide +kernel
theorem dX12_readAgent_105 : decode cX12_readAgent 105 = .ok (.getfield 16, 3) := by decide +kernel
theorem dX12_readAgent_108 : decode cX12_readAgent 108 = .ok (.iload_n 1, 1) := by decide +kernel
theorem dX12_readAgent_109 : decode cX12_readAgent 109 = .ok (.iconst 1, 1) := by decide +kernel
theorem dX12_readAgent_110 : decode cX12_readAgent 110 = .ok (.iadd, 1) := by decide +kernel
theorem dX12_readAgent_111 : decode cX12_readAgent 111 = .ok (.iload_n 3, 1) := by decide +kernel
theorem dX12_readAgent_112 : decode cX12_readAgent 112 = .ok (.iadd, 1) := by decide +kernel
theorem dX12_readAgent_113 : decode cX12_readAgent 113 = .ok (.aload_n 0, 1) := by decide +kernel
theorem dX12_readAgent_114 : decode cX12_readAgent 114 = .ok (.getfield 175, 3) := by decide +kernel
theorem dX12_readAgent_117 : decode cX12_readAgent 117 = .ok (.iastore, 1) := by decide +kernel
theorem dX12_readAgent_118 : decode cX12_readAgent 118 = .ok (.goto (-56), 3) := by decide +kernel
theorem dX12_readAgent_121 : decode cX12_readAgent 121 = .ok (.iconst 1, 1) := by decide +kernel
theorem dX12_readAgent_122 : decode cX12_readAgent 122 = .ok (.ireturn, 1) := by decide +kernel
theorem dX12_readCloth_0 : decode cX12_readCloth 0 = .ok (.bipush 60, 2) := by decide +kernel
theorem dX12_readCloth_2 : decode cX12_readCloth 2 = .ok (.iconst 4, 1) := by decide +kernel
theorem dX12_readCloth_3 : decode cX12_readCloth 3 = .ok (.aload_n 0, 1) := by decide +kernel
theorem dX12_readCloth_4 : decode cX12_readCloth 4 = .ok (.getfield 16, 3) := by decide +kernel
theorem dX12_readCloth_7 : decode cX12_readCloth 7 = .ok (.iconst 2, 1) := by decide +kernel
theorem dX12_readCloth_8 : decode cX12_readCloth 8 = .ok (.iaload, 1) := by decide +kernel
theorem dX12_readCloth_9 : decode cX12_readCloth 9 = .ok (.imul, 1) := by decide +kernel
theorem dX12_readCloth_10 : decode cX12_readCloth 10 = .ok (.iadd, 1) := by decide +kernel
theorem dX12_readCloth_11 : decode cX12_readCloth 11 = .ok (.istore_n 1, 1) := by decide +kernel
theorem dX12_readCloth_12 : decode cX12_readCloth 12 = .ok (.aload_n 0, 1) := by decide +kernel
theorem dX12_readCloth_13 : decode cX12_readCloth 13 = .ok (.iconst 0, 1) := by decide +kernel
theorem dX12_readCloth_14 : decode cX12_readCloth 14 = .ok (.bipush 9, 2) := by decide +kernel
theorem dX12_readCloth_16 : decode cX12_readCloth 16 = .ok (.invokevirtual 235, 3) := by decide +kernel
theorem dX12_readCloth_19 : decode cX12_readCloth 19 = .ok (.ifCond .ne 5, 3) := by decide +kernel
theorem dX12_readCloth_22 : decode cX12_readCloth 22 = .ok (.iconst 0, 1) := by decide +kernel
theorem dX12_readCloth_23 : decode cX12_readCloth 23 = .ok (.ireturn, 1) := by decide +kernel
theorem dX12_readCloth_24 : decode cX12_readCloth 24 = .ok (.aload_n 0, 1) := by decide +kernel
theorem dX12_readCloth_25 : decode cX12_readCloth 25 = .ok (.getfield 16, 3) := by decide +kernel
theorem dX12_readCloth_28 : decode cX12_readCloth 28 = .ok (.iload_n 1, 1) := by decide +kernel
theorem dX12_readCloth_29 : decode cX12_readCloth 29 = .ok (.aload_n 0, 1) := by decide +kernel
theorem dX12_readCloth_30 : decode cX12_readCloth 30 = .ok (.getfield 175, 3) := by decide +kernel
theorem dX12_readCloth_33 : decode cX12_readCloth 33 = .ok (.iastore, 1) := by decide +kernel
theorem dX12_readCloth_34 : decode cX12_readCloth 34 = .ok (.aload_n 0, 1) := by decide +kernel
theorem dX12_readCloth_35 : decode cX12_readCloth 35 = .ok (.iconst 0, 1) := by decide +kernel
theorem dX12_readCloth_36 : decode cX12_readCloth 36 = .ok (.sipush 999, 3) := by decide +kernel
theorem dX12_readCloth_39 : decode cX12_readCloth 39 = .ok (.invokevirtual 235, 3) := by decide +kernel
theorem dX12_readCloth_42 : decode cX12_readCloth 42 = .ok (.ifCond .ne 5, 3) := by decide +kernel
theorem dX12_readCloth_45 : decode cX12_readCloth 45 = .ok (.iconst 0, 1) := by decide +kernel
theorem dX12_readCloth_46 : decode cX12_readCloth 46 = .ok (.ireturn, 1) := by decide +kernel
theorem dX12_readCloth_47 : decode cX12_readCloth 47 = .ok (.aload_n 0, 1) := by decide +kernel
theorem dX12_readCloth_48 : decode cX12_readCloth 48 = .ok (.getfield 16, 3) := by decide +kernel
theorem dX12_readCloth_51 : decode cX12_readCloth 51 = .ok (.iload_n 1, 1) := by decide +kernel
theorem dX12_readCloth_52 : decode cX12_readCloth 52 = .ok (.iconst 1, 1) := by decide +kernel
theorem dX12_readCloth_53 : decode cX12_readCloth 53 = .ok (.iadd, 1) := by decide +kernel
theorem dX12_readCloth_54 : decode cX12_readCloth 54 = .ok (.aload_n 0, 1) := by decide +kernel
theorem dX12_readCloth_55 : decode cX12_readCloth 55 = .ok (.getfield 175, 3) := by decide +kernel
theorem dX12_readCloth_58 : decode cX12_readCloth 58 = .ok (.iastore, 1) := by decide +kernel
theorem dX12_readCloth_59 : decode cX12_readCloth 59 = .ok (.aload_n 0, 1) := by decide +kernel
theorem dX12_readCloth_60 : decode cX12_readCloth 60 = .ok (.getfield 16, 3) := by decide +kernel
theorem dX12_readCloth_63 : decode cX12_readCloth 63 = .ok (.iload_n 1, 1) := by decide +kernel
theorem dX12_readCloth_64 : decode cX12_readCloth 64 = .ok (.iconst 2, 1) := by decide +kernel
theorem dX12_readCloth_65 : decode cX12_readCloth 65 = .ok (.iadd, 1) := by decide +kernel
theorem dX12_readCloth_66 : decode cX12_readCloth 66 = .ok (.iconst 0, 1) := by decide +kernel
theorem dX12_readCloth_67 : decode cX12_readCloth 67 = .ok (.iastore, 1) := by decide +kernel
theorem dX12_readCloth_68 : decode cX12_readCloth 68 = .ok (.aload_n 0, 1) := by decide +kernel
theorem dX12_readCloth_69 : decode cX12_readCloth 69 = .ok (.getfield 16, 3) := by decide +kernel
theorem dX12_readCloth_72 : decode cX12_readCloth 72 = .ok (.iload_n 1, 1) := by decide +kernel
theorem dX12_readCloth_73 : decode cX12_readCloth 73 = .ok (.iconst 3, 1) := by decide +kernel
theorem dX12_readCloth_74 : decode cX12_readCloth 74 = .ok (.iadd, 1) := by decide +kernel
theorem dX12_readCloth_75 : decode cX12_readCloth 75 = .ok (.iconst 0, 1) := by decide +kernel
theorem dX12_readCloth_76 : decode cX12_readCloth 76 = .ok (.iastore, 1) := by decide +kernel
theorem dX12_readCloth_77 : decode cX12_readCloth 77 = .ok (.aload_n 0, 1) := by decide +kernel
theorem dX12_readCloth_78 : decode cX12_readCloth 78 = .ok (.bipush 8, 2) := by decide +kernel
theorem dX12_readCloth_80 : decode cX12_readCloth 80 = .ok (.invokevirtual 229, 3) := by decide +kernel
theorem dX12_readCloth_83 : decode cX12_readCloth 83 = .ok (.ifCond .eq 16, 3) := by decide +kernel
theorem dX12_readCloth_86 : decode cX12_readCloth 86 = .ok (.aload_n 0, 1) := by decide +kernel
theorem dX12_readCloth_87 : decode cX12_readCloth 87 = .ok (.getfield 16, 3) := by decide +kernel
theorem dX12_readCloth_90 : decode cX12_readCloth 90 = .ok (.iload_n 1, 1) := by decide +kernel
theorem dX12_readCloth_91 : decode cX12_readCloth 91 = .ok (.iconst 2, 1) := by decide +kernel
theorem dX12_readCloth_92 : decode cX12_readCloth 92 = .ok (.iadd, 1) := by decide +kernel
theorem dX12_readCloth_93 : decode cX12_readCloth 93 = .ok (.iconst 1, 1) := by decide +kernel
theorem dX12_readCloth_94 : decode cX12_readCloth 94 = .ok (.iastore, 1) := by decide +kernel
theorem dX12_readCloth_95 : decode cX12_readCloth 95 = .ok (.aload_n 0, 1) := by decide +kernel
theorem dX12_readCloth_96 : decode cX12_readCloth 96 = .ok (.invokevirtual 178, 3) := by decide +kernel
theorem dX12_readCloth_99 : decode cX12_readCloth 99 = .ok (.aload_n 0, 1) := by decide +kernel
theorem dX12_readCloth_100 : decode cX12_readCloth 100 = .ok (.bipush 9, 2) := by decide +kernel
theorem dX12_readCloth_102 : decode cX12_readCloth 102 = .ok (.invokevirtual 229, 3) := by decide +kernel
theorem dX12_readCloth_105 : decode cX12_readCloth 105 = .ok (.ifCond .eq 45, 3) := by decide +kernel
theorem dX12_readCloth_108 : decode cX12_readCloth 108 = .ok (.aload_n 0, 1) := by decide +kernel
theorem dX12_readCloth_109 : decode cX12_readCloth 109 = .ok (.invokevirtual 178, 3) := by decide +kernel
theorem dX12_readCloth_112 : decode cX12_readCloth 112 = .ok (.aload_n 0, 1) := by decide +kernel
theorem dX12_readCloth_113 : decode cX12_readCloth 113 = .ok (.iconst 1, 1) := by decide +kernel
theorem dX12_readCloth_114 : decode cX12_readCloth 114 = .ok (.aload_n 0, 1) := by decide +kernel
theorem dX12_readCloth_115 : decode cX12_readCloth 115 = .ok (.getfield 16, 3) := by decide +kernel
theorem dX12_readCloth_118 : decode cX12_readCloth 118 = .ok (.iload_n 1, 1) := by decide +kernel
theorem dX12_readCloth_119 : decode cX12_readCloth 119 = .ok (.iconst 3, 1) := by decide +kernel
theorem dX12_readCloth_120 : decode cX12_readCloth 120 = .ok (.iadd, 1) := by decide +kernel
theorem dX12_readCloth_121 : decode cX12_readCloth 121 = .ok (.iaload, 1) := by decide +kernel
theorem dX12_readCloth_122 : decode cX12_readCloth 122 = .ok (.invokevirtual 256, 3) := by decide +kernel
theorem dX12_readCloth_125 : decode cX12_readCloth 125 = .ok (.ifCond .ne 5, 3) := by decide +kernel
theorem dX12_readCloth_128 : decode cX12_readCloth 128 = .ok (.iconst 0, 1) := by decide +kernel
theorem dX12_readCloth_129 : decode cX12_readCloth 129 = .ok (.ireturn, 1) := by decide +kernel
theorem dX12_readCloth_130 : decode cX12_readCloth 130 = .ok (.aload_n 0, 1) := by decide +kernel
theorem dX12_readCloth_131 : decode cX12_readCloth 131 = .ok (.getfield 16, 3) := by decide +kernel
theorem dX12_readCloth_134 : decode cX12_readCloth 134 = .ok (.iload_n 1, 1) := by decide +kernel
theorem dX12_readCloth_135 : decode cX12_readCloth 135 = .ok (.iconst 3, 1) := by decide +kernel
theorem dX12_readCloth_136 : decode cX12_readCloth 136 = .ok (.iadd, 1) := by decide +kernel
theorem dX12_readCloth_137 : decode cX12_readCloth 137 = .ok (.dup2, 1) := by decide +kernel
theorem dX12_readCloth_138 : decode cX12_readCloth 138 = .ok (.iaload, 1) := by decide +kernel
theorem dX12_readCloth_139 : decode cX12_readCloth 139 = .ok (.iconst 1, 1) := by decide +kernel
theorem dX12_readCloth_140 : decode cX12_readCloth 140 = .ok (.aload_n 0, 1) := by decide +kernel
theorem dX12_readCloth_141 : decode cX12_readCloth 141 = .ok (.getfield 175, 3) := by decide +kernel
theorem dX12_readCloth_144 : decode cX12_readCloth 144 = .ok (.ishl, 1) := by decide +kernel
theorem dX12_readCloth_145 : decode cX12_readCloth 145 = .ok (.ior, 1) := by decide +kernel
theorem dX12_readCloth_146 : decode cX12_readCloth 146 = .ok (.iastore, 1) := by decide +kernel
theorem dX12_readCloth_147 : decode cX12_readCloth 147 = .ok (.goto (-48), 3) := by decide +kernel
theorem dX12_readCloth_150 : decode cX12_readCloth 150 = .ok (.iconst 1, 1) := by decide +kernel
theorem dX12_readCloth_151 : decode cX12_readCloth 151 = .ok (.ireturn, 1) := by decide +kernel
theorem dX12_readDrum_0 : decode cX12_readDrum 0 = .ok (.bipush 110, 2) := by decide +kernel
theorem dX12_readDrum_2 : decode cX12_readDrum 2 = .ok (.iconst 2, 1) := by decide +kernel
theorem dX12_readDrum_3 : decode cX12_readDrum 3 = .ok (.aload_n 0, 1) := by decide +kernel
theorem dX12_readDrum_4 : decode cX12_readDrum 4 = .ok (.getfield 16, 3) := by decide +kernel
theorem dX12_readDrum_7 : decode cX12_readDrum 7 = .ok (.iconst 3, 1) := by decide +kernel
theorem dX12_readDrum_8 : decode cX12_readDrum 8 = .ok (.iaload, 1) := by decide +kernel
theorem dX12_readDrum_9 : decode cX12_readDrum 9 = .ok (.imul, 1) := by decide +kernel
theorem dX12_readDrum_10 : decode cX12_readDrum 10 = .ok (.iadd, 1) := by decide +kernel
theorem dX12_readDrum_11 : decode cX12_readDrum 11 = .ok (.istore_n 1, 1) := by decide +kernel
theorem dX12_readDrum_12 : decode cX12_readDrum 12 = .ok (.aload_n 0, 1) := by decide +kernel
theorem dX12_readDrum_13 : decode cX12_readDrum 13 = .ok (.iconst 1, 1) := by decide +kernel
theorem dX12_readDrum_14 : decode cX12_readDrum 14 = .ok (.bipush 99, 2) := by decide +kernel
theorem dX12_readDrum_16 : decode cX12_readDrum 16 = .ok (.invokevirtual 235, 3) := by decide +kernel
theorem dX12_readDrum_19 : decode cX12_readDrum 19 = .ok (.ifCond .ne 5, 3) := by decide +kernel
theorem dX12_readDrum_22 : decode cX12_readDrum 22 = .ok (.iconst 0, 1) := by decide +kernel
theorem dX12_readDrum_23 : decode cX12_readDrum 23 = .ok (.ireturn, 1) := by decide +kernel
theorem dX12_readDrum_24 : decode cX12_readDrum 24 = .ok (.aload_n 0, 1) := by decide +kernel
theorem dX12_readDrum_25 : decode cX12_readDrum 25 = .ok (.getfield 16, 3) := by decide +kernel
theorem dX12_readDrum_28 : decode cX12_readDrum 28 = .ok (.iload_n 1, 1) := by decide +kernel
theorem dX12_readDrum_29 : decode cX12_readDrum 29 = .ok (.aload_n 0, 1) := by decide +kernel
theorem dX12_readDrum_30 : decode cX12_readDrum 30 = .ok (.getfield 175, 3) := by decide +kernel
theorem dX12_readDrum_33 : decode cX12_readDrum 33 = .ok (.iastore, 1) := by decide +kernel
theorem dX12_readDrum_34 : decode cX12_readDrum 34 = .ok (.aload_n 0, 1) := by decide +kernel
theorem dX12_readDrum_35 : decode cX12_readDrum 35 = .ok (.iconst 0, 1) := by decide +kernel
theorem dX12_readDrum_36 : decode cX12_readDrum 36 = .ok (.bipush 9, 2) := by decide +kernel
theorem dX12_readDrum_38 : decode cX12_readDrum 38 = .ok (.invokevirtual 235, 3) := by decide +kernel
theorem dX12_readDrum_41 : decode cX12_readDrum 41 = .ok (.ifCond .ne 5, 3) := by decide +kernel
theorem dX12_readDrum_44 : decode cX12_readDrum 44 = .ok (.iconst 0, 1) := by decide +kernel
theorem dX12_readDrum_45 : decode cX12_readDrum 45 = .ok (.ireturn, 1) := by decide +kernel
theorem dX12_readDrum_46 : decode cX12_readDrum 46 = .ok (.aload_n 0, 1) := by decide +kernel
theorem dX12_readDrum_47 : decode cX12_readDrum 47 = .ok (.getfield 16, 3) := by decide +kernel
theorem dX12_readDrum_50 : decode cX12_readDrum 50 = .ok (.iload_n 1, 1) := by decide +kernel
theorem dX12_readDrum_51 : decode cX12_readDrum 51 = .ok (.iconst 1, 1) := by decide +kernel
theorem dX12_readDrum_52 : decode cX12_readDrum 52 = .ok (.iadd, 1) := by decide +kernel
theorem dX12_readDrum_53 : decode cX12_readDrum 53 = .ok (.aload_n 0, 1) := by decide +kernel
theorem dX12_readDrum_54 : decode cX12_readDrum 54 = .ok (.getfield 175, 3) := by decide +kernel
theorem dX12_readDrum_57 : decode cX12_readDrum 57 = .ok (.iastore, 1) := by decide +kernel
theorem dX12_readDrum_58 : decode cX12_readDrum 58 = .ok (.iconst 1, 1) := by decide +kernel
theorem dX12_readDrum_59 : decode cX12_readDrum 59 = .ok (.ireturn, 1) := by decide +kernel
theorem dX12_house_0 : decode cX12_house 0 = .ok (.aload_n 0, 1) := by decide +kernel
theorem dX12_house_1 : decode cX12_house 1 = .ok (.invokevirtual 259, 3) := by decide +kernel
theorem dX12_house_4 : decode cX12_house 4 = .ok (.aload_n 0, 1) := by decide +kernel
theorem dX12_house_5 : decode cX12_house 5 = .ok (.sipush 900, 3) := by decide +kernel
theorem dX12_house_8 : decode cX12_house 8 = .ok (.invokevirtual 262, 3) := by decide +kernel
theorem dX12_house_11 : decode cX12_house 11 = .ok (.aload_n 0, 1) := by decide +kernel
theorem dX12_house_12 : decode cX12_house 12 = .ok (.getfield 16, 3) := by decide +kernel
theorem dX12_house_15 : decode cX12_house 15 = .ok (.invokestatic 208, 3) := by decide +kernel
theorem dX12_house_18 : decode cX12_house 18 = .ok (.aload_n 0, 1) := by decide +kernel
theorem dX12_house_19 : decode cX12_house 19 = .ok (.iconst 0, 1) := by decide +kernel
theorem dX12_house_20 : decode cX12_house 20 = .ok (.putfield 232, 3) := by decide +kernel
theorem dX12_house_23 : decode cX12_house 23 = .ok (.iconst 0, 1) := by decide +kernel
theorem dX12_house_24 : decode cX12_house 24 = .ok (.istore_n 1, 1) := by decide +kernel
theorem dX12_house_25 : decode cX12_house 25 = .ok (.aload_n 0, 1) := by decide +kernel
theorem dX12_house_26 : decode cX12_house 26 = .ok (.getfield 134, 3) := by decide +kernel
theorem dX12_house_29 : decode cX12_house 29 = .ok (.ifCond .eq 23, 3) := by decide +kernel
theorem dX12_house_32 : decode cX12_house 32 = .ok (.aload_n 0, 1) := by decide +kernel
theorem dX12_house_33 : decode cX12_house 33 = .ok (.invokevirtual 265, 3) := by decide +kernel
theorem dX12_house_36 : decode cX12_house 36 = .ok (.ifCond .ne 10, 3) := by decide +kernel
theorem dX12_house_39 : decode cX12_house 39 = .ok (.iconst (-1), 1) := by decide +kernel
theorem dX12_house_40 : decode cX12_house 40 = .ok (.aload_n 0, 1) := by decide +kernel
theorem dX12_house_41 : decode cX12_house 41 = .ok (.getfield 165, 3) := by decide +kernel
theorem dX12_house_44 : decode cX12_house 44 = .ok (.isub, 1) := by decide +kernel
theorem dX12_house_45 : decode cX12_house 45 = .ok (.ireturn, 1) := by decide +kernel
theorem dX12_house_46 : decode cX12_house 46 = .ok (.iinc 1 1, 3) := by decide +kernel
theorem dX12_house_49 : decode cX12_house 49 = .ok (.goto (-24), 3) := by decide +kernel
theorem dX12_house_52 : decode cX12_house 52 = .ok (.iconst 0, 1) := by decide +kernel
theorem dX12_house_53 : decode cX12_house 53 = .ok (.istore_n 2, 1) := by decide +kernel
theorem dX12_house_54 : decode cX12_house 54 = .ok (.iload_n 2, 1) := by decide +kernel
theorem dX12_house_55 : decode cX12_house 55 = .ok (.sipush 130, 3) := by decide +kernel
theorem dX12_house_58 : decode cX12_house 58 = .ok (.if_icmp .ge 21, 3) := by decide +kernel
theorem dX12_house_61 : decode cX12_house 61 = .ok (.aload_n 0, 1) := by decide +kernel
theorem dX12_house_62 : decode cX12_house 62 = .ok (.getfield 13, 3) := by decide +kernel
theorem dX12_house_65 : decode cX12_house 65 = .ok (.iload_n 2, 1) := by decide +kernel
theorem dX12_house_66 : decode cX12_house 66 = .ok (.aload_n 0, 1) := by decide +kernel
theorem dX12_house_67 : decode cX12_house 67 = .ok (.getfield 16, 3) := by decide +kernel
theorem dX12_house_70 : decode cX12_house 70 = .ok (.iload_n 2, 1) := by decide +kernel
theorem dX12_house_71 : decode cX12_house 71 = .ok (.iaload, 1) := by decide +kernel
theorem dX12_house_72 : decode cX12_house 72 = .ok (.iastore, 1) := by decide +kernel
theorem dX12_house_73 : decode cX12_house 73 = .ok (.iinc 2 1, 3) := by decide +kernel
theorem dX12_house_76 : decode cX12_house 76 = .ok (.goto (-22), 3) := by decide +kernel
theorem dX12_house_79 : decode cX12_house 79 = .ok (.iconst 0, 1) := by decide +kernel
theorem dX12_house_80 : decode cX12_house 80 = .ok (.istore_n 2, 1) := by decide +kernel
theorem dX12_house_81 : decode cX12_house 81 = .ok (.iload_n 2, 1) := by decide +kernel
theorem dX12_house_82 : decode cX12_house 82 = .ok (.bipush 24, 2) := by decide +kernel
theorem dX12_house_84 : decode cX12_house 84 = .ok (.if_icmp .ge 21, 3) := by decide +kernel
theorem dX12_house_87 : decode cX12_house 87 = .ok (.aload_n 0, 1) := by decide +kernel
theorem dX12_house_88 : decode cX12_house 88 = .ok (.getfield 22, 3) := by decide +kernel
theorem dX12_house_91 : decode cX12_house 91 = .ok (.iload_n 2, 1) := by decide +kernel
theorem dX12_house_92 : decode cX12_house 92 = .ok (.aload_n 0, 1) := by decide +kernel
theorem dX12_house_93 : decode cX12_house 93 = .ok (.getfield 26, 3) := by decide +kernel
theorem dX12_house_96 : decode cX12_house 96 = .ok (.iload_n 2, 1) := by decide +kernel
theorem dX12_house_97 : decode cX12_house 97 = .ok (.laload, 1) := by decide +kernel
