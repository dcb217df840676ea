theorem dX4_packed_58 : decode cX4_packed 58 = .ok (.iconst 1, 1) := by decide +kernel
theorem dX4_packed_59 : decode cX4_packed 59 = .ok (.isub, 1) := by decide +kernel
theorem dX4_packed_60 : decode cX4_packed 60 = .ok (.iaload, 1) := by decide +kernel
theorem dX4_packed_61 : decode cX4_packed 61 = .ok (.ireturn, 1) := by decide +kernel
set_option maxRecDepth 20000 in
theorem ggX4_feed_X4_isByte : GoodIn wsX4_feed wsX4_isByte := goodIn_r _ [7] (by decide +kernel) (by decide +kernel)
set_option maxRecDepth 20000 in
theorem gX4_feed_X4_isByte : GoodIn wsX4_feed (va_wsS RX4 56 yX4_isByte wsX4_isByte) := goodIn_app (goodIn_of _ (by decide +kernel)) ggX4_feed_X4_isByte
theorem dX4_feed_0 : decode cX4_feed 0 = .ok (.aload_n 0, 1) := by decide +kernel
theorem dX4_feed_1 : decode cX4_feed 1 = .ok (.iconst 0, 1) := by decide +kernel
theorem dX4_feed_2 : decode cX4_feed 2 = .ok (.putfield 49, 3) := by decide +kernel
theorem dX4_feed_5 : decode cX4_feed 5 = .ok (.iload_n 1, 1) := by decide +kernel
theorem dX4_feed_6 : decode cX4_feed 6 = .ok (.invokestatic 56, 3) := by decide +kernel
theorem dX4_feed_9 : decode cX4_feed 9 = .ok (.ifCond .eq 13, 3) := by decide +kernel
theorem dX4_feed_12 : decode cX4_feed 12 = .ok (.aload_n 0, 1) := by decide +kernel
theorem dX4_feed_13 : decode cX4_feed 13 = .ok (.getfield 129, 3) := by decide +kernel
theorem dX4_feed_16 : decode cX4_feed 16 = .ok (.sipush 400, 3) := by decide +kernel
theorem dX4_feed_19 : decode cX4_feed 19 = .ok (.if_icmp .ne 5, 3) := by decide +kernel
theorem dX4_feed_22 : decode cX4_feed 22 = .ok (.iconst 0, 1) := by decide +kernel
theorem dX4_feed_23 : decode cX4_feed 23 = .ok (.ireturn, 1) := by decide +kernel
theorem dX4_feed_24 : decode cX4_feed 24 = .ok (.aload_n 0, 1) := by decide +kernel
theorem dX4_feed_25 : decode cX4_feed 25 = .ok (.getfield 36, 3) := by decide +kernel
theorem dX4_feed_28 : decode cX4_feed 28 = .ok (.aload_n 0, 1) := by decide +kernel
theorem dX4_feed_29 : decode cX4_feed 29 = .ok (.getfield 129, 3) := by decide +kernel
theorem dX4_feed_32 : decode cX4_feed 32 = .ok (.iload_n 1, 1) := by decide +kernel
theorem dX4_feed_33 : decode cX4_feed 33 = .ok (.iastore, 1) := by decide +kernel
theorem dX4_feed_34 : decode cX4_feed 34 = .ok (.aload_n 0, 1) := by decide +kernel
theorem dX4_feed_35 : decode cX4_feed 35 = .ok (.dup, 1) := by decide +kernel
theorem dX4_feed_36 : decode cX4_feed 36 = .ok (.getfield 129, 3) := by decide +kernel
theorem dX4_feed_39 : decode cX4_feed 39 = .ok (.iconst 1, 1) := by decide +kernel
theorem dX4_feed_40 : decode cX4_feed 40 = .ok (.iadd, 1) := by decide +kernel
theorem dX4_feed_41 : decode cX4_feed 41 = .ok (.putfield 129, 3) := by decide +kernel
theorem dX4_feed_44 : decode cX4_feed 44 = .ok (.iconst 1, 1) := by decide +kernel
theorem dX4_feed_45 : decode cX4_feed 45 = .ok (.ireturn, 1) := by decide +kernel
theorem dX4_open_0 : decode cX4_open 0 = .ok (.aload_n 0, 1) := by decide +kernel
theorem dX4_open_1 : decode cX4_open 1 = .ok (.iconst 0, 1) := by decide +kernel
theorem dX4_open_2 : decode cX4_open 2 = .ok (.putfield 49, 3) := by decide +kernel
theorem dX4_open_5 : decode cX4_open 5 = .ok (.aload_n 0, 1) := by decide +kernel
theorem dX4_open_6 : decode cX4_open 6 = .ok (.getfield 129, 3) := by decide +kernel
theorem dX4_open_9 : decode cX4_open 9 = .ok (.istore_n 1, 1) := by decide +kernel
theorem dX4_open_10 : decode cX4_open 10 = .ok (.aload_n 0, 1) := by decide +kernel
theorem dX4_open_11 : decode cX4_open 11 = .ok (.iconst 0, 1) := by decide +kernel
theorem dX4_open_12 : decode cX4_open 12 = .ok (.putfield 129, 3) := by decide +kernel
theorem dX4_open_15 : decode cX4_open 15 = .ok (.iload_n 1, 1) := by decide +kernel
theorem dX4_open_16 : decode cX4_open 16 = .ok (.iconst 3, 1) := by decide +kernel
theorem dX4_open_17 : decode cX4_open 17 = .ok (.if_icmp .lt 46, 3) := by decide +kernel
theorem dX4_open_20 : decode cX4_open 20 = .ok (.aload_n 0, 1) := by decide +kernel
theorem dX4_open_21 : decode cX4_open 21 = .ok (.getfield 36, 3) := by decide +kernel
theorem dX4_open_24 : decode cX4_open 24 = .ok (.iconst 0, 1) := by decide +kernel
theorem dX4_open_25 : decode cX4_open 25 = .ok (.iaload, 1) := by decide +kernel
theorem dX4_open_26 : decode cX4_open 26 = .ok (.aload_n 0, 1) := by decide +kernel
theorem dX4_open_27 : decode cX4_open 27 = .ok (.getfield 45, 3) := by decide +kernel
theorem dX4_open_30 : decode cX4_open 30 = .ok (.if_icmp .ne 33, 3) := by decide +kernel
theorem dX4_open_33 : decode cX4_open 33 = .ok (.aload_n 0, 1) := by decide +kernel
theorem dX4_open_34 : decode cX4_open 34 = .ok (.getfield 36, 3) := by decide +kernel
theorem dX4_open_37 : decode cX4_open 37 = .ok (.iconst 1, 1) := by decide +kernel
theorem dX4_open_38 : decode cX4_open 38 = .ok (.iaload, 1) := by decide +kernel
theorem dX4_open_39 : decode cX4_open 39 = .ok (.bipush 40, 2) := by decide +kernel
theorem dX4_open_41 : decode cX4_open 41 = .ok (.if_icmp .gt 22, 3) := by decide +kernel
theorem dX4_open_44 : decode cX4_open 44 = .ok (.iload_n 1, 1) := by decide +kernel
theorem dX4_open_45 : decode cX4_open 45 = .ok (.iconst 3, 1) := by decide +kernel
theorem dX4_open_46 : decode cX4_open 46 = .ok (.bipush 9, 2) := by decide +kernel
theorem dX4_open_48 : decode cX4_open 48 = .ok (.aload_n 0, 1) := by decide +kernel
theorem dX4_open_49 : decode cX4_open 49 = .ok (.getfield 36, 3) := by decide +kernel
theorem dX4_open_52 : decode cX4_open 52 = .ok (.iconst 1, 1) := by decide +kernel
theorem dX4_open_53 : decode cX4_open 53 = .ok (.iaload, 1) := by decide +kernel
theorem dX4_open_54 : decode cX4_open 54 = .ok (.imul, 1) := by decide +kernel
theorem dX4_open_55 : decode cX4_open 55 = .ok (.iadd, 1) := by decide +kernel
theorem dX4_open_56 : decode cX4_open 56 = .ok (.if_icmp .ne 7, 3) := by decide +kernel
theorem dX4_open_59 : decode cX4_open 59 = .ok (.iconst 1, 1) := by decide +kernel
theorem dX4_open_60 : decode cX4_open 60 = .ok (.goto 4, 3) := by decide +kernel
theorem dX4_open_63 : decode cX4_open 63 = .ok (.iconst 0, 1) := by decide +kernel
theorem dX4_open_64 : decode cX4_open 64 = .ok (.istore_n 2, 1) := by decide +kernel
theorem dX4_open_65 : decode cX4_open 65 = .ok (.iconst 0, 1) := by decide +kernel
theorem dX4_open_66 : decode cX4_open 66 = .ok (.istore_n 3, 1) := by decide +kernel
theorem dX4_open_67 : decode cX4_open 67 = .ok (.iconst 0, 1) := by decide +kernel
theorem dX4_open_68 : decode cX4_open 68 = .ok (.istore 4, 2) := by decide +kernel
theorem dX4_open_70 : decode cX4_open 70 = .ok (.iload 4, 2) := by decide +kernel
theorem dX4_open_72 : decode cX4_open 72 = .ok (.iconst 1, 1) := by decide +kernel
theorem dX4_open_73 : decode cX4_open 73 = .ok (.iadd, 1) := by decide +kernel
theorem dX4_open_74 : decode cX4_open 74 = .ok (.iload_n 1, 1) := by decide +kernel
theorem dX4_open_75 : decode cX4_open 75 = .ok (.if_icmp .ge 19, 3) := by decide +kernel
theorem dX4_open_78 : decode cX4_open 78 = .ok (.iload_n 3, 1) := by decide +kernel
theorem dX4_open_79 : decode cX4_open 79 = .ok (.aload_n 0, 1) := by decide +kernel
theorem dX4_open_80 : decode cX4_open 80 = .ok (.getfield 36, 3) := by decide +kernel
theorem dX4_open_83 : decode cX4_open 83 = .ok (.iload 4, 2) := by decide +kernel
theorem dX4_open_85 : decode cX4_open 85 = .ok (.iaload, 1) := by decide +kernel
theorem dX4_open_86 : decode cX4_open 86 = .ok (.iadd, 1) := by decide +kernel
theorem dX4_open_87 : decode cX4_open 87 = .ok (.istore_n 3, 1) := by decide +kernel
theorem dX4_open_88 : decode cX4_open 88 = .ok (.iinc 4 1, 3) := by decide +kernel
theorem dX4_open_91 : decode cX4_open 91 = .ok (.goto (-21), 3) := by decide +kernel
theorem dX4_open_94 : decode cX4_open 94 = .ok (.iload_n 2, 1) := by decide +kernel
theorem dX4_open_95 : decode cX4_open 95 = .ok (.ifCond .eq 23, 3) := by decide +kernel
theorem dX4_open_98 : decode cX4_open 98 = .ok (.iload_n 3, 1) := by decide +kernel
theorem dX4_open_99 : decode cX4_open 99 = .ok (.sipush 256, 3) := by decide +kernel
theorem dX4_open_102 : decode cX4_open 102 = .ok (.irem, 1) := by decide +kernel
theorem dX4_open_103 : decode cX4_open 103 = .ok (.aload_n 0, 1) := by decide +kernel
theorem dX4_open_104 : decode cX4_open 104 = .ok (.getfield 36, 3) := by decide +kernel
theorem dX4_open_107 : decode cX4_open 107 = .ok (.iload_n 1, 1) := by decide +kernel
theorem dX4_open_108 : decode cX4_open 108 = .ok (.iconst 1, 1) := by decide +kernel
theorem dX4_open_109 : decode cX4_open 109 = .ok (.isub, 1) := by decide +kernel
theorem dX4_open_110 : decode cX4_open 110 = .ok (.iaload, 1) := by decide +kernel
theorem dX4_open_111 : decode cX4_open 111 = .ok (.if_icmp .ne 7, 3) := by decide +kernel
theorem dX4_open_114 : decode cX4_open 114 = .ok (.iconst 1, 1) := by decide +kernel
theorem dX4_open_115 : decode cX4_open 115 = .ok (.goto 4, 3) := by decide +kernel
theorem dX4_open_118 : decode cX4_open 118 = .ok (.iconst 0, 1) := by decide +kernel
theorem dX4_open_119 : decode cX4_open 119 = .ok (.istore_n 2, 1) := by decide +kernel
theorem dX4_open_120 : decode cX4_open 120 = .ok (.iconst 0, 1) := by decide +kernel
theorem dX4_open_121 : decode cX4_open 121 = .ok (.istore 4, 2) := by decide +kernel
theorem dX4_open_123 : decode cX4_open 123 = .ok (.iload_n 2, 1) := by decide +kernel
theorem dX4_open_124 : decode cX4_open 124 = .ok (.ifCond .eq 45, 3) := by decide +kernel
theorem dX4_open_127 : decode cX4_open 127 = .ok (.iload 4, 2) := by decide +kernel
theorem dX4_open_129 : decode cX4_open 129 = .ok (.aload_n 0, 1) := by decide +kernel
theorem dX4_open_130 : decode cX4_open 130 = .ok (.getfield 36, 3) := by decide +kernel
theorem dX4_open_133 : decode cX4_open 133 = .ok (.iconst 1, 1) := by decide +kernel
theorem dX4_open_134 : decode cX4_open 134 = .ok (.iaload, 1) := by decide +kernel
theorem dX4_open_135 : decode cX4_open 135 = .ok (.if_icmp .ge 34, 3) := by decide +kernel
theorem dX4_open_138 : decode cX4_open 138 = .ok (.aload_n 0, 1) := by decide +kernel
theorem dX4_open_139 : decode cX4_open 139 = .ok (.getfield 36, 3) := by decide +kernel
theorem dX4_open_142 : decode cX4_open 142 = .ok (.iconst 2, 1) := by decide +kernel
theorem dX4_open_143 : decode cX4_open 143 = .ok (.bipush 9, 2) := by decide +kernel
theorem dX4_open_145 : decode cX4_open 145 = .ok (.iload 4, 2) := by decide +kernel
theorem dX4_open_147 : decode cX4_open 147 = .ok (.imul, 1) := by decide +kernel
theorem dX4_open_148 : decode cX4_open 148 = .ok (.iadd, 1) := by decide +kernel
theorem dX4_open_149 : decode cX4_open 149 = .ok (.iaload, 1) := by decide +kernel
theorem dX4_open_150 : decode cX4_open 150 = .ok (.aload_n 0, 1) := by decide +kernel
theorem dX4_open_151 : decode cX4_open 151 = .ok (.getfield 45, 3) := by decide +kernel
theorem dX4_open_154 : decode cX4_open 154 = .ok (.if_icmp .ge 7, 3) := by decide +kernel
theorem dX4_open_157 : decode cX4_open 157 = .ok (.iconst 1, 1) := by decide +kernel
theorem dX4_open_158 : decode cX4_open 158 = .ok (.goto 4, 3) := by decide +kernel
theorem dX4_open_161 : decode cX4_open 161 = .ok (.iconst 0, 1) := by decide +kernel
theorem dX4_open_162 : decode cX4_open 162 = .ok (.istore_n 2, 1) := by decide +kernel
theorem dX4_open_163 : decode cX4_open 163 = .ok (.iinc 4 1, 3) := by decide +kernel
theorem dX4_open_166 : decode cX4_open 166 = .ok (.goto (-43), 3) := by decide +kernel
theorem dX4_open_169 : decode cX4_open 169 = .ok (.iload_n 2, 1) := by decide +kernel
theorem dX4_open_170 : decode cX4_open 170 = .ok (.ifCond .ne 5, 3) := by decide +kernel
theorem dX4_open_173 : decode cX4_open 173 = .ok (.iconst (-1), 1) := by decide +kernel
theorem dX4_open_174 : decode cX4_open 174 = .ok (.ireturn, 1) := by decide +kernel
theorem dX4_open_175 : decode cX4_open 175 = .ok (.aload_n 0, 1) := by decide +kernel
theorem dX4_open_176 : decode cX4_open 176 = .ok (.aload_n 0, 1) := by decide +kernel
theorem dX4_open_177 : decode cX4_open 177 = .ok (.getfield 36, 3) := by decide +kernel
theorem dX4_open_180 : decode cX4_open 180 = .ok (.iconst 1, 1) := by decide +kernel
theorem dX4_open_181 : decode cX4_open 181 = .ok (.iaload, 1) := by decide +kernel
theorem dX4_open_182 : decode cX4_open 182 = .ok (.putfield 66, 3) := by decide +kernel
theorem dX4_open_185 : decode cX4_open 185 = .ok (.iconst 0, 1) := by decide +kernel
theorem dX4_open_186 : decode cX4_open 186 = .ok (.istore 4, 2) := by decide +kernel
theorem dX4_open_188 : decode cX4_open 188 = .ok (.iload 4, 2) := by decide +kernel
theorem dX4_open_190 : decode cX4_open 190 = .ok (.aload_n 0, 1) := by decide +kernel
theorem dX4_open_191 : decode cX4_open 191 = .ok (.getfield 66, 3) := by decide +kernel
theorem dX4_open_194 : decode cX4_open 194 = .ok (.if_icmp .ge 72, 3) := by decide +kernel
theorem dX4_open_197 : decode cX4_open 197 = .ok (.aload_n 0, 1) := by decide +kernel
theorem dX4_open_198 : decode cX4_open 198 = .ok (.getfield 19, 3) := by decide +kernel
theorem dX4_open_201 : decode cX4_open 201 = .ok (.iload 4, 2) := by decide +kernel
theorem dX4_open_203 : decode cX4_open 203 = .ok (.aload_n 0, 1) := by decide +kernel
theorem dX4_open_204 : decode cX4_open 204 = .ok (.getfield 36, 3) := by decide +kernel
theorem dX4_open_207 : decode cX4_open 207 = .ok (.iconst 2, 1) := by decide +kernel
theorem dX4_open_208 : decode cX4_open 208 = .ok (.bipush 9, 2) := by decide +kernel
theorem dX4_open_210 : decode cX4_open 210 = .ok (.iload 4, 2) := by decide +kernel
theorem dX4_open_212 : decode cX4_open 212 = .ok (.imul, 1) := by decide +kernel
theorem dX4_open_213 : decode cX4_open 213 = .ok (.iadd, 1) := by decide +kernel
theorem dX4_open_214 : decode cX4_open 214 = .ok (.iaload, 1) := by decide +kernel
theorem dX4_open_215 : decode cX4_open 215 = .ok (.iastore, 1) := by decide +kernel
theorem dX4_open_216 : decode cX4_open 216 = .ok (.iconst 0, 1) := by decide +kernel
theorem dX4_open_217 : decode cX4_open 217 = .ok (.istore 5, 2) := by decide +kernel
theorem dX4_open_219 : decode cX4_open 219 = .ok (.iload 5, 2) := by decide +kernel
theorem dX4_open_221 : decode cX4_open 221 = .ok (.bipush 8, 2) := by decide +kernel
theorem dX4_open_223 : decode cX4_open 223 = .ok (.if_icmp .ge 37, 3) := by decide +kernel
theorem dX4_open_226 : decode cX4_open 226 = .ok (.aload_n 0, 1) := by decide +kernel
theorem dX4_open_227 : decode cX4_open 227 = .ok (.getfield 22, 3) := by decide +kernel
theorem dX4_open_230 : decode cX4_open 230 = .ok (.bipush 8, 2) := by decide +kernel
theorem dX4_open_232 : decode cX4_open 232 = .ok (.iload 4, 2) := by decide +kernel
theorem dX4_open_234 : decode cX4_open 234 = .ok (.imul, 1) := by decide +kernel
theorem dX4_open_235 : decode cX4_open 235 = .ok (.iload 5, 2) := by decide +kernel
theorem dX4_open_237 : decode cX4_open 237 = .ok (.iadd, 1) := by decide +kernel
theorem dX4_open_238 : decode cX4_open 238 = .ok (.aload_n 0, 1) := by decide +kernel
theorem dX4_open_239 : decode cX4_open 239 = .ok (.getfield 36, 3) := by decide +kernel
theorem dX4_open_242 : decode cX4_open 242 = .ok (.iconst 3, 1) := by decide +kernel
theorem dX4_open_243 : decode cX4_open 243 = .ok (.bipush 9, 2) := by decide +kernel
theorem dX4_open_245 : decode cX4_open 245 = .ok (.iload 4, 2) := by decide +kernel
theorem dX4_open_247 : decode cX4_open 247 = .ok (.imul, 1) := by decide +kernel
theorem dX4_open_248 : decode cX4_open 248 = .ok (.iadd, 1) := by decide +kernel
theorem dX4_open_249 : decode cX4_open 249 = .ok (.iload 5, 2) := by decide +kernel
theorem dX4_open_251 : decode cX4_open 251 = .ok (.iadd, 1) := by decide +kernel
theorem dX4_open_252 : decode cX4_open 252 = .ok (.iaload, 1) := by decide +kernel
theorem dX4_open_253 : decode cX4_open 253 = .ok (.iastore, 1) := by decide +kernel
theorem dX4_open_254 : decode cX4_open 254 = .ok (.iinc 5 1, 3) := by decide +kernel
theorem dX4_open_257 : decode cX4_open 257 = .ok (.goto (-38), 3) := by decide +kernel
theorem dX4_open_260 : decode cX4_open 260 = .ok (.iinc 4 1, 3) := by decide +kernel
theorem dX4_open_263 : decode cX4_open 263 = .ok (.goto (-75), 3) := by decide +kernel
theorem dX4_open_266 : decode cX4_open 266 = .ok (.aload_n 0, 1) := by decide +kernel
theorem dX4_open_267 : decode cX4_open 267 = .ok (.getfield 66, 3) := by decide +kernel
theorem dX4_open_270 : decode cX4_open 270 = .ok (.ireturn, 1) := by decide +kernel
theorem dJx00060_init_a7421_0 : decode cJx00060_init_a7421 0 = .ok (.aload_n 0, 1) := by decide +kernel
theorem dJx00060_init_a7421_1 : decode cJx00060_init_a7421 1 = .ok (.aload_n 1, 1) := by decide +kernel
theorem dJx00060_init_a7421_2 : decode cJx00060_init_a7421 2 = .ok (.invokespecial 7, 3) := by decide +kernel
theorem dJx00060_init_a7421_5 : decode cJx00060_init_a7421 5 = .ok (.return_, 1) := by decide +kernel
theorem dJ9_min_7cf53_0 : decode cJ9_min_7cf53 0 = .ok (.iload_n 0, 1) := by decide +kernel
theorem dJ9_min_7cf53_1 : decode cJ9_min_7cf53 1 = .ok (.iload_n 1, 1) := by decide +kernel
theorem dJ9_min_7cf53_2 : decode cJ9_min_7cf53 2 = .ok (.if_icmp .gt 7, 3) := by decide +kernel
theorem dJ9_min_7cf53_5 : decode cJ9_min_7cf53 5 = .ok (.iload_n 0, 1) := by decide +kernel
theorem dJ9_min_7cf53_6 : decode cJ9_min_7cf53 6 = .ok (.goto 4, 3) := by decide +kernel
theorem dJ9_min_7cf53_9 : decode cJ9_min_7cf53 9 = .ok (.iload_n 1, 1) := by decide +kernel
theorem dJ9_min_7cf53_10 : decode cJ9_min_7cf53 10 = .ok (.ireturn, 1) := by decide +kernel
theorem dJ7_fill_53178_0 : decode cJ7_fill_53178 0 = .ok (.iconst 0, 1) := by decide +kernel
theorem dJ7_fill_53178_1 : decode cJ7_fill_53178 1 = .ok (.istore_n 2, 1) := by decide +kernel
theorem dJ7_fill_53178_2 : decode cJ7_fill_53178 2 = .ok (.aload_n 0, 1) := by decide +kernel
theorem dJ7_fill_53178_3 : decode cJ7_fill_53178 3 = .ok (.arraylength, 1) := by decide +kernel
theorem dJ7_fill_53178_4 : decode cJ7_fill_53178 4 = .ok (.istore_n 3, 1) := by decide +kernel
theorem dJ7_fill_53178_5 : decode cJ7_fill_53178 5 = .ok (.iload_n 2, 1) := by decide +kernel
theorem dJ7_fill_53178_6 : decode cJ7_fill_53178 6 = .ok (.iload_n 3, 1) := by decide +kernel
theorem dJ7_fill_53178_7 : decode cJ7_fill_53178 7 = .ok (.if_icmp .ge 13, 3) := by decide +kernel
theorem dJ7_fill_53178_10 : decode cJ7_fill_53178 10 = .ok (.aload_n 0, 1) := by decide +kernel
theorem dJ7_fill_53178_11 : decode cJ7_fill_53178 11 = .ok (.iload_n 2, 1) := by decide +kernel
theorem dJ7_fill_53178_12 : decode cJ7_fill_53178 12 = .ok (.iload_n 1, 1) := by decide +kernel
theorem dJ7_fill_53178_13 : decode cJ7_fill_53178 13 = .ok (.iastore, 1) := by decide +kernel
theorem dJ7_fill_53178_14 : decode cJ7_fill_53178 14 = .ok (.iinc 2 1, 3) := by decide +kernel
theorem dJ7_fill_53178_17 : decode cJ7_fill_53178 17 = .ok (.goto (-12), 3) := by decide +kernel
theorem dJ7_fill_53178_20 : decode cJ7_fill_53178 20 = .ok (.return_, 1) := by decide +kernel
theorem dL_cell_0 : decode cL_cell 0 = .ok (.iload_n 1, 1) := by decide +kernel
theorem dL_cell_1 : decode cL_cell 1 = .ok (.aload_n 0, 1) := by decide +kernel
theorem dL_cell_2 : decode cL_cell 2 = .ok (.arraylength, 1) := by decide +kernel
theorem dL_cell_3 : decode cL_cell 3 = .ok (.if_icmp .ge 9, 3) := by decide +kernel
theorem dL_cell_6 : decode cL_cell 6 = .ok (.aload_n 0, 1) := by decide +kernel
theorem dL_cell_7 : decode cL_cell 7 = .ok (.iload_n 1, 1) := by decide +kernel
theorem dL_cell_8 : decode cL_cell 8 = .ok (.iaload, 1) := by decide +kernel
theorem dL_cell_9 : decode cL_cell 9 = .ok (.goto 4, 3) := by decide +kernel
theorem dL_cell_12 : decode cL_cell 12 = .ok (.iconst 0, 1) := by decide +kernel
theorem dL_cell_13 : decode cL_cell 13 = .ok (.ireturn, 1) := by decide +kernel
set_option maxRecDepth 20000 in
theorem ggL_white_X3_white : GoodIn wsL_white wsX3_white := goodIn_r _ [5, 6, 7, 8, 9, 10, 11, 4, 12, 13, 14, 15, 16, 17, 18, 19, 20, 21, 22, 23, 24, 25, 26, 27, 28, 29, 30, 31, 32, 33, 34, 35, 36, 37, 38, 39, 40, 41, 42] (by decide +kernel) (by decide +kernel)
set_option maxRecDepth 20000 in
theorem gL_white_X3_white : GoodIn wsL_white (wsV RL 7 RX3 yX3_white wsX3_white) := goodIn_app (goodIn_of _ (by decide +kernel)) ggL_white_X3_white
theorem dL_white_0 : decode cL_white 0 = .ok (.aload_n 3, 1) := by decide +kernel
theorem dL_white_1 : decode cL_white 1 = .ok (.iconst 0, 1) := by decide +kernel
theorem dL_white_2 : decode cL_white 2 = .ok (.aload_n 0, 1) := by decide +kernel
theorem dL_white_3 : decode cL_white 3 = .ok (.iload_n 1, 1) := by decide +kernel
theorem dL_white_4 : decode cL_white 4 = .ok (.iload_n 2, 1) := by decide +kernel
theorem dL_white_5 : decode cL_white 5 = .ok (.invokevirtual 7, 3) := by decide +kernel
theorem dL_white_8 : decode cL_white 8 = .ok (.ifCond .eq 7, 3) := by decide +kernel
theorem dL_white_11 : decode cL_white 11 = .ok (.lconst 1, 1) := by decide +kernel
theorem dL_white_12 : decode cL_white 12 = .ok (.goto 4, 3) := by decide +kernel
theorem dL_white_15 : decode cL_white 15 = .ok (.lconst 0, 1) := by decide +kernel
theorem dL_white_16 : decode cL_white 16 = .ok (.lastore, 1) := by decide +kernel
theorem dL_white_17 : decode cL_white 17 = .ok (.goto 7, 3) := by decide +kernel
theorem dL_white_20 : decode cL_white 20 = .ok (.astore 4, 2) := by decide +kernel
theorem dL_white_22 : decode cL_white 22 = .ok (.iconst 1, 1) := by decide +kernel
theorem dL_white_23 : decode cL_white 23 = .ok (.ireturn, 1) := by decide +kernel
theorem dL_white_24 : decode cL_white 24 = .ok (.iconst 0, 1) := by decide +kernel
theorem dL_white_25 : decode cL_white 25 = .ok (.ireturn, 1) := by decide +kernel
set_option maxRecDepth 20000 in
theorem ggL_law_L_cell : GoodIn wsL_law wsL_cell := goodIn_r _ [11] (by decide +kernel) (by decide +kernel)
set_option maxRecDepth 20000 in
theorem gL_law_L_cell : GoodIn wsL_law (va_wsS RL 15 yL_cell wsL_cell) := goodIn_app (goodIn_of _ (by decide +kernel)) ggL_law_L_cell
set_option maxRecDepth 20000 in
theorem ggL_law_X3_init : GoodIn wsL_law wsX3_init := goodIn_r _ [14, 15, 16, 17, 18, 19, 20, 21, 22, 23, 24, 25, 26, 27, 28, 29, 30, 6, 31, 32, 33, 34, 35, 36, 37, 38, 39, 40, 41, 42, 43, 44, 45, 46, 47, 48, 49, 50, 51, 52, 53, 54, 55, 56, 57, 58, 59, 60, 61, 62, 63, 64, 65, 66, 67, 68, 69, 70, 71, 72, 73, 494, 495, 496, 497, 498, 499, 500, 501, 502, 503, 504, 522, 523, 524, 525, 526, 527, 528, 529, 530, 531, 532, 533, 534, 535, 536, 537, 538] (by decide +kernel) (by decide +kernel)
set_option maxRecDepth 20000 in
theorem gL_law_X3_init : GoodIn wsL_law (wsX3_init) := ggL_law_X3_init
set_option maxRecDepth 20000 in
theorem ggL_law_X4_init : GoodIn wsL_law wsX4_init := goodIn_r _ [76, 77, 16, 17, 33, 78, 79, 80, 81, 82, 83, 6, 84, 85, 86, 87, 88, 89, 505, 506, 507, 508, 509, 510, 511, 512, 513, 514, 515, 516, 517, 518, 519, 520, 521] (by decide +kernel) (by decide +kernel)
set_option maxRecDepth 20000 in
theorem gL_law_X4_init : GoodIn wsL_law (wsX4_init) := ggL_law_X4_init
set_option maxRecDepth 20000 in
theorem ggL_law_L_white : GoodIn wsL_law wsL_white := goodIn_r _ [92, 93, 94, 95, 2, 96, 97, 98, 99, 22, 100, 101, 102, 103, 104, 105, 106, 107, 108, 21, 109, 44, 539, 540, 541, 542, 543, 544, 494, 495, 496, 497, 498, 499, 500, 501, 502, 503, 504, 522, 523, 524, 525] (by decide +kernel) (by decide +kernel)
set_option maxRecDepth 20000 in
theorem gL_law_L_white : GoodIn wsL_law (va_wsS RL 27 yL_white wsL_white) := goodIn_app (goodIn_of _ (by decide +kernel)) ggL_law_L_white
set_option maxRecDepth 20000 in
theorem ggL_law_X4_white : GoodIn wsL_law wsX4_white := goodIn_r _ [113, 114, 79, 115, 116, 5, 117, 118, 119, 120, 505, 506, 507, 508, 509, 510, 511, 512, 513, 514, 515, 516, 517, 518, 519, 520, 521] (by decide +kernel) (by decide +kernel)
set_option maxRecDepth 20000 in
theorem gL_law_X4_white : GoodIn wsL_law (wsV RL 30 RX4 yX4_white wsX4_white) := goodIn_app (goodIn_of _ (by decide +kernel)) ggL_law_X4_white
set_option maxRecDepth 20000 in
theorem ggL_law_X4_thrown : GoodIn wsL_law wsX4_thrown := goodIn_r _ [124, 114, 505, 506, 507, 508, 509, 510, 511, 512, 513, 514, 515, 516, 517, 518, 519, 520, 521] (by decide +kernel) (by decide +kernel)
set_option maxRecDepth 20000 in
theorem gL_law_X4_thrown : GoodIn wsL_law (wsV RL 31 RX4 yX4_thrown wsX4_thrown) := goodIn_app (goodIn_of _ (by decide +kernel)) ggL_law_X4_thrown
set_option maxRecDepth 20000 in
theorem ggL_law_X3_dark : GoodIn wsL_law wsX3_dark := goodIn_r _ [128, 22, 100, 101, 2, 102, 103, 104, 105, 129, 130, 131, 21, 132, 43, 494, 495, 496, 497, 498, 499, 500, 501, 502, 503, 504, 522, 523, 524, 525] (by decide +kernel) (by decide +kernel)
set_option maxRecDepth 20000 in
theorem gL_law_X3_dark : GoodIn wsL_law (wsV RL 35 RX3 yX3_dark wsX3_dark) := goodIn_app (goodIn_of _ (by decide +kernel)) ggL_law_X3_dark
set_option maxRecDepth 20000 in
theorem ggL_law_X4_dark : GoodIn wsL_law wsX4_dark := goodIn_r _ [136, 114, 78, 115, 116, 5, 117, 118, 119, 120, 505, 506, 507, 508, 509, 510, 511, 512, 513, 514, 515, 516, 517, 518, 519, 520, 521] (by decide +kernel) (by decide +kernel)
set_option maxRecDepth 20000 in
theorem gL_law_X4_dark : GoodIn wsL_law (wsV RL 38 RX4 yX4_dark wsX4_dark) := goodIn_app (goodIn_of _ (by decide +kernel)) ggL_law_X4_dark
set_option maxRecDepth 20000 in
theorem ggL_law_X3_value : GoodIn wsL_law wsX3_value := goodIn_r _ [140, 22, 100, 101, 2, 102, 103, 104, 105, 141, 142, 143, 21, 144, 45, 494, 495, 496, 497, 498, 499, 500, 501, 502, 503, 504, 522, 523, 524, 525] (by decide +kernel) (by decide +kernel)
set_option maxRecDepth 20000 in
theorem gL_law_X3_value : GoodIn wsL_law (wsV RL 39 RX3 yX3_value wsX3_value) := goodIn_app (goodIn_of _ (by decide +kernel)) ggL_law_X3_value
set_option maxRecDepth 20000 in
theorem ggL_law_X4_value : GoodIn wsL_law wsX4_value := goodIn_r _ [148, 114, 80, 115, 116, 5, 117, 118, 119, 120, 505, 506, 507, 508, 509, 510, 511, 512, 513, 514, 515, 516, 517, 518, 519, 520, 521] (by decide +kernel) (by decide +kernel)
set_option maxRecDepth 20000 in
theorem gL_law_X4_value : GoodIn wsL_law (wsV RL 42 RX4 yX4_value wsX4_value) := goodIn_app (goodIn_of _ (by decide +kernel)) ggL_law_X4_value
set_option maxRecDepth 20000 in
theorem ggL_law_X3_reference : GoodIn wsL_law wsX3_reference := goodIn_r _ [152, 22, 100, 101, 2, 102, 103, 104, 105, 153, 154, 155, 21, 156, 46, 157, 107, 108, 109, 44, 494, 495, 496, 497, 498, 499, 500, 501, 502, 503, 504, 522, 523, 524, 525] (by decide +kernel) (by decide +kernel)
set_option maxRecDepth 20000 in
theorem gL_law_X3_reference : GoodIn wsL_law (wsV RL 45 RX3 yX3_reference wsX3_reference) := goodIn_app (goodIn_of _ (by decide +kernel)) ggL_law_X3_reference
set_option maxRecDepth 20000 in
theorem ggL_law_X4_reference : GoodIn wsL_law wsX4_reference := goodIn_r _ [161, 114, 162, 79, 115, 116, 5, 117, 118, 119, 120, 505, 506, 507, 508, 509, 510, 511, 512, 513, 514, 515, 516, 517, 518, 519, 520, 521] (by decide +kernel) (by decide +kernel)
set_option maxRecDepth 20000 in
theorem gL_law_X4_reference : GoodIn wsL_law (wsV RL 49 RX4 yX4_reference wsX4_reference) := goodIn_app (goodIn_of _ (by decide +kernel)) ggL_law_X4_reference
set_option maxRecDepth 20000 in
theorem ggL_law_X3_teach : GoodIn wsL_law wsX3_teach := goodIn_r _ [166, 26, 36, 167, 168, 169, 2, 170, 18, 171, 172, 173, 174, 22, 37, 175, 176, 177, 21, 178, 179, 180, 181, 182, 44, 43, 45, 183, 184, 185, 186, 187, 188, 25, 189, 190, 191, 192, 193, 61, 194, 195, 196, 197, 55, 57, 198, 199, 200, 201, 58, 202, 494, 495, 496, 497, 498, 499, 500, 501, 502, 503, 504, 522, 523, 524, 525, 526, 527, 528, 529, 530, 531] (by decide +kernel) (by decide +kernel)
set_option maxRecDepth 20000 in
theorem gL_law_X3_teach : GoodIn wsL_law (wsV RL 50 RX3 yX3_teach wsX3_teach) := goodIn_app (goodIn_of _ (by decide +kernel)) ggL_law_X3_teach
set_option maxRecDepth 20000 in
theorem ggL_law_X4_teach : GoodIn wsL_law wsX4_teach := goodIn_r _ [206, 114, 207, 82, 87, 81, 208, 209, 210, 5, 211, 89, 212, 213, 214, 215, 216, 217, 218, 219, 79, 78, 80, 505, 506, 507, 508, 509, 510, 511, 512, 513, 514, 515, 516, 517, 518, 519, 520, 521] (by decide +kernel) (by decide +kernel)
set_option maxRecDepth 20000 in
theorem gL_law_X4_teach : GoodIn wsL_law (wsV RL 54 RX4 yX4_teach wsX4_teach) := goodIn_app (goodIn_of _ (by decide +kernel)) ggL_law_X4_teach
set_option maxRecDepth 20000 in
theorem ggL_law_X3_read : GoodIn wsL_law wsX3_read := goodIn_r _ [223, 37, 171, 172, 173, 2, 174, 22, 36, 175, 176, 177, 21, 178, 179, 180, 181, 182, 44, 43, 45, 183, 184, 185, 186, 187, 188, 25, 189, 224, 225, 226, 227, 18, 38, 26, 32, 228, 229, 230, 231, 59, 61, 55, 58, 232, 48, 49, 50, 233, 234, 235, 236, 237, 238, 239, 240, 31, 494, 495, 496, 497, 498, 499, 500, 501, 502, 503, 504, 522, 523, 524, 525, 526, 527, 528, 529, 530, 531] (by decide +kernel) (by decide +kernel)
set_option maxRecDepth 20000 in
theorem gL_law_X3_read : GoodIn wsL_law (wsV RL 55 RX3 yX3_read wsX3_read) := goodIn_app (goodIn_of _ (by decide +kernel)) ggL_law_X3_read
set_option maxRecDepth 20000 in
theorem ggL_law_X4_read : GoodIn wsL_law wsX4_read := goodIn_r _ [244, 114, 212, 213, 214, 5, 215, 87, 216, 217, 218, 219, 79, 78, 80, 245, 246, 247, 248, 89, 84, 83, 249, 250, 251, 252, 207, 81, 82, 505, 506, 507, 508, 509, 510, 511, 512, 513, 514, 515, 516, 517, 518, 519, 520, 521] (by decide +kernel) (by decide +kernel)
set_option maxRecDepth 20000 in
theorem gL_law_X4_read : GoodIn wsL_law (wsV RL 58 RX4 yX4_read wsX4_read) := goodIn_app (goodIn_of _ (by decide +kernel)) ggL_law_X4_read
set_option maxRecDepth 20000 in
theorem ggL_law_X3_sum : GoodIn wsL_law wsX3_sum := goodIn_r _ [256, 257, 26, 37, 167, 168, 169, 2, 170, 18, 171, 172, 173, 174, 22, 36, 175, 176, 177, 21, 178, 179, 180, 181, 182, 44, 43, 45, 183, 184, 185, 186, 187, 188, 25, 189, 228, 229, 230, 231, 59, 61, 55, 58, 232, 48, 49, 50, 233, 234, 235, 236, 494, 495, 496, 497, 498, 499, 500, 501, 502, 503, 504, 522, 523, 524, 525, 526, 527, 528, 529, 530, 531] (by decide +kernel) (by decide +kernel)
set_option maxRecDepth 20000 in
theorem gL_law_X3_sum : GoodIn wsL_law (wsV RL 59 RX3 yX3_sum wsX3_sum) := goodIn_app (goodIn_of _ (by decide +kernel)) ggL_law_X3_sum
set_option maxRecDepth 20000 in
theorem ggL_law_X4_sum : GoodIn wsL_law wsX4_sum := goodIn_r _ [261, 114, 262, 212, 213, 214, 5, 215, 87, 216, 217, 218, 219, 79, 78, 80, 208, 209, 210, 211, 89, 249, 250, 251, 252, 207, 81, 82, 505, 506, 507, 508, 509, 510, 511, 512, 513, 514, 515, 516, 517, 518, 519, 520, 521] (by decide +kernel) (by decide +kernel)
set_option maxRecDepth 20000 in
theorem gL_law_X4_sum : GoodIn wsL_law (wsV RL 63 RX4 yX4_sum wsX4_sum) := goodIn_app (goodIn_of _ (by decide +kernel)) ggL_law_X4_sum
set_option maxRecDepth 20000 in
theorem ggL_law_X3_bound : GoodIn wsL_law wsX3_bound := goodIn_r _ [266, 267, 32, 494, 495, 496, 497, 498, 499, 500, 501, 502, 503, 504] (by decide +kernel) (by decide +kernel)
set_option maxRecDepth 20000 in
theorem gL_law_X3_bound : GoodIn wsL_law (wsV RL 64 RX3 yX3_bound wsX3_bound) := goodIn_app (goodIn_of _ (by decide +kernel)) ggL_law_X3_bound
set_option maxRecDepth 20000 in
theorem ggL_law_X4_bound : GoodIn wsL_law wsX4_bound := goodIn_r _ [271, 114, 272, 83, 505, 506, 507, 508, 509, 510, 511, 512, 513, 514, 515, 516, 517, 518, 519, 520, 521] (by decide +kernel) (by decide +kernel)
set_option maxRecDepth 20000 in
theorem gL_law_X4_bound : GoodIn wsL_law (wsV RL 68 RX4 yX4_bound wsX4_bound) := goodIn_app (goodIn_of _ (by decide +kernel)) ggL_law_X4_bound
set_option maxRecDepth 20000 in
theorem ggL_law_X3_worth : GoodIn wsL_law wsX3_worth := goodIn_r _ [276, 277, 31, 167, 168, 169, 2, 170, 18, 494, 495, 496, 497, 498, 499, 500, 501, 502, 503, 504] (by decide +kernel) (by decide +kernel)
set_option maxRecDepth 20000 in
theorem gL_law_X3_worth : GoodIn wsL_law (wsV RL 69 RX3 yX3_worth wsX3_worth) := goodIn_app (goodIn_of _ (by decide +kernel)) ggL_law_X3_worth
set_option maxRecDepth 20000 in
theorem ggL_law_X4_worth : GoodIn wsL_law wsX4_worth := goodIn_r _ [281, 114, 282, 84, 208, 209, 210, 5, 211, 89, 505, 506, 507, 508, 509, 510, 511, 512, 513, 514, 515, 516, 517, 518, 519, 520, 521] (by decide +kernel) (by decide +kernel)
set_option maxRecDepth 20000 in
theorem gL_law_X4_worth : GoodIn wsL_law (wsV RL 73 RX4 yX4_worth wsX4_worth) := goodIn_app (goodIn_of _ (by decide +kernel)) ggL_law_X4_worth
set_option maxRecDepth 20000 in
theorem ggL_law_X3_leftOut : GoodIn wsL_law wsX3_leftOut := goodIn_r _ [286, 26, 287, 288, 289, 25, 290, 61, 291, 292, 293, 2, 294, 295, 296, 297, 298, 58, 224, 225, 226, 227, 18, 38, 32, 228, 229, 230, 231, 59, 55, 232, 48, 49, 50, 233, 234, 235, 236, 237, 238, 239, 240, 31, 494, 495, 496, 497, 498, 499, 500, 501, 502, 503, 504, 526, 527, 528, 529, 530, 531] (by decide +kernel) (by decide +kernel)
set_option maxRecDepth 20000 in
theorem gL_law_X3_leftOut : GoodIn wsL_law (wsV RL 74 RX3 yX3_leftOut wsX3_leftOut) := goodIn_app (goodIn_of _ (by decide +kernel)) ggL_law_X3_leftOut
set_option maxRecDepth 20000 in
theorem ggL_law_X4_leftOut : GoodIn wsL_law wsX4_leftOut := goodIn_r _ [302, 114, 207, 303, 304, 305, 5, 306, 87, 82, 245, 246, 247, 248, 89, 84, 83, 249, 250, 251, 252, 81, 505, 506, 507, 508, 509, 510, 511, 512, 513, 514, 515, 516, 517, 518, 519, 520, 521] (by decide +kernel) (by decide +kernel)
set_option maxRecDepth 20000 in
theorem gL_law_X4_leftOut : GoodIn wsL_law (wsV RL 77 RX4 yX4_leftOut wsX4_leftOut) := goodIn_app (goodIn_of _ (by decide +kernel)) ggL_law_X4_leftOut
set_option maxRecDepth 20000 in
theorem ggL_law_X3_wrong : GoodIn wsL_law wsX3_wrong := goodIn_r _ [310, 257, 26, 167, 168, 169, 2, 170, 18, 311, 312, 313, 25, 314, 61, 315, 316, 317, 318, 55, 291, 292, 293, 294, 295, 296, 297, 298, 58, 224, 225, 226, 227, 38, 32, 228, 229, 230, 231, 59, 232, 48, 49, 50, 233, 234, 235, 236, 237, 238, 239, 240, 31, 494, 495, 496, 497, 498, 499, 500, 501, 502, 503, 504, 526, 527, 528, 529, 530, 531] (by decide +kernel) (by decide +kernel)
set_option maxRecDepth 20000 in
theorem gL_law_X3_wrong : GoodIn wsL_law (wsV RL 78 RX3 yX3_wrong wsX3_wrong) := goodIn_app (goodIn_of _ (by decide +kernel)) ggL_law_X3_wrong
set_option maxRecDepth 20000 in
theorem ggL_law_X4_wrong : GoodIn wsL_law wsX4_wrong := goodIn_r _ [322, 114, 262, 207, 81, 208, 209, 210, 5, 211, 89, 323, 300, 301, 302, 303, 304, 305, 306, 87, 82, 245, 246, 247, 248, 84, 83, 249, 250, 251, 252, 505, 506, 507, 508, 509, 510, 511, 512, 513, 514, 515, 516, 517, 518, 519, 520, 521] (by decide +kernel) (by decide +kernel)
set_option maxRecDepth 20000 in
theorem gL_law_X4_wrong : GoodIn wsL_law (wsV RL 82 RX4 yX4_wrong wsX4_wrong) := goodIn_app (goodIn_of _ (by decide +kernel)) ggL_law_X4_wrong
set_option maxRecDepth 20000 in
theorem ggL_law_X3_correct : GoodIn wsL_law wsX3_correct := goodIn_r _ [327, 26, 287, 288, 289, 25, 290, 61, 167, 168, 169, 2, 170, 18, 315, 316, 317, 318, 55, 328, 329, 330, 331, 494, 495, 496, 497, 498, 499, 500, 501, 502, 503, 504, 526, 527, 528, 529, 530, 531] (by decide +kernel) (by decide +kernel)
set_option maxRecDepth 20000 in
theorem gL_law_X3_correct : GoodIn wsL_law (wsV RL 83 RX3 yX3_correct wsX3_correct) := goodIn_app (goodIn_of _ (by decide +kernel)) ggL_law_X3_correct
set_option maxRecDepth 20000 in
theorem ggL_law_X4_correct : GoodIn wsL_law wsX4_correct := goodIn_r _ [335, 114, 207, 81, 208, 209, 210, 5, 211, 89, 505, 506, 507, 508, 509, 510, 511, 512, 513, 514, 515, 516, 517, 518, 519, 520, 521] (by decide +kernel) (by decide +kernel)
set_option maxRecDepth 20000 in
theorem gL_law_X4_correct : GoodIn wsL_law (wsV RL 87 RX4 yX4_correct wsX4_correct) := goodIn_app (goodIn_of _ (by decide +kernel)) ggL_law_X4_correct
set_option maxRecDepth 20000 in
theorem ggL_law_X3_pixel : GoodIn wsL_law wsX3_pixel := goodIn_r _ [339, 30, 37, 340, 341, 342, 29, 343, 71, 66, 344, 345, 346, 171, 172, 173, 2, 174, 22, 36, 175, 176, 177, 21, 178, 179, 180, 181, 182, 44, 43, 45, 183, 184, 185, 186, 187, 188, 25, 189, 224, 225, 226, 227, 18, 38, 26, 32, 228, 229, 230, 231, 59, 61, 55, 58, 232, 48, 49, 50, 233, 234, 235, 236, 237, 238, 239, 240, 31, 347, 348, 349, 350, 351, 352, 353, 354, 67, 72, 73, 355, 356, 357, 358, 70, 68, 359, 360, 361, 362, 494, 495, 496, 497, 498, 499, 500, 501, 502, 503, 504, 532, 533, 534, 535, 536, 537, 538, 522, 523, 524, 525, 526, 527, 528, 529, 530, 531] (by decide +kernel) (by decide +kernel)
set_option maxRecDepth 20000 in
theorem gL_law_X3_pixel : GoodIn wsL_law (wsV RL 88 RX3 yX3_pixel wsX3_pixel) := goodIn_app (goodIn_of _ (by decide +kernel)) ggL_law_X3_pixel
set_option maxRecDepth 20000 in
theorem ggL_law_X4_pixel : GoodIn wsL_law wsX4_pixel := goodIn_r _ [366, 114, 85, 367, 368, 369, 5, 370, 212, 213, 214, 215, 87, 216, 217, 218, 219, 79, 78, 80, 245, 246, 247, 248, 89, 84, 83, 249, 250, 251, 252, 207, 81, 82, 505, 506, 507, 508, 509, 510, 511, 512, 513, 514, 515, 516, 517, 518, 519, 520, 521] (by decide +kernel) (by decide +kernel)
set_option maxRecDepth 20000 in
theorem gL_law_X4_pixel : GoodIn wsL_law (wsV RL 91 RX4 yX4_pixel wsX4_pixel) := goodIn_app (goodIn_of _ (by decide +kernel)) ggL_law_X4_pixel
set_option maxRecDepth 20000 in
theorem ggL_law_X3_piece : GoodIn wsL_law wsX3_piece := goodIn_r _ [374, 30, 375, 376, 377, 29, 378, 67, 344, 345, 346, 494, 495, 496, 497, 498, 499, 500, 501, 502, 503, 504, 532, 533, 534, 535, 536, 537, 538] (by decide +kernel) (by decide +kernel)
set_option maxRecDepth 20000 in
theorem gL_law_X3_piece : GoodIn wsL_law (wsV RL 92 RX3 yX3_piece wsX3_piece) := goodIn_app (goodIn_of _ (by decide +kernel)) ggL_law_X3_piece
set_option maxRecDepth 20000 in
theorem ggL_law_X4_piece : GoodIn wsL_law wsX4_piece := goodIn_r _ [382, 114, 88, 383, 384, 385, 5, 386, 85, 387, 388, 389, 390, 391, 392, 393, 394, 368, 369, 370, 395, 396, 397, 398, 399, 400, 401, 402, 505, 506, 507, 508, 509, 510, 511, 512, 513, 514, 515, 516, 517, 518, 519, 520, 521] (by decide +kernel) (by decide +kernel)
set_option maxRecDepth 20000 in
theorem gL_law_X4_piece : GoodIn wsL_law (wsV RL 95 RX4 yX4_piece wsX4_piece) := goodIn_app (goodIn_of _ (by decide +kernel)) ggL_law_X4_piece
set_option maxRecDepth 20000 in
theorem ggL_law_X3_pieceKind : GoodIn wsL_law wsX3_pieceKind := goodIn_r _ [406, 30, 18, 38, 407, 408, 409, 29, 410, 72, 411, 412, 413, 414, 67, 66, 237, 238, 239, 2, 240, 31, 494, 495, 496, 497, 498, 499, 500, 501, 502, 503, 504, 532, 533, 534, 535, 536, 537, 538] (by decide +kernel) (by decide +kernel)
set_option maxRecDepth 20000 in
theorem gL_law_X3_pieceKind : GoodIn wsL_law (wsV RL 96 RX3 yX3_pieceKind wsX3_pieceKind) := goodIn_app (goodIn_of _ (by decide +kernel)) ggL_law_X3_pieceKind
set_option maxRecDepth 20000 in
theorem ggL_law_X4_pieceKind : GoodIn wsL_law wsX4_pieceKind := goodIn_r _ [418, 114, 89, 84, 383, 384, 385, 5, 386, 88, 85, 387, 388, 389, 390, 391, 392, 393, 394, 368, 369, 370, 395, 396, 397, 398, 399, 400, 401, 402, 419, 420, 421, 422, 505, 506, 507, 508, 509, 510, 511, 512, 513, 514, 515, 516, 517, 518, 519, 520, 521] (by decide +kernel) (by decide +kernel)
set_option maxRecDepth 20000 in
theorem gL_law_X4_pieceKind : GoodIn wsL_law (wsV RL 99 RX4 yX4_pieceKind wsX4_pieceKind) := goodIn_app (goodIn_of _ (by decide +kernel)) ggL_law_X4_pieceKind
set_option maxRecDepth 20000 in
theorem ggL_law_X3_neighbours : GoodIn wsL_law wsX3_neighbours := goodIn_r _ [426, 30, 407, 408, 409, 29, 410, 72, 427, 428, 429, 430, 69, 67, 73, 48, 49, 50, 431, 432, 433, 434, 435, 376, 377, 378, 344, 345, 346, 494, 495, 496, 497, 498, 499, 500, 501, 502, 503, 504, 532, 533, 534, 535, 536, 537, 538] (by decide +kernel) (by decide +kernel)
set_option maxRecDepth 20000 in
theorem gL_law_X3_neighbours : GoodIn wsL_law (wsV RL 100 RX3 yX3_neighbours wsX3_neighbours) := goodIn_app (goodIn_of _ (by decide +kernel)) ggL_law_X3_neighbours
set_option maxRecDepth 20000 in
theorem ggL_law_X4_neighbours : GoodIn wsL_law wsX4_neighbours := goodIn_r _ [439, 114, 383, 384, 385, 5, 386, 88, 85, 387, 388, 389, 390, 391, 392, 393, 394, 368, 369, 370, 395, 396, 397, 398, 399, 400, 401, 402, 440, 441, 442, 443, 505, 506, 507, 508, 509, 510, 511, 512, 513, 514, 515, 516, 517, 518, 519, 520, 521] (by decide +kernel) (by decide +kernel)
set_option maxRecDepth 20000 in
theorem gL_law_X4_neighbours : GoodIn wsL_law (wsV RL 103 RX4 yX4_neighbours wsX4_neighbours) := goodIn_app (goodIn_of _ (by decide +kernel)) ggL_law_X4_neighbours
set_option maxRecDepth 20000 in
theorem ggL_law_X3_pack : GoodIn wsL_law wsX3_pack := goodIn_r _ [447, 26, 448, 449, 450, 25, 451, 61, 452, 453, 454, 455, 60, 55, 57, 456, 457, 458, 459, 494, 495, 496, 497, 498, 499, 500, 501, 502, 503, 504, 526, 527, 528, 529, 530, 531] (by decide +kernel) (by decide +kernel)
set_option maxRecDepth 20000 in
theorem gL_law_X3_pack : GoodIn wsL_law (wsV RL 104 RX3 yX3_pack wsX3_pack) := goodIn_app (goodIn_of _ (by decide +kernel)) ggL_law_X3_pack
set_option maxRecDepth 20000 in
theorem ggL_law_X4_pack : GoodIn wsL_law wsX4_pack := goodIn_r _ [463, 114, 207, 464, 465, 466, 5, 467, 89, 81, 82, 505, 506, 507, 508, 509, 510, 511, 512, 513, 514, 515, 516, 517, 518, 519, 520, 521] (by decide +kernel) (by decide +kernel)
set_option maxRecDepth 20000 in
theorem gL_law_X4_pack : GoodIn wsL_law (wsV RL 107 RX4 yX4_pack wsX4_pack) := goodIn_app (goodIn_of _ (by decide +kernel)) ggL_law_X4_pack
set_option maxRecDepth 20000 in
theorem ggL_law_X3_feed : GoodIn wsL_law wsX3_feed := goodIn_r _ [471, 35, 34, 103, 104, 2, 105, 494, 495, 496, 497, 498, 499, 500, 501, 502, 503, 504] (by decide +kernel) (by decide +kernel)
set_option maxRecDepth 20000 in
theorem gL_law_X3_feed : GoodIn wsL_law (wsV RL 108 RX3 yX3_feed wsX3_feed) := goodIn_app (goodIn_of _ (by decide +kernel)) ggL_law_X3_feed
set_option maxRecDepth 20000 in
theorem ggL_law_X4_feed : GoodIn wsL_law wsX4_feed := goodIn_r _ [475, 114, 476, 86, 118, 119, 5, 120, 505, 506, 507, 508, 509, 510, 511, 512, 513, 514, 515, 516, 517, 518, 519, 520, 521] (by decide +kernel) (by decide +kernel)
set_option maxRecDepth 20000 in
theorem gL_law_X4_feed : GoodIn wsL_law (wsV RL 112 RX4 yX4_feed wsX4_feed) := goodIn_app (goodIn_of _ (by decide +kernel)) ggL_law_X4_feed
set_option maxRecDepth 20000 in
theorem ggL_law_X3_open : GoodIn wsL_law wsX3_open := goodIn_r _ [480, 35, 26, 34, 481, 482, 483, 25, 484, 60, 485, 486, 487, 488, 489, 184, 185, 186, 61, 194, 195, 196, 197, 55, 57, 198, 199, 200, 201, 58, 202, 188, 189, 311, 312, 313, 314, 494, 495, 496, 497, 498, 499, 500, 501, 502, 503, 504, 526, 527, 528, 529, 530, 531] (by decide +kernel) (by decide +kernel)
set_option maxRecDepth 20000 in
theorem gL_law_X3_open : GoodIn wsL_law (wsV RL 113 RX3 yX3_open wsX3_open) := goodIn_app (goodIn_of _ (by decide +kernel)) ggL_law_X3_open
set_option maxRecDepth 20000 in
theorem ggL_law_X4_open : GoodIn wsL_law wsX4_open := goodIn_r _ [493, 114, 476, 86, 89, 207, 81, 82, 505, 506, 507, 508, 509, 510, 511, 512, 513, 514, 515, 516, 517, 518, 519, 520, 521] (by decide +kernel) (by decide +kernel)
set_option maxRecDepth 20000 in
theorem gL_law_X4_open : GoodIn wsL_law (wsV RL 116 RX4 yX4_open wsX4_open) := goodIn_app (goodIn_of _ (by decide +kernel)) ggL_law_X4_open
theorem dL_law_0 : decode cL_law 0 = .ok (.new 8, 3) := by decide +kernel
theorem dL_law_3 : decode cL_law 3 = .ok (.dup, 1) := by decide +kernel
theorem dL_law_4 : decode cL_law 4 = .ok (.aload_n 0, 1) := by decide +kernel
theorem dL_law_5 : decode cL_law 5 = .ok (.iconst 0, 1) := by decide +kernel
theorem dL_law_6 : decode cL_law 6 = .ok (.invokestatic 15, 3) := by decide +kernel
theorem dL_law_9 : decode cL_law 9 = .ok (.invokespecial 21, 3) := by decide +kernel
theorem dL_law_12 : decode cL_law 12 = .ok (.astore_n 1, 1) := by decide +kernel
theorem dL_law_13 : decode cL_law 13 = .ok (.new 24, 3) := by decide +kernel
theorem dL_law_16 : decode cL_law 16 = .ok (.dup, 1) := by decide +kernel
theorem dL_law_17 : decode cL_law 17 = .ok (.aload_n 0, 1) := by decide +kernel
theorem dL_law_18 : decode cL_law 18 = .ok (.iconst 0, 1) := by decide +kernel
theorem dL_law_19 : decode cL_law 19 = .ok (.invokestatic 15, 3) := by decide +kernel
theorem dL_law_22 : decode cL_law 22 = .ok (.invokespecial 26, 3) := by decide +kernel
theorem dL_law_25 : decode cL_law 25 = .ok (.astore_n 2, 1) := by decide +kernel
theorem dL_law_26 : decode cL_law 26 = .ok (.iconst 1, 1) := by decide +kernel
theorem dL_law_27 : decode cL_law 27 = .ok (.newarray .long, 2) := by decide +kernel
theorem dL_law_29 : decode cL_law 29 = .ok (.astore_n 3, 1) := by decide +kernel
theorem dL_law_30 : decode cL_law 30 = .ok (.iconst 1, 1) := by decide +kernel
theorem dL_law_31 : decode cL_law 31 = .ok (.istore 4, 2) := by decide +kernel
theorem dL_law_33 : decode cL_law 33 = .ok (.iload 4, 2) := by decide +kernel
theorem dL_law_35 : decode cL_law 35 = .ok (.aload_n 0, 1) := by decide +kernel
theorem dL_law_36 : decode cL_law 36 = .ok (.arraylength, 1) := by decide +kernel
theorem dL_law_37 : decode cL_law 37 = .ok (.iconst 5, 1) := by decide +kernel
theorem dL_law_38 : decode cL_law 38 = .ok (.isub, 1) := by decide +kernel
theorem dL_law_39 : decode cL_law 39 = .ok (.if_icmp .gt 814, 3) := by decide +kernel
theorem dL_law_42 : decode cL_law 42 = .ok (.aload_n 0, 1) := by decide +kernel
theorem dL_law_43 : decode cL_law 43 = .ok (.iload 4, 2) := by decide +kernel
theorem dL_law_45 : decode cL_law 45 = .ok (.iaload, 1) := by decide +kernel
theorem dL_law_46 : decode cL_law 46 = .ok (.bipush 31, 2) := by decide +kernel
theorem dL_law_48 : decode cL_law 48 = .ok (.iand, 1) := by decide +kernel
theorem dL_law_49 : decode cL_law 49 = .ok (.tableswitch 798 0 18 #[91, 166, 203, 240, 321, 346, 359, 385, 442, 511, 536, 574, 611, 648, 685, 710, 735, 760, 785], 91) := by decide +kernel
theorem dL_law_140 : decode cL_law 140 = .ok (.aload_n 1, 1) := by decide +kernel
theorem dL_law_141 : decode cL_law 141 = .ok (.aload_n 0, 1) := by decide +kernel
theorem dL_law_142 : decode cL_law 142 = .ok (.iload 4, 2) := by decide +kernel
theorem dL_law_144 : decode cL_law 144 = .ok (.iconst 1, 1) := by decide +kernel
theorem dL_law_145 : decode cL_law 145 = .ok (.iadd, 1) := by decide +kernel
theorem dL_law_146 : decode cL_law 146 = .ok (.iaload, 1) := by decide +kernel
theorem dL_law_147 : decode cL_law 147 = .ok (.aload_n 0, 1) := by decide +kernel
theorem dL_law_148 : decode cL_law 148 = .ok (.iload 4, 2) := by decide +kernel
theorem dL_law_150 : decode cL_law 150 = .ok (.iconst 2, 1) := by decide +kernel
theorem dL_law_151 : decode cL_law 151 = .ok (.iadd, 1) := by decide +kernel
theorem dL_law_152 : decode cL_law 152 = .ok (.iaload, 1) := by decide +kernel
theorem dL_law_153 : decode cL_law 153 = .ok (.aload_n 3, 1) := by decide +kernel
theorem dL_law_154 : decode cL_law 154 = .ok (.invokestatic 27, 3) := by decide +kernel
theorem dL_law_157 : decode cL_law 157 = .ok (.istore 5, 2) := by decide +kernel
theorem dL_law_159 : decode cL_law 159 = .ok (.aload_n 2, 1) := by decide +kernel
theorem dL_law_160 : decode cL_law 160 = .ok (.aload_n 0, 1) := by decide +kernel
theorem dL_law_161 : decode cL_law 161 = .ok (.iload 4, 2) := by decide +kernel
theorem dL_law_163 : decode cL_law 163 = .ok (.iconst 1, 1) := by decide +kernel
theorem dL_law_164 : decode cL_law 164 = .ok (.iadd, 1) := by decide +kernel
theorem dL_law_165 : decode cL_law 165 = .ok (.iaload, 1) := by decide +kernel
theorem dL_law_166 : decode cL_law 166 = .ok (.aload_n 0, 1) := by decide +kernel
theorem dL_law_167 : decode cL_law 167 = .ok (.iload 4, 2) := by decide +kernel
theorem dL_law_169 : decode cL_law 169 = .ok (.iconst 2, 1) := by decide +kernel
theorem dL_law_170 : decode cL_law 170 = .ok (.iadd, 1) := by decide +kernel
theorem dL_law_171 : decode cL_law 171 = .ok (.iaload, 1) := by decide +kernel
theorem dL_law_172 : decode cL_law 172 = .ok (.invokevirtual 30, 3) := by decide +kernel
theorem dL_law_175 : decode cL_law 175 = .ok (.istore 6, 2) := by decide +kernel
theorem dL_law_177 : decode cL_law 177 = .ok (.aload_n 2, 1) := by decide +kernel
theorem dL_law_178 : decode cL_law 178 = .ok (.invokevirtual 31, 3) := by decide +kernel
theorem dL_law_181 : decode cL_law 181 = .ok (.iload 5, 2) := by decide +kernel
theorem dL_law_183 : decode cL_law 183 = .ok (.if_icmp .eq 5, 3) := by decide +kernel
theorem dL_law_186 : decode cL_law 186 = .ok (.iconst 0, 1) := by decide +kernel
theorem dL_law_187 : decode cL_law 187 = .ok (.ireturn, 1) := by decide +kernel
theorem dL_law_188 : decode cL_law 188 = .ok (.iload 5, 2) := by decide +kernel
theorem dL_law_190 : decode cL_law 190 = .ok (.ifCond .ne 22, 3) := by decide +kernel
theorem dL_law_193 : decode cL_law 193 = .ok (.aload_n 3, 1) := by decide +kernel
theorem dL_law_194 : decode cL_law 194 = .ok (.iconst 0, 1) := by decide +kernel
theorem dL_law_195 : decode cL_law 195 = .ok (.laload, 1) := by decide +kernel
theorem dL_law_196 : decode cL_law 196 = .ok (.iload 6, 2) := by decide +kernel
theorem dL_law_198 : decode cL_law 198 = .ok (.ifCond .eq 7, 3) := by decide +kernel
theorem dL_law_201 : decode cL_law 201 = .ok (.lconst 1, 1) := by decide +kernel
theorem dL_law_202 : decode cL_law 202 = .ok (.goto 4, 3) := by decide +kernel
theorem dL_law_205 : decode cL_law 205 = .ok (.lconst 0, 1) := by decide +kernel
theorem dL_law_206 : decode cL_law 206 = .ok (.lcmp, 1) := by decide +kernel
theorem dL_law_207 : decode cL_law 207 = .ok (.ifCond .eq 5, 3) := by decide +kernel
theorem dL_law_210 : decode cL_law 210 = .ok (.iconst 0, 1) := by decide +kernel
theorem dL_law_211 : decode cL_law 211 = .ok (.ireturn, 1) := by decide +kernel
theorem dL_law_212 : decode cL_law 212 = .ok (.goto 635, 3) := by decide +kernel
theorem dL_law_215 : decode cL_law 215 = .ok (.aload_n 1, 1) := by decide +kernel
theorem dL_law_216 : decode cL_law 216 = .ok (.aload_n 0, 1) := by decide +kernel
theorem dL_law_217 : decode cL_law 217 = .ok (.iload 4, 2) := by decide +kernel
theorem dL_law_219 : decode cL_law 219 = .ok (.iconst 1, 1) := by decide +kernel
theorem dL_law_220 : decode cL_law 220 = .ok (.iadd, 1) := by decide +kernel
theorem dL_law_221 : decode cL_law 221 = .ok (.iaload, 1) := by decide +kernel
theorem dL_law_222 : decode cL_law 222 = .ok (.aload_n 0, 1) := by decide +kernel
theorem dL_law_223 : decode cL_law 223 = .ok (.iload 4, 2) := by decide +kernel
theorem dL_law_225 : decode cL_law 225 = .ok (.iconst 2, 1) := by decide +kernel
theorem dL_law_226 : decode cL_law 226 = .ok (.iadd, 1) := by decide +kernel
theorem dL_law_227 : decode cL_law 227 = .ok (.iaload, 1) := by decide +kernel
theorem dL_law_228 : decode cL_law 228 = .ok (.invokevirtual 35, 3) := by decide +kernel
theorem dL_law_231 : decode cL_law 231 = .ok (.aload_n 2, 1) := by decide +kernel
theorem dL_law_232 : decode cL_law 232 = .ok (.aload_n 0, 1) := by decide +kernel
theorem dL_law_233 : decode cL_law 233 = .ok (.iload 4, 2) := by decide +kernel
theorem dL_law_235 : decode cL_law 235 = .ok (.iconst 1, 1) := by decide +kernel
theorem dL_law_236 : decode cL_law 236 = .ok (.iadd, 1) := by decide +kernel
theorem dL_law_237 : decode cL_law 237 = .ok (.iaload, 1) := by decide +kernel
theorem dL_law_238 : decode cL_law 238 = .ok (.aload_n 0, 1) := by decide +kernel
theorem dL_law_239 : decode cL_law 239 = .ok (.iload 4, 2) := by decide +kernel
theorem dL_law_241 : decode cL_law 241 = .ok (.iconst 2, 1) := by decide +kernel
theorem dL_law_242 : decode cL_law 242 = .ok (.iadd, 1) := by decide +kernel
theorem dL_law_243 : decode cL_law 243 = .ok (.iaload, 1) := by decide +kernel
theorem dL_law_244 : decode cL_law 244 = .ok (.invokevirtual 38, 3) := by decide +kernel
theorem dL_law_247 : decode cL_law 247 = .ok (.if_icmp .eq 600, 3) := by decide +kernel
theorem dL_law_250 : decode cL_law 250 = .ok (.iconst 0, 1) := by decide +kernel
theorem dL_law_251 : decode cL_law 251 = .ok (.ireturn, 1) := by decide +kernel
theorem dL_law_252 : decode cL_law 252 = .ok (.aload_n 1, 1) := by decide +kernel
theorem dL_law_253 : decode cL_law 253 = .ok (.aload_n 0, 1) := by decide +kernel
theorem dL_law_254 : decode cL_law 254 = .ok (.iload 4, 2) := by decide +kernel
theorem dL_law_256 : decode cL_law 256 = .ok (.iconst 1, 1) := by decide +kernel
theorem dL_law_257 : decode cL_law 257 = .ok (.iadd, 1) := by decide +kernel
theorem dL_law_258 : decode cL_law 258 = .ok (.iaload, 1) := by decide +kernel
theorem dL_law_259 : decode cL_law 259 = .ok (.aload_n 0, 1) := by decide +kernel
theorem dL_law_260 : decode cL_law 260 = .ok (.iload 4, 2) := by decide +kernel
theorem dL_law_262 : decode cL_law 262 = .ok (.iconst 2, 1) := by decide +kernel
theorem dL_law_263 : decode cL_law 263 = .ok (.iadd, 1) := by decide +kernel
theorem dL_law_264 : decode cL_law 264 = .ok (.iaload, 1) := by decide +kernel
theorem dL_law_265 : decode cL_law 265 = .ok (.invokevirtual 39, 3) := by decide +kernel
theorem dL_law_268 : decode cL_law 268 = .ok (.aload_n 2, 1) := by decide +kernel
theorem dL_law_269 : decode cL_law 269 = .ok (.aload_n 0, 1) := by decide +kernel
theorem dL_law_270 : decode cL_law 270 = .ok (.iload 4, 2) := by decide +kernel
theorem dL_law_272 : decode cL_law 272 = .ok (.iconst 1, 1) := by decide +kernel
theorem dL_law_273 : decode cL_law 273 = .ok (.iadd, 1) := by decide +kernel
theorem dL_law_274 : decode cL_law 274 = .ok (.iaload, 1) := by decide +kernel
theorem dL_law_275 : decode cL_law 275 = .ok (.aload_n 0, 1) := by decide +kernel
theorem dL_law_276 : decode cL_law 276 = .ok (.iload 4, 2) := by decide +kernel
theorem dL_law_278 : decode cL_law 278 = .ok (.iconst 2, 1) := by decide +kernel
theorem dL_law_279 : decode cL_law 279 = .ok (.iadd, 1) := by decide +kernel
theorem dL_law_280 : decode cL_law 280 = .ok (.iaload, 1) := by decide +kernel
theorem dL_law_281 : decode cL_law 281 = .ok (.invokevirtual 42, 3) := by decide +kernel
theorem dL_law_284 : decode cL_law 284 = .ok (.if_icmp .eq 563, 3) := by decide +kernel
theorem dL_law_287 : decode cL_law 287 = .ok (.iconst 0, 1) := by decide +kernel
theorem dL_law_288 : decode cL_law 288 = .ok (.ireturn, 1) := by decide +kernel
theorem dL_law_289 : decode cL_law 289 = .ok (.aload_n 1, 1) := by decide +kernel
theorem dL_law_290 : decode cL_law 290 = .ok (.aload_n 0, 1) := by decide +kernel
theorem dL_law_291 : decode cL_law 291 = .ok (.iload 4, 2) := by decide +kernel
theorem dL_law_293 : decode cL_law 293 = .ok (.iconst 1, 1) := by decide +kernel
theorem dL_law_294 : decode cL_law 294 = .ok (.iadd, 1) := by decide +kernel
theorem dL_law_295 : decode cL_law 295 = .ok (.iaload, 1) := by decide +kernel
theorem dL_law_296 : decode cL_law 296 = .ok (.aload_n 0, 1) := by decide +kernel
theorem dL_law_297 : decode cL_law 297 = .ok (.iload 4, 2) := by decide +kernel
theorem dL_law_299 : decode cL_law 299 = .ok (.iconst 2, 1) := by decide +kernel
theorem dL_law_300 : decode cL_law 300 = .ok (.iadd, 1) := by decide +kernel
theorem dL_law_301 : decode cL_law 301 = .ok (.iaload, 1) := by decide +kernel
theorem dL_law_302 : decode cL_law 302 = .ok (.aload_n 0, 1) := by decide +kernel
theorem dL_law_303 : decode cL_law 303 = .ok (.iload 4, 2) := by decide +kernel
theorem dL_law_305 : decode cL_law 305 = .ok (.iconst 3, 1) := by decide +kernel
theorem dL_law_306 : decode cL_law 306 = .ok (.iadd, 1) := by decide +kernel
theorem dL_law_307 : decode cL_law 307 = .ok (.iaload, 1) := by decide +kernel
theorem dL_law_308 : decode cL_law 308 = .ok (.i2l, 1) := by decide +kernel
theorem dL_law_309 : decode cL_law 309 = .ok (.bipush 32, 2) := by decide +kernel
theorem dL_law_311 : decode cL_law 311 = .ok (.lshl, 1) := by decide +kernel
theorem dL_law_312 : decode cL_law 312 = .ok (.aload_n 0, 1) := by decide +kernel
theorem dL_law_313 : decode cL_law 313 = .ok (.iload 4, 2) := by decide +kernel
theorem dL_law_315 : decode cL_law 315 = .ok (.iconst 4, 1) := by decide +kernel
theorem dL_law_316 : decode cL_law 316 = .ok (.iadd, 1) := by decide +kernel
theorem dL_law_317 : decode cL_law 317 = .ok (.iaload, 1) := by decide +kernel
theorem dL_law_318 : decode cL_law 318 = .ok (.i2l, 1) := by decide +kernel
theorem dL_law_319 : decode cL_law 319 = .ok (.ldc2_w 43, 3) := by decide +kernel
theorem dL_law_322 : decode cL_law 322 = .ok (.land, 1) := by decide +kernel
theorem dL_law_323 : decode cL_law 323 = .ok (.lor, 1) := by decide +kernel
theorem dL_law_324 : decode cL_law 324 = .ok (.invokevirtual 45, 3) := by decide +kernel
theorem dL_law_327 : decode cL_law 327 = .ok (.aload_n 2, 1) := by decide +kernel
theorem dL_law_328 : decode cL_law 328 = .ok (.aload_n 0, 1) := by decide +kernel
theorem dL_law_329 : decode cL_law 329 = .ok (.iload 4, 2) := by decide +kernel
theorem dL_law_331 : decode cL_law 331 = .ok (.iconst 1, 1) := by decide +kernel
theorem dL_law_332 : decode cL_law 332 = .ok (.iadd, 1) := by decide +kernel
theorem dL_law_333 : decode cL_law 333 = .ok (.iaload, 1) := by decide +kernel
theorem dL_law_334 : decode cL_law 334 = .ok (.aload_n 0, 1) := by decide +kernel
theorem dL_law_335 : decode cL_law 335 = .ok (.iload 4, 2) := by decide +kernel
theorem dL_law_337 : decode cL_law 337 = .ok (.iconst 2, 1) := by decide +kernel
theorem dL_law_338 : decode cL_law 338 = .ok (.iadd, 1) := by decide +kernel
theorem dL_law_339 : decode cL_law 339 = .ok (.iaload, 1) := by decide +kernel
theorem dL_law_340 : decode cL_law 340 = .ok (.aload_n 0, 1) := by decide +kernel
theorem dL_law_341 : decode cL_law 341 = .ok (.iload 4, 2) := by decide +kernel
theorem dL_law_343 : decode cL_law 343 = .ok (.iconst 3, 1) := by decide +kernel
theorem dL_law_344 : decode cL_law 344 = .ok (.iadd, 1) := by decide +kernel
theorem dL_law_345 : decode cL_law 345 = .ok (.iaload, 1) := by decide +kernel
theorem dL_law_346 : decode cL_law 346 = .ok (.i2l, 1) := by decide +kernel
theorem dL_law_347 : decode cL_law 347 = .ok (.bipush 32, 2) := by decide +kernel
theorem dL_law_349 : decode cL_law 349 = .ok (.lshl, 1) := by decide +kernel
theorem dL_law_350 : decode cL_law 350 = .ok (.aload_n 0, 1) := by decide +kernel
theorem dL_law_351 : decode cL_law 351 = .ok (.iload 4, 2) := by decide +kernel
theorem dL_law_353 : decode cL_law 353 = .ok (.iconst 4, 1) := by decide +kernel
theorem dL_law_354 : decode cL_law 354 = .ok (.iadd, 1) := by decide +kernel
theorem dL_law_355 : decode cL_law 355 = .ok (.iaload, 1) := by decide +kernel
theorem dL_law_356 : decode cL_law 356 = .ok (.i2l, 1) := by decide +kernel
theorem dL_law_357 : decode cL_law 357 = .ok (.ldc2_w 43, 3) := by decide +kernel
theorem dL_law_360 : decode cL_law 360 = .ok (.land, 1) := by decide +kernel
theorem dL_law_361 : decode cL_law 361 = .ok (.lor, 1) := by decide +kernel
theorem dL_law_362 : decode cL_law 362 = .ok (.invokevirtual 49, 3) := by decide +kernel
theorem dL_law_365 : decode cL_law 365 = .ok (.if_icmp .eq 482, 3) := by decide +kernel
theorem dL_law_368 : decode cL_law 368 = .ok (.iconst 0, 1) := by decide +kernel
theorem dL_law_369 : decode cL_law 369 = .ok (.ireturn, 1) := by decide +kernel
theorem dL_law_370 : decode cL_law 370 = .ok (.aload_n 1, 1) := by decide +kernel
theorem dL_law_371 : decode cL_law 371 = .ok (.aload_n 0, 1) := by decide +kernel
theorem dL_law_372 : decode cL_law 372 = .ok (.iload 4, 2) := by decide +kernel
theorem dL_law_374 : decode cL_law 374 = .ok (.iconst 1, 1) := by decide +kernel
theorem dL_law_375 : decode cL_law 375 = .ok (.iadd, 1) := by decide +kernel
theorem dL_law_376 : decode cL_law 376 = .ok (.iaload, 1) := by decide +kernel
theorem dL_law_377 : decode cL_law 377 = .ok (.invokevirtual 50, 3) := by decide +kernel
theorem dL_law_380 : decode cL_law 380 = .ok (.aload_n 2, 1) := by decide +kernel
theorem dL_law_381 : decode cL_law 381 = .ok (.aload_n 0, 1) := by decide +kernel
theorem dL_law_382 : decode cL_law 382 = .ok (.iload 4, 2) := by decide +kernel
theorem dL_law_384 : decode cL_law 384 = .ok (.iconst 1, 1) := by decide +kernel
theorem dL_law_385 : decode cL_law 385 = .ok (.iadd, 1) := by decide +kernel
theorem dL_law_386 : decode cL_law 386 = .ok (.iaload, 1) := by decide +kernel
theorem dL_law_387 : decode cL_law 387 = .ok (.invokevirtual 54, 3) := by decide +kernel
theorem dL_law_390 : decode cL_law 390 = .ok (.if_icmp .eq 457, 3) := by decide +kernel
theorem dL_law_393 : decode cL_law 393 = .ok (.iconst 0, 1) := by decide +kernel
theorem dL_law_394 : decode cL_law 394 = .ok (.ireturn, 1) := by decide +kernel
theorem dL_law_395 : decode cL_law 395 = .ok (.aload_n 1, 1) := by decide +kernel
theorem dL_law_396 : decode cL_law 396 = .ok (.invokevirtual 55, 3) := by decide +kernel
theorem dL_law_399 : decode cL_law 399 = .ok (.aload_n 2, 1) := by decide +kernel
theorem dL_law_400 : decode cL_law 400 = .ok (.invokevirtual 58, 3) := by decide +kernel
theorem dL_law_403 : decode cL_law 403 = .ok (.if_icmp .eq 444, 3) := by decide +kernel
theorem dL_law_406 : decode cL_law 406 = .ok (.iconst 0, 1) := by decide +kernel
theorem dL_law_407 : decode cL_law 407 = .ok (.ireturn, 1) := by decide +kernel
theorem dL_law_408 : decode cL_law 408 = .ok (.aload_n 1, 1) := by decide +kernel
theorem dL_law_409 : decode cL_law 409 = .ok (.aload_n 0, 1) := by decide +kernel
theorem dL_law_410 : decode cL_law 410 = .ok (.iload 4, 2) := by decide +kernel
theorem dL_law_412 : decode cL_law 412 = .ok (.iconst 1, 1) := by decide +kernel
theorem dL_law_413 : decode cL_law 413 = .ok (.iadd, 1) := by decide +kernel
theorem dL_law_414 : decode cL_law 414 = .ok (.iaload, 1) := by decide +kernel
theorem dL_law_415 : decode cL_law 415 = .ok (.invokevirtual 59, 3) := by decide +kernel
theorem dL_law_418 : decode cL_law 418 = .ok (.aload_n 2, 1) := by decide +kernel
theorem dL_law_419 : decode cL_law 419 = .ok (.aload_n 0, 1) := by decide +kernel
theorem dL_law_420 : decode cL_law 420 = .ok (.iload 4, 2) := by decide +kernel
theorem dL_law_422 : decode cL_law 422 = .ok (.iconst 1, 1) := by decide +kernel
theorem dL_law_423 : decode cL_law 423 = .ok (.iadd, 1) := by decide +kernel
theorem dL_law_424 : decode cL_law 424 = .ok (.iaload, 1) := by decide +kernel
theorem dL_law_425 : decode cL_law 425 = .ok (.invokevirtual 63, 3) := by decide +kernel
theorem dL_law_428 : decode cL_law 428 = .ok (.lcmp, 1) := by decide +kernel
theorem dL_law_429 : decode cL_law 429 = .ok (.ifCond .eq 418, 3) := by decide +kernel
theorem dL_law_432 : decode cL_law 432 = .ok (.iconst 0, 1) := by decide +kernel
theorem dL_law_433 : decode cL_law 433 = .ok (.ireturn, 1) := by decide +kernel
theorem dL_law_434 : decode cL_law 434 = .ok (.aload_n 1, 1) := by decide +kernel
theorem dL_law_435 : decode cL_law 435 = .ok (.aload_n 0, 1) := by decide +kernel
theorem dL_law_436 : decode cL_law 436 = .ok (.iload 4, 2) := by decide +kernel
theorem dL_law_438 : decode cL_law 438 = .ok (.iconst 1, 1) := by decide +kernel
theorem dL_law_439 : decode cL_law 439 = .ok (.iadd, 1) := by decide +kernel
theorem dL_law_440 : decode cL_law 440 = .ok (.iaload, 1) := by decide +kernel
theorem dL_law_441 : decode cL_law 441 = .ok (.i2l, 1) := by decide +kernel
theorem dL_law_442 : decode cL_law 442 = .ok (.bipush 32, 2) := by decide +kernel
theorem dL_law_444 : decode cL_law 444 = .ok (.lshl, 1) := by decide +kernel
theorem dL_law_445 : decode cL_law 445 = .ok (.aload_n 0, 1) := by decide +kernel
theorem dL_law_446 : decode cL_law 446 = .ok (.iload 4, 2) := by decide +kernel
theorem dL_law_448 : decode cL_law 448 = .ok (.iconst 2, 1) := by decide +kernel
theorem dL_law_449 : decode cL_law 449 = .ok (.iadd, 1) := by decide +kernel
theorem dL_law_450 : decode cL_law 450 = .ok (.iaload, 1) := by decide +kernel
theorem dL_law_451 : decode cL_law 451 = .ok (.i2l, 1) := by decide +kernel
theorem dL_law_452 : decode cL_law 452 = .ok (.ldc2_w 43, 3) := by decide +kernel
theorem dL_law_455 : decode cL_law 455 = .ok (.land, 1) := by decide +kernel
theorem dL_law_456 : decode cL_law 456 = .ok (.lor, 1) := by decide +kernel
theorem dL_law_457 : decode cL_law 457 = .ok (.invokevirtual 64, 3) := by decide +kernel
theorem dL_law_460 : decode cL_law 460 = .ok (.aload_n 2, 1) := by decide +kernel
theorem dL_law_461 : decode cL_law 461 = .ok (.aload_n 0, 1) := by decide +kernel
theorem dL_law_462 : decode cL_law 462 = .ok (.iload 4, 2) := by decide +kernel
theorem dL_law_464 : decode cL_law 464 = .ok (.iconst 1, 1) := by decide +kernel
theorem dL_law_465 : decode cL_law 465 = .ok (.iadd, 1) := by decide +kernel
theorem dL_law_466 : decode cL_law 466 = .ok (.iaload, 1) := by decide +kernel
theorem dL_law_467 : decode cL_law 467 = .ok (.i2l, 1) := by decide +kernel
theorem dL_law_468 : decode cL_law 468 = .ok (.bipush 32, 2) := by decide +kernel
theorem dL_law_470 : decode cL_law 470 = .ok (.lshl, 1) := by decide +kernel
theorem dL_law_471 : decode cL_law 471 = .ok (.aload_n 0, 1) := by decide +kernel
theorem dL_law_472 : decode cL_law 472 = .ok (.iload 4, 2) := by decide +kernel
theorem dL_law_474 : decode cL_law 474 = .ok (.iconst 2, 1) := by decide +kernel
theorem dL_law_475 : decode cL_law 475 = .ok (.iadd, 1) := by decide +kernel
theorem dL_law_476 : decode cL_law 476 = .ok (.iaload, 1) := by decide +kernel
theorem dL_law_477 : decode cL_law 477 = .ok (.i2l, 1) := by decide +kernel
theorem dL_law_478 : decode cL_law 478 = .ok (.ldc2_w 43, 3) := by decide +kernel
theorem dL_law_481 : decode cL_law 481 = .ok (.land, 1) := by decide +kernel
theorem dL_law_482 : decode cL_law 482 = .ok (.lor, 1) := by decide +kernel
theorem dL_law_483 : decode cL_law 483 = .ok (.invokevirtual 68, 3) := by decide +kernel
theorem dL_law_486 : decode cL_law 486 = .ok (.if_icmp .eq 361, 3) := by decide +kernel
theorem dL_law_489 : decode cL_law 489 = .ok (.iconst 0, 1) := by decide +kernel
theorem dL_law_490 : decode cL_law 490 = .ok (.ireturn, 1) := by decide +kernel
theorem dL_law_491 : decode cL_law 491 = .ok (.aload_n 1, 1) := by decide +kernel
theorem dL_law_492 : decode cL_law 492 = .ok (.aload_n 0, 1) := by decide +kernel
theorem dL_law_493 : decode cL_law 493 = .ok (.iload 4, 2) := by decide +kernel
theorem dL_law_495 : decode cL_law 495 = .ok (.iconst 1, 1) := by decide +kernel
theorem dL_law_496 : decode cL_law 496 = .ok (.iadd, 1) := by decide +kernel
theorem dL_law_497 : decode cL_law 497 = .ok (.iaload, 1) := by decide +kernel
theorem dL_law_498 : decode cL_law 498 = .ok (.aload_n 0, 1) := by decide +kernel
theorem dL_law_499 : decode cL_law 499 = .ok (.iload 4, 2) := by decide +kernel
theorem dL_law_501 : decode cL_law 501 = .ok (.iconst 2, 1) := by decide +kernel
theorem dL_law_502 : decode cL_law 502 = .ok (.iadd, 1) := by decide +kernel
theorem dL_law_503 : decode cL_law 503 = .ok (.iaload, 1) := by decide +kernel
theorem dL_law_504 : decode cL_law 504 = .ok (.i2l, 1) := by decide +kernel
theorem dL_law_505 : decode cL_law 505 = .ok (.bipush 32, 2) := by decide +kernel
theorem dL_law_507 : decode cL_law 507 = .ok (.lshl, 1) := by decide +kernel
theorem dL_law_508 : decode cL_law 508 = .ok (.aload_n 0, 1) := by decide +kernel
theorem dL_law_509 : decode cL_law 509 = .ok (.iload 4, 2) := by decide +kernel
theorem dL_law_511 : decode cL_law 511 = .ok (.iconst 3, 1) := by decide +kernel
theorem dL_law_512 : decode cL_law 512 = .ok (.iadd, 1) := by decide +kernel
theorem dL_law_513 : decode cL_law 513 = .ok (.iaload, 1) := by decide +kernel
theorem dL_law_514 : decode cL_law 514 = .ok (.i2l, 1) := by decide +kernel
theorem dL_law_515 : decode cL_law 515 = .ok (.ldc2_w 43, 3) := by decide +kernel
theorem dL_law_518 : decode cL_law 518 = .ok (.land, 1) := by decide +kernel
theorem dL_law_519 : decode cL_law 519 = .ok (.lor, 1) := by decide +kernel
theorem dL_law_520 : decode cL_law 520 = .ok (.invokevirtual 69, 3) := by decide +kernel
theorem dL_law_523 : decode cL_law 523 = .ok (.aload_n 2, 1) := by decide +kernel
theorem dL_law_524 : decode cL_law 524 = .ok (.aload_n 0, 1) := by decide +kernel
theorem dL_law_525 : decode cL_law 525 = .ok (.iload 4, 2) := by decide +kernel
theorem dL_law_527 : decode cL_law 527 = .ok (.iconst 1, 1) := by decide +kernel
theorem dL_law_528 : decode cL_law 528 = .ok (.iadd, 1) := by decide +kernel
theorem dL_law_529 : decode cL_law 529 = .ok (.iaload, 1) := by decide +kernel
theorem dL_law_530 : decode cL_law 530 = .ok (.aload_n 0, 1) := by decide +kernel
theorem dL_law_531 : decode cL_law 531 = .ok (.iload 4, 2) := by decide +kernel
theorem dL_law_533 : decode cL_law 533 = .ok (.iconst 2, 1) := by decide +kernel
theorem dL_law_534 : decode cL_law 534 = .ok (.iadd, 1) := by decide +kernel
theorem dL_law_535 : decode cL_law 535 = .ok (.iaload, 1) := by decide +kernel
theorem dL_law_536 : decode cL_law 536 = .ok (.i2l, 1) := by decide +kernel
theorem dL_law_537 : decode cL_law 537 = .ok (.bipush 32, 2) := by decide +kernel
theorem dL_law_539 : decode cL_law 539 = .ok (.lshl, 1) := by decide +kernel
theorem dL_law_540 : decode cL_law 540 = .ok (.aload_n 0, 1) := by decide +kernel
theorem dL_law_541 : decode cL_law 541 = .ok (.iload 4, 2) := by decide +kernel
theorem dL_law_543 : decode cL_law 543 = .ok (.iconst 3, 1) := by decide +kernel
theorem dL_law_544 : decode cL_law 544 = .ok (.iadd, 1) := by decide +kernel
theorem dL_law_545 : decode cL_law 545 = .ok (.iaload, 1) := by decide +kernel
theorem dL_law_546 : decode cL_law 546 = .ok (.i2l, 1) := by decide +kernel
theorem dL_law_547 : decode cL_law 547 = .ok (.ldc2_w 43, 3) := by decide +kernel
theorem dL_law_550 : decode cL_law 550 = .ok (.land, 1) := by decide +kernel
theorem dL_law_551 : decode cL_law 551 = .ok (.lor, 1) := by decide +kernel
theorem dL_law_552 : decode cL_law 552 = .ok (.invokevirtual 73, 3) := by decide +kernel
theorem dL_law_555 : decode cL_law 555 = .ok (.if_icmp .eq 292, 3) := by decide +kernel
theorem dL_law_558 : decode cL_law 558 = .ok (.iconst 0, 1) := by decide +kernel
theorem dL_law_559 : decode cL_law 559 = .ok (.ireturn, 1) := by decide +kernel
theorem dL_law_560 : decode cL_law 560 = .ok (.aload_n 1, 1) := by decide +kernel
theorem dL_law_561 : decode cL_law 561 = .ok (.aload_n 0, 1) := by decide +kernel
theorem dL_law_562 : decode cL_law 562 = .ok (.iload 4, 2) := by decide +kernel
theorem dL_law_564 : decode cL_law 564 = .ok (.iconst 1, 1) := by decide +kernel
theorem dL_law_565 : decode cL_law 565 = .ok (.iadd, 1) := by decide +kernel
theorem dL_law_566 : decode cL_law 566 = .ok (.iaload, 1) := by decide +kernel
theorem dL_law_567 : decode cL_law 567 = .ok (.invokevirtual 74, 3) := by decide +kernel
theorem dL_law_570 : decode cL_law 570 = .ok (.aload_n 2, 1) := by decide +kernel
theorem dL_law_571 : decode cL_law 571 = .ok (.aload_n 0, 1) := by decide +kernel
theorem dL_law_572 : decode cL_law 572 = .ok (.iload 4, 2) := by decide +kernel
theorem dL_law_574 : decode cL_law 574 = .ok (.iconst 1, 1) := by decide +kernel
theorem dL_law_575 : decode cL_law 575 = .ok (.iadd, 1) := by decide +kernel
theorem dL_law_576 : decode cL_law 576 = .ok (.iaload, 1) := by decide +kernel
theorem dL_law_577 : decode cL_law 577 = .ok (.invokevirtual 77, 3) := by decide +kernel
theorem dL_law_580 : decode cL_law 580 = .ok (.if_icmp .eq 267, 3) := by decide +kernel
theorem dL_law_583 : decode cL_law 583 = .ok (.iconst 0, 1) := by decide +kernel
theorem dL_law_584 : decode cL_law 584 = .ok (.ireturn, 1) := by decide +kernel
theorem dL_law_585 : decode cL_law 585 = .ok (.aload_n 1, 1) := by decide +kernel
theorem dL_law_586 : decode cL_law 586 = .ok (.aload_n 0, 1) := by decide +kernel
theorem dL_law_587 : decode cL_law 587 = .ok (.iload 4, 2) := by decide +kernel
theorem dL_law_589 : decode cL_law 589 = .ok (.iconst 1, 1) := by decide +kernel
theorem dL_law_590 : decode cL_law 590 = .ok (.iadd, 1) := by decide +kernel
theorem dL_law_591 : decode cL_law 591 = .ok (.iaload, 1) := by decide +kernel
theorem dL_law_592 : decode cL_law 592 = .ok (.aload_n 0, 1) := by decide +kernel
theorem dL_law_593 : decode cL_law 593 = .ok (.iload 4, 2) := by decide +kernel
theorem dL_law_595 : decode cL_law 595 = .ok (.iconst 2, 1) := by decide +kernel
theorem dL_law_596 : decode cL_law 596 = .ok (.iadd, 1) := by decide +kernel
theorem dL_law_597 : decode cL_law 597 = .ok (.iaload, 1) := by decide +kernel
theorem dL_law_598 : decode cL_law 598 = .ok (.invokevirtual 78, 3) := by decide +kernel
theorem dL_law_601 : decode cL_law 601 = .ok (.aload_n 2, 1) := by decide +kernel
theorem dL_law_602 : decode cL_law 602 = .ok (.aload_n 0, 1) := by decide +kernel
theorem dL_law_603 : decode cL_law 603 = .ok (.iload 4, 2) := by decide +kernel
theorem dL_law_605 : decode cL_law 605 = .ok (.iconst 1, 1) := by decide +kernel
theorem dL_law_606 : decode cL_law 606 = .ok (.iadd, 1) := by decide +kernel
theorem dL_law_607 : decode cL_law 607 = .ok (.iaload, 1) := by decide +kernel
theorem dL_law_608 : decode cL_law 608 = .ok (.aload_n 0, 1) := by decide +kernel
theorem dL_law_609 : decode cL_law 609 = .ok (.iload 4, 2) := by decide +kernel
theorem dL_law_611 : decode cL_law 611 = .ok (.iconst 2, 1) := by decide +kernel
theorem dL_law_612 : decode cL_law 612 = .ok (.iadd, 1) := by decide +kernel
theorem dL_law_613 : decode cL_law 613 = .ok (.iaload, 1) := by decide +kernel
theorem dL_law_614 : decode cL_law 614 = .ok (.invokevirtual 82, 3) := by decide +kernel
theorem dL_law_617 : decode cL_law 617 = .ok (.lcmp, 1) := by decide +kernel
theorem dL_law_618 : decode cL_law 618 = .ok (.ifCond .eq 229, 3) := by decide +kernel
theorem dL_law_621 : decode cL_law 621 = .ok (.iconst 0, 1) := by decide +kernel
theorem dL_law_622 : decode cL_law 622 = .ok (.ireturn, 1) := by decide +kernel
theorem dL_law_623 : decode cL_law 623 = .ok (.aload_n 1, 1) := by decide +kernel
theorem dL_law_624 : decode cL_law 624 = .ok (.aload_n 0, 1) := by decide +kernel
theorem dL_law_625 : decode cL_law 625 = .ok (.iload 4, 2) := by decide +kernel
theorem dL_law_627 : decode cL_law 627 = .ok (.iconst 1, 1) := by decide +kernel
theorem dL_law_628 : decode cL_law 628 = .ok (.iadd, 1) := by decide +kernel
theorem dL_law_629 : decode cL_law 629 = .ok (.iaload, 1) := by decide +kernel
theorem dL_law_630 : decode cL_law 630 = .ok (.aload_n 0, 1) := by decide +kernel
theorem dL_law_631 : decode cL_law 631 = .ok (.iload 4, 2) := by decide +kernel
theorem dL_law_633 : decode cL_law 633 = .ok (.iconst 2, 1) := by decide +kernel
theorem dL_law_634 : decode cL_law 634 = .ok (.iadd, 1) := by decide +kernel
theorem dL_law_635 : decode cL_law 635 = .ok (.iaload, 1) := by decide +kernel
theorem dL_law_636 : decode cL_law 636 = .ok (.invokevirtual 83, 3) := by decide +kernel
theorem dL_law_639 : decode cL_law 639 = .ok (.aload_n 2, 1) := by decide +kernel
theorem dL_law_640 : decode cL_law 640 = .ok (.aload_n 0, 1) := by decide +kernel
theorem dL_law_641 : decode cL_law 641 = .ok (.iload 4, 2) := by decide +kernel
theorem dL_law_643 : decode cL_law 643 = .ok (.iconst 1, 1) := by decide +kernel
theorem dL_law_644 : decode cL_law 644 = .ok (.iadd, 1) := by decide +kernel
theorem dL_law_645 : decode cL_law 645 = .ok (.iaload, 1) := by decide +kernel
theorem dL_law_646 : decode cL_law 646 = .ok (.aload_n 0, 1) := by decide +kernel
theorem dL_law_647 : decode cL_law 647 = .ok (.iload 4, 2) := by decide +kernel
theorem dL_law_649 : decode cL_law 649 = .ok (.iconst 2, 1) := by decide +kernel
theorem dL_law_650 : decode cL_law 650 = .ok (.iadd, 1) := by decide +kernel
theorem dL_law_651 : decode cL_law 651 = .ok (.iaload, 1) := by decide +kernel
theorem dL_law_652 : decode cL_law 652 = .ok (.invokevirtual 87, 3) := by decide +kernel
theorem dL_law_655 : decode cL_law 655 = .ok (.if_icmp .eq 192, 3) := by decide +kernel
theorem dL_law_658 : decode cL_law 658 = .ok (.iconst 0, 1) := by decide +kernel
theorem dL_law_659 : decode cL_law 659 = .ok (.ireturn, 1) := by decide +kernel
theorem dL_law_660 : decode cL_law 660 = .ok (.aload_n 1, 1) := by decide +kernel
theorem dL_law_661 : decode cL_law 661 = .ok (.aload_n 0, 1) := by decide +kernel
theorem dL_law_662 : decode cL_law 662 = .ok (.iload 4, 2) := by decide +kernel
theorem dL_law_664 : decode cL_law 664 = .ok (.iconst 1, 1) := by decide +kernel
theorem dL_law_665 : decode cL_law 665 = .ok (.iadd, 1) := by decide +kernel
theorem dL_law_666 : decode cL_law 666 = .ok (.iaload, 1) := by decide +kernel
theorem dL_law_667 : decode cL_law 667 = .ok (.aload_n 0, 1) := by decide +kernel
theorem dL_law_668 : decode cL_law 668 = .ok (.iload 4, 2) := by decide +kernel
theorem dL_law_670 : decode cL_law 670 = .ok (.iconst 2, 1) := by decide +kernel
theorem dL_law_671 : decode cL_law 671 = .ok (.iadd, 1) := by decide +kernel
theorem dL_law_672 : decode cL_law 672 = .ok (.iaload, 1) := by decide +kernel
theorem dL_law_673 : decode cL_law 673 = .ok (.invokevirtual 88, 3) := by decide +kernel
theorem dL_law_676 : decode cL_law 676 = .ok (.aload_n 2, 1) := by decide +kernel
theorem dL_law_677 : decode cL_law 677 = .ok (.aload_n 0, 1) := by decide +kernel
theorem dL_law_678 : decode cL_law 678 = .ok (.iload 4, 2) := by decide +kernel
theorem dL_law_680 : decode cL_law 680 = .ok (.iconst 1, 1) := by decide +kernel
theorem dL_law_681 : decode cL_law 681 = .ok (.iadd, 1) := by decide +kernel
theorem dL_law_682 : decode cL_law 682 = .ok (.iaload, 1) := by decide +kernel
theorem dL_law_683 : decode cL_law 683 = .ok (.aload_n 0, 1) := by decide +kernel
theorem dL_law_684 : decode cL_law 684 = .ok (.iload 4, 2) := by decide +kernel
theorem dL_law_686 : decode cL_law 686 = .ok (.iconst 2, 1) := by decide +kernel
theorem dL_law_687 : decode cL_law 687 = .ok (.iadd, 1) := by decide +kernel
theorem dL_law_688 : decode cL_law 688 = .ok (.iaload, 1) := by decide +kernel
theorem dL_law_689 : decode cL_law 689 = .ok (.invokevirtual 91, 3) := by decide +kernel
theorem dL_law_692 : decode cL_law 692 = .ok (.if_icmp .eq 155, 3) := by decide +kernel
theorem dL_law_695 : decode cL_law 695 = .ok (.iconst 0, 1) := by decide +kernel
theorem dL_law_696 : decode cL_law 696 = .ok (.ireturn, 1) := by decide +kernel
theorem dL_law_697 : decode cL_law 697 = .ok (.aload_n 1, 1) := by decide +kernel
theorem dL_law_698 : decode cL_law 698 = .ok (.aload_n 0, 1) := by decide +kernel
theorem dL_law_699 : decode cL_law 699 = .ok (.iload 4, 2) := by decide +kernel
theorem dL_law_701 : decode cL_law 701 = .ok (.iconst 1, 1) := by decide +kernel
theorem dL_law_702 : decode cL_law 702 = .ok (.iadd, 1) := by decide +kernel
theorem dL_law_703 : decode cL_law 703 = .ok (.iaload, 1) := by decide +kernel
theorem dL_law_704 : decode cL_law 704 = .ok (.aload_n 0, 1) := by decide +kernel
theorem dL_law_705 : decode cL_law 705 = .ok (.iload 4, 2) := by decide +kernel
theorem dL_law_707 : decode cL_law 707 = .ok (.iconst 2, 1) := by decide +kernel
theorem dL_law_708 : decode cL_law 708 = .ok (.iadd, 1) := by decide +kernel
theorem dL_law_709 : decode cL_law 709 = .ok (.iaload, 1) := by decide +kernel
theorem dL_law_710 : decode cL_law 710 = .ok (.invokevirtual 92, 3) := by decide +kernel
theorem dL_law_713 : decode cL_law 713 = .ok (.aload_n 2, 1) := by decide +kernel
theorem dL_law_714 : decode cL_law 714 = .ok (.aload_n 0, 1) := by decide +kernel
theorem dL_law_715 : decode cL_law 715 = .ok (.iload 4, 2) := by decide +kernel
theorem dL_law_717 : decode cL_law 717 = .ok (.iconst 1, 1) := by decide +kernel
theorem dL_law_718 : decode cL_law 718 = .ok (.iadd, 1) := by decide +kernel
theorem dL_law_719 : decode cL_law 719 = .ok (.iaload, 1) := by decide +kernel
theorem dL_law_720 : decode cL_law 720 = .ok (.aload_n 0, 1) := by decide +kernel
theorem dL_law_721 : decode cL_law 721 = .ok (.iload 4, 2) := by decide +kernel
theorem dL_law_723 : decode cL_law 723 = .ok (.iconst 2, 1) := by decide +kernel
theorem dL_law_724 : decode cL_law 724 = .ok (.iadd, 1) := by decide +kernel
theorem dL_law_725 : decode cL_law 725 = .ok (.iaload, 1) := by decide +kernel
theorem dL_law_726 : decode cL_law 726 = .ok (.invokevirtual 95, 3) := by decide +kernel
theorem dL_law_729 : decode cL_law 729 = .ok (.if_icmp .eq 118, 3) := by decide +kernel
theorem dL_law_732 : decode cL_law 732 = .ok (.iconst 0, 1) := by decide +kernel
theorem dL_law_733 : decode cL_law 733 = .ok (.ireturn, 1) := by decide +kernel
theorem dL_law_734 : decode cL_law 734 = .ok (.aload_n 1, 1) := by decide +kernel
theorem dL_law_735 : decode cL_law 735 = .ok (.aload_n 0, 1) := by decide +kernel
theorem dL_law_736 : decode cL_law 736 = .ok (.iload 4, 2) := by decide +kernel
theorem dL_law_738 : decode cL_law 738 = .ok (.iconst 1, 1) := by decide +kernel
theorem dL_law_739 : decode cL_law 739 = .ok (.iadd, 1) := by decide +kernel
theorem dL_law_740 : decode cL_law 740 = .ok (.iaload, 1) := by decide +kernel
theorem dL_law_741 : decode cL_law 741 = .ok (.invokevirtual 96, 3) := by decide +kernel
theorem dL_law_744 : decode cL_law 744 = .ok (.aload_n 2, 1) := by decide +kernel
theorem dL_law_745 : decode cL_law 745 = .ok (.aload_n 0, 1) := by decide +kernel
theorem dL_law_746 : decode cL_law 746 = .ok (.iload 4, 2) := by decide +kernel
theorem dL_law_748 : decode cL_law 748 = .ok (.iconst 1, 1) := by decide +kernel
theorem dL_law_749 : decode cL_law 749 = .ok (.iadd, 1) := by decide +kernel
theorem dL_law_750 : decode cL_law 750 = .ok (.iaload, 1) := by decide +kernel
theorem dL_law_751 : decode cL_law 751 = .ok (.invokevirtual 99, 3) := by decide +kernel
theorem dL_law_754 : decode cL_law 754 = .ok (.if_icmp .eq 93, 3) := by decide +kernel
theorem dL_law_757 : decode cL_law 757 = .ok (.iconst 0, 1) := by decide +kernel
theorem dL_law_758 : decode cL_law 758 = .ok (.ireturn, 1) := by decide +kernel
theorem dL_law_759 : decode cL_law 759 = .ok (.aload_n 1, 1) := by decide +kernel
theorem dL_law_760 : decode cL_law 760 = .ok (.aload_n 0, 1) := by decide +kernel
theorem dL_law_761 : decode cL_law 761 = .ok (.iload 4, 2) := by decide +kernel
theorem dL_law_763 : decode cL_law 763 = .ok (.iconst 1, 1) := by decide +kernel
theorem dL_law_764 : decode cL_law 764 = .ok (.iadd, 1) := by decide +kernel
theorem dL_law_765 : decode cL_law 765 = .ok (.iaload, 1) := by decide +kernel
theorem dL_law_766 : decode cL_law 766 = .ok (.invokevirtual 100, 3) := by decide +kernel
theorem dL_law_769 : decode cL_law 769 = .ok (.aload_n 2, 1) := by decide +kernel
theorem dL_law_770 : decode cL_law 770 = .ok (.aload_n 0, 1) := by decide +kernel
theorem dL_law_771 : decode cL_law 771 = .ok (.iload 4, 2) := by decide +kernel
theorem dL_law_773 : decode cL_law 773 = .ok (.iconst 1, 1) := by decide +kernel
theorem dL_law_774 : decode cL_law 774 = .ok (.iadd, 1) := by decide +kernel
theorem dL_law_775 : decode cL_law 775 = .ok (.iaload, 1) := by decide +kernel
theorem dL_law_776 : decode cL_law 776 = .ok (.invokevirtual 103, 3) := by decide +kernel
theorem dL_law_779 : decode cL_law 779 = .ok (.if_icmp .eq 68, 3) := by decide +kernel
theorem dL_law_782 : decode cL_law 782 = .ok (.iconst 0, 1) := by decide +kernel
theorem dL_law_783 : decode cL_law 783 = .ok (.ireturn, 1) := by decide +kernel
theorem dL_law_784 : decode cL_law 784 = .ok (.aload_n 1, 1) := by decide +kernel
theorem dL_law_785 : decode cL_law 785 = .ok (.aload_n 0, 1) := by decide +kernel
theorem dL_law_786 : decode cL_law 786 = .ok (.iload 4, 2) := by decide +kernel
theorem dL_law_788 : decode cL_law 788 = .ok (.iconst 1, 1) := by decide +kernel
theorem dL_law_789 : decode cL_law 789 = .ok (.iadd, 1) := by decide +kernel
theorem dL_law_790 : decode cL_law 790 = .ok (.iaload, 1) := by decide +kernel
theorem dL_law_791 : decode cL_law 791 = .ok (.invokevirtual 104, 3) := by decide +kernel
theorem dL_law_794 : decode cL_law 794 = .ok (.aload_n 2, 1) := by decide +kernel
theorem dL_law_795 : decode cL_law 795 = .ok (.aload_n 0, 1) := by decide +kernel
theorem dL_law_796 : decode cL_law 796 = .ok (.iload 4, 2) := by decide +kernel
theorem dL_law_798 : decode cL_law 798 = .ok (.iconst 1, 1) := by decide +kernel
theorem dL_law_799 : decode cL_law 799 = .ok (.iadd, 1) := by decide +kernel
theorem dL_law_800 : decode cL_law 800 = .ok (.iaload, 1) := by decide +kernel
theorem dL_law_801 : decode cL_law 801 = .ok (.invokevirtual 107, 3) := by decide +kernel
theorem dL_law_804 : decode cL_law 804 = .ok (.if_icmp .eq 43, 3) := by decide +kernel
theorem dL_law_807 : decode cL_law 807 = .ok (.iconst 0, 1) := by decide +kernel
theorem dL_law_808 : decode cL_law 808 = .ok (.ireturn, 1) := by decide +kernel
theorem dL_law_809 : decode cL_law 809 = .ok (.aload_n 1, 1) := by decide +kernel
theorem dL_law_810 : decode cL_law 810 = .ok (.aload_n 0, 1) := by decide +kernel
theorem dL_law_811 : decode cL_law 811 = .ok (.iload 4, 2) := by decide +kernel
theorem dL_law_813 : decode cL_law 813 = .ok (.iconst 1, 1) := by decide +kernel
theorem dL_law_814 : decode cL_law 814 = .ok (.iadd, 1) := by decide +kernel
theorem dL_law_815 : decode cL_law 815 = .ok (.iaload, 1) := by decide +kernel
theorem dL_law_816 : decode cL_law 816 = .ok (.invokevirtual 108, 3) := by decide +kernel
theorem dL_law_819 : decode cL_law 819 = .ok (.aload_n 2, 1) := by decide +kernel
theorem dL_law_820 : decode cL_law 820 = .ok (.aload_n 0, 1) := by decide +kernel
theorem dL_law_821 : decode cL_law 821 = .ok (.iload 4, 2) := by decide +kernel
theorem dL_law_823 : decode cL_law 823 = .ok (.iconst 1, 1) := by decide +kernel
theorem dL_law_824 : decode cL_law 824 = .ok (.iadd, 1) := by decide +kernel
theorem dL_law_825 : decode cL_law 825 = .ok (.iaload, 1) := by decide +kernel
theorem dL_law_826 : decode cL_law 826 = .ok (.invokevirtual 112, 3) := by decide +kernel
theorem dL_law_829 : decode cL_law 829 = .ok (.if_icmp .eq 18, 3) := by decide +kernel
theorem dL_law_832 : decode cL_law 832 = .ok (.iconst 0, 1) := by decide +kernel
theorem dL_law_833 : decode cL_law 833 = .ok (.ireturn, 1) := by decide +kernel
theorem dL_law_834 : decode cL_law 834 = .ok (.aload_n 1, 1) := by decide +kernel
theorem dL_law_835 : decode cL_law 835 = .ok (.invokevirtual 113, 3) := by decide +kernel
theorem dL_law_838 : decode cL_law 838 = .ok (.aload_n 2, 1) := by decide +kernel
theorem dL_law_839 : decode cL_law 839 = .ok (.invokevirtual 116, 3) := by decide +kernel
theorem dL_law_842 : decode cL_law 842 = .ok (.if_icmp .eq 5, 3) := by decide +kernel
theorem dL_law_845 : decode cL_law 845 = .ok (.iconst 0, 1) := by decide +kernel
theorem dL_law_846 : decode cL_law 846 = .ok (.ireturn, 1) := by decide +kernel
theorem dL_law_847 : decode cL_law 847 = .ok (.iinc 4 5, 3) := by decide +kernel
theorem dL_law_850 : decode cL_law 850 = .ok (.goto (-817), 3) := by decide +kernel
theorem dL_law_853 : decode cL_law 853 = .ok (.iconst 1, 1) := by decide +kernel
theorem dL_law_854 : decode cL_law 854 = .ok (.ireturn, 1) := by decide +kernel
