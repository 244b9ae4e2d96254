theorem dX7_init_0 : decode cX7_init 0 = .ok (.aload_n 0, 1) := by decide +kernel
theorem dX7_init_1 : decode cX7_init 1 = .ok (.invokespecial 1, 3) := by decide +kernel
theorem dX7_init_4 : decode cX7_init 4 = .ok (.aload_n 0, 1) := by decide +kernel
theorem dX7_init_5 : decode cX7_init 5 = .ok (.sipush 1500, 3) := by decide +kernel
theorem dX7_init_8 : decode cX7_init 8 = .ok (.newarray .byte, 2) := by decide +kernel
theorem dX7_init_10 : decode cX7_init 10 = .ok (.putfield 7, 3) := by decide +kernel
theorem dX7_init_13 : decode cX7_init 13 = .ok (.aload_n 0, 1) := by decide +kernel
theorem dX7_init_14 : decode cX7_init 14 = .ok (.bipush 24, 2) := by decide +kernel
theorem dX7_init_16 : decode cX7_init 16 = .ok (.newarray .int, 2) := by decide +kernel
theorem dX7_init_18 : decode cX7_init 18 = .ok (.putfield 13, 3) := by decide +kernel
theorem dX7_init_21 : decode cX7_init 21 = .ok (.aload_n 0, 1) := by decide +kernel
theorem dX7_init_22 : decode cX7_init 22 = .ok (.bipush 24, 2) := by decide +kernel
theorem dX7_init_24 : decode cX7_init 24 = .ok (.newarray .int, 2) := by decide +kernel
theorem dX7_init_26 : decode cX7_init 26 = .ok (.putfield 17, 3) := by decide +kernel
theorem dX7_init_29 : decode cX7_init 29 = .ok (.aload_n 0, 1) := by decide +kernel
theorem dX7_init_30 : decode cX7_init 30 = .ok (.bipush 24, 2) := by decide +kernel
theorem dX7_init_32 : decode cX7_init 32 = .ok (.newarray .int, 2) := by decide +kernel
theorem dX7_init_34 : decode cX7_init 34 = .ok (.putfield 20, 3) := by decide +kernel
theorem dX7_init_37 : decode cX7_init 37 = .ok (.aload_n 0, 1) := by decide +kernel
theorem dX7_init_38 : decode cX7_init 38 = .ok (.sipush 1440, 3) := by decide +kernel
theorem dX7_init_41 : decode cX7_init 41 = .ok (.newarray .int, 2) := by decide +kernel
theorem dX7_init_43 : decode cX7_init 43 = .ok (.putfield 23, 3) := by decide +kernel
theorem dX7_init_46 : decode cX7_init 46 = .ok (.aload_n 0, 1) := by decide +kernel
theorem dX7_init_47 : decode cX7_init 47 = .ok (.sipush 1440, 3) := by decide +kernel
theorem dX7_init_50 : decode cX7_init 50 = .ok (.newarray .int, 2) := by decide +kernel
theorem dX7_init_52 : decode cX7_init 52 = .ok (.putfield 26, 3) := by decide +kernel
theorem dX7_init_55 : decode cX7_init 55 = .ok (.aload_n 0, 1) := by decide +kernel
theorem dX7_init_56 : decode cX7_init 56 = .ok (.sipush 1440, 3) := by decide +kernel
theorem dX7_init_59 : decode cX7_init 59 = .ok (.newarray .int, 2) := by decide +kernel
theorem dX7_init_61 : decode cX7_init 61 = .ok (.putfield 29, 3) := by decide +kernel
theorem dX7_init_64 : decode cX7_init 64 = .ok (.aload_n 0, 1) := by decide +kernel
theorem dX7_init_65 : decode cX7_init 65 = .ok (.sipush 1440, 3) := by decide +kernel
theorem dX7_init_68 : decode cX7_init 68 = .ok (.newarray .int, 2) := by decide +kernel
theorem dX7_init_70 : decode cX7_init 70 = .ok (.putfield 32, 3) := by decide +kernel
theorem dX7_init_73 : decode cX7_init 73 = .ok (.aload_n 0, 1) := by decide +kernel
theorem dX7_init_74 : decode cX7_init 74 = .ok (.sipush 1440, 3) := by decide +kernel
theorem dX7_init_77 : decode cX7_init 77 = .ok (.newarray .int, 2) := by decide +kernel
theorem dX7_init_79 : decode cX7_init 79 = .ok (.putfield 35, 3) := by decide +kernel
theorem dX7_init_82 : decode cX7_init 82 = .ok (.aload_n 0, 1) := by decide +kernel
theorem dX7_init_83 : decode cX7_init 83 = .ok (.sipush 1440, 3) := by decide +kernel
theorem dX7_init_86 : decode cX7_init 86 = .ok (.newarray .int, 2) := by decide +kernel
theorem dX7_init_88 : decode cX7_init 88 = .ok (.putfield 38, 3) := by decide +kernel
theorem dX7_init_91 : decode cX7_init 91 = .ok (.aload_n 0, 1) := by decide +kernel
theorem dX7_init_92 : decode cX7_init 92 = .ok (.sipush 1440, 3) := by decide +kernel
theorem dX7_init_95 : decode cX7_init 95 = .ok (.newarray .int, 2) := by decide +kernel
theorem dX7_init_97 : decode cX7_init 97 = .ok (.putfield 41, 3) := by decide +kernel
theorem dX7_init_100 : decode cX7_init 100 = .ok (.aload_n 0, 1) := by decide +kernel
theorem dX7_init_101 : decode cX7_init 101 = .ok (.sipush 1440, 3) := by decide +kernel
theorem dX7_init_104 : decode cX7_init 104 = .ok (.newarray .int, 2) := by decide +kernel
theorem dX7_init_106 : decode cX7_init 106 = .ok (.putfield 44, 3) := by decide +kernel
theorem dX7_init_109 : decode cX7_init 109 = .ok (.aload_n 0, 1) := by decide +kernel
theorem dX7_init_110 : decode cX7_init 110 = .ok (.sipush 1440, 3) := by decide +kernel
theorem dX7_init_113 : decode cX7_init 113 = .ok (.newarray .int, 2) := by decide +kernel
theorem dX7_init_115 : decode cX7_init 115 = .ok (.putfield 47, 3) := by decide +kernel
theorem dX7_init_118 : decode cX7_init 118 = .ok (.aload_n 0, 1) := by decide +kernel
theorem dX7_init_119 : decode cX7_init 119 = .ok (.sipush 1440, 3) := by decide +kernel
theorem dX7_init_122 : decode cX7_init 122 = .ok (.newarray .int, 2) := by decide +kernel
theorem dX7_init_124 : decode cX7_init 124 = .ok (.putfield 50, 3) := by decide +kernel
theorem dX7_init_127 : decode cX7_init 127 = .ok (.aload_n 0, 1) := by decide +kernel
theorem dX7_init_128 : decode cX7_init 128 = .ok (.bipush 24, 2) := by decide +kernel
theorem dX7_init_130 : decode cX7_init 130 = .ok (.newarray .long, 2) := by decide +kernel
theorem dX7_init_132 : decode cX7_init 132 = .ok (.putfield 53, 3) := by decide +kernel
theorem dX7_init_135 : decode cX7_init 135 = .ok (.aload_n 0, 1) := by decide +kernel
theorem dX7_init_136 : decode cX7_init 136 = .ok (.bipush 6, 2) := by decide +kernel
theorem dX7_init_138 : decode cX7_init 138 = .ok (.newarray .long, 2) := by decide +kernel
theorem dX7_init_140 : decode cX7_init 140 = .ok (.putfield 57, 3) := by decide +kernel
theorem dX7_init_143 : decode cX7_init 143 = .ok (.aload_n 0, 1) := by decide +kernel
theorem dX7_init_144 : decode cX7_init 144 = .ok (.bipush 61, 2) := by decide +kernel
theorem dX7_init_146 : decode cX7_init 146 = .ok (.newarray .long, 2) := by decide +kernel
theorem dX7_init_148 : decode cX7_init 148 = .ok (.putfield 60, 3) := by decide +kernel
theorem dX7_init_151 : decode cX7_init 151 = .ok (.aload_n 0, 1) := by decide +kernel
theorem dX7_init_152 : decode cX7_init 152 = .ok (.bipush 61, 2) := by decide +kernel
theorem dX7_init_154 : decode cX7_init 154 = .ok (.newarray .int, 2) := by decide +kernel
theorem dX7_init_156 : decode cX7_init 156 = .ok (.putfield 63, 3) := by decide +kernel
theorem dX7_init_159 : decode cX7_init 159 = .ok (.aload_n 0, 1) := by decide +kernel
theorem dX7_init_160 : decode cX7_init 160 = .ok (.sipush 1440, 3) := by decide +kernel
theorem dX7_init_163 : decode cX7_init 163 = .ok (.newarray .long, 2) := by decide +kernel
theorem dX7_init_165 : decode cX7_init 165 = .ok (.putfield 66, 3) := by decide +kernel
theorem dX7_init_168 : decode cX7_init 168 = .ok (.aload_n 0, 1) := by decide +kernel
theorem dX7_init_169 : decode cX7_init 169 = .ok (.sipush 12000, 3) := by decide +kernel
theorem dX7_init_172 : decode cX7_init 172 = .ok (.newarray .int, 2) := by decide +kernel
theorem dX7_init_174 : decode cX7_init 174 = .ok (.putfield 69, 3) := by decide +kernel
theorem dX7_init_177 : decode cX7_init 177 = .ok (.aload_n 0, 1) := by decide +kernel
theorem dX7_init_178 : decode cX7_init 178 = .ok (.sipush 12000, 3) := by decide +kernel
theorem dX7_init_181 : decode cX7_init 181 = .ok (.newarray .int, 2) := by decide +kernel
theorem dX7_init_183 : decode cX7_init 183 = .ok (.putfield 72, 3) := by decide +kernel
theorem dX7_init_186 : decode cX7_init 186 = .ok (.aload_n 0, 1) := by decide +kernel
theorem dX7_init_187 : decode cX7_init 187 = .ok (.sipush 2000, 3) := by decide +kernel
theorem dX7_init_190 : decode cX7_init 190 = .ok (.newarray .int, 2) := by decide +kernel
theorem dX7_init_192 : decode cX7_init 192 = .ok (.putfield 75, 3) := by decide +kernel
theorem dX7_init_195 : decode cX7_init 195 = .ok (.aload_n 0, 1) := by decide +kernel
theorem dX7_init_196 : decode cX7_init 196 = .ok (.sipush 300, 3) := by decide +kernel
theorem dX7_init_199 : decode cX7_init 199 = .ok (.newarray .int, 2) := by decide +kernel
theorem dX7_init_201 : decode cX7_init 201 = .ok (.putfield 78, 3) := by decide +kernel
theorem dX7_init_204 : decode cX7_init 204 = .ok (.aload_n 0, 1) := by decide +kernel
theorem dX7_init_205 : decode cX7_init 205 = .ok (.sipush 1800, 3) := by decide +kernel
theorem dX7_init_208 : decode cX7_init 208 = .ok (.newarray .int, 2) := by decide +kernel
theorem dX7_init_210 : decode cX7_init 210 = .ok (.putfield 81, 3) := by decide +kernel
theorem dX7_init_213 : decode cX7_init 213 = .ok (.aload_n 0, 1) := by decide +kernel
theorem dX7_init_214 : decode cX7_init 214 = .ok (.sipush 1800, 3) := by decide +kernel
theorem dX7_init_217 : decode cX7_init 217 = .ok (.newarray .int, 2) := by decide +kernel
theorem dX7_init_219 : decode cX7_init 219 = .ok (.putfield 84, 3) := by decide +kernel
theorem dX7_init_222 : decode cX7_init 222 = .ok (.aload_n 0, 1) := by decide +kernel
theorem dX7_init_223 : decode cX7_init 223 = .ok (.sipush 1800, 3) := by decide +kernel
theorem dX7_init_226 : decode cX7_init 226 = .ok (.newarray .int, 2) := by decide +kernel
theorem dX7_init_228 : decode cX7_init 228 = .ok (.putfield 87, 3) := by decide +kernel
theorem dX7_init_231 : decode cX7_init 231 = .ok (.aload_n 0, 1) := by decide +kernel
theorem dX7_init_232 : decode cX7_init 232 = .ok (.sipush 18000, 3) := by decide +kernel
theorem dX7_init_235 : decode cX7_init 235 = .ok (.newarray .boolean, 2) := by decide +kernel
theorem dX7_init_237 : decode cX7_init 237 = .ok (.putfield 90, 3) := by decide +kernel
theorem dX7_init_240 : decode cX7_init 240 = .ok (.aload_n 0, 1) := by decide +kernel
theorem dX7_init_241 : decode cX7_init 241 = .ok (.sipush 18000, 3) := by decide +kernel
theorem dX7_init_244 : decode cX7_init 244 = .ok (.newarray .boolean, 2) := by decide +kernel
theorem dX7_init_246 : decode cX7_init 246 = .ok (.putfield 94, 3) := by decide +kernel
theorem dX7_init_249 : decode cX7_init 249 = .ok (.aload_n 0, 1) := by decide +kernel
theorem dX7_init_250 : decode cX7_init 250 = .ok (.sipush 18000, 3) := by decide +kernel
theorem dX7_init_253 : decode cX7_init 253 = .ok (.newarray .int, 2) := by decide +kernel
theorem dX7_init_255 : decode cX7_init 255 = .ok (.putfield 97, 3) := by decide +kernel
theorem dX7_init_258 : decode cX7_init 258 = .ok (.aload_n 0, 1) := by decide +kernel
theorem dX7_init_259 : decode cX7_init 259 = .ok (.sipush 18000, 3) := by decide +kernel
theorem dX7_init_262 : decode cX7_init 262 = .ok (.newarray .int, 2) := by decide +kernel
theorem dX7_init_264 : decode cX7_init 264 = .ok (.putfield 100, 3) := by decide +kernel
theorem dX7_init_267 : decode cX7_init 267 = .ok (.aload_n 0, 1) := by decide +kernel
theorem dX7_init_268 : decode cX7_init 268 = .ok (.sipush 18000, 3) := by decide +kernel
theorem dX7_init_271 : decode cX7_init 271 = .ok (.newarray .int, 2) := by decide +kernel
theorem dX7_init_273 : decode cX7_init 273 = .ok (.putfield 103, 3) := by decide +kernel
theorem dX7_init_276 : decode cX7_init 276 = .ok (.aload_n 0, 1) := by decide +kernel
theorem dX7_init_277 : decode cX7_init 277 = .ok (.sipush 18000, 3) := by decide +kernel
theorem dX7_init_280 : decode cX7_init 280 = .ok (.newarray .int, 2) := by decide +kernel
theorem dX7_init_282 : decode cX7_init 282 = .ok (.putfield 106, 3) := by decide +kernel
theorem dX7_init_285 : decode cX7_init 285 = .ok (.aload_n 0, 1) := by decide +kernel
theorem dX7_init_286 : decode cX7_init 286 = .ok (.iconst (-1), 1) := by decide +kernel
theorem dX7_init_287 : decode cX7_init 287 = .ok (.putfield 109, 3) := by decide +kernel
theorem dX7_init_290 : decode cX7_init 290 = .ok (.aload_n 0, 1) := by decide +kernel
theorem dX7_init_291 : decode cX7_init 291 = .ok (.iconst 4, 1) := by decide +kernel
theorem dX7_init_292 : decode cX7_init 292 = .ok (.newarray .int, 2) := by decide +kernel
theorem dX7_init_294 : decode cX7_init 294 = .ok (.putfield 113, 3) := by decide +kernel
theorem dX7_init_297 : decode cX7_init 297 = .ok (.return_, 1) := by decide +kernel
theorem dX7_thrown_0 : decode cX7_thrown 0 = .ok (.aload_n 0, 1) := by decide +kernel
theorem dX7_thrown_1 : decode cX7_thrown 1 = .ok (.getfield 116, 3) := by decide +kernel
theorem dX7_thrown_4 : decode cX7_thrown 4 = .ok (.ireturn, 1) := by decide +kernel
theorem dX7_feed_0 : decode cX7_feed 0 = .ok (.aload_n 0, 1) := by decide +kernel
theorem dX7_feed_1 : decode cX7_feed 1 = .ok (.iload 5, 2) := by decide +kernel
theorem dX7_feed_3 : decode cX7_feed 3 = .ok (.iconst 1, 1) := by decide +kernel
theorem dX7_feed_4 : decode cX7_feed 4 = .ok (.if_icmp .lt 10, 3) := by decide +kernel
theorem dX7_feed_7 : decode cX7_feed 7 = .ok (.iload 5, 2) := by decide +kernel
theorem dX7_feed_9 : decode cX7_feed 9 = .ok (.bipush 16, 2) := by decide +kernel
theorem dX7_feed_11 : decode cX7_feed 11 = .ok (.if_icmp .le 7, 3) := by decide +kernel
theorem dX7_feed_14 : decode cX7_feed 14 = .ok (.iconst 1, 1) := by decide +kernel
theorem dX7_feed_15 : decode cX7_feed 15 = .ok (.goto 21, 3) := by decide +kernel
theorem dX7_feed_18 : decode cX7_feed 18 = .ok (.aload_n 0, 1) := by decide +kernel
theorem dX7_feed_19 : decode cX7_feed 19 = .ok (.getfield 119, 3) := by decide +kernel
theorem dX7_feed_22 : decode cX7_feed 22 = .ok (.iload 5, 2) := by decide +kernel
theorem dX7_feed_24 : decode cX7_feed 24 = .ok (.iadd, 1) := by decide +kernel
theorem dX7_feed_25 : decode cX7_feed 25 = .ok (.sipush 1500, 3) := by decide +kernel
theorem dX7_feed_28 : decode cX7_feed 28 = .ok (.if_icmp .le 7, 3) := by decide +kernel
theorem dX7_feed_31 : decode cX7_feed 31 = .ok (.iconst 2, 1) := by decide +kernel
theorem dX7_feed_32 : decode cX7_feed 32 = .ok (.goto 4, 3) := by decide +kernel
theorem dX7_feed_35 : decode cX7_feed 35 = .ok (.iconst 0, 1) := by decide +kernel
theorem dX7_feed_36 : decode cX7_feed 36 = .ok (.putfield 116, 3) := by decide +kernel
theorem dX7_feed_39 : decode cX7_feed 39 = .ok (.iconst 0, 1) := by decide +kernel
theorem dX7_feed_40 : decode cX7_feed 40 = .ok (.istore 6, 2) := by decide +kernel
theorem dX7_feed_42 : decode cX7_feed 42 = .ok (.iload 6, 2) := by decide +kernel
theorem dX7_feed_44 : decode cX7_feed 44 = .ok (.iload 5, 2) := by decide +kernel
theorem dX7_feed_46 : decode cX7_feed 46 = .ok (.if_icmp .ge 85, 3) := by decide +kernel
theorem dX7_feed_49 : decode cX7_feed 49 = .ok (.aload_n 0, 1) := by decide +kernel
theorem dX7_feed_50 : decode cX7_feed 50 = .ok (.getfield 116, 3) := by decide +kernel
theorem dX7_feed_53 : decode cX7_feed 53 = .ok (.ifCond .ne 78, 3) := by decide +kernel
theorem dX7_feed_56 : decode cX7_feed 56 = .ok (.iload 6, 2) := by decide +kernel
theorem dX7_feed_58 : decode cX7_feed 58 = .ok (.iconst 4, 1) := by decide +kernel
theorem dX7_feed_59 : decode cX7_feed 59 = .ok (.if_icmp .ge 7, 3) := by decide +kernel
theorem dX7_feed_62 : decode cX7_feed 62 = .ok (.iload_n 1, 1) := by decide +kernel
theorem dX7_feed_63 : decode cX7_feed 63 = .ok (.goto 27, 3) := by decide +kernel
theorem dX7_feed_66 : decode cX7_feed 66 = .ok (.iload 6, 2) := by decide +kernel
theorem dX7_feed_68 : decode cX7_feed 68 = .ok (.bipush 8, 2) := by decide +kernel
theorem dX7_feed_70 : decode cX7_feed 70 = .ok (.if_icmp .ge 7, 3) := by decide +kernel
theorem dX7_feed_73 : decode cX7_feed 73 = .ok (.iload_n 2, 1) := by decide +kernel
theorem dX7_feed_74 : decode cX7_feed 74 = .ok (.goto 16, 3) := by decide +kernel
theorem dX7_feed_77 : decode cX7_feed 77 = .ok (.iload 6, 2) := by decide +kernel
theorem dX7_feed_79 : decode cX7_feed 79 = .ok (.bipush 12, 2) := by decide +kernel
theorem dX7_feed_81 : decode cX7_feed 81 = .ok (.if_icmp .ge 7, 3) := by decide +kernel
theorem dX7_feed_84 : decode cX7_feed 84 = .ok (.iload_n 3, 1) := by decide +kernel
theorem dX7_feed_85 : decode cX7_feed 85 = .ok (.goto 5, 3) := by decide +kernel
theorem dX7_feed_88 : decode cX7_feed 88 = .ok (.iload 4, 2) := by decide +kernel
theorem dX7_feed_90 : decode cX7_feed 90 = .ok (.istore 7, 2) := by decide +kernel
theorem dX7_feed_92 : decode cX7_feed 92 = .ok (.aload_n 0, 1) := by decide +kernel
theorem dX7_feed_93 : decode cX7_feed 93 = .ok (.getfield 7, 3) := by decide +kernel
theorem dX7_feed_96 : decode cX7_feed 96 = .ok (.aload_n 0, 1) := by decide +kernel
theorem dX7_feed_97 : decode cX7_feed 97 = .ok (.getfield 119, 3) := by decide +kernel
theorem dX7_feed_100 : decode cX7_feed 100 = .ok (.iload 7, 2) := by decide +kernel
theorem dX7_feed_102 : decode cX7_feed 102 = .ok (.bipush 24, 2) := by decide +kernel
theorem dX7_feed_104 : decode cX7_feed 104 = .ok (.bipush 8, 2) := by decide +kernel
theorem dX7_feed_106 : decode cX7_feed 106 = .ok (.iload 6, 2) := by decide +kernel
theorem dX7_feed_108 : decode cX7_feed 108 = .ok (.iconst 4, 1) := by decide +kernel
theorem dX7_feed_109 : decode cX7_feed 109 = .ok (.irem, 1) := by decide +kernel
theorem dX7_feed_110 : decode cX7_feed 110 = .ok (.imul, 1) := by decide +kernel
theorem dX7_feed_111 : decode cX7_feed 111 = .ok (.isub, 1) := by decide +kernel
theorem dX7_feed_112 : decode cX7_feed 112 = .ok (.ishr, 1) := by decide +kernel
theorem dX7_feed_113 : decode cX7_feed 113 = .ok (.i2b, 1) := by decide +kernel
theorem dX7_feed_114 : decode cX7_feed 114 = .ok (.bastore, 1) := by decide +kernel
theorem dX7_feed_115 : decode cX7_feed 115 = .ok (.aload_n 0, 1) := by decide +kernel
theorem dX7_feed_116 : decode cX7_feed 116 = .ok (.dup, 1) := by decide +kernel
theorem dX7_feed_117 : decode cX7_feed 117 = .ok (.getfield 119, 3) := by decide +kernel
theorem dX7_feed_120 : decode cX7_feed 120 = .ok (.iconst 1, 1) := by decide +kernel
theorem dX7_feed_121 : decode cX7_feed 121 = .ok (.iadd, 1) := by decide +kernel
theorem dX7_feed_122 : decode cX7_feed 122 = .ok (.putfield 119, 3) := by decide +kernel
theorem dX7_feed_125 : decode cX7_feed 125 = .ok (.iinc 6 1, 3) := by decide +kernel
theorem dX7_feed_128 : decode cX7_feed 128 = .ok (.goto (-86), 3) := by decide +kernel
theorem dX7_feed_131 : decode cX7_feed 131 = .ok (.aload_n 0, 1) := by decide +kernel
theorem dX7_feed_132 : decode cX7_feed 132 = .ok (.getfield 116, 3) := by decide +kernel
theorem dX7_feed_135 : decode cX7_feed 135 = .ok (.ifCond .le 7, 3) := by decide +kernel
theorem dX7_feed_138 : decode cX7_feed 138 = .ok (.iconst 0, 1) := by decide +kernel
theorem dX7_feed_139 : decode cX7_feed 139 = .ok (.goto 7, 3) := by decide +kernel
theorem dX7_feed_142 : decode cX7_feed 142 = .ok (.aload_n 0, 1) := by decide +kernel
theorem dX7_feed_143 : decode cX7_feed 143 = .ok (.getfield 119, 3) := by decide +kernel
theorem dX7_feed_146 : decode cX7_feed 146 = .ok (.ireturn, 1) := by decide +kernel
theorem dX7_isBlank_0 : decode cX7_isBlank 0 = .ok (.iload_n 0, 1) := by decide +kernel
theorem dX7_isBlank_1 : decode cX7_isBlank 1 = .ok (.bipush 9, 2) := by decide +kernel
theorem dX7_isBlank_3 : decode cX7_isBlank 3 = .ok (.if_icmp .eq 21, 3) := by decide +kernel
theorem dX7_isBlank_6 : decode cX7_isBlank 6 = .ok (.iload_n 0, 1) := by decide +kernel
theorem dX7_isBlank_7 : decode cX7_isBlank 7 = .ok (.bipush 10, 2) := by decide +kernel
theorem dX7_isBlank_9 : decode cX7_isBlank 9 = .ok (.if_icmp .eq 15, 3) := by decide +kernel
theorem dX7_isBlank_12 : decode cX7_isBlank 12 = .ok (.iload_n 0, 1) := by decide +kernel
theorem dX7_isBlank_13 : decode cX7_isBlank 13 = .ok (.bipush 13, 2) := by decide +kernel
theorem dX7_isBlank_15 : decode cX7_isBlank 15 = .ok (.if_icmp .eq 9, 3) := by decide +kernel
theorem dX7_isBlank_18 : decode cX7_isBlank 18 = .ok (.iload_n 0, 1) := by decide +kernel
theorem dX7_isBlank_19 : decode cX7_isBlank 19 = .ok (.bipush 32, 2) := by decide +kernel
theorem dX7_isBlank_21 : decode cX7_isBlank 21 = .ok (.if_icmp .ne 7, 3) := by decide +kernel
theorem dX7_isBlank_24 : decode cX7_isBlank 24 = .ok (.iconst 1, 1) := by decide +kernel
theorem dX7_isBlank_25 : decode cX7_isBlank 25 = .ok (.goto 4, 3) := by decide +kernel
theorem dX7_isBlank_28 : decode cX7_isBlank 28 = .ok (.iconst 0, 1) := by decide +kernel
theorem dX7_isBlank_29 : decode cX7_isBlank 29 = .ok (.ireturn, 1) := by decide +kernel
theorem dX7_isLetter_0 : decode cX7_isLetter 0 = .ok (.iload_n 0, 1) := by decide +kernel
theorem dX7_isLetter_1 : decode cX7_isLetter 1 = .ok (.bipush 97, 2) := by decide +kernel
theorem dX7_isLetter_3 : decode cX7_isLetter 3 = .ok (.if_icmp .lt 13, 3) := by decide +kernel
theorem dX7_isLetter_6 : decode cX7_isLetter 6 = .ok (.iload_n 0, 1) := by decide +kernel
theorem dX7_isLetter_7 : decode cX7_isLetter 7 = .ok (.bipush 122, 2) := by decide +kernel
theorem dX7_isLetter_9 : decode cX7_isLetter 9 = .ok (.if_icmp .gt 7, 3) := by decide +kernel
theorem dX7_isLetter_12 : decode cX7_isLetter 12 = .ok (.iconst 1, 1) := by decide +kernel
theorem dX7_isLetter_13 : decode cX7_isLetter 13 = .ok (.goto 4, 3) := by decide +kernel
theorem dX7_isLetter_16 : decode cX7_isLetter 16 = .ok (.iconst 0, 1) := by decide +kernel
theorem dX7_isLetter_17 : decode cX7_isLetter 17 = .ok (.ireturn, 1) := by decide +kernel
theorem dX7_isDigit_0 : decode cX7_isDigit 0 = .ok (.iload_n 0, 1) := by decide +kernel
theorem dX7_isDigit_1 : decode cX7_isDigit 1 = .ok (.bipush 48, 2) := by decide +kernel
theorem dX7_isDigit_3 : decode cX7_isDigit 3 = .ok (.if_icmp .lt 13, 3) := by decide +kernel
theorem dX7_isDigit_6 : decode cX7_isDigit 6 = .ok (.iload_n 0, 1) := by decide +kernel
theorem dX7_isDigit_7 : decode cX7_isDigit 7 = .ok (.bipush 57, 2) := by decide +kernel
theorem dX7_isDigit_9 : decode cX7_isDigit 9 = .ok (.if_icmp .gt 7, 3) := by decide +kernel
theorem dX7_isDigit_12 : decode cX7_isDigit 12 = .ok (.iconst 1, 1) := by decide +kernel
theorem dX7_isDigit_13 : decode cX7_isDigit 13 = .ok (.goto 4, 3) := by decide +kernel
theorem dX7_isDigit_16 : decode cX7_isDigit 16 = .ok (.iconst 0, 1) := by decide +kernel
theorem dX7_isDigit_17 : decode cX7_isDigit 17 = .ok (.ireturn, 1) := by decide +kernel
theorem dX7_isRow_0 : decode cX7_isRow 0 = .ok (.iload_n 1, 1) := by decide +kernel
theorem dX7_isRow_1 : decode cX7_isRow 1 = .ok (.aload_n 0, 1) := by decide +kernel
theorem dX7_isRow_2 : decode cX7_isRow 2 = .ok (.getfield 119, 3) := by decide +kernel
theorem dX7_isRow_5 : decode cX7_isRow 5 = .ok (.if_icmp .ge 31, 3) := by decide +kernel
theorem dX7_isRow_8 : decode cX7_isRow 8 = .ok (.aload_n 0, 1) := by decide +kernel
theorem dX7_isRow_9 : decode cX7_isRow 9 = .ok (.getfield 7, 3) := by decide +kernel
theorem dX7_isRow_12 : decode cX7_isRow 12 = .ok (.iload_n 1, 1) := by decide +kernel
theorem dX7_isRow_13 : decode cX7_isRow 13 = .ok (.baload, 1) := by decide +kernel
theorem dX7_isRow_14 : decode cX7_isRow 14 = .ok (.invokestatic 122, 3) := by decide +kernel
theorem dX7_isRow_17 : decode cX7_isRow 17 = .ok (.ifCond .ne 15, 3) := by decide +kernel
theorem dX7_isRow_20 : decode cX7_isRow 20 = .ok (.aload_n 0, 1) := by decide +kernel
theorem dX7_isRow_21 : decode cX7_isRow 21 = .ok (.getfield 7, 3) := by decide +kernel
theorem dX7_isRow_24 : decode cX7_isRow 24 = .ok (.iload_n 1, 1) := by decide +kernel
theorem dX7_isRow_25 : decode cX7_isRow 25 = .ok (.baload, 1) := by decide +kernel
theorem dX7_isRow_26 : decode cX7_isRow 26 = .ok (.invokestatic 126, 3) := by decide +kernel
theorem dX7_isRow_29 : decode cX7_isRow 29 = .ok (.ifCond .eq 7, 3) := by decide +kernel
theorem dX7_isRow_32 : decode cX7_isRow 32 = .ok (.iconst 1, 1) := by decide +kernel
theorem dX7_isRow_33 : decode cX7_isRow 33 = .ok (.goto 4, 3) := by decide +kernel
theorem dX7_isRow_36 : decode cX7_isRow 36 = .ok (.iconst 0, 1) := by decide +kernel
theorem dX7_isRow_37 : decode cX7_isRow 37 = .ok (.ireturn, 1) := by decide +kernel
theorem dX7_is_0 : decode cX7_is 0 = .ok (.iload_n 1, 1) := by decide +kernel
theorem dX7_is_1 : decode cX7_is 1 = .ok (.ifCond .ne 7, 3) := by decide +kernel
theorem dX7_is_4 : decode cX7_is 4 = .ok (.iconst 0, 1) := by decide +kernel
theorem dX7_is_5 : decode cX7_is 5 = .ok (.goto 29, 3) := by decide +kernel
theorem dX7_is_8 : decode cX7_is 8 = .ok (.iload_n 2, 1) := by decide +kernel
theorem dX7_is_9 : decode cX7_is 9 = .ok (.ifCond .ne 7, 3) := by decide +kernel
theorem dX7_is_12 : decode cX7_is 12 = .ok (.iconst 1, 1) := by decide +kernel
theorem dX7_is_13 : decode cX7_is 13 = .ok (.goto 21, 3) := by decide +kernel
theorem dX7_is_16 : decode cX7_is 16 = .ok (.iload_n 3, 1) := by decide +kernel
theorem dX7_is_17 : decode cX7_is 17 = .ok (.ifCond .ne 7, 3) := by decide +kernel
theorem dX7_is_20 : decode cX7_is 20 = .ok (.iconst 2, 1) := by decide +kernel
theorem dX7_is_21 : decode cX7_is 21 = .ok (.goto 13, 3) := by decide +kernel
theorem dX7_is_24 : decode cX7_is 24 = .ok (.iload 4, 2) := by decide +kernel
theorem dX7_is_26 : decode cX7_is 26 = .ok (.ifCond .ne 7, 3) := by decide +kernel
theorem dX7_is_29 : decode cX7_is 29 = .ok (.iconst 3, 1) := by decide +kernel
theorem dX7_is_30 : decode cX7_is 30 = .ok (.goto 4, 3) := by decide +kernel
theorem dX7_is_33 : decode cX7_is 33 = .ok (.iconst 4, 1) := by decide +kernel
theorem dX7_is_34 : decode cX7_is 34 = .ok (.istore 5, 2) := by decide +kernel
theorem dX7_is_36 : decode cX7_is 36 = .ok (.aload_n 0, 1) := by decide +kernel
theorem dX7_is_37 : decode cX7_is 37 = .ok (.getfield 129, 3) := by decide +kernel
theorem dX7_is_40 : decode cX7_is 40 = .ok (.aload_n 0, 1) := by decide +kernel
theorem dX7_is_41 : decode cX7_is 41 = .ok (.getfield 132, 3) := by decide +kernel
theorem dX7_is_44 : decode cX7_is 44 = .ok (.isub, 1) := by decide +kernel
theorem dX7_is_45 : decode cX7_is 45 = .ok (.iload 5, 2) := by decide +kernel
theorem dX7_is_47 : decode cX7_is 47 = .ok (.if_icmp .ne 84, 3) := by decide +kernel
theorem dX7_is_50 : decode cX7_is 50 = .ok (.aload_n 0, 1) := by decide +kernel
theorem dX7_is_51 : decode cX7_is 51 = .ok (.getfield 7, 3) := by decide +kernel
theorem dX7_is_54 : decode cX7_is 54 = .ok (.aload_n 0, 1) := by decide +kernel
theorem dX7_is_55 : decode cX7_is 55 = .ok (.getfield 132, 3) := by decide +kernel
theorem dX7_is_58 : decode cX7_is 58 = .ok (.baload, 1) := by decide +kernel
theorem dX7_is_59 : decode cX7_is 59 = .ok (.iload_n 1, 1) := by decide +kernel
theorem dX7_is_60 : decode cX7_is 60 = .ok (.if_icmp .ne 71, 3) := by decide +kernel
theorem dX7_is_63 : decode cX7_is 63 = .ok (.iload 5, 2) := by decide +kernel
theorem dX7_is_65 : decode cX7_is 65 = .ok (.iconst 2, 1) := by decide +kernel
theorem dX7_is_66 : decode cX7_is 66 = .ok (.if_icmp .lt 18, 3) := by decide +kernel
theorem dX7_is_69 : decode cX7_is 69 = .ok (.aload_n 0, 1) := by decide +kernel
theorem dX7_is_70 : decode cX7_is 70 = .ok (.getfield 7, 3) := by decide +kernel
theorem dX7_is_73 : decode cX7_is 73 = .ok (.aload_n 0, 1) := by decide +kernel
theorem dX7_is_74 : decode cX7_is 74 = .ok (.getfield 132, 3) := by decide +kernel
theorem dX7_is_77 : decode cX7_is 77 = .ok (.iconst 1, 1) := by decide +kernel
theorem dX7_is_78 : decode cX7_is 78 = .ok (.iadd, 1) := by decide +kernel
theorem dX7_is_79 : decode cX7_is 79 = .ok (.baload, 1) := by decide +kernel
theorem dX7_is_80 : decode cX7_is 80 = .ok (.iload_n 2, 1) := by decide +kernel
theorem dX7_is_81 : decode cX7_is 81 = .ok (.if_icmp .ne 50, 3) := by decide +kernel
theorem dX7_is_84 : decode cX7_is 84 = .ok (.iload 5, 2) := by decide +kernel
theorem dX7_is_86 : decode cX7_is 86 = .ok (.iconst 3, 1) := by decide +kernel
theorem dX7_is_87 : decode cX7_is 87 = .ok (.if_icmp .lt 18, 3) := by decide +kernel
theorem dX7_is_90 : decode cX7_is 90 = .ok (.aload_n 0, 1) := by decide +kernel
theorem dX7_is_91 : decode cX7_is 91 = .ok (.getfield 7, 3) := by decide +kernel
theorem dX7_is_94 : decode cX7_is 94 = .ok (.aload_n 0, 1) := by decide +kernel
theorem dX7_is_95 : decode cX7_is 95 = .ok (.getfield 132, 3) := by decide +kernel
theorem dX7_is_98 : decode cX7_is 98 = .ok (.iconst 2, 1) := by decide +kernel
theorem dX7_is_99 : decode cX7_is 99 = .ok (.iadd, 1) := by decide +kernel
theorem dX7_is_100 : decode cX7_is 100 = .ok (.baload, 1) := by decide +kernel
theorem dX7_is_101 : decode cX7_is 101 = .ok (.iload_n 3, 1) := by decide +kernel
theorem dX7_is_102 : decode cX7_is 102 = .ok (.if_icmp .ne 29, 3) := by decide +kernel
theorem dX7_is_105 : decode cX7_is 105 = .ok (.iload 5, 2) := by decide +kernel
theorem dX7_is_107 : decode cX7_is 107 = .ok (.iconst 4, 1) := by decide +kernel
theorem dX7_is_108 : decode cX7_is 108 = .ok (.if_icmp .lt 19, 3) := by decide +kernel
theorem dX7_is_111 : decode cX7_is 111 = .ok (.aload_n 0, 1) := by decide +kernel
theorem dX7_is_112 : decode cX7_is 112 = .ok (.getfield 7, 3) := by decide +kernel
theorem dX7_is_115 : decode cX7_is 115 = .ok (.aload_n 0, 1) := by decide +kernel
theorem dX7_is_116 : decode cX7_is 116 = .ok (.getfield 132, 3) := by decide +kernel
theorem dX7_is_119 : decode cX7_is 119 = .ok (.iconst 3, 1) := by decide +kernel
theorem dX7_is_120 : decode cX7_is 120 = .ok (.iadd, 1) := by decide +kernel
theorem dX7_is_121 : decode cX7_is 121 = .ok (.baload, 1) := by decide +kernel
theorem dX7_is_122 : decode cX7_is 122 = .ok (.iload 4, 2) := by decide +kernel
theorem dX7_is_124 : decode cX7_is 124 = .ok (.if_icmp .ne 7, 3) := by decide +kernel
theorem dX7_is_127 : decode cX7_is 127 = .ok (.iconst 1, 1) := by decide +kernel
theorem dX7_is_128 : decode cX7_is 128 = .ok (.goto 4, 3) := by decide +kernel
theorem dX7_is_131 : decode cX7_is 131 = .ok (.iconst 0, 1) := by decide +kernel
theorem dX7_is_132 : decode cX7_is 132 = .ok (.ireturn, 1) := by decide +kernel
theorem dX7_wordOf_0 : decode cX7_wordOf 0 = .ok (.aload_n 0, 1) := by decide +kernel
theorem dX7_wordOf_1 : decode cX7_wordOf 1 = .ok (.bipush 105, 2) := by decide +kernel
theorem dX7_wordOf_3 : decode cX7_wordOf 3 = .ok (.bipush 102, 2) := by decide +kernel
theorem dX7_wordOf_5 : decode cX7_wordOf 5 = .ok (.iconst 0, 1) := by decide +kernel
theorem dX7_wordOf_6 : decode cX7_wordOf 6 = .ok (.iconst 0, 1) := by decide +kernel
theorem dX7_wordOf_7 : decode cX7_wordOf 7 = .ok (.invokevirtual 135, 3) := by decide +kernel
theorem dX7_wordOf_10 : decode cX7_wordOf 10 = .ok (.ifCond .eq 7, 3) := by decide +kernel
theorem dX7_wordOf_13 : decode cX7_wordOf 13 = .ok (.iconst 1, 1) := by decide +kernel
theorem dX7_wordOf_14 : decode cX7_wordOf 14 = .ok (.goto 97, 3) := by decide +kernel
theorem dX7_wordOf_17 : decode cX7_wordOf 17 = .ok (.aload_n 0, 1) := by decide +kernel
theorem dX7_wordOf_18 : decode cX7_wordOf 18 = .ok (.bipush 116, 2) := by decide +kernel
theorem dX7_wordOf_20 : decode cX7_wordOf 20 = .ok (.bipush 104, 2) := by decide +kernel
theorem dX7_wordOf_22 : decode cX7_wordOf 22 = .ok (.bipush 101, 2) := by decide +kernel
theorem dX7_wordOf_24 : decode cX7_wordOf 24 = .ok (.bipush 110, 2) := by decide +kernel
theorem dX7_wordOf_26 : decode cX7_wordOf 26 = .ok (.invokevirtual 135, 3) := by decide +kernel
theorem dX7_wordOf_29 : decode cX7_wordOf 29 = .ok (.ifCond .eq 7, 3) := by decide +kernel
theorem dX7_wordOf_32 : decode cX7_wordOf 32 = .ok (.iconst 2, 1) := by decide +kernel
theorem dX7_wordOf_33 : decode cX7_wordOf 33 = .ok (.goto 78, 3) := by decide +kernel
theorem dX7_wordOf_36 : decode cX7_wordOf 36 = .ok (.aload_n 0, 1) := by decide +kernel
theorem dX7_wordOf_37 : decode cX7_wordOf 37 = .ok (.bipush 101, 2) := by decide +kernel
theorem dX7_wordOf_39 : decode cX7_wordOf 39 = .ok (.bipush 108, 2) := by decide +kernel
theorem dX7_wordOf_41 : decode cX7_wordOf 41 = .ok (.bipush 115, 2) := by decide +kernel
theorem dX7_wordOf_43 : decode cX7_wordOf 43 = .ok (.bipush 101, 2) := by decide +kernel
theorem dX7_wordOf_45 : decode cX7_wordOf 45 = .ok (.invokevirtual 135, 3) := by decide +kernel
theorem dX7_wordOf_48 : decode cX7_wordOf 48 = .ok (.ifCond .eq 7, 3) := by decide +kernel
theorem dX7_wordOf_51 : decode cX7_wordOf 51 = .ok (.iconst 3, 1) := by decide +kernel
theorem dX7_wordOf_52 : decode cX7_wordOf 52 = .ok (.goto 59, 3) := by decide +kernel
theorem dX7_wordOf_55 : decode cX7_wordOf 55 = .ok (.aload_n 0, 1) := by decide +kernel
theorem dX7_wordOf_56 : decode cX7_wordOf 56 = .ok (.bipush 108, 2) := by decide +kernel
theorem dX7_wordOf_58 : decode cX7_wordOf 58 = .ok (.bipush 101, 2) := by decide +kernel
theorem dX7_wordOf_60 : decode cX7_wordOf 60 = .ok (.bipush 116, 2) := by decide +kernel
theorem dX7_wordOf_62 : decode cX7_wordOf 62 = .ok (.iconst 0, 1) := by decide +kernel
theorem dX7_wordOf_63 : decode cX7_wordOf 63 = .ok (.invokevirtual 135, 3) := by decide +kernel
theorem dX7_wordOf_66 : decode cX7_wordOf 66 = .ok (.ifCond .eq 7, 3) := by decide +kernel
theorem dX7_wordOf_69 : decode cX7_wordOf 69 = .ok (.iconst 4, 1) := by decide +kernel
theorem dX7_wordOf_70 : decode cX7_wordOf 70 = .ok (.goto 41, 3) := by decide +kernel
theorem dX7_wordOf_73 : decode cX7_wordOf 73 = .ok (.aload_n 0, 1) := by decide +kernel
theorem dX7_wordOf_74 : decode cX7_wordOf 74 = .ok (.bipush 105, 2) := by decide +kernel
theorem dX7_wordOf_76 : decode cX7_wordOf 76 = .ok (.bipush 110, 2) := by decide +kernel
theorem dX7_wordOf_78 : decode cX7_wordOf 78 = .ok (.iconst 0, 1) := by decide +kernel
theorem dX7_wordOf_79 : decode cX7_wordOf 79 = .ok (.iconst 0, 1) := by decide +kernel
theorem dX7_wordOf_80 : decode cX7_wordOf 80 = .ok (.invokevirtual 135, 3) := by decide +kernel
theorem dX7_wordOf_83 : decode cX7_wordOf 83 = .ok (.ifCond .eq 7, 3) := by decide +kernel
theorem dX7_wordOf_86 : decode cX7_wordOf 86 = .ok (.iconst 5, 1) := by decide +kernel
theorem dX7_wordOf_87 : decode cX7_wordOf 87 = .ok (.goto 24, 3) := by decide +kernel
theorem dX7_wordOf_90 : decode cX7_wordOf 90 = .ok (.aload_n 0, 1) := by decide +kernel
theorem dX7_wordOf_91 : decode cX7_wordOf 91 = .ok (.bipush 109, 2) := by decide +kernel
theorem dX7_wordOf_93 : decode cX7_wordOf 93 = .ok (.bipush 97, 2) := by decide +kernel
theorem dX7_wordOf_95 : decode cX7_wordOf 95 = .ok (.bipush 107, 2) := by decide +kernel
theorem dX7_wordOf_97 : decode cX7_wordOf 97 = .ok (.bipush 101, 2) := by decide +kernel
theorem dX7_wordOf_99 : decode cX7_wordOf 99 = .ok (.invokevirtual 135, 3) := by decide +kernel
theorem dX7_wordOf_102 : decode cX7_wordOf 102 = .ok (.ifCond .eq 8, 3) := by decide +kernel
theorem dX7_wordOf_105 : decode cX7_wordOf 105 = .ok (.bipush 6, 2) := by decide +kernel
theorem dX7_wordOf_107 : decode cX7_wordOf 107 = .ok (.goto 4, 3) := by decide +kernel
theorem dX7_wordOf_110 : decode cX7_wordOf 110 = .ok (.iconst 0, 1) := by decide +kernel
theorem dX7_wordOf_111 : decode cX7_wordOf 111 = .ok (.ireturn, 1) := by decide +kernel
theorem dX7_look_0 : decode cX7_look 0 = .ok (.aload_n 0, 1) := by decide +kernel
theorem dX7_look_1 : decode cX7_look 1 = .ok (.getfield 132, 3) := by decide +kernel
theorem dX7_look_4 : decode cX7_look 4 = .ok (.aload_n 0, 1) := by decide +kernel
theorem dX7_look_5 : decode cX7_look 5 = .ok (.getfield 119, 3) := by decide +kernel
theorem dX7_look_8 : decode cX7_look 8 = .ok (.if_icmp .ge 31, 3) := by decide +kernel
theorem dX7_look_11 : decode cX7_look 11 = .ok (.aload_n 0, 1) := by decide +kernel
theorem dX7_look_12 : decode cX7_look 12 = .ok (.getfield 7, 3) := by decide +kernel
theorem dX7_look_15 : decode cX7_look 15 = .ok (.aload_n 0, 1) := by decide +kernel
theorem dX7_look_16 : decode cX7_look 16 = .ok (.getfield 132, 3) := by decide +kernel
theorem dX7_look_19 : decode cX7_look 19 = .ok (.baload, 1) := by decide +kernel
theorem dX7_look_20 : decode cX7_look 20 = .ok (.invokestatic 139, 3) := by decide +kernel
theorem dX7_look_23 : decode cX7_look 23 = .ok (.ifCond .eq 16, 3) := by decide +kernel
theorem dX7_look_26 : decode cX7_look 26 = .ok (.aload_n 0, 1) := by decide +kernel
theorem dX7_look_27 : decode cX7_look 27 = .ok (.dup, 1) := by decide +kernel
theorem dX7_look_28 : decode cX7_look 28 = .ok (.getfield 132, 3) := by decide +kernel
theorem dX7_look_31 : decode cX7_look 31 = .ok (.iconst 1, 1) := by decide +kernel
theorem dX7_look_32 : decode cX7_look 32 = .ok (.iadd, 1) := by decide +kernel
theorem dX7_look_33 : decode cX7_look 33 = .ok (.putfield 132, 3) := by decide +kernel
theorem dX7_look_36 : decode cX7_look 36 = .ok (.goto (-36), 3) := by decide +kernel
theorem dX7_look_39 : decode cX7_look 39 = .ok (.aload_n 0, 1) := by decide +kernel
theorem dX7_look_40 : decode cX7_look 40 = .ok (.aload_n 0, 1) := by decide +kernel
theorem dX7_look_41 : decode cX7_look 41 = .ok (.getfield 132, 3) := by decide +kernel
theorem dX7_look_44 : decode cX7_look 44 = .ok (.putfield 129, 3) := by decide +kernel
theorem dX7_look_47 : decode cX7_look 47 = .ok (.aload_n 0, 1) := by decide +kernel
theorem dX7_look_48 : decode cX7_look 48 = .ok (.getfield 132, 3) := by decide +kernel
theorem dX7_look_51 : decode cX7_look 51 = .ok (.aload_n 0, 1) := by decide +kernel
theorem dX7_look_52 : decode cX7_look 52 = .ok (.getfield 119, 3) := by decide +kernel
theorem dX7_look_55 : decode cX7_look 55 = .ok (.if_icmp .ne 9, 3) := by decide +kernel
theorem dX7_look_58 : decode cX7_look 58 = .ok (.aload_n 0, 1) := by decide +kernel
theorem dX7_look_59 : decode cX7_look 59 = .ok (.iconst 0, 1) := by decide +kernel
theorem dX7_look_60 : decode cX7_look 60 = .ok (.putfield 142, 3) := by decide +kernel
theorem dX7_look_63 : decode cX7_look 63 = .ok (.return_, 1) := by decide +kernel
theorem dX7_look_64 : decode cX7_look 64 = .ok (.aload_n 0, 1) := by decide +kernel
theorem dX7_look_65 : decode cX7_look 65 = .ok (.aload_n 0, 1) := by decide +kernel
theorem dX7_look_66 : decode cX7_look 66 = .ok (.getfield 132, 3) := by decide +kernel
theorem dX7_look_69 : decode cX7_look 69 = .ok (.invokevirtual 145, 3) := by decide +kernel
theorem dX7_look_72 : decode cX7_look 72 = .ok (.ifCond .ne 117, 3) := by decide +kernel
theorem dX7_look_75 : decode cX7_look 75 = .ok (.aload_n 0, 1) := by decide +kernel
theorem dX7_look_76 : decode cX7_look 76 = .ok (.getfield 7, 3) := by decide +kernel
theorem dX7_look_79 : decode cX7_look 79 = .ok (.aload_n 0, 1) := by decide +kernel
theorem dX7_look_80 : decode cX7_look 80 = .ok (.getfield 132, 3) := by decide +kernel
theorem dX7_look_83 : decode cX7_look 83 = .ok (.baload, 1) := by decide +kernel
theorem dX7_look_84 : decode cX7_look 84 = .ok (.istore_n 1, 1) := by decide +kernel
theorem dX7_look_85 : decode cX7_look 85 = .ok (.aload_n 0, 1) := by decide +kernel
theorem dX7_look_86 : decode cX7_look 86 = .ok (.aload_n 0, 1) := by decide +kernel
theorem dX7_look_87 : decode cX7_look 87 = .ok (.getfield 132, 3) := by decide +kernel
theorem dX7_look_90 : decode cX7_look 90 = .ok (.iconst 1, 1) := by decide +kernel
theorem dX7_look_91 : decode cX7_look 91 = .ok (.iadd, 1) := by decide +kernel
theorem dX7_look_92 : decode cX7_look 92 = .ok (.putfield 129, 3) := by decide +kernel
theorem dX7_look_95 : decode cX7_look 95 = .ok (.aload_n 0, 1) := by decide +kernel
theorem dX7_look_96 : decode cX7_look 96 = .ok (.iload_n 1, 1) := by decide +kernel
theorem dX7_look_97 : decode cX7_look 97 = .ok (.bipush 40, 2) := by decide +kernel
theorem dX7_look_99 : decode cX7_look 99 = .ok (.if_icmp .eq 81, 3) := by decide +kernel
theorem dX7_look_102 : decode cX7_look 102 = .ok (.iload_n 1, 1) := by decide +kernel
theorem dX7_look_103 : decode cX7_look 103 = .ok (.bipush 41, 2) := by decide +kernel
theorem dX7_look_105 : decode cX7_look 105 = .ok (.if_icmp .eq 75, 3) := by decide +kernel
theorem dX7_look_108 : decode cX7_look 108 = .ok (.iload_n 1, 1) := by decide +kernel
theorem dX7_look_109 : decode cX7_look 109 = .ok (.bipush 44, 2) := by decide +kernel
theorem dX7_look_111 : decode cX7_look 111 = .ok (.if_icmp .eq 69, 3) := by decide +kernel
theorem dX7_look_114 : decode cX7_look 114 = .ok (.iload_n 1, 1) := by decide +kernel
theorem dX7_look_115 : decode cX7_look 115 = .ok (.bipush 61, 2) := by decide +kernel
theorem dX7_look_117 : decode cX7_look 117 = .ok (.if_icmp .eq 63, 3) := by decide +kernel
theorem dX7_look_120 : decode cX7_look 120 = .ok (.iload_n 1, 1) := by decide +kernel
theorem dX7_look_121 : decode cX7_look 121 = .ok (.bipush 59, 2) := by decide +kernel
theorem dX7_look_123 : decode cX7_look 123 = .ok (.if_icmp .eq 57, 3) := by decide +kernel
theorem dX7_look_126 : decode cX7_look 126 = .ok (.iload_n 1, 1) := by decide +kernel
theorem dX7_look_127 : decode cX7_look 127 = .ok (.bipush 60, 2) := by decide +kernel
theorem dX7_look_129 : decode cX7_look 129 = .ok (.if_icmp .eq 51, 3) := by decide +kernel
theorem dX7_look_132 : decode cX7_look 132 = .ok (.iload_n 1, 1) := by decide +kernel
theorem dX7_look_133 : decode cX7_look 133 = .ok (.bipush 62, 2) := by decide +kernel
theorem dX7_look_135 : decode cX7_look 135 = .ok (.if_icmp .eq 45, 3) := by decide +kernel
theorem dX7_look_138 : decode cX7_look 138 = .ok (.iload_n 1, 1) := by decide +kernel
theorem dX7_look_139 : decode cX7_look 139 = .ok (.bipush 43, 2) := by decide +kernel
theorem dX7_look_141 : decode cX7_look 141 = .ok (.if_icmp .eq 39, 3) := by decide +kernel
theorem dX7_look_144 : decode cX7_look 144 = .ok (.iload_n 1, 1) := by decide +kernel
theorem dX7_look_145 : decode cX7_look 145 = .ok (.bipush 45, 2) := by decide +kernel
theorem dX7_look_147 : decode cX7_look 147 = .ok (.if_icmp .eq 33, 3) := by decide +kernel
theorem dX7_look_150 : decode cX7_look 150 = .ok (.iload_n 1, 1) := by decide +kernel
theorem dX7_look_151 : decode cX7_look 151 = .ok (.bipush 42, 2) := by decide +kernel
theorem dX7_look_153 : decode cX7_look 153 = .ok (.if_icmp .eq 27, 3) := by decide +kernel
theorem dX7_look_156 : decode cX7_look 156 = .ok (.iload_n 1, 1) := by decide +kernel
theorem dX7_look_157 : decode cX7_look 157 = .ok (.bipush 47, 2) := by decide +kernel
theorem dX7_look_159 : decode cX7_look 159 = .ok (.if_icmp .eq 21, 3) := by decide +kernel
theorem dX7_look_162 : decode cX7_look 162 = .ok (.iload_n 1, 1) := by decide +kernel
theorem dX7_look_163 : decode cX7_look 163 = .ok (.bipush 37, 2) := by decide +kernel
theorem dX7_look_165 : decode cX7_look 165 = .ok (.if_icmp .eq 15, 3) := by decide +kernel
theorem dX7_look_168 : decode cX7_look 168 = .ok (.iload_n 1, 1) := by decide +kernel
theorem dX7_look_169 : decode cX7_look 169 = .ok (.bipush 91, 2) := by decide +kernel
theorem dX7_look_171 : decode cX7_look 171 = .ok (.if_icmp .eq 9, 3) := by decide +kernel
theorem dX7_look_174 : decode cX7_look 174 = .ok (.iload_n 1, 1) := by decide +kernel
theorem dX7_look_175 : decode cX7_look 175 = .ok (.bipush 93, 2) := by decide +kernel
theorem dX7_look_177 : decode cX7_look 177 = .ok (.if_icmp .ne 7, 3) := by decide +kernel
theorem dX7_look_180 : decode cX7_look 180 = .ok (.iconst 4, 1) := by decide +kernel
theorem dX7_look_181 : decode cX7_look 181 = .ok (.goto 4, 3) := by decide +kernel
theorem dX7_look_184 : decode cX7_look 184 = .ok (.iconst 5, 1) := by decide +kernel
theorem dX7_look_185 : decode cX7_look 185 = .ok (.putfield 142, 3) := by decide +kernel
theorem dX7_look_188 : decode cX7_look 188 = .ok (.return_, 1) := by decide +kernel
theorem dX7_look_189 : decode cX7_look 189 = .ok (.iconst 1, 1) := by decide +kernel
theorem dX7_look_190 : decode cX7_look 190 = .ok (.istore_n 1, 1) := by decide +kernel
theorem dX7_look_191 : decode cX7_look 191 = .ok (.iconst 1, 1) := by decide +kernel
theorem dX7_look_192 : decode cX7_look 192 = .ok (.istore_n 2, 1) := by decide +kernel
theorem dX7_look_193 : decode cX7_look 193 = .ok (.aload_n 0, 1) := by decide +kernel
theorem dX7_look_194 : decode cX7_look 194 = .ok (.lconst 0, 1) := by decide +kernel
theorem dX7_look_195 : decode cX7_look 195 = .ok (.putfield 148, 3) := by decide +kernel
theorem dX7_look_198 : decode cX7_look 198 = .ok (.aload_n 0, 1) := by decide +kernel
theorem dX7_look_199 : decode cX7_look 199 = .ok (.aload_n 0, 1) := by decide +kernel
theorem dX7_look_200 : decode cX7_look 200 = .ok (.getfield 129, 3) := by decide +kernel
theorem dX7_look_203 : decode cX7_look 203 = .ok (.invokevirtual 145, 3) := by decide +kernel
theorem dX7_look_206 : decode cX7_look 206 = .ok (.ifCond .eq 111, 3) := by decide +kernel
theorem dX7_look_209 : decode cX7_look 209 = .ok (.iload_n 1, 1) := by decide +kernel
theorem dX7_look_210 : decode cX7_look 210 = .ok (.ifCond .eq 22, 3) := by decide +kernel
theorem dX7_look_213 : decode cX7_look 213 = .ok (.aload_n 0, 1) := by decide +kernel
theorem dX7_look_214 : decode cX7_look 214 = .ok (.getfield 7, 3) := by decide +kernel
theorem dX7_look_217 : decode cX7_look 217 = .ok (.aload_n 0, 1) := by decide +kernel
theorem dX7_look_218 : decode cX7_look 218 = .ok (.getfield 129, 3) := by decide +kernel
theorem dX7_look_221 : decode cX7_look 221 = .ok (.baload, 1) := by decide +kernel
theorem dX7_look_222 : decode cX7_look 222 = .ok (.invokestatic 122, 3) := by decide +kernel
theorem dX7_look_225 : decode cX7_look 225 = .ok (.ifCond .eq 7, 3) := by decide +kernel
theorem dX7_look_228 : decode cX7_look 228 = .ok (.iconst 1, 1) := by decide +kernel
theorem dX7_look_229 : decode cX7_look 229 = .ok (.goto 4, 3) := by decide +kernel
theorem dX7_look_232 : decode cX7_look 232 = .ok (.iconst 0, 1) := by decide +kernel
theorem dX7_look_233 : decode cX7_look 233 = .ok (.istore_n 1, 1) := by decide +kernel
theorem dX7_look_234 : decode cX7_look 234 = .ok (.iload_n 2, 1) := by decide +kernel
theorem dX7_look_235 : decode cX7_look 235 = .ok (.ifCond .eq 22, 3) := by decide +kernel
theorem dX7_look_238 : decode cX7_look 238 = .ok (.aload_n 0, 1) := by decide +kernel
theorem dX7_look_239 : decode cX7_look 239 = .ok (.getfield 7, 3) := by decide +kernel
theorem dX7_look_242 : decode cX7_look 242 = .ok (.aload_n 0, 1) := by decide +kernel
theorem dX7_look_243 : decode cX7_look 243 = .ok (.getfield 129, 3) := by decide +kernel
theorem dX7_look_246 : decode cX7_look 246 = .ok (.baload, 1) := by decide +kernel
theorem dX7_look_247 : decode cX7_look 247 = .ok (.invokestatic 126, 3) := by decide +kernel
theorem dX7_look_250 : decode cX7_look 250 = .ok (.ifCond .eq 7, 3) := by decide +kernel
theorem dX7_look_253 : decode cX7_look 253 = .ok (.iconst 1, 1) := by decide +kernel
theorem dX7_look_254 : decode cX7_look 254 = .ok (.goto 4, 3) := by decide +kernel
theorem dX7_look_257 : decode cX7_look 257 = .ok (.iconst 0, 1) := by decide +kernel
theorem dX7_look_258 : decode cX7_look 258 = .ok (.istore_n 2, 1) := by decide +kernel
theorem dX7_look_259 : decode cX7_look 259 = .ok (.aload_n 0, 1) := by decide +kernel
theorem dX7_look_260 : decode cX7_look 260 = .ok (.aload_n 0, 1) := by decide +kernel
theorem dX7_look_261 : decode cX7_look 261 = .ok (.getfield 148, 3) := by decide +kernel
theorem dX7_look_264 : decode cX7_look 264 = .ok (.ldc2_w 152, 3) := by decide +kernel
theorem dX7_look_267 : decode cX7_look 267 = .ok (.lcmp, 1) := by decide +kernel
theorem dX7_look_268 : decode cX7_look 268 = .ok (.ifCond .le 10, 3) := by decide +kernel
theorem dX7_look_271 : decode cX7_look 271 = .ok (.aload_n 0, 1) := by decide +kernel
theorem dX7_look_272 : decode cX7_look 272 = .ok (.getfield 148, 3) := by decide +kernel
theorem dX7_look_275 : decode cX7_look 275 = .ok (.goto 26, 3) := by decide +kernel
theorem dX7_look_278 : decode cX7_look 278 = .ok (.ldc2_w 154, 3) := by decide +kernel
theorem dX7_look_281 : decode cX7_look 281 = .ok (.aload_n 0, 1) := by decide +kernel
theorem dX7_look_282 : decode cX7_look 282 = .ok (.getfield 148, 3) := by decide +kernel
theorem dX7_look_285 : decode cX7_look 285 = .ok (.lmul, 1) := by decide +kernel
theorem dX7_look_286 : decode cX7_look 286 = .ok (.aload_n 0, 1) := by decide +kernel
theorem dX7_look_287 : decode cX7_look 287 = .ok (.getfield 7, 3) := by decide +kernel
theorem dX7_look_290 : decode cX7_look 290 = .ok (.aload_n 0, 1) := by decide +kernel
theorem dX7_look_291 : decode cX7_look 291 = .ok (.getfield 129, 3) := by decide +kernel
theorem dX7_look_294 : decode cX7_look 294 = .ok (.baload, 1) := by decide +kernel
theorem dX7_look_295 : decode cX7_look 295 = .ok (.i2l, 1) := by decide +kernel
theorem dX7_look_296 : decode cX7_look 296 = .ok (.ladd, 1) := by decide +kernel
theorem dX7_look_297 : decode cX7_look 297 = .ok (.ldc2_w 156, 3) := by decide +kernel
theorem dX7_look_300 : decode cX7_look 300 = .ok (.lsub, 1) := by decide +kernel
theorem dX7_look_301 : decode cX7_look 301 = .ok (.putfield 148, 3) := by decide +kernel
theorem dX7_look_304 : decode cX7_look 304 = .ok (.aload_n 0, 1) := by decide +kernel
theorem dX7_look_305 : decode cX7_look 305 = .ok (.dup, 1) := by decide +kernel
theorem dX7_look_306 : decode cX7_look 306 = .ok (.getfield 129, 3) := by decide +kernel
theorem dX7_look_309 : decode cX7_look 309 = .ok (.iconst 1, 1) := by decide +kernel
theorem dX7_look_310 : decode cX7_look 310 = .ok (.iadd, 1) := by decide +kernel
theorem dX7_look_311 : decode cX7_look 311 = .ok (.putfield 129, 3) := by decide +kernel
theorem dX7_look_314 : decode cX7_look 314 = .ok (.goto (-116), 3) := by decide +kernel
theorem dX7_look_317 : decode cX7_look 317 = .ok (.aload_n 0, 1) := by decide +kernel
theorem dX7_look_318 : decode cX7_look 318 = .ok (.iload_n 1, 1) := by decide +kernel
theorem dX7_look_319 : decode cX7_look 319 = .ok (.ifCond .eq 10, 3) := by decide +kernel
theorem dX7_look_322 : decode cX7_look 322 = .ok (.aload_n 0, 1) := by decide +kernel
theorem dX7_look_323 : decode cX7_look 323 = .ok (.invokevirtual 158, 3) := by decide +kernel
theorem dX7_look_326 : decode cX7_look 326 = .ok (.goto 4, 3) := by decide +kernel
theorem dX7_look_329 : decode cX7_look 329 = .ok (.iconst 0, 1) := by decide +kernel
theorem dX7_look_330 : decode cX7_look 330 = .ok (.putfield 162, 3) := by decide +kernel
theorem dX7_look_333 : decode cX7_look 333 = .ok (.aload_n 0, 1) := by decide +kernel
theorem dX7_look_334 : decode cX7_look 334 = .ok (.aload_n 0, 1) := by decide +kernel
theorem dX7_look_335 : decode cX7_look 335 = .ok (.getfield 162, 3) := by decide +kernel
theorem dX7_look_338 : decode cX7_look 338 = .ok (.ifCond .le 7, 3) := by decide +kernel
theorem dX7_look_341 : decode cX7_look 341 = .ok (.iconst 3, 1) := by decide +kernel
theorem dX7_look_342 : decode cX7_look 342 = .ok (.goto 45, 3) := by decide +kernel
theorem dX7_look_345 : decode cX7_look 345 = .ok (.iload_n 1, 1) := by decide +kernel
theorem dX7_look_346 : decode cX7_look 346 = .ok (.ifCond .eq 21, 3) := by decide +kernel
theorem dX7_look_349 : decode cX7_look 349 = .ok (.aload_n 0, 1) := by decide +kernel
theorem dX7_look_350 : decode cX7_look 350 = .ok (.getfield 129, 3) := by decide +kernel
theorem dX7_look_353 : decode cX7_look 353 = .ok (.aload_n 0, 1) := by decide +kernel
theorem dX7_look_354 : decode cX7_look 354 = .ok (.getfield 132, 3) := by decide +kernel
theorem dX7_look_357 : decode cX7_look 357 = .ok (.isub, 1) := by decide +kernel
theorem dX7_look_358 : decode cX7_look 358 = .ok (.bipush 8, 2) := by decide +kernel
theorem dX7_look_360 : decode cX7_look 360 = .ok (.if_icmp .gt 7, 3) := by decide +kernel
theorem dX7_look_363 : decode cX7_look 363 = .ok (.iconst 1, 1) := by decide +kernel
theorem dX7_look_364 : decode cX7_look 364 = .ok (.goto 23, 3) := by decide +kernel
theorem dX7_look_367 : decode cX7_look 367 = .ok (.iload_n 2, 1) := by decide +kernel
theorem dX7_look_368 : decode cX7_look 368 = .ok (.ifCond .eq 18, 3) := by decide +kernel
theorem dX7_look_371 : decode cX7_look 371 = .ok (.aload_n 0, 1) := by decide +kernel
theorem dX7_look_372 : decode cX7_look 372 = .ok (.getfield 148, 3) := by decide +kernel
theorem dX7_look_375 : decode cX7_look 375 = .ok (.ldc2_w 152, 3) := by decide +kernel
theorem dX7_look_378 : decode cX7_look 378 = .ok (.lcmp, 1) := by decide +kernel
theorem dX7_look_379 : decode cX7_look 379 = .ok (.ifCond .gt 7, 3) := by decide +kernel
theorem dX7_look_382 : decode cX7_look 382 = .ok (.iconst 2, 1) := by decide +kernel
theorem dX7_look_383 : decode cX7_look 383 = .ok (.goto 4, 3) := by decide +kernel
theorem dX7_look_386 : decode cX7_look 386 = .ok (.iconst 5, 1) := by decide +kernel
theorem dX7_look_387 : decode cX7_look 387 = .ok (.putfield 142, 3) := by decide +kernel
theorem dX7_look_390 : decode cX7_look 390 = .ok (.return_, 1) := by decide +kernel
theorem dX7_go_0 : decode cX7_go 0 = .ok (.aload_n 0, 1) := by decide +kernel
theorem dX7_go_1 : decode cX7_go 1 = .ok (.getfield 165, 3) := by decide +kernel
theorem dX7_go_4 : decode cX7_go 4 = .ok (.ifCond .eq 15, 3) := by decide +kernel
theorem dX7_go_7 : decode cX7_go 7 = .ok (.aload_n 0, 1) := by decide +kernel
theorem dX7_go_8 : decode cX7_go 8 = .ok (.aload_n 0, 1) := by decide +kernel
theorem dX7_go_9 : decode cX7_go 9 = .ok (.getfield 129, 3) := by decide +kernel
theorem dX7_go_12 : decode cX7_go 12 = .ok (.putfield 132, 3) := by decide +kernel
theorem dX7_go_15 : decode cX7_go 15 = .ok (.aload_n 0, 1) := by decide +kernel
theorem dX7_go_16 : decode cX7_go 16 = .ok (.invokevirtual 169, 3) := by decide +kernel
theorem dX7_go_19 : decode cX7_go 19 = .ok (.return_, 1) := by decide +kernel
theorem dX7_isSign_0 : decode cX7_isSign 0 = .ok (.aload_n 0, 1) := by decide +kernel
theorem dX7_isSign_1 : decode cX7_isSign 1 = .ok (.getfield 142, 3) := by decide +kernel
theorem dX7_isSign_4 : decode cX7_isSign 4 = .ok (.iconst 4, 1) := by decide +kernel
theorem dX7_isSign_5 : decode cX7_isSign 5 = .ok (.if_icmp .ne 20, 3) := by decide +kernel
theorem dX7_isSign_8 : decode cX7_isSign 8 = .ok (.aload_n 0, 1) := by decide +kernel
theorem dX7_isSign_9 : decode cX7_isSign 9 = .ok (.getfield 7, 3) := by decide +kernel
theorem dX7_isSign_12 : decode cX7_isSign 12 = .ok (.aload_n 0, 1) := by decide +kernel
theorem dX7_isSign_13 : decode cX7_isSign 13 = .ok (.getfield 132, 3) := by decide +kernel
theorem dX7_isSign_16 : decode cX7_isSign 16 = .ok (.baload, 1) := by decide +kernel
theorem dX7_isSign_17 : decode cX7_isSign 17 = .ok (.iload_n 1, 1) := by decide +kernel
theorem dX7_isSign_18 : decode cX7_isSign 18 = .ok (.if_icmp .ne 7, 3) := by decide +kernel
theorem dX7_isSign_21 : decode cX7_isSign 21 = .ok (.iconst 1, 1) := by decide +kernel
theorem dX7_isSign_22 : decode cX7_isSign 22 = .ok (.goto 4, 3) := by decide +kernel
theorem dX7_isSign_25 : decode cX7_isSign 25 = .ok (.iconst 0, 1) := by decide +kernel
theorem dX7_isSign_26 : decode cX7_isSign 26 = .ok (.ireturn, 1) := by decide +kernel
theorem dX7_take_0 : decode cX7_take 0 = .ok (.aload_n 0, 1) := by decide +kernel
theorem dX7_take_1 : decode cX7_take 1 = .ok (.iload_n 1, 1) := by decide +kernel
theorem dX7_take_2 : decode cX7_take 2 = .ok (.invokevirtual 172, 3) := by decide +kernel
theorem dX7_take_5 : decode cX7_take 5 = .ok (.istore_n 2, 1) := by decide +kernel
theorem dX7_take_6 : decode cX7_take 6 = .ok (.iload_n 2, 1) := by decide +kernel
theorem dX7_take_7 : decode cX7_take 7 = .ok (.ifCond .eq 7, 3) := by decide +kernel
theorem dX7_take_10 : decode cX7_take 10 = .ok (.aload_n 0, 1) := by decide +kernel
theorem dX7_take_11 : decode cX7_take 11 = .ok (.invokevirtual 175, 3) := by decide +kernel
theorem dX7_take_14 : decode cX7_take 14 = .ok (.iload_n 2, 1) := by decide +kernel
theorem dX7_take_15 : decode cX7_take 15 = .ok (.ireturn, 1) := by decide +kernel
theorem dX7_nameOf_0 : decode cX7_nameOf 0 = .ok (.lconst 0, 1) := by decide +kernel
theorem dX7_nameOf_1 : decode cX7_nameOf 1 = .ok (.lstore_n 1, 1) := by decide +kernel
theorem dX7_nameOf_2 : decode cX7_nameOf 2 = .ok (.aload_n 0, 1) := by decide +kernel
theorem dX7_nameOf_3 : decode cX7_nameOf 3 = .ok (.getfield 132, 3) := by decide +kernel
theorem dX7_nameOf_6 : decode cX7_nameOf 6 = .ok (.istore_n 3, 1) := by decide +kernel
theorem dX7_nameOf_7 : decode cX7_nameOf 7 = .ok (.iload_n 3, 1) := by decide +kernel
theorem dX7_nameOf_8 : decode cX7_nameOf 8 = .ok (.aload_n 0, 1) := by decide +kernel
theorem dX7_nameOf_9 : decode cX7_nameOf 9 = .ok (.getfield 129, 3) := by decide +kernel
theorem dX7_nameOf_12 : decode cX7_nameOf 12 = .ok (.if_icmp .ge 29, 3) := by decide +kernel
theorem dX7_nameOf_15 : decode cX7_nameOf 15 = .ok (.ldc2_w 178, 3) := by decide +kernel
theorem dX7_nameOf_18 : decode cX7_nameOf 18 = .ok (.lload_n 1, 1) := by decide +kernel
theorem dX7_nameOf_19 : decode cX7_nameOf 19 = .ok (.lmul, 1) := by decide +kernel
theorem dX7_nameOf_20 : decode cX7_nameOf 20 = .ok (.aload_n 0, 1) := by decide +kernel
theorem dX7_nameOf_21 : decode cX7_nameOf 21 = .ok (.getfield 7, 3) := by decide +kernel
theorem dX7_nameOf_24 : decode cX7_nameOf 24 = .ok (.iload_n 3, 1) := by decide +kernel
theorem dX7_nameOf_25 : decode cX7_nameOf 25 = .ok (.baload, 1) := by decide +kernel
theorem dX7_nameOf_26 : decode cX7_nameOf 26 = .ok (.i2l, 1) := by decide +kernel
theorem dX7_nameOf_27 : decode cX7_nameOf 27 = .ok (.ladd, 1) := by decide +kernel
theorem dX7_nameOf_28 : decode cX7_nameOf 28 = .ok (.ldc2_w 180, 3) := by decide +kernel
theorem dX7_nameOf_31 : decode cX7_nameOf 31 = .ok (.lsub, 1) := by decide +kernel
theorem dX7_nameOf_32 : decode cX7_nameOf 32 = .ok (.lconst 1, 1) := by decide +kernel
theorem dX7_nameOf_33 : decode cX7_nameOf 33 = .ok (.ladd, 1) := by decide +kernel
theorem dX7_nameOf_34 : decode cX7_nameOf 34 = .ok (.lstore_n 1, 1) := by decide +kernel
theorem dX7_nameOf_35 : decode cX7_nameOf 35 = .ok (.iinc 3 1, 3) := by decide +kernel
theorem dX7_nameOf_38 : decode cX7_nameOf 38 = .ok (.goto (-31), 3) := by decide +kernel
theorem dX7_nameOf_41 : decode cX7_nameOf 41 = .ok (.lload_n 1, 1) := by decide +kernel
theorem dX7_nameOf_42 : decode cX7_nameOf 42 = .ok (.lreturn, 1) := by decide +kernel
theorem dX7_part0_0 : decode cX7_part0 0 = .ok (.bipush 60, 2) := by decide +kernel
theorem dX7_part0_2 : decode cX7_part0 2 = .ok (.bipush 12, 2) := by decide +kernel
theorem dX7_part0_4 : decode cX7_part0 4 = .ok (.aload_n 0, 1) := by decide +kernel
theorem dX7_part0_5 : decode cX7_part0 5 = .ok (.getfield 182, 3) := by decide +kernel
theorem dX7_part0_8 : decode cX7_part0 8 = .ok (.imul, 1) := by decide +kernel
theorem dX7_part0_9 : decode cX7_part0 9 = .ok (.aload_n 0, 1) := by decide +kernel
theorem dX7_part0_10 : decode cX7_part0 10 = .ok (.getfield 185, 3) := by decide +kernel
theorem dX7_part0_13 : decode cX7_part0 13 = .ok (.iadd, 1) := by decide +kernel
theorem dX7_part0_14 : decode cX7_part0 14 = .ok (.imul, 1) := by decide +kernel
theorem dX7_part0_15 : decode cX7_part0 15 = .ok (.ireturn, 1) := by decide +kernel
theorem dX7_need_0 : decode cX7_need 0 = .ok (.aload_n 0, 1) := by decide +kernel
theorem dX7_need_1 : decode cX7_need 1 = .ok (.aload_n 0, 1) := by decide +kernel
theorem dX7_need_2 : decode cX7_need 2 = .ok (.getfield 165, 3) := by decide +kernel
theorem dX7_need_5 : decode cX7_need 5 = .ok (.ifCond .eq 11, 3) := by decide +kernel
theorem dX7_need_8 : decode cX7_need 8 = .ok (.iload_n 1, 1) := by decide +kernel
theorem dX7_need_9 : decode cX7_need 9 = .ok (.ifCond .eq 7, 3) := by decide +kernel
theorem dX7_need_12 : decode cX7_need 12 = .ok (.iconst 1, 1) := by decide +kernel
theorem dX7_need_13 : decode cX7_need 13 = .ok (.goto 4, 3) := by decide +kernel
theorem dX7_need_16 : decode cX7_need 16 = .ok (.iconst 0, 1) := by decide +kernel
theorem dX7_need_17 : decode cX7_need 17 = .ok (.putfield 165, 3) := by decide +kernel
theorem dX7_need_20 : decode cX7_need 20 = .ok (.return_, 1) := by decide +kernel
theorem dX7_part_0 : decode cX7_part 0 = .ok (.aload_n 0, 1) := by decide +kernel
theorem dX7_part_1 : decode cX7_part 1 = .ok (.aload_n 0, 1) := by decide +kernel
theorem dX7_part_2 : decode cX7_part 2 = .ok (.getfield 188, 3) := by decide +kernel
theorem dX7_part_5 : decode cX7_part 5 = .ok (.bipush 60, 2) := by decide +kernel
theorem dX7_part_7 : decode cX7_part 7 = .ok (.if_icmp .ge 7, 3) := by decide +kernel
theorem dX7_part_10 : decode cX7_part 10 = .ok (.iconst 1, 1) := by decide +kernel
theorem dX7_part_11 : decode cX7_part 11 = .ok (.goto 4, 3) := by decide +kernel
theorem dX7_part_14 : decode cX7_part 14 = .ok (.iconst 0, 1) := by decide +kernel
theorem dX7_part_15 : decode cX7_part 15 = .ok (.invokevirtual 191, 3) := by decide +kernel
theorem dX7_part_18 : decode cX7_part 18 = .ok (.aload_n 0, 1) := by decide +kernel
theorem dX7_part_19 : decode cX7_part 19 = .ok (.getfield 165, 3) := by decide +kernel
theorem dX7_part_22 : decode cX7_part 22 = .ok (.ifCond .ne 5, 3) := by decide +kernel
theorem dX7_part_25 : decode cX7_part 25 = .ok (.iconst 0, 1) := by decide +kernel
theorem dX7_part_26 : decode cX7_part 26 = .ok (.ireturn, 1) := by decide +kernel
theorem dX7_part_27 : decode cX7_part 27 = .ok (.aload_n 0, 1) := by decide +kernel
theorem dX7_part_28 : decode cX7_part 28 = .ok (.invokevirtual 195, 3) := by decide +kernel
theorem dX7_part_31 : decode cX7_part 31 = .ok (.aload_n 0, 1) := by decide +kernel
theorem dX7_part_32 : decode cX7_part 32 = .ok (.getfield 188, 3) := by decide +kernel
theorem dX7_part_35 : decode cX7_part 35 = .ok (.iadd, 1) := by decide +kernel
theorem dX7_part_36 : decode cX7_part 36 = .ok (.istore_n 3, 1) := by decide +kernel
theorem dX7_part_37 : decode cX7_part 37 = .ok (.aload_n 0, 1) := by decide +kernel
theorem dX7_part_38 : decode cX7_part 38 = .ok (.getfield 23, 3) := by decide +kernel
theorem dX7_part_41 : decode cX7_part 41 = .ok (.iload_n 3, 1) := by decide +kernel
theorem dX7_part_42 : decode cX7_part 42 = .ok (.iload_n 1, 1) := by decide +kernel
theorem dX7_part_43 : decode cX7_part 43 = .ok (.iastore, 1) := by decide +kernel
theorem dX7_part_44 : decode cX7_part 44 = .ok (.aload_n 0, 1) := by decide +kernel
theorem dX7_part_45 : decode cX7_part 45 = .ok (.getfield 26, 3) := by decide +kernel
theorem dX7_part_48 : decode cX7_part 48 = .ok (.iload_n 3, 1) := by decide +kernel
theorem dX7_part_49 : decode cX7_part 49 = .ok (.iload_n 2, 1) := by decide +kernel
theorem dX7_part_50 : decode cX7_part 50 = .ok (.iastore, 1) := by decide +kernel
theorem dX7_part_51 : decode cX7_part 51 = .ok (.aload_n 0, 1) := by decide +kernel
theorem dX7_part_52 : decode cX7_part 52 = .ok (.getfield 38, 3) := by decide +kernel
theorem dX7_part_55 : decode cX7_part 55 = .ok (.iload_n 3, 1) := by decide +kernel
theorem dX7_part_56 : decode cX7_part 56 = .ok (.iconst (-1), 1) := by decide +kernel
theorem dX7_part_57 : decode cX7_part 57 = .ok (.iastore, 1) := by decide +kernel
theorem dX7_part_58 : decode cX7_part 58 = .ok (.aload_n 0, 1) := by decide +kernel
theorem dX7_part_59 : decode cX7_part 59 = .ok (.getfield 41, 3) := by decide +kernel
theorem dX7_part_62 : decode cX7_part 62 = .ok (.iload_n 3, 1) := by decide +kernel
theorem dX7_part_63 : decode cX7_part 63 = .ok (.iconst (-1), 1) := by decide +kernel
theorem dX7_part_64 : decode cX7_part 64 = .ok (.iastore, 1) := by decide +kernel
theorem dX7_part_65 : decode cX7_part 65 = .ok (.aload_n 0, 1) := by decide +kernel
theorem dX7_part_66 : decode cX7_part 66 = .ok (.getfield 44, 3) := by decide +kernel
theorem dX7_part_69 : decode cX7_part 69 = .ok (.iload_n 3, 1) := by decide +kernel
theorem dX7_part_70 : decode cX7_part 70 = .ok (.aload_n 0, 1) := by decide +kernel
theorem dX7_part_71 : decode cX7_part 71 = .ok (.getfield 132, 3) := by decide +kernel
theorem dX7_part_74 : decode cX7_part 74 = .ok (.iastore, 1) := by decide +kernel
theorem dX7_part_75 : decode cX7_part 75 = .ok (.aload_n 0, 1) := by decide +kernel
theorem dX7_part_76 : decode cX7_part 76 = .ok (.getfield 47, 3) := by decide +kernel
theorem dX7_part_79 : decode cX7_part 79 = .ok (.iload_n 3, 1) := by decide +kernel
theorem dX7_part_80 : decode cX7_part 80 = .ok (.iconst 0, 1) := by decide +kernel
theorem dX7_part_81 : decode cX7_part 81 = .ok (.iastore, 1) := by decide +kernel
theorem dX7_part_82 : decode cX7_part 82 = .ok (.aload_n 0, 1) := by decide +kernel
theorem dX7_part_83 : decode cX7_part 83 = .ok (.getfield 50, 3) := by decide +kernel
theorem dX7_part_86 : decode cX7_part 86 = .ok (.iload_n 3, 1) := by decide +kernel
theorem dX7_part_87 : decode cX7_part 87 = .ok (.iconst (-1), 1) := by decide +kernel
theorem dX7_part_88 : decode cX7_part 88 = .ok (.iastore, 1) := by decide +kernel
theorem dX7_part_89 : decode cX7_part 89 = .ok (.aload_n 0, 1) := by decide +kernel
theorem dX7_part_90 : decode cX7_part 90 = .ok (.dup, 1) := by decide +kernel
theorem dX7_part_91 : decode cX7_part 91 = .ok (.getfield 188, 3) := by decide +kernel
theorem dX7_part_94 : decode cX7_part 94 = .ok (.iconst 1, 1) := by decide +kernel
theorem dX7_part_95 : decode cX7_part 95 = .ok (.iadd, 1) := by decide +kernel
theorem dX7_part_96 : decode cX7_part 96 = .ok (.putfield 188, 3) := by decide +kernel
theorem dX7_part_99 : decode cX7_part 99 = .ok (.iload_n 3, 1) := by decide +kernel
theorem dX7_part_100 : decode cX7_part 100 = .ok (.ireturn, 1) := by decide +kernel
theorem dX7_later_0 : decode cX7_later 0 = .ok (.aload_n 0, 1) := by decide +kernel
theorem dX7_later_1 : decode cX7_later 1 = .ok (.getfield 69, 3) := by decide +kernel
theorem dX7_later_4 : decode cX7_later 4 = .ok (.aload_n 0, 1) := by decide +kernel
theorem dX7_later_5 : decode cX7_later 5 = .ok (.getfield 198, 3) := by decide +kernel
theorem dX7_later_8 : decode cX7_later 8 = .ok (.iload_n 1, 1) := by decide +kernel
theorem dX7_later_9 : decode cX7_later 9 = .ok (.iastore, 1) := by decide +kernel
theorem dX7_later_10 : decode cX7_later 10 = .ok (.aload_n 0, 1) := by decide +kernel
theorem dX7_later_11 : decode cX7_later 11 = .ok (.getfield 72, 3) := by decide +kernel
theorem dX7_later_14 : decode cX7_later 14 = .ok (.aload_n 0, 1) := by decide +kernel
theorem dX7_later_15 : decode cX7_later 15 = .ok (.getfield 198, 3) := by decide +kernel
theorem dX7_later_18 : decode cX7_later 18 = .ok (.iload_n 2, 1) := by decide +kernel
theorem dX7_later_19 : decode cX7_later 19 = .ok (.iastore, 1) := by decide +kernel
theorem dX7_later_20 : decode cX7_later 20 = .ok (.aload_n 0, 1) := by decide +kernel
theorem dX7_later_21 : decode cX7_later 21 = .ok (.dup, 1) := by decide +kernel
theorem dX7_later_22 : decode cX7_later 22 = .ok (.getfield 198, 3) := by decide +kernel
theorem dX7_later_25 : decode cX7_later 25 = .ok (.iconst 1, 1) := by decide +kernel
theorem dX7_later_26 : decode cX7_later 26 = .ok (.iadd, 1) := by decide +kernel
theorem dX7_later_27 : decode cX7_later 27 = .ok (.putfield 198, 3) := by decide +kernel
theorem dX7_later_30 : decode cX7_later 30 = .ok (.return_, 1) := by decide +kernel
theorem dX7_give_0 : decode cX7_give 0 = .ok (.aload_n 0, 1) := by decide +kernel
theorem dX7_give_1 : decode cX7_give 1 = .ok (.getfield 75, 3) := by decide +kernel
theorem dX7_give_4 : decode cX7_give 4 = .ok (.aload_n 0, 1) := by decide +kernel
theorem dX7_give_5 : decode cX7_give 5 = .ok (.getfield 201, 3) := by decide +kernel
theorem dX7_give_8 : decode cX7_give 8 = .ok (.iload_n 1, 1) := by decide +kernel
theorem dX7_give_9 : decode cX7_give 9 = .ok (.iastore, 1) := by decide +kernel
theorem dX7_give_10 : decode cX7_give 10 = .ok (.aload_n 0, 1) := by decide +kernel
theorem dX7_give_11 : decode cX7_give 11 = .ok (.dup, 1) := by decide +kernel
theorem dX7_give_12 : decode cX7_give 12 = .ok (.getfield 201, 3) := by decide +kernel
theorem dX7_give_15 : decode cX7_give 15 = .ok (.iconst 1, 1) := by decide +kernel
theorem dX7_give_16 : decode cX7_give 16 = .ok (.iadd, 1) := by decide +kernel
theorem dX7_give_17 : decode cX7_give 17 = .ok (.putfield 201, 3) := by decide +kernel
theorem dX7_give_20 : decode cX7_give 20 = .ok (.return_, 1) := by decide +kernel
theorem dX7_got_0 : decode cX7_got 0 = .ok (.aload_n 0, 1) := by decide +kernel
theorem dX7_got_1 : decode cX7_got 1 = .ok (.dup, 1) := by decide +kernel
theorem dX7_got_2 : decode cX7_got 2 = .ok (.getfield 201, 3) := by decide +kernel
theorem dX7_got_5 : decode cX7_got 5 = .ok (.iconst 1, 1) := by decide +kernel
theorem dX7_got_6 : decode cX7_got 6 = .ok (.isub, 1) := by decide +kernel
theorem dX7_got_7 : decode cX7_got 7 = .ok (.putfield 201, 3) := by decide +kernel
theorem dX7_got_10 : decode cX7_got 10 = .ok (.aload_n 0, 1) := by decide +kernel
theorem dX7_got_11 : decode cX7_got 11 = .ok (.getfield 75, 3) := by decide +kernel
theorem dX7_got_14 : decode cX7_got 14 = .ok (.aload_n 0, 1) := by decide +kernel
theorem dX7_got_15 : decode cX7_got 15 = .ok (.getfield 201, 3) := by decide +kernel
theorem dX7_got_18 : decode cX7_got 18 = .ok (.iaload, 1) := by decide +kernel
theorem dX7_got_19 : decode cX7_got 19 = .ok (.ireturn, 1) := by decide +kernel
theorem dX7_variable_0 : decode cX7_variable 0 = .ok (.aload_n 0, 1) := by decide +kernel
theorem dX7_variable_1 : decode cX7_variable 1 = .ok (.invokevirtual 204, 3) := by decide +kernel
theorem dX7_variable_4 : decode cX7_variable 4 = .ok (.lstore_n 1, 1) := by decide +kernel
theorem dX7_variable_5 : decode cX7_variable 5 = .ok (.aload_n 0, 1) := by decide +kernel
theorem dX7_variable_6 : decode cX7_variable 6 = .ok (.getfield 208, 3) := by decide +kernel
theorem dX7_variable_9 : decode cX7_variable 9 = .ok (.iconst 1, 1) := by decide +kernel
theorem dX7_variable_10 : decode cX7_variable 10 = .ok (.isub, 1) := by decide +kernel
theorem dX7_variable_11 : decode cX7_variable 11 = .ok (.istore_n 3, 1) := by decide +kernel
theorem dX7_variable_12 : decode cX7_variable 12 = .ok (.iload_n 3, 1) := by decide +kernel
theorem dX7_variable_13 : decode cX7_variable 13 = .ok (.ifCond .lt 51, 3) := by decide +kernel
theorem dX7_variable_16 : decode cX7_variable 16 = .ok (.aload_n 0, 1) := by decide +kernel
theorem dX7_variable_17 : decode cX7_variable 17 = .ok (.getfield 60, 3) := by decide +kernel
theorem dX7_variable_20 : decode cX7_variable 20 = .ok (.iload_n 3, 1) := by decide +kernel
theorem dX7_variable_21 : decode cX7_variable 21 = .ok (.laload, 1) := by decide +kernel
theorem dX7_variable_22 : decode cX7_variable 22 = .ok (.lload_n 1, 1) := by decide +kernel
theorem dX7_variable_23 : decode cX7_variable 23 = .ok (.lcmp, 1) := by decide +kernel
theorem dX7_variable_24 : decode cX7_variable 24 = .ok (.ifCond .ne 34, 3) := by decide +kernel
theorem dX7_variable_27 : decode cX7_variable 27 = .ok (.aload_n 0, 1) := by decide +kernel
theorem dX7_variable_28 : decode cX7_variable 28 = .ok (.iconst 3, 1) := by decide +kernel
theorem dX7_variable_29 : decode cX7_variable 29 = .ok (.iconst 0, 1) := by decide +kernel
theorem dX7_variable_30 : decode cX7_variable 30 = .ok (.invokevirtual 211, 3) := by decide +kernel
theorem dX7_variable_33 : decode cX7_variable 33 = .ok (.istore 4, 2) := by decide +kernel
theorem dX7_variable_35 : decode cX7_variable 35 = .ok (.aload_n 0, 1) := by decide +kernel
theorem dX7_variable_36 : decode cX7_variable 36 = .ok (.getfield 165, 3) := by decide +kernel
theorem dX7_variable_39 : decode cX7_variable 39 = .ok (.ifCond .eq 16, 3) := by decide +kernel
theorem dX7_variable_42 : decode cX7_variable 42 = .ok (.aload_n 0, 1) := by decide +kernel
theorem dX7_variable_43 : decode cX7_variable 43 = .ok (.getfield 29, 3) := by decide +kernel
theorem dX7_variable_46 : decode cX7_variable 46 = .ok (.iload 4, 2) := by decide +kernel
theorem dX7_variable_48 : decode cX7_variable 48 = .ok (.aload_n 0, 1) := by decide +kernel
theorem dX7_variable_49 : decode cX7_variable 49 = .ok (.getfield 63, 3) := by decide +kernel
theorem dX7_variable_52 : decode cX7_variable 52 = .ok (.iload_n 3, 1) := by decide +kernel
theorem dX7_variable_53 : decode cX7_variable 53 = .ok (.iaload, 1) := by decide +kernel
theorem dX7_variable_54 : decode cX7_variable 54 = .ok (.iastore, 1) := by decide +kernel
theorem dX7_variable_55 : decode cX7_variable 55 = .ok (.iload 4, 2) := by decide +kernel
theorem dX7_variable_57 : decode cX7_variable 57 = .ok (.ireturn, 1) := by decide +kernel
theorem dX7_variable_58 : decode cX7_variable 58 = .ok (.iinc 3 (-1), 3) := by decide +kernel
theorem dX7_variable_61 : decode cX7_variable 61 = .ok (.goto (-49), 3) := by decide +kernel
theorem dX7_variable_64 : decode cX7_variable 64 = .ok (.iconst 0, 1) := by decide +kernel
theorem dX7_variable_65 : decode cX7_variable 65 = .ok (.istore_n 3, 1) := by decide +kernel
theorem dX7_variable_66 : decode cX7_variable 66 = .ok (.iload_n 3, 1) := by decide +kernel
theorem dX7_variable_67 : decode cX7_variable 67 = .ok (.aload_n 0, 1) := by decide +kernel
theorem dX7_variable_68 : decode cX7_variable 68 = .ok (.getfield 13, 3) := by decide +kernel
theorem dX7_variable_71 : decode cX7_variable 71 = .ok (.bipush 12, 2) := by decide +kernel
theorem dX7_variable_73 : decode cX7_variable 73 = .ok (.aload_n 0, 1) := by decide +kernel
theorem dX7_variable_74 : decode cX7_variable 74 = .ok (.getfield 182, 3) := by decide +kernel
theorem dX7_variable_77 : decode cX7_variable 77 = .ok (.imul, 1) := by decide +kernel
theorem dX7_variable_78 : decode cX7_variable 78 = .ok (.aload_n 0, 1) := by decide +kernel
theorem dX7_variable_79 : decode cX7_variable 79 = .ok (.getfield 185, 3) := by decide +kernel
theorem dX7_variable_82 : decode cX7_variable 82 = .ok (.iadd, 1) := by decide +kernel
theorem dX7_variable_83 : decode cX7_variable 83 = .ok (.iaload, 1) := by decide +kernel
theorem dX7_variable_84 : decode cX7_variable 84 = .ok (.if_icmp .ge 27, 3) := by decide +kernel
theorem dX7_variable_87 : decode cX7_variable 87 = .ok (.aload_n 0, 1) := by decide +kernel
theorem dX7_variable_88 : decode cX7_variable 88 = .ok (.getfield 57, 3) := by decide +kernel
theorem dX7_variable_91 : decode cX7_variable 91 = .ok (.iload_n 3, 1) := by decide +kernel
theorem dX7_variable_92 : decode cX7_variable 92 = .ok (.laload, 1) := by decide +kernel
theorem dX7_variable_93 : decode cX7_variable 93 = .ok (.lload_n 1, 1) := by decide +kernel
theorem dX7_variable_94 : decode cX7_variable 94 = .ok (.lcmp, 1) := by decide +kernel
theorem dX7_variable_95 : decode cX7_variable 95 = .ok (.ifCond .ne 10, 3) := by decide +kernel
theorem dX7_variable_98 : decode cX7_variable 98 = .ok (.aload_n 0, 1) := by decide +kernel
theorem dX7_variable_99 : decode cX7_variable 99 = .ok (.iconst 2, 1) := by decide +kernel
theorem dX7_variable_100 : decode cX7_variable 100 = .ok (.iload_n 3, 1) := by decide +kernel
theorem dX7_variable_101 : decode cX7_variable 101 = .ok (.invokevirtual 211, 3) := by decide +kernel
theorem dX7_variable_104 : decode cX7_variable 104 = .ok (.ireturn, 1) := by decide +kernel
theorem dX7_variable_105 : decode cX7_variable 105 = .ok (.iinc 3 1, 3) := by decide +kernel
theorem dX7_variable_108 : decode cX7_variable 108 = .ok (.goto (-42), 3) := by decide +kernel
theorem dX7_variable_111 : decode cX7_variable 111 = .ok (.aload_n 0, 1) := by decide +kernel
theorem dX7_variable_112 : decode cX7_variable 112 = .ok (.iconst 0, 1) := by decide +kernel
theorem dX7_variable_113 : decode cX7_variable 113 = .ok (.invokevirtual 191, 3) := by decide +kernel
theorem dX7_variable_116 : decode cX7_variable 116 = .ok (.iconst 0, 1) := by decide +kernel
theorem dX7_variable_117 : decode cX7_variable 117 = .ok (.ireturn, 1) := by decide +kernel
theorem dX7_addArgument_0 : decode cX7_addArgument 0 = .ok (.aload_n 0, 1) := by decide +kernel
theorem dX7_addArgument_1 : decode cX7_addArgument 1 = .ok (.getfield 47, 3) := by decide +kernel
theorem dX7_addArgument_4 : decode cX7_addArgument 4 = .ok (.iload_n 1, 1) := by decide +kernel
theorem dX7_addArgument_5 : decode cX7_addArgument 5 = .ok (.dup2, 1) := by decide +kernel
theorem dX7_addArgument_6 : decode cX7_addArgument 6 = .ok (.iaload, 1) := by decide +kernel
theorem dX7_addArgument_7 : decode cX7_addArgument 7 = .ok (.iconst 1, 1) := by decide +kernel
theorem dX7_addArgument_8 : decode cX7_addArgument 8 = .ok (.iadd, 1) := by decide +kernel
theorem dX7_addArgument_9 : decode cX7_addArgument 9 = .ok (.iastore, 1) := by decide +kernel
theorem dX7_addArgument_10 : decode cX7_addArgument 10 = .ok (.aload_n 0, 1) := by decide +kernel
theorem dX7_addArgument_11 : decode cX7_addArgument 11 = .ok (.getfield 38, 3) := by decide +kernel
theorem dX7_addArgument_14 : decode cX7_addArgument 14 = .ok (.iload_n 1, 1) := by decide +kernel
theorem dX7_addArgument_15 : decode cX7_addArgument 15 = .ok (.iaload, 1) := by decide +kernel
theorem dX7_addArgument_16 : decode cX7_addArgument 16 = .ok (.iconst (-1), 1) := by decide +kernel
theorem dX7_addArgument_17 : decode cX7_addArgument 17 = .ok (.if_icmp .ne 11, 3) := by decide +kernel
theorem dX7_addArgument_20 : decode cX7_addArgument 20 = .ok (.aload_n 0, 1) := by decide +kernel
theorem dX7_addArgument_21 : decode cX7_addArgument 21 = .ok (.getfield 38, 3) := by decide +kernel
theorem dX7_addArgument_24 : decode cX7_addArgument 24 = .ok (.iload_n 1, 1) := by decide +kernel
theorem dX7_addArgument_25 : decode cX7_addArgument 25 = .ok (.iload_n 2, 1) := by decide +kernel
theorem dX7_addArgument_26 : decode cX7_addArgument 26 = .ok (.iastore, 1) := by decide +kernel
theorem dX7_addArgument_27 : decode cX7_addArgument 27 = .ok (.return_, 1) := by decide +kernel
theorem dX7_addArgument_28 : decode cX7_addArgument 28 = .ok (.aload_n 0, 1) := by decide +kernel
theorem dX7_addArgument_29 : decode cX7_addArgument 29 = .ok (.getfield 38, 3) := by decide +kernel
theorem dX7_addArgument_32 : decode cX7_addArgument 32 = .ok (.iload_n 1, 1) := by decide +kernel
theorem dX7_addArgument_33 : decode cX7_addArgument 33 = .ok (.iaload, 1) := by decide +kernel
theorem dX7_addArgument_34 : decode cX7_addArgument 34 = .ok (.istore_n 3, 1) := by decide +kernel
theorem dX7_addArgument_35 : decode cX7_addArgument 35 = .ok (.aload_n 0, 1) := by decide +kernel
theorem dX7_addArgument_36 : decode cX7_addArgument 36 = .ok (.getfield 41, 3) := by decide +kernel
theorem dX7_addArgument_39 : decode cX7_addArgument 39 = .ok (.iload_n 3, 1) := by decide +kernel
theorem dX7_addArgument_40 : decode cX7_addArgument 40 = .ok (.iaload, 1) := by decide +kernel
theorem dX7_addArgument_41 : decode cX7_addArgument 41 = .ok (.iconst (-1), 1) := by decide +kernel
theorem dX7_addArgument_42 : decode cX7_addArgument 42 = .ok (.if_icmp .eq 13, 3) := by decide +kernel
theorem dX7_addArgument_45 : decode cX7_addArgument 45 = .ok (.aload_n 0, 1) := by decide +kernel
theorem dX7_addArgument_46 : decode cX7_addArgument 46 = .ok (.getfield 41, 3) := by decide +kernel
theorem dX7_addArgument_49 : decode cX7_addArgument 49 = .ok (.iload_n 3, 1) := by decide +kernel
theorem dX7_addArgument_50 : decode cX7_addArgument 50 = .ok (.iaload, 1) := by decide +kernel
theorem dX7_addArgument_51 : decode cX7_addArgument 51 = .ok (.istore_n 3, 1) := by decide +kernel
theorem dX7_addArgument_52 : decode cX7_addArgument 52 = .ok (.goto (-17), 3) := by decide +kernel
theorem dX7_addArgument_55 : decode cX7_addArgument 55 = .ok (.aload_n 0, 1) := by decide +kernel
theorem dX7_addArgument_56 : decode cX7_addArgument 56 = .ok (.getfield 41, 3) := by decide +kernel
theorem dX7_addArgument_59 : decode cX7_addArgument 59 = .ok (.iload_n 3, 1) := by decide +kernel
theorem dX7_addArgument_60 : decode cX7_addArgument 60 = .ok (.iload_n 2, 1) := by decide +kernel
theorem dX7_addArgument_61 : decode cX7_addArgument 61 = .ok (.iastore, 1) := by decide +kernel
theorem dX7_addArgument_62 : decode cX7_addArgument 62 = .ok (.return_, 1) := by decide +kernel
theorem dX7_expression_0 : decode cX7_expression 0 = .ok (.aload_n 0, 1) := by decide +kernel
theorem dX7_expression_1 : decode cX7_expression 1 = .ok (.getfield 142, 3) := by decide +kernel
theorem dX7_expression_4 : decode cX7_expression 4 = .ok (.iconst 3, 1) := by decide +kernel
theorem dX7_expression_5 : decode cX7_expression 5 = .ok (.if_icmp .ne 38, 3) := by decide +kernel
theorem dX7_expression_8 : decode cX7_expression 8 = .ok (.aload_n 0, 1) := by decide +kernel
theorem dX7_expression_9 : decode cX7_expression 9 = .ok (.getfield 162, 3) := by decide +kernel
theorem dX7_expression_12 : decode cX7_expression 12 = .ok (.iconst 1, 1) := by decide +kernel
theorem dX7_expression_13 : decode cX7_expression 13 = .ok (.if_icmp .ne 30, 3) := by decide +kernel
theorem dX7_expression_16 : decode cX7_expression 16 = .ok (.aload_n 0, 1) := by decide +kernel
theorem dX7_expression_17 : decode cX7_expression 17 = .ok (.bipush 6, 2) := by decide +kernel
theorem dX7_expression_19 : decode cX7_expression 19 = .ok (.iconst 0, 1) := by decide +kernel
theorem dX7_expression_20 : decode cX7_expression 20 = .ok (.invokevirtual 211, 3) := by decide +kernel
theorem dX7_expression_23 : decode cX7_expression 23 = .ok (.istore_n 1, 1) := by decide +kernel
theorem dX7_expression_24 : decode cX7_expression 24 = .ok (.aload_n 0, 1) := by decide +kernel
theorem dX7_expression_25 : decode cX7_expression 25 = .ok (.invokevirtual 175, 3) := by decide +kernel
theorem dX7_expression_28 : decode cX7_expression 28 = .ok (.aload_n 0, 1) := by decide +kernel
theorem dX7_expression_29 : decode cX7_expression 29 = .ok (.iconst 2, 1) := by decide +kernel
theorem dX7_expression_30 : decode cX7_expression 30 = .ok (.iload_n 1, 1) := by decide +kernel
theorem dX7_expression_31 : decode cX7_expression 31 = .ok (.invokevirtual 215, 3) := by decide +kernel
theorem dX7_expression_34 : decode cX7_expression 34 = .ok (.aload_n 0, 1) := by decide +kernel
theorem dX7_expression_35 : decode cX7_expression 35 = .ok (.iconst 1, 1) := by decide +kernel
theorem dX7_expression_36 : decode cX7_expression 36 = .ok (.iconst 0, 1) := by decide +kernel
theorem dX7_expression_37 : decode cX7_expression 37 = .ok (.invokevirtual 215, 3) := by decide +kernel
theorem dX7_expression_40 : decode cX7_expression 40 = .ok (.goto 119, 3) := by decide +kernel
theorem dX7_expression_43 : decode cX7_expression 43 = .ok (.aload_n 0, 1) := by decide +kernel
theorem dX7_expression_44 : decode cX7_expression 44 = .ok (.getfield 142, 3) := by decide +kernel
theorem dX7_expression_47 : decode cX7_expression 47 = .ok (.iconst 3, 1) := by decide +kernel
theorem dX7_expression_48 : decode cX7_expression 48 = .ok (.if_icmp .ne 97, 3) := by decide +kernel
theorem dX7_expression_51 : decode cX7_expression 51 = .ok (.aload_n 0, 1) := by decide +kernel
theorem dX7_expression_52 : decode cX7_expression 52 = .ok (.getfield 162, 3) := by decide +kernel
theorem dX7_expression_55 : decode cX7_expression 55 = .ok (.iconst 4, 1) := by decide +kernel
theorem dX7_expression_56 : decode cX7_expression 56 = .ok (.if_icmp .ne 89, 3) := by decide +kernel
theorem dX7_expression_59 : decode cX7_expression 59 = .ok (.aload_n 0, 1) := by decide +kernel
theorem dX7_expression_60 : decode cX7_expression 60 = .ok (.bipush 7, 2) := by decide +kernel
theorem dX7_expression_62 : decode cX7_expression 62 = .ok (.iconst 0, 1) := by decide +kernel
theorem dX7_expression_63 : decode cX7_expression 63 = .ok (.invokevirtual 211, 3) := by decide +kernel
theorem dX7_expression_66 : decode cX7_expression 66 = .ok (.istore_n 1, 1) := by decide +kernel
theorem dX7_expression_67 : decode cX7_expression 67 = .ok (.aload_n 0, 1) := by decide +kernel
theorem dX7_expression_68 : decode cX7_expression 68 = .ok (.invokevirtual 175, 3) := by decide +kernel
theorem dX7_expression_71 : decode cX7_expression 71 = .ok (.aload_n 0, 1) := by decide +kernel
theorem dX7_expression_72 : decode cX7_expression 72 = .ok (.aload_n 0, 1) := by decide +kernel
theorem dX7_expression_73 : decode cX7_expression 73 = .ok (.getfield 142, 3) := by decide +kernel
theorem dX7_expression_76 : decode cX7_expression 76 = .ok (.iconst 1, 1) := by decide +kernel
theorem dX7_expression_77 : decode cX7_expression 77 = .ok (.if_icmp .ne 7, 3) := by decide +kernel
theorem dX7_expression_80 : decode cX7_expression 80 = .ok (.iconst 1, 1) := by decide +kernel
theorem dX7_expression_81 : decode cX7_expression 81 = .ok (.goto 4, 3) := by decide +kernel
theorem dX7_expression_84 : decode cX7_expression 84 = .ok (.iconst 0, 1) := by decide +kernel
theorem dX7_expression_85 : decode cX7_expression 85 = .ok (.invokevirtual 191, 3) := by decide +kernel
theorem dX7_expression_88 : decode cX7_expression 88 = .ok (.aload_n 0, 1) := by decide +kernel
theorem dX7_expression_89 : decode cX7_expression 89 = .ok (.getfield 165, 3) := by decide +kernel
theorem dX7_expression_92 : decode cX7_expression 92 = .ok (.ifCond .eq 17, 3) := by decide +kernel
theorem dX7_expression_95 : decode cX7_expression 95 = .ok (.aload_n 0, 1) := by decide +kernel
theorem dX7_expression_96 : decode cX7_expression 96 = .ok (.getfield 66, 3) := by decide +kernel
theorem dX7_expression_99 : decode cX7_expression 99 = .ok (.iload_n 1, 1) := by decide +kernel
theorem dX7_expression_100 : decode cX7_expression 100 = .ok (.aload_n 0, 1) := by decide +kernel
theorem dX7_expression_101 : decode cX7_expression 101 = .ok (.invokevirtual 204, 3) := by decide +kernel
theorem dX7_expression_104 : decode cX7_expression 104 = .ok (.lastore, 1) := by decide +kernel
theorem dX7_expression_105 : decode cX7_expression 105 = .ok (.aload_n 0, 1) := by decide +kernel
theorem dX7_expression_106 : decode cX7_expression 106 = .ok (.invokevirtual 175, 3) := by decide +kernel
theorem dX7_expression_109 : decode cX7_expression 109 = .ok (.aload_n 0, 1) := by decide +kernel
theorem dX7_expression_110 : decode cX7_expression 110 = .ok (.aload_n 0, 1) := by decide +kernel
theorem dX7_expression_111 : decode cX7_expression 111 = .ok (.bipush 61, 2) := by decide +kernel
theorem dX7_expression_113 : decode cX7_expression 113 = .ok (.invokevirtual 172, 3) := by decide +kernel
theorem dX7_expression_116 : decode cX7_expression 116 = .ok (.invokevirtual 191, 3) := by decide +kernel
theorem dX7_expression_119 : decode cX7_expression 119 = .ok (.aload_n 0, 1) := by decide +kernel
theorem dX7_expression_120 : decode cX7_expression 120 = .ok (.getfield 165, 3) := by decide +kernel
theorem dX7_expression_123 : decode cX7_expression 123 = .ok (.ifCond .eq 19, 3) := by decide +kernel
theorem dX7_expression_126 : decode cX7_expression 126 = .ok (.aload_n 0, 1) := by decide +kernel
theorem dX7_expression_127 : decode cX7_expression 127 = .ok (.invokevirtual 175, 3) := by decide +kernel
theorem dX7_expression_130 : decode cX7_expression 130 = .ok (.aload_n 0, 1) := by decide +kernel
theorem dX7_expression_131 : decode cX7_expression 131 = .ok (.iconst 5, 1) := by decide +kernel
theorem dX7_expression_132 : decode cX7_expression 132 = .ok (.iload_n 1, 1) := by decide +kernel
theorem dX7_expression_133 : decode cX7_expression 133 = .ok (.invokevirtual 215, 3) := by decide +kernel
theorem dX7_expression_136 : decode cX7_expression 136 = .ok (.aload_n 0, 1) := by decide +kernel
theorem dX7_expression_137 : decode cX7_expression 137 = .ok (.iconst 1, 1) := by decide +kernel
theorem dX7_expression_138 : decode cX7_expression 138 = .ok (.iconst 0, 1) := by decide +kernel
theorem dX7_expression_139 : decode cX7_expression 139 = .ok (.invokevirtual 215, 3) := by decide +kernel
theorem dX7_expression_142 : decode cX7_expression 142 = .ok (.goto 17, 3) := by decide +kernel
theorem dX7_expression_145 : decode cX7_expression 145 = .ok (.aload_n 0, 1) := by decide +kernel
theorem dX7_expression_146 : decode cX7_expression 146 = .ok (.bipush 7, 2) := by decide +kernel
theorem dX7_expression_148 : decode cX7_expression 148 = .ok (.iconst 0, 1) := by decide +kernel
theorem dX7_expression_149 : decode cX7_expression 149 = .ok (.invokevirtual 215, 3) := by decide +kernel
theorem dX7_expression_152 : decode cX7_expression 152 = .ok (.aload_n 0, 1) := by decide +kernel
theorem dX7_expression_153 : decode cX7_expression 153 = .ok (.bipush 9, 2) := by decide +kernel
theorem dX7_expression_155 : decode cX7_expression 155 = .ok (.iconst 0, 1) := by decide +kernel
theorem dX7_expression_156 : decode cX7_expression 156 = .ok (.invokevirtual 215, 3) := by decide +kernel
theorem dX7_expression_159 : decode cX7_expression 159 = .ok (.return_, 1) := by decide +kernel
theorem dX7_factor_0 : decode cX7_factor 0 = .ok (.aload_n 0, 1) := by decide +kernel
theorem dX7_factor_1 : decode cX7_factor 1 = .ok (.bipush 45, 2) := by decide +kernel
theorem dX7_factor_3 : decode cX7_factor 3 = .ok (.invokevirtual 172, 3) := by decide +kernel
theorem dX7_factor_6 : decode cX7_factor 6 = .ok (.ifCond .eq 31, 3) := by decide +kernel
theorem dX7_factor_9 : decode cX7_factor 9 = .ok (.aload_n 0, 1) := by decide +kernel
theorem dX7_factor_10 : decode cX7_factor 10 = .ok (.iconst 4, 1) := by decide +kernel
theorem dX7_factor_11 : decode cX7_factor 11 = .ok (.iconst 0, 1) := by decide +kernel
theorem dX7_factor_12 : decode cX7_factor 12 = .ok (.invokevirtual 211, 3) := by decide +kernel
theorem dX7_factor_15 : decode cX7_factor 15 = .ok (.istore_n 1, 1) := by decide +kernel
theorem dX7_factor_16 : decode cX7_factor 16 = .ok (.aload_n 0, 1) := by decide +kernel
theorem dX7_factor_17 : decode cX7_factor 17 = .ok (.invokevirtual 175, 3) := by decide +kernel
theorem dX7_factor_20 : decode cX7_factor 20 = .ok (.aload_n 0, 1) := by decide +kernel
theorem dX7_factor_21 : decode cX7_factor 21 = .ok (.bipush 16, 2) := by decide +kernel
theorem dX7_factor_23 : decode cX7_factor 23 = .ok (.iload_n 1, 1) := by decide +kernel
theorem dX7_factor_24 : decode cX7_factor 24 = .ok (.invokevirtual 215, 3) := by decide +kernel
theorem dX7_factor_27 : decode cX7_factor 27 = .ok (.aload_n 0, 1) := by decide +kernel
theorem dX7_factor_28 : decode cX7_factor 28 = .ok (.bipush 15, 2) := by decide +kernel
theorem dX7_factor_30 : decode cX7_factor 30 = .ok (.iconst 0, 1) := by decide +kernel
theorem dX7_factor_31 : decode cX7_factor 31 = .ok (.invokevirtual 215, 3) := by decide +kernel
theorem dX7_factor_34 : decode cX7_factor 34 = .ok (.goto 190, 3) := by decide +kernel
theorem dX7_factor_37 : decode cX7_factor 37 = .ok (.aload_n 0, 1) := by decide +kernel
theorem dX7_factor_38 : decode cX7_factor 38 = .ok (.bipush 40, 2) := by decide +kernel
theorem dX7_factor_40 : decode cX7_factor 40 = .ok (.invokevirtual 172, 3) := by decide +kernel
theorem dX7_factor_43 : decode cX7_factor 43 = .ok (.ifCond .eq 51, 3) := by decide +kernel
theorem dX7_factor_46 : decode cX7_factor 46 = .ok (.aload_n 0, 1) := by decide +kernel
theorem dX7_factor_47 : decode cX7_factor 47 = .ok (.aload_n 0, 1) := by decide +kernel
theorem dX7_factor_48 : decode cX7_factor 48 = .ok (.getfield 219, 3) := by decide +kernel
theorem dX7_factor_51 : decode cX7_factor 51 = .ok (.bipush 20, 2) := by decide +kernel
theorem dX7_factor_53 : decode cX7_factor 53 = .ok (.if_icmp .ge 7, 3) := by decide +kernel
theorem dX7_factor_56 : decode cX7_factor 56 = .ok (.iconst 1, 1) := by decide +kernel
theorem dX7_factor_57 : decode cX7_factor 57 = .ok (.goto 4, 3) := by decide +kernel
theorem dX7_factor_60 : decode cX7_factor 60 = .ok (.iconst 0, 1) := by decide +kernel
theorem dX7_factor_61 : decode cX7_factor 61 = .ok (.invokevirtual 191, 3) := by decide +kernel
theorem dX7_factor_64 : decode cX7_factor 64 = .ok (.aload_n 0, 1) := by decide +kernel
theorem dX7_factor_65 : decode cX7_factor 65 = .ok (.dup, 1) := by decide +kernel
theorem dX7_factor_66 : decode cX7_factor 66 = .ok (.getfield 219, 3) := by decide +kernel
theorem dX7_factor_69 : decode cX7_factor 69 = .ok (.iconst 1, 1) := by decide +kernel
theorem dX7_factor_70 : decode cX7_factor 70 = .ok (.iadd, 1) := by decide +kernel
theorem dX7_factor_71 : decode cX7_factor 71 = .ok (.putfield 219, 3) := by decide +kernel
theorem dX7_factor_74 : decode cX7_factor 74 = .ok (.aload_n 0, 1) := by decide +kernel
theorem dX7_factor_75 : decode cX7_factor 75 = .ok (.invokevirtual 175, 3) := by decide +kernel
theorem dX7_factor_78 : decode cX7_factor 78 = .ok (.aload_n 0, 1) := by decide +kernel
theorem dX7_factor_79 : decode cX7_factor 79 = .ok (.bipush 17, 2) := by decide +kernel
theorem dX7_factor_81 : decode cX7_factor 81 = .ok (.iconst 0, 1) := by decide +kernel
theorem dX7_factor_82 : decode cX7_factor 82 = .ok (.invokevirtual 215, 3) := by decide +kernel
theorem dX7_factor_85 : decode cX7_factor 85 = .ok (.aload_n 0, 1) := by decide +kernel
theorem dX7_factor_86 : decode cX7_factor 86 = .ok (.iconst 1, 1) := by decide +kernel
theorem dX7_factor_87 : decode cX7_factor 87 = .ok (.iconst 0, 1) := by decide +kernel
theorem dX7_factor_88 : decode cX7_factor 88 = .ok (.invokevirtual 215, 3) := by decide +kernel
theorem dX7_factor_91 : decode cX7_factor 91 = .ok (.goto 133, 3) := by decide +kernel
theorem dX7_factor_94 : decode cX7_factor 94 = .ok (.aload_n 0, 1) := by decide +kernel
theorem dX7_factor_95 : decode cX7_factor 95 = .ok (.getfield 142, 3) := by decide +kernel
theorem dX7_factor_98 : decode cX7_factor 98 = .ok (.iconst 2, 1) := by decide +kernel
theorem dX7_factor_99 : decode cX7_factor 99 = .ok (.if_icmp .ne 31, 3) := by decide +kernel
theorem dX7_factor_102 : decode cX7_factor 102 = .ok (.aload_n 0, 1) := by decide +kernel
theorem dX7_factor_103 : decode cX7_factor 103 = .ok (.aload_n 0, 1) := by decide +kernel
theorem dX7_factor_104 : decode cX7_factor 104 = .ok (.iconst 1, 1) := by decide +kernel
theorem dX7_factor_105 : decode cX7_factor 105 = .ok (.aload_n 0, 1) := by decide +kernel
theorem dX7_factor_106 : decode cX7_factor 106 = .ok (.getfield 148, 3) := by decide +kernel
theorem dX7_factor_109 : decode cX7_factor 109 = .ok (.l2i, 1) := by decide +kernel
theorem dX7_factor_110 : decode cX7_factor 110 = .ok (.invokevirtual 211, 3) := by decide +kernel
theorem dX7_factor_113 : decode cX7_factor 113 = .ok (.invokevirtual 222, 3) := by decide +kernel
theorem dX7_factor_116 : decode cX7_factor 116 = .ok (.aload_n 0, 1) := by decide +kernel
theorem dX7_factor_117 : decode cX7_factor 117 = .ok (.invokevirtual 175, 3) := by decide +kernel
theorem dX7_factor_120 : decode cX7_factor 120 = .ok (.aload_n 0, 1) := by decide +kernel
theorem dX7_factor_121 : decode cX7_factor 121 = .ok (.bipush 18, 2) := by decide +kernel
theorem dX7_factor_123 : decode cX7_factor 123 = .ok (.iconst 0, 1) := by decide +kernel
theorem dX7_factor_124 : decode cX7_factor 124 = .ok (.invokevirtual 215, 3) := by decide +kernel
theorem dX7_factor_127 : decode cX7_factor 127 = .ok (.goto 97, 3) := by decide +kernel
theorem dX7_factor_130 : decode cX7_factor 130 = .ok (.aload_n 0, 1) := by decide +kernel
theorem dX7_factor_131 : decode cX7_factor 131 = .ok (.getfield 142, 3) := by decide +kernel
theorem dX7_factor_134 : decode cX7_factor 134 = .ok (.iconst 3, 1) := by decide +kernel
theorem dX7_factor_135 : decode cX7_factor 135 = .ok (.if_icmp .ne 61, 3) := by decide +kernel
theorem dX7_factor_138 : decode cX7_factor 138 = .ok (.aload_n 0, 1) := by decide +kernel
theorem dX7_factor_139 : decode cX7_factor 139 = .ok (.getfield 162, 3) := by decide +kernel
theorem dX7_factor_142 : decode cX7_factor 142 = .ok (.bipush 6, 2) := by decide +kernel
theorem dX7_factor_144 : decode cX7_factor 144 = .ok (.if_icmp .ne 52, 3) := by decide +kernel
theorem dX7_factor_147 : decode cX7_factor 147 = .ok (.aload_n 0, 1) := by decide +kernel
theorem dX7_factor_148 : decode cX7_factor 148 = .ok (.bipush 9, 2) := by decide +kernel
theorem dX7_factor_150 : decode cX7_factor 150 = .ok (.iconst 0, 1) := by decide +kernel
theorem dX7_factor_151 : decode cX7_factor 151 = .ok (.invokevirtual 211, 3) := by decide +kernel
theorem dX7_factor_154 : decode cX7_factor 154 = .ok (.istore_n 1, 1) := by decide +kernel
theorem dX7_factor_155 : decode cX7_factor 155 = .ok (.aload_n 0, 1) := by decide +kernel
theorem dX7_factor_156 : decode cX7_factor 156 = .ok (.invokevirtual 175, 3) := by decide +kernel
theorem dX7_factor_159 : decode cX7_factor 159 = .ok (.aload_n 0, 1) := by decide +kernel
theorem dX7_factor_160 : decode cX7_factor 160 = .ok (.aload_n 0, 1) := by decide +kernel
theorem dX7_factor_161 : decode cX7_factor 161 = .ok (.bipush 40, 2) := by decide +kernel
theorem dX7_factor_163 : decode cX7_factor 163 = .ok (.invokevirtual 172, 3) := by decide +kernel
theorem dX7_factor_166 : decode cX7_factor 166 = .ok (.invokevirtual 191, 3) := by decide +kernel
theorem dX7_factor_169 : decode cX7_factor 169 = .ok (.aload_n 0, 1) := by decide +kernel
theorem dX7_factor_170 : decode cX7_factor 170 = .ok (.getfield 165, 3) := by decide +kernel
theorem dX7_factor_173 : decode cX7_factor 173 = .ok (.ifCond .eq 20, 3) := by decide +kernel
theorem dX7_factor_176 : decode cX7_factor 176 = .ok (.aload_n 0, 1) := by decide +kernel
theorem dX7_factor_177 : decode cX7_factor 177 = .ok (.invokevirtual 175, 3) := by decide +kernel
theorem dX7_factor_180 : decode cX7_factor 180 = .ok (.aload_n 0, 1) := by decide +kernel
theorem dX7_factor_181 : decode cX7_factor 181 = .ok (.bipush 20, 2) := by decide +kernel
theorem dX7_factor_183 : decode cX7_factor 183 = .ok (.iload_n 1, 1) := by decide +kernel
theorem dX7_factor_184 : decode cX7_factor 184 = .ok (.invokevirtual 215, 3) := by decide +kernel
theorem dX7_factor_187 : decode cX7_factor 187 = .ok (.aload_n 0, 1) := by decide +kernel
theorem dX7_factor_188 : decode cX7_factor 188 = .ok (.iconst 1, 1) := by decide +kernel
theorem dX7_factor_189 : decode cX7_factor 189 = .ok (.iconst 0, 1) := by decide +kernel
theorem dX7_factor_190 : decode cX7_factor 190 = .ok (.invokevirtual 215, 3) := by decide +kernel
theorem dX7_factor_193 : decode cX7_factor 193 = .ok (.goto 31, 3) := by decide +kernel
theorem dX7_factor_196 : decode cX7_factor 196 = .ok (.aload_n 0, 1) := by decide +kernel
theorem dX7_factor_197 : decode cX7_factor 197 = .ok (.aload_n 0, 1) := by decide +kernel
theorem dX7_factor_198 : decode cX7_factor 198 = .ok (.getfield 142, 3) := by decide +kernel
theorem dX7_factor_201 : decode cX7_factor 201 = .ok (.iconst 1, 1) := by decide +kernel
theorem dX7_factor_202 : decode cX7_factor 202 = .ok (.if_icmp .ne 7, 3) := by decide +kernel
theorem dX7_factor_205 : decode cX7_factor 205 = .ok (.iconst 1, 1) := by decide +kernel
theorem dX7_factor_206 : decode cX7_factor 206 = .ok (.goto 4, 3) := by decide +kernel
theorem dX7_factor_209 : decode cX7_factor 209 = .ok (.iconst 0, 1) := by decide +kernel
theorem dX7_factor_210 : decode cX7_factor 210 = .ok (.invokevirtual 191, 3) := by decide +kernel
theorem dX7_factor_213 : decode cX7_factor 213 = .ok (.aload_n 0, 1) := by decide +kernel
theorem dX7_factor_214 : decode cX7_factor 214 = .ok (.getfield 165, 3) := by decide +kernel
theorem dX7_factor_217 : decode cX7_factor 217 = .ok (.ifCond .eq 7, 3) := by decide +kernel
theorem dX7_factor_220 : decode cX7_factor 220 = .ok (.aload_n 0, 1) := by decide +kernel
theorem dX7_factor_221 : decode cX7_factor 221 = .ok (.invokevirtual 226, 3) := by decide +kernel
theorem dX7_factor_224 : decode cX7_factor 224 = .ok (.return_, 1) := by decide +kernel
theorem dX7_named_0 : decode cX7_named 0 = .ok (.aload_n 0, 1) := by decide +kernel
theorem dX7_named_1 : decode cX7_named 1 = .ok (.getfield 129, 3) := by decide +kernel
theorem dX7_named_4 : decode cX7_named 4 = .ok (.istore_n 1, 1) := by decide +kernel
theorem dX7_named_5 : decode cX7_named 5 = .ok (.iload_n 1, 1) := by decide +kernel
theorem dX7_named_6 : decode cX7_named 6 = .ok (.aload_n 0, 1) := by decide +kernel
theorem dX7_named_7 : decode cX7_named 7 = .ok (.getfield 119, 3) := by decide +kernel
theorem dX7_named_10 : decode cX7_named 10 = .ok (.if_icmp .ge 21, 3) := by decide +kernel
theorem dX7_named_13 : decode cX7_named 13 = .ok (.aload_n 0, 1) := by decide +kernel
theorem dX7_named_14 : decode cX7_named 14 = .ok (.getfield 7, 3) := by decide +kernel
theorem dX7_named_17 : decode cX7_named 17 = .ok (.iload_n 1, 1) := by decide +kernel
theorem dX7_named_18 : decode cX7_named 18 = .ok (.baload, 1) := by decide +kernel
theorem dX7_named_19 : decode cX7_named 19 = .ok (.invokestatic 139, 3) := by decide +kernel
theorem dX7_named_22 : decode cX7_named 22 = .ok (.ifCond .eq 9, 3) := by decide +kernel
theorem dX7_named_25 : decode cX7_named 25 = .ok (.iinc 1 1, 3) := by decide +kernel
theorem dX7_named_28 : decode cX7_named 28 = .ok (.goto (-23), 3) := by decide +kernel
theorem dX7_named_31 : decode cX7_named 31 = .ok (.iload_n 1, 1) := by decide +kernel
theorem dX7_named_32 : decode cX7_named 32 = .ok (.aload_n 0, 1) := by decide +kernel
theorem dX7_named_33 : decode cX7_named 33 = .ok (.getfield 119, 3) := by decide +kernel
theorem dX7_named_36 : decode cX7_named 36 = .ok (.if_icmp .eq 14, 3) := by decide +kernel
theorem dX7_named_39 : decode cX7_named 39 = .ok (.aload_n 0, 1) := by decide +kernel
theorem dX7_named_40 : decode cX7_named 40 = .ok (.getfield 7, 3) := by decide +kernel
theorem dX7_named_43 : decode cX7_named 43 = .ok (.iload_n 1, 1) := by decide +kernel
theorem dX7_named_44 : decode cX7_named 44 = .ok (.baload, 1) := by decide +kernel
theorem dX7_named_45 : decode cX7_named 45 = .ok (.bipush 40, 2) := by decide +kernel
theorem dX7_named_47 : decode cX7_named 47 = .ok (.if_icmp .eq 32, 3) := by decide +kernel
theorem dX7_named_50 : decode cX7_named 50 = .ok (.aload_n 0, 1) := by decide +kernel
theorem dX7_named_51 : decode cX7_named 51 = .ok (.invokevirtual 229, 3) := by decide +kernel
theorem dX7_named_54 : decode cX7_named 54 = .ok (.istore_n 2, 1) := by decide +kernel
theorem dX7_named_55 : decode cX7_named 55 = .ok (.aload_n 0, 1) := by decide +kernel
theorem dX7_named_56 : decode cX7_named 56 = .ok (.iload_n 2, 1) := by decide +kernel
theorem dX7_named_57 : decode cX7_named 57 = .ok (.invokevirtual 222, 3) := by decide +kernel
theorem dX7_named_60 : decode cX7_named 60 = .ok (.aload_n 0, 1) := by decide +kernel
theorem dX7_named_61 : decode cX7_named 61 = .ok (.getfield 165, 3) := by decide +kernel
theorem dX7_named_64 : decode cX7_named 64 = .ok (.ifCond .eq 14, 3) := by decide +kernel
theorem dX7_named_67 : decode cX7_named 67 = .ok (.aload_n 0, 1) := by decide +kernel
theorem dX7_named_68 : decode cX7_named 68 = .ok (.invokevirtual 175, 3) := by decide +kernel
theorem dX7_named_71 : decode cX7_named 71 = .ok (.aload_n 0, 1) := by decide +kernel
theorem dX7_named_72 : decode cX7_named 72 = .ok (.bipush 18, 2) := by decide +kernel
theorem dX7_named_74 : decode cX7_named 74 = .ok (.iconst 0, 1) := by decide +kernel
theorem dX7_named_75 : decode cX7_named 75 = .ok (.invokevirtual 215, 3) := by decide +kernel
theorem dX7_named_78 : decode cX7_named 78 = .ok (.return_, 1) := by decide +kernel
theorem dX7_named_79 : decode cX7_named 79 = .ok (.aload_n 0, 1) := by decide +kernel
theorem dX7_named_80 : decode cX7_named 80 = .ok (.bipush 8, 2) := by decide +kernel
theorem dX7_named_82 : decode cX7_named 82 = .ok (.iconst 0, 1) := by decide +kernel
theorem dX7_named_83 : decode cX7_named 83 = .ok (.invokevirtual 211, 3) := by decide +kernel
theorem dX7_named_86 : decode cX7_named 86 = .ok (.istore_n 2, 1) := by decide +kernel
theorem dX7_named_87 : decode cX7_named 87 = .ok (.aload_n 0, 1) := by decide +kernel
theorem dX7_named_88 : decode cX7_named 88 = .ok (.getfield 165, 3) := by decide +kernel
theorem dX7_named_91 : decode cX7_named 91 = .ok (.ifCond .ne 4, 3) := by decide +kernel
theorem dX7_named_94 : decode cX7_named 94 = .ok (.return_, 1) := by decide +kernel
theorem dX7_named_95 : decode cX7_named 95 = .ok (.aload_n 0, 1) := by decide +kernel
theorem dX7_named_96 : decode cX7_named 96 = .ok (.getfield 66, 3) := by decide +kernel
theorem dX7_named_99 : decode cX7_named 99 = .ok (.iload_n 2, 1) := by decide +kernel
theorem dX7_named_100 : decode cX7_named 100 = .ok (.aload_n 0, 1) := by decide +kernel
theorem dX7_named_101 : decode cX7_named 101 = .ok (.invokevirtual 204, 3) := by decide +kernel
theorem dX7_named_104 : decode cX7_named 104 = .ok (.lastore, 1) := by decide +kernel
theorem dX7_named_105 : decode cX7_named 105 = .ok (.aload_n 0, 1) := by decide +kernel
theorem dX7_named_106 : decode cX7_named 106 = .ok (.invokevirtual 175, 3) := by decide +kernel
theorem dX7_named_109 : decode cX7_named 109 = .ok (.aload_n 0, 1) := by decide +kernel
theorem dX7_named_110 : decode cX7_named 110 = .ok (.invokevirtual 175, 3) := by decide +kernel
theorem dX7_named_113 : decode cX7_named 113 = .ok (.aload_n 0, 1) := by decide +kernel
theorem dX7_named_114 : decode cX7_named 114 = .ok (.bipush 41, 2) := by decide +kernel
theorem dX7_named_116 : decode cX7_named 116 = .ok (.invokevirtual 232, 3) := by decide +kernel
theorem dX7_named_119 : decode cX7_named 119 = .ok (.ifCond .eq 18, 3) := by decide +kernel
theorem dX7_named_122 : decode cX7_named 122 = .ok (.aload_n 0, 1) := by decide +kernel
theorem dX7_named_123 : decode cX7_named 123 = .ok (.iload_n 2, 1) := by decide +kernel
theorem dX7_named_124 : decode cX7_named 124 = .ok (.invokevirtual 222, 3) := by decide +kernel
theorem dX7_named_127 : decode cX7_named 127 = .ok (.aload_n 0, 1) := by decide +kernel
theorem dX7_named_128 : decode cX7_named 128 = .ok (.bipush 18, 2) := by decide +kernel
theorem dX7_named_130 : decode cX7_named 130 = .ok (.iconst 0, 1) := by decide +kernel
theorem dX7_named_131 : decode cX7_named 131 = .ok (.invokevirtual 215, 3) := by decide +kernel
theorem dX7_named_134 : decode cX7_named 134 = .ok (.goto 16, 3) := by decide +kernel
theorem dX7_named_137 : decode cX7_named 137 = .ok (.aload_n 0, 1) := by decide +kernel
theorem dX7_named_138 : decode cX7_named 138 = .ok (.bipush 22, 2) := by decide +kernel
theorem dX7_named_140 : decode cX7_named 140 = .ok (.iload_n 2, 1) := by decide +kernel
theorem dX7_named_141 : decode cX7_named 141 = .ok (.invokevirtual 215, 3) := by decide +kernel
theorem dX7_named_144 : decode cX7_named 144 = .ok (.aload_n 0, 1) := by decide +kernel
theorem dX7_named_145 : decode cX7_named 145 = .ok (.iconst 1, 1) := by decide +kernel
theorem dX7_named_146 : decode cX7_named 146 = .ok (.iconst 0, 1) := by decide +kernel
theorem dX7_named_147 : decode cX7_named 147 = .ok (.invokevirtual 215, 3) := by decide +kernel
theorem dX7_named_150 : decode cX7_named 150 = .ok (.return_, 1) := by decide +kernel
theorem dX7_listed_0 : decode cX7_listed 0 = .ok (.aload_n 0, 1) := by decide +kernel
theorem dX7_listed_1 : decode cX7_listed 1 = .ok (.iload_n 1, 1) := by decide +kernel
theorem dX7_listed_2 : decode cX7_listed 2 = .ok (.aload_n 0, 1) := by decide +kernel
theorem dX7_listed_3 : decode cX7_listed 3 = .ok (.invokevirtual 235, 3) := by decide +kernel
theorem dX7_listed_6 : decode cX7_listed 6 = .ok (.invokevirtual 238, 3) := by decide +kernel
theorem dX7_listed_9 : decode cX7_listed 9 = .ok (.aload_n 0, 1) := by decide +kernel
theorem dX7_listed_10 : decode cX7_listed 10 = .ok (.iload_n 1, 1) := by decide +kernel
theorem dX7_listed_11 : decode cX7_listed 11 = .ok (.iload_n 2, 1) := by decide +kernel
theorem dX7_listed_12 : decode cX7_listed 12 = .ok (.invokevirtual 241, 3) := by decide +kernel
theorem dX7_listed_15 : decode cX7_listed 15 = .ok (.return_, 1) := by decide +kernel
theorem dX7_closed_0 : decode cX7_closed 0 = .ok (.aload_n 0, 1) := by decide +kernel
theorem dX7_closed_1 : decode cX7_closed 1 = .ok (.bipush 44, 2) := by decide +kernel
theorem dX7_closed_3 : decode cX7_closed 3 = .ok (.invokevirtual 232, 3) := by decide +kernel
theorem dX7_closed_6 : decode cX7_closed 6 = .ok (.ifCond .eq 16, 3) := by decide +kernel
theorem dX7_closed_9 : decode cX7_closed 9 = .ok (.aload_n 0, 1) := by decide +kernel
theorem dX7_closed_10 : decode cX7_closed 10 = .ok (.iload_n 2, 1) := by decide +kernel
theorem dX7_closed_11 : decode cX7_closed 11 = .ok (.iload_n 1, 1) := by decide +kernel
theorem dX7_closed_12 : decode cX7_closed 12 = .ok (.invokevirtual 215, 3) := by decide +kernel
theorem dX7_closed_15 : decode cX7_closed 15 = .ok (.aload_n 0, 1) := by decide +kernel
theorem dX7_closed_16 : decode cX7_closed 16 = .ok (.iconst 1, 1) := by decide +kernel
theorem dX7_closed_17 : decode cX7_closed 17 = .ok (.iconst 0, 1) := by decide +kernel
theorem dX7_closed_18 : decode cX7_closed 18 = .ok (.invokevirtual 215, 3) := by decide +kernel
theorem dX7_closed_21 : decode cX7_closed 21 = .ok (.return_, 1) := by decide +kernel
theorem dX7_closed_22 : decode cX7_closed 22 = .ok (.aload_n 0, 1) := by decide +kernel
theorem dX7_closed_23 : decode cX7_closed 23 = .ok (.aload_n 0, 1) := by decide +kernel
theorem dX7_closed_24 : decode cX7_closed 24 = .ok (.bipush 41, 2) := by decide +kernel
theorem dX7_closed_26 : decode cX7_closed 26 = .ok (.invokevirtual 172, 3) := by decide +kernel
theorem dX7_closed_29 : decode cX7_closed 29 = .ok (.invokevirtual 191, 3) := by decide +kernel
theorem dX7_closed_32 : decode cX7_closed 32 = .ok (.aload_n 0, 1) := by decide +kernel
theorem dX7_closed_33 : decode cX7_closed 33 = .ok (.getfield 165, 3) := by decide +kernel
theorem dX7_closed_36 : decode cX7_closed 36 = .ok (.ifCond .eq 19, 3) := by decide +kernel
theorem dX7_closed_39 : decode cX7_closed 39 = .ok (.aload_n 0, 1) := by decide +kernel
theorem dX7_closed_40 : decode cX7_closed 40 = .ok (.invokevirtual 175, 3) := by decide +kernel
theorem dX7_closed_43 : decode cX7_closed 43 = .ok (.aload_n 0, 1) := by decide +kernel
theorem dX7_closed_44 : decode cX7_closed 44 = .ok (.iload_n 1, 1) := by decide +kernel
theorem dX7_closed_45 : decode cX7_closed 45 = .ok (.invokevirtual 222, 3) := by decide +kernel
theorem dX7_closed_48 : decode cX7_closed 48 = .ok (.aload_n 0, 1) := by decide +kernel
theorem dX7_closed_49 : decode cX7_closed 49 = .ok (.bipush 18, 2) := by decide +kernel
theorem dX7_closed_51 : decode cX7_closed 51 = .ok (.iconst 0, 1) := by decide +kernel
theorem dX7_closed_52 : decode cX7_closed 52 = .ok (.invokevirtual 215, 3) := by decide +kernel
theorem dX7_closed_55 : decode cX7_closed 55 = .ok (.return_, 1) := by decide +kernel
theorem dX7_operator_0 : decode cX7_operator 0 = .ok (.aload_n 0, 1) := by decide +kernel
theorem dX7_operator_1 : decode cX7_operator 1 = .ok (.iconst 5, 1) := by decide +kernel
theorem dX7_operator_2 : decode cX7_operator 2 = .ok (.iload_n 1, 1) := by decide +kernel
theorem dX7_operator_3 : decode cX7_operator 3 = .ok (.invokevirtual 211, 3) := by decide +kernel
theorem dX7_operator_6 : decode cX7_operator 6 = .ok (.istore_n 2, 1) := by decide +kernel
theorem dX7_operator_7 : decode cX7_operator 7 = .ok (.aload_n 0, 1) := by decide +kernel
theorem dX7_operator_8 : decode cX7_operator 8 = .ok (.getfield 165, 3) := by decide +kernel
theorem dX7_operator_11 : decode cX7_operator 11 = .ok (.ifCond .eq 13, 3) := by decide +kernel
theorem dX7_operator_14 : decode cX7_operator 14 = .ok (.aload_n 0, 1) := by decide +kernel
theorem dX7_operator_15 : decode cX7_operator 15 = .ok (.getfield 29, 3) := by decide +kernel
theorem dX7_operator_18 : decode cX7_operator 18 = .ok (.iload_n 2, 1) := by decide +kernel
theorem dX7_operator_19 : decode cX7_operator 19 = .ok (.aload_n 0, 1) := by decide +kernel
theorem dX7_operator_20 : decode cX7_operator 20 = .ok (.invokevirtual 235, 3) := by decide +kernel
theorem dX7_operator_23 : decode cX7_operator 23 = .ok (.iastore, 1) := by decide +kernel
theorem dX7_operator_24 : decode cX7_operator 24 = .ok (.iload_n 2, 1) := by decide +kernel
theorem dX7_operator_25 : decode cX7_operator 25 = .ok (.ireturn, 1) := by decide +kernel
theorem dX7_second_0 : decode cX7_second 0 = .ok (.aload_n 0, 1) := by decide +kernel
theorem dX7_second_1 : decode cX7_second 1 = .ok (.getfield 32, 3) := by decide +kernel
theorem dX7_second_4 : decode cX7_second 4 = .ok (.iload_n 1, 1) := by decide +kernel
theorem dX7_second_5 : decode cX7_second 5 = .ok (.aload_n 0, 1) := by decide +kernel
theorem dX7_second_6 : decode cX7_second 6 = .ok (.invokevirtual 235, 3) := by decide +kernel
theorem dX7_second_9 : decode cX7_second 9 = .ok (.iastore, 1) := by decide +kernel
theorem dX7_second_10 : decode cX7_second 10 = .ok (.aload_n 0, 1) := by decide +kernel
theorem dX7_second_11 : decode cX7_second 11 = .ok (.iload_n 1, 1) := by decide +kernel
theorem dX7_second_12 : decode cX7_second 12 = .ok (.invokevirtual 222, 3) := by decide +kernel
theorem dX7_second_15 : decode cX7_second 15 = .ok (.return_, 1) := by decide +kernel
theorem dX7_step_0 : decode cX7_step 0 = .ok (.iload_n 1, 1) := by decide +kernel
theorem dX7_step_1 : decode cX7_step 1 = .ok (.iconst 1, 1) := by decide +kernel
theorem dX7_step_2 : decode cX7_step 2 = .ok (.if_icmp .ne 10, 3) := by decide +kernel
theorem dX7_step_5 : decode cX7_step 5 = .ok (.aload_n 0, 1) := by decide +kernel
theorem dX7_step_6 : decode cX7_step 6 = .ok (.invokevirtual 244, 3) := by decide +kernel
theorem dX7_step_9 : decode cX7_step 9 = .ok (.goto 263, 3) := by decide +kernel
theorem dX7_step_12 : decode cX7_step 12 = .ok (.iload_n 1, 1) := by decide +kernel
theorem dX7_step_13 : decode cX7_step 13 = .ok (.iconst 2, 1) := by decide +kernel
theorem dX7_step_14 : decode cX7_step 14 = .ok (.if_icmp .eq 8, 3) := by decide +kernel
theorem dX7_step_17 : decode cX7_step 17 = .ok (.iload_n 1, 1) := by decide +kernel
theorem dX7_step_18 : decode cX7_step 18 = .ok (.iconst 3, 1) := by decide +kernel
theorem dX7_step_19 : decode cX7_step 19 = .ok (.if_icmp .ne 93, 3) := by decide +kernel
theorem dX7_step_22 : decode cX7_step 22 = .ok (.aload_n 0, 1) := by decide +kernel
theorem dX7_step_23 : decode cX7_step 23 = .ok (.aload_n 0, 1) := by decide +kernel
theorem dX7_step_24 : decode cX7_step 24 = .ok (.getfield 142, 3) := by decide +kernel
theorem dX7_step_27 : decode cX7_step 27 = .ok (.iconst 3, 1) := by decide +kernel
theorem dX7_step_28 : decode cX7_step 28 = .ok (.if_icmp .ne 24, 3) := by decide +kernel
theorem dX7_step_31 : decode cX7_step 31 = .ok (.aload_n 0, 1) := by decide +kernel
theorem dX7_step_32 : decode cX7_step 32 = .ok (.getfield 162, 3) := by decide +kernel
theorem dX7_step_35 : decode cX7_step 35 = .ok (.iload_n 1, 1) := by decide +kernel
theorem dX7_step_36 : decode cX7_step 36 = .ok (.iconst 2, 1) := by decide +kernel
theorem dX7_step_37 : decode cX7_step 37 = .ok (.if_icmp .ne 7, 3) := by decide +kernel
theorem dX7_step_40 : decode cX7_step 40 = .ok (.iconst 2, 1) := by decide +kernel
theorem dX7_step_41 : decode cX7_step 41 = .ok (.goto 4, 3) := by decide +kernel
theorem dX7_step_44 : decode cX7_step 44 = .ok (.iconst 3, 1) := by decide +kernel
theorem dX7_step_45 : decode cX7_step 45 = .ok (.if_icmp .ne 7, 3) := by decide +kernel
theorem dX7_step_48 : decode cX7_step 48 = .ok (.iconst 1, 1) := by decide +kernel
theorem dX7_step_49 : decode cX7_step 49 = .ok (.goto 4, 3) := by decide +kernel
theorem dX7_step_52 : decode cX7_step 52 = .ok (.iconst 0, 1) := by decide +kernel
theorem dX7_step_53 : decode cX7_step 53 = .ok (.invokevirtual 191, 3) := by decide +kernel
theorem dX7_step_56 : decode cX7_step 56 = .ok (.aload_n 0, 1) := by decide +kernel
theorem dX7_step_57 : decode cX7_step 57 = .ok (.getfield 165, 3) := by decide +kernel
theorem dX7_step_60 : decode cX7_step 60 = .ok (.ifCond .eq 212, 3) := by decide +kernel
theorem dX7_step_63 : decode cX7_step 63 = .ok (.aload_n 0, 1) := by decide +kernel
theorem dX7_step_64 : decode cX7_step 64 = .ok (.invokevirtual 175, 3) := by decide +kernel
theorem dX7_step_67 : decode cX7_step 67 = .ok (.iload_n 1, 1) := by decide +kernel
theorem dX7_step_68 : decode cX7_step 68 = .ok (.iconst 2, 1) := by decide +kernel
theorem dX7_step_69 : decode cX7_step 69 = .ok (.if_icmp .ne 16, 3) := by decide +kernel
theorem dX7_step_72 : decode cX7_step 72 = .ok (.aload_n 0, 1) := by decide +kernel
theorem dX7_step_73 : decode cX7_step 73 = .ok (.getfield 29, 3) := by decide +kernel
theorem dX7_step_76 : decode cX7_step 76 = .ok (.iload_n 2, 1) := by decide +kernel
theorem dX7_step_77 : decode cX7_step 77 = .ok (.aload_n 0, 1) := by decide +kernel
theorem dX7_step_78 : decode cX7_step 78 = .ok (.invokevirtual 235, 3) := by decide +kernel
theorem dX7_step_81 : decode cX7_step 81 = .ok (.iastore, 1) := by decide +kernel
theorem dX7_step_82 : decode cX7_step 82 = .ok (.goto 13, 3) := by decide +kernel
theorem dX7_step_85 : decode cX7_step 85 = .ok (.aload_n 0, 1) := by decide +kernel
theorem dX7_step_86 : decode cX7_step 86 = .ok (.getfield 32, 3) := by decide +kernel
theorem dX7_step_89 : decode cX7_step 89 = .ok (.iload_n 2, 1) := by decide +kernel
theorem dX7_step_90 : decode cX7_step 90 = .ok (.aload_n 0, 1) := by decide +kernel
theorem dX7_step_91 : decode cX7_step 91 = .ok (.invokevirtual 235, 3) := by decide +kernel
theorem dX7_step_94 : decode cX7_step 94 = .ok (.iastore, 1) := by decide +kernel
theorem dX7_step_95 : decode cX7_step 95 = .ok (.aload_n 0, 1) := by decide +kernel
theorem dX7_step_96 : decode cX7_step 96 = .ok (.iload_n 1, 1) := by decide +kernel
theorem dX7_step_97 : decode cX7_step 97 = .ok (.iconst 1, 1) := by decide +kernel
theorem dX7_step_98 : decode cX7_step 98 = .ok (.iadd, 1) := by decide +kernel
theorem dX7_step_99 : decode cX7_step 99 = .ok (.iload_n 2, 1) := by decide +kernel
theorem dX7_step_100 : decode cX7_step 100 = .ok (.invokevirtual 215, 3) := by decide +kernel
theorem dX7_step_103 : decode cX7_step 103 = .ok (.aload_n 0, 1) := by decide +kernel
theorem dX7_step_104 : decode cX7_step 104 = .ok (.iconst 1, 1) := by decide +kernel
theorem dX7_step_105 : decode cX7_step 105 = .ok (.iconst 0, 1) := by decide +kernel
theorem dX7_step_106 : decode cX7_step 106 = .ok (.invokevirtual 215, 3) := by decide +kernel
theorem dX7_step_109 : decode cX7_step 109 = .ok (.goto 163, 3) := by decide +kernel
theorem dX7_step_112 : decode cX7_step 112 = .ok (.iload_n 1, 1) := by decide +kernel
theorem dX7_step_113 : decode cX7_step 113 = .ok (.iconst 4, 1) := by decide +kernel
theorem dX7_step_114 : decode cX7_step 114 = .ok (.if_icmp .ne 21, 3) := by decide +kernel
theorem dX7_step_117 : decode cX7_step 117 = .ok (.aload_n 0, 1) := by decide +kernel
theorem dX7_step_118 : decode cX7_step 118 = .ok (.getfield 35, 3) := by decide +kernel
theorem dX7_step_121 : decode cX7_step 121 = .ok (.iload_n 2, 1) := by decide +kernel
theorem dX7_step_122 : decode cX7_step 122 = .ok (.aload_n 0, 1) := by decide +kernel
theorem dX7_step_123 : decode cX7_step 123 = .ok (.invokevirtual 235, 3) := by decide +kernel
theorem dX7_step_126 : decode cX7_step 126 = .ok (.iastore, 1) := by decide +kernel
theorem dX7_step_127 : decode cX7_step 127 = .ok (.aload_n 0, 1) := by decide +kernel
theorem dX7_step_128 : decode cX7_step 128 = .ok (.iload_n 2, 1) := by decide +kernel
theorem dX7_step_129 : decode cX7_step 129 = .ok (.invokevirtual 222, 3) := by decide +kernel
theorem dX7_step_132 : decode cX7_step 132 = .ok (.goto 140, 3) := by decide +kernel
theorem dX7_step_135 : decode cX7_step 135 = .ok (.iload_n 1, 1) := by decide +kernel
theorem dX7_step_136 : decode cX7_step 136 = .ok (.iconst 5, 1) := by decide +kernel
theorem dX7_step_137 : decode cX7_step 137 = .ok (.if_icmp .ne 105, 3) := by decide +kernel
theorem dX7_step_140 : decode cX7_step 140 = .ok (.aload_n 0, 1) := by decide +kernel
theorem dX7_step_141 : decode cX7_step 141 = .ok (.aload_n 0, 1) := by decide +kernel
theorem dX7_step_142 : decode cX7_step 142 = .ok (.getfield 142, 3) := by decide +kernel
theorem dX7_step_145 : decode cX7_step 145 = .ok (.iconst 3, 1) := by decide +kernel
theorem dX7_step_146 : decode cX7_step 146 = .ok (.if_icmp .ne 15, 3) := by decide +kernel
theorem dX7_step_149 : decode cX7_step 149 = .ok (.aload_n 0, 1) := by decide +kernel
theorem dX7_step_150 : decode cX7_step 150 = .ok (.getfield 162, 3) := by decide +kernel
theorem dX7_step_153 : decode cX7_step 153 = .ok (.iconst 5, 1) := by decide +kernel
theorem dX7_step_154 : decode cX7_step 154 = .ok (.if_icmp .ne 7, 3) := by decide +kernel
theorem dX7_step_157 : decode cX7_step 157 = .ok (.iconst 1, 1) := by decide +kernel
theorem dX7_step_158 : decode cX7_step 158 = .ok (.goto 4, 3) := by decide +kernel
theorem dX7_step_161 : decode cX7_step 161 = .ok (.iconst 0, 1) := by decide +kernel
theorem dX7_step_162 : decode cX7_step 162 = .ok (.invokevirtual 191, 3) := by decide +kernel
theorem dX7_step_165 : decode cX7_step 165 = .ok (.aload_n 0, 1) := by decide +kernel
theorem dX7_step_166 : decode cX7_step 166 = .ok (.getfield 165, 3) := by decide +kernel
theorem dX7_step_169 : decode cX7_step 169 = .ok (.ifCond .eq 103, 3) := by decide +kernel
theorem dX7_step_172 : decode cX7_step 172 = .ok (.aload_n 0, 1) := by decide +kernel
theorem dX7_step_173 : decode cX7_step 173 = .ok (.invokevirtual 175, 3) := by decide +kernel
theorem dX7_step_176 : decode cX7_step 176 = .ok (.aload_n 0, 1) := by decide +kernel
theorem dX7_step_177 : decode cX7_step 177 = .ok (.getfield 29, 3) := by decide +kernel
theorem dX7_step_180 : decode cX7_step 180 = .ok (.iload_n 2, 1) := by decide +kernel
theorem dX7_step_181 : decode cX7_step 181 = .ok (.aload_n 0, 1) := by decide +kernel
theorem dX7_step_182 : decode cX7_step 182 = .ok (.invokevirtual 235, 3) := by decide +kernel
theorem dX7_step_185 : decode cX7_step 185 = .ok (.iastore, 1) := by decide +kernel
theorem dX7_step_186 : decode cX7_step 186 = .ok (.aload_n 0, 1) := by decide +kernel
theorem dX7_step_187 : decode cX7_step 187 = .ok (.getfield 60, 3) := by decide +kernel
theorem dX7_step_190 : decode cX7_step 190 = .ok (.aload_n 0, 1) := by decide +kernel
theorem dX7_step_191 : decode cX7_step 191 = .ok (.getfield 208, 3) := by decide +kernel
theorem dX7_step_194 : decode cX7_step 194 = .ok (.aload_n 0, 1) := by decide +kernel
theorem dX7_step_195 : decode cX7_step 195 = .ok (.getfield 66, 3) := by decide +kernel
theorem dX7_step_198 : decode cX7_step 198 = .ok (.iload_n 2, 1) := by decide +kernel
theorem dX7_step_199 : decode cX7_step 199 = .ok (.laload, 1) := by decide +kernel
theorem dX7_step_200 : decode cX7_step 200 = .ok (.lastore, 1) := by decide +kernel
theorem dX7_step_201 : decode cX7_step 201 = .ok (.aload_n 0, 1) := by decide +kernel
theorem dX7_step_202 : decode cX7_step 202 = .ok (.getfield 63, 3) := by decide +kernel
theorem dX7_step_205 : decode cX7_step 205 = .ok (.aload_n 0, 1) := by decide +kernel
theorem dX7_step_206 : decode cX7_step 206 = .ok (.getfield 208, 3) := by decide +kernel
theorem dX7_step_209 : decode cX7_step 209 = .ok (.aload_n 0, 1) := by decide +kernel
theorem dX7_step_210 : decode cX7_step 210 = .ok (.getfield 29, 3) := by decide +kernel
theorem dX7_step_213 : decode cX7_step 213 = .ok (.iload_n 2, 1) := by decide +kernel
theorem dX7_step_214 : decode cX7_step 214 = .ok (.iaload, 1) := by decide +kernel
theorem dX7_step_215 : decode cX7_step 215 = .ok (.iastore, 1) := by decide +kernel
theorem dX7_step_216 : decode cX7_step 216 = .ok (.aload_n 0, 1) := by decide +kernel
theorem dX7_step_217 : decode cX7_step 217 = .ok (.dup, 1) := by decide +kernel
theorem dX7_step_218 : decode cX7_step 218 = .ok (.getfield 208, 3) := by decide +kernel
theorem dX7_step_221 : decode cX7_step 221 = .ok (.iconst 1, 1) := by decide +kernel
theorem dX7_step_222 : decode cX7_step 222 = .ok (.iadd, 1) := by decide +kernel
theorem dX7_step_223 : decode cX7_step 223 = .ok (.putfield 208, 3) := by decide +kernel
theorem dX7_step_226 : decode cX7_step 226 = .ok (.aload_n 0, 1) := by decide +kernel
theorem dX7_step_227 : decode cX7_step 227 = .ok (.bipush 6, 2) := by decide +kernel
theorem dX7_step_229 : decode cX7_step 229 = .ok (.iload_n 2, 1) := by decide +kernel
theorem dX7_step_230 : decode cX7_step 230 = .ok (.invokevirtual 215, 3) := by decide +kernel
theorem dX7_step_233 : decode cX7_step 233 = .ok (.aload_n 0, 1) := by decide +kernel
theorem dX7_step_234 : decode cX7_step 234 = .ok (.iconst 1, 1) := by decide +kernel
theorem dX7_step_235 : decode cX7_step 235 = .ok (.iconst 0, 1) := by decide +kernel
theorem dX7_step_236 : decode cX7_step 236 = .ok (.invokevirtual 215, 3) := by decide +kernel
theorem dX7_step_239 : decode cX7_step 239 = .ok (.goto 33, 3) := by decide +kernel
theorem dX7_step_242 : decode cX7_step 242 = .ok (.iload_n 1, 1) := by decide +kernel
theorem dX7_step_243 : decode cX7_step 243 = .ok (.bipush 6, 2) := by decide +kernel
theorem dX7_step_245 : decode cX7_step 245 = .ok (.if_icmp .ne 21, 3) := by decide +kernel
theorem dX7_step_248 : decode cX7_step 248 = .ok (.aload_n 0, 1) := by decide +kernel
theorem dX7_step_249 : decode cX7_step 249 = .ok (.dup, 1) := by decide +kernel
theorem dX7_step_250 : decode cX7_step 250 = .ok (.getfield 208, 3) := by decide +kernel
theorem dX7_step_253 : decode cX7_step 253 = .ok (.iconst 1, 1) := by decide +kernel
theorem dX7_step_254 : decode cX7_step 254 = .ok (.isub, 1) := by decide +kernel
theorem dX7_step_255 : decode cX7_step 255 = .ok (.putfield 208, 3) := by decide +kernel
theorem dX7_step_258 : decode cX7_step 258 = .ok (.aload_n 0, 1) := by decide +kernel
theorem dX7_step_259 : decode cX7_step 259 = .ok (.iload_n 2, 1) := by decide +kernel
theorem dX7_step_260 : decode cX7_step 260 = .ok (.invokevirtual 247, 3) := by decide +kernel
theorem dX7_step_263 : decode cX7_step 263 = .ok (.goto 9, 3) := by decide +kernel
theorem dX7_step_266 : decode cX7_step 266 = .ok (.aload_n 0, 1) := by decide +kernel
theorem dX7_step_267 : decode cX7_step 267 = .ok (.iload_n 1, 1) := by decide +kernel
theorem dX7_step_268 : decode cX7_step 268 = .ok (.iload_n 2, 1) := by decide +kernel
theorem dX7_step_269 : decode cX7_step 269 = .ok (.invokevirtual 250, 3) := by decide +kernel
theorem dX7_step_272 : decode cX7_step 272 = .ok (.return_, 1) := by decide +kernel
theorem dX7_more_0 : decode cX7_more 0 = .ok (.iload_n 1, 1) := by decide +kernel
theorem dX7_more_1 : decode cX7_more 1 = .ok (.bipush 7, 2) := by decide +kernel
theorem dX7_more_3 : decode cX7_more 3 = .ok (.if_icmp .ne 65, 3) := by decide +kernel
theorem dX7_more_6 : decode cX7_more 6 = .ok (.aload_n 0, 1) := by decide +kernel
theorem dX7_more_7 : decode cX7_more 7 = .ok (.bipush 60, 2) := by decide +kernel
theorem dX7_more_9 : decode cX7_more 9 = .ok (.invokevirtual 172, 3) := by decide +kernel
theorem dX7_more_12 : decode cX7_more 12 = .ok (.ifCond .ne 21, 3) := by decide +kernel
theorem dX7_more_15 : decode cX7_more 15 = .ok (.aload_n 0, 1) := by decide +kernel
theorem dX7_more_16 : decode cX7_more 16 = .ok (.bipush 61, 2) := by decide +kernel
theorem dX7_more_18 : decode cX7_more 18 = .ok (.invokevirtual 172, 3) := by decide +kernel
theorem dX7_more_21 : decode cX7_more 21 = .ok (.ifCond .ne 12, 3) := by decide +kernel
theorem dX7_more_24 : decode cX7_more 24 = .ok (.aload_n 0, 1) := by decide +kernel
theorem dX7_more_25 : decode cX7_more 25 = .ok (.bipush 62, 2) := by decide +kernel
theorem dX7_more_27 : decode cX7_more 27 = .ok (.invokevirtual 172, 3) := by decide +kernel
theorem dX7_more_30 : decode cX7_more 30 = .ok (.ifCond .eq 274, 3) := by decide +kernel
theorem dX7_more_33 : decode cX7_more 33 = .ok (.aload_n 0, 1) := by decide +kernel
theorem dX7_more_34 : decode cX7_more 34 = .ok (.aload_n 0, 1) := by decide +kernel
theorem dX7_more_35 : decode cX7_more 35 = .ok (.getfield 7, 3) := by decide +kernel
theorem dX7_more_38 : decode cX7_more 38 = .ok (.aload_n 0, 1) := by decide +kernel
theorem dX7_more_39 : decode cX7_more 39 = .ok (.getfield 132, 3) := by decide +kernel
theorem dX7_more_42 : decode cX7_more 42 = .ok (.baload, 1) := by decide +kernel
theorem dX7_more_43 : decode cX7_more 43 = .ok (.invokevirtual 253, 3) := by decide +kernel
theorem dX7_more_46 : decode cX7_more 46 = .ok (.istore_n 3, 1) := by decide +kernel
theorem dX7_more_47 : decode cX7_more 47 = .ok (.aload_n 0, 1) := by decide +kernel
theorem dX7_more_48 : decode cX7_more 48 = .ok (.invokevirtual 175, 3) := by decide +kernel
theorem dX7_more_51 : decode cX7_more 51 = .ok (.aload_n 0, 1) := by decide +kernel
theorem dX7_more_52 : decode cX7_more 52 = .ok (.bipush 8, 2) := by decide +kernel
theorem dX7_more_54 : decode cX7_more 54 = .ok (.iload_n 3, 1) := by decide +kernel
theorem dX7_more_55 : decode cX7_more 55 = .ok (.invokevirtual 215, 3) := by decide +kernel
theorem dX7_more_58 : decode cX7_more 58 = .ok (.aload_n 0, 1) := by decide +kernel
theorem dX7_more_59 : decode cX7_more 59 = .ok (.bipush 9, 2) := by decide +kernel
theorem dX7_more_61 : decode cX7_more 61 = .ok (.iconst 0, 1) := by decide +kernel
theorem dX7_more_62 : decode cX7_more 62 = .ok (.invokevirtual 215, 3) := by decide +kernel
theorem dX7_more_65 : decode cX7_more 65 = .ok (.goto 239, 3) := by decide +kernel
theorem dX7_more_68 : decode cX7_more 68 = .ok (.iload_n 1, 1) := by decide +kernel
theorem dX7_more_69 : decode cX7_more 69 = .ok (.bipush 8, 2) := by decide +kernel
theorem dX7_more_71 : decode cX7_more 71 = .ok (.if_icmp .ne 11, 3) := by decide +kernel
theorem dX7_more_74 : decode cX7_more 74 = .ok (.aload_n 0, 1) := by decide +kernel
theorem dX7_more_75 : decode cX7_more 75 = .ok (.iload_n 2, 1) := by decide +kernel
theorem dX7_more_76 : decode cX7_more 76 = .ok (.invokevirtual 247, 3) := by decide +kernel
theorem dX7_more_79 : decode cX7_more 79 = .ok (.goto 225, 3) := by decide +kernel
theorem dX7_more_82 : decode cX7_more 82 = .ok (.iload_n 1, 1) := by decide +kernel
theorem dX7_more_83 : decode cX7_more 83 = .ok (.bipush 9, 2) := by decide +kernel
theorem dX7_more_85 : decode cX7_more 85 = .ok (.if_icmp .eq 9, 3) := by decide +kernel
theorem dX7_more_88 : decode cX7_more 88 = .ok (.iload_n 1, 1) := by decide +kernel
theorem dX7_more_89 : decode cX7_more 89 = .ok (.bipush 12, 2) := by decide +kernel
theorem dX7_more_91 : decode cX7_more 91 = .ok (.if_icmp .ne 42, 3) := by decide +kernel
theorem dX7_more_94 : decode cX7_more 94 = .ok (.aload_n 0, 1) := by decide +kernel
theorem dX7_more_95 : decode cX7_more 95 = .ok (.iload_n 1, 1) := by decide +kernel
theorem dX7_more_96 : decode cX7_more 96 = .ok (.bipush 9, 2) := by decide +kernel
theorem dX7_more_98 : decode cX7_more 98 = .ok (.if_icmp .ne 8, 3) := by decide +kernel
theorem dX7_more_101 : decode cX7_more 101 = .ok (.bipush 10, 2) := by decide +kernel
theorem dX7_more_103 : decode cX7_more 103 = .ok (.goto 5, 3) := by decide +kernel
theorem dX7_more_106 : decode cX7_more 106 = .ok (.bipush 13, 2) := by decide +kernel
theorem dX7_more_108 : decode cX7_more 108 = .ok (.iconst 0, 1) := by decide +kernel
theorem dX7_more_109 : decode cX7_more 109 = .ok (.invokevirtual 215, 3) := by decide +kernel
theorem dX7_more_112 : decode cX7_more 112 = .ok (.aload_n 0, 1) := by decide +kernel
theorem dX7_more_113 : decode cX7_more 113 = .ok (.iload_n 1, 1) := by decide +kernel
theorem dX7_more_114 : decode cX7_more 114 = .ok (.bipush 9, 2) := by decide +kernel
theorem dX7_more_116 : decode cX7_more 116 = .ok (.if_icmp .ne 8, 3) := by decide +kernel
theorem dX7_more_119 : decode cX7_more 119 = .ok (.bipush 12, 2) := by decide +kernel
theorem dX7_more_121 : decode cX7_more 121 = .ok (.goto 5, 3) := by decide +kernel
theorem dX7_more_124 : decode cX7_more 124 = .ok (.bipush 15, 2) := by decide +kernel
theorem dX7_more_126 : decode cX7_more 126 = .ok (.iconst 0, 1) := by decide +kernel
theorem dX7_more_127 : decode cX7_more 127 = .ok (.invokevirtual 215, 3) := by decide +kernel
theorem dX7_more_130 : decode cX7_more 130 = .ok (.goto 174, 3) := by decide +kernel
theorem dX7_more_133 : decode cX7_more 133 = .ok (.iload_n 1, 1) := by decide +kernel
theorem dX7_more_134 : decode cX7_more 134 = .ok (.bipush 10, 2) := by decide +kernel
theorem dX7_more_136 : decode cX7_more 136 = .ok (.if_icmp .ne 56, 3) := by decide +kernel
theorem dX7_more_139 : decode cX7_more 139 = .ok (.aload_n 0, 1) := by decide +kernel
theorem dX7_more_140 : decode cX7_more 140 = .ok (.bipush 43, 2) := by decide +kernel
theorem dX7_more_142 : decode cX7_more 142 = .ok (.invokevirtual 172, 3) := by decide +kernel
theorem dX7_more_145 : decode cX7_more 145 = .ok (.ifCond .ne 12, 3) := by decide +kernel
theorem dX7_more_148 : decode cX7_more 148 = .ok (.aload_n 0, 1) := by decide +kernel
theorem dX7_more_149 : decode cX7_more 149 = .ok (.bipush 45, 2) := by decide +kernel
theorem dX7_more_151 : decode cX7_more 151 = .ok (.invokevirtual 172, 3) := by decide +kernel
theorem dX7_more_154 : decode cX7_more 154 = .ok (.ifCond .eq 150, 3) := by decide +kernel
theorem dX7_more_157 : decode cX7_more 157 = .ok (.aload_n 0, 1) := by decide +kernel
theorem dX7_more_158 : decode cX7_more 158 = .ok (.aload_n 0, 1) := by decide +kernel
theorem dX7_more_159 : decode cX7_more 159 = .ok (.getfield 7, 3) := by decide +kernel
theorem dX7_more_162 : decode cX7_more 162 = .ok (.aload_n 0, 1) := by decide +kernel
theorem dX7_more_163 : decode cX7_more 163 = .ok (.getfield 132, 3) := by decide +kernel
theorem dX7_more_166 : decode cX7_more 166 = .ok (.baload, 1) := by decide +kernel
theorem dX7_more_167 : decode cX7_more 167 = .ok (.invokevirtual 253, 3) := by decide +kernel
theorem dX7_more_170 : decode cX7_more 170 = .ok (.istore_n 3, 1) := by decide +kernel
theorem dX7_more_171 : decode cX7_more 171 = .ok (.aload_n 0, 1) := by decide +kernel
theorem dX7_more_172 : decode cX7_more 172 = .ok (.invokevirtual 175, 3) := by decide +kernel
theorem dX7_more_175 : decode cX7_more 175 = .ok (.aload_n 0, 1) := by decide +kernel
theorem dX7_more_176 : decode cX7_more 176 = .ok (.bipush 11, 2) := by decide +kernel
theorem dX7_more_178 : decode cX7_more 178 = .ok (.iload_n 3, 1) := by decide +kernel
theorem dX7_more_179 : decode cX7_more 179 = .ok (.invokevirtual 215, 3) := by decide +kernel
theorem dX7_more_182 : decode cX7_more 182 = .ok (.aload_n 0, 1) := by decide +kernel
theorem dX7_more_183 : decode cX7_more 183 = .ok (.bipush 12, 2) := by decide +kernel
theorem dX7_more_185 : decode cX7_more 185 = .ok (.iconst 0, 1) := by decide +kernel
theorem dX7_more_186 : decode cX7_more 186 = .ok (.invokevirtual 215, 3) := by decide +kernel
theorem dX7_more_189 : decode cX7_more 189 = .ok (.goto 115, 3) := by decide +kernel
theorem dX7_more_192 : decode cX7_more 192 = .ok (.iload_n 1, 1) := by decide +kernel
theorem dX7_more_193 : decode cX7_more 193 = .ok (.bipush 13, 2) := by decide +kernel
theorem dX7_more_195 : decode cX7_more 195 = .ok (.if_icmp .ne 65, 3) := by decide +kernel
theorem dX7_more_198 : decode cX7_more 198 = .ok (.aload_n 0, 1) := by decide +kernel
theorem dX7_more_199 : decode cX7_more 199 = .ok (.bipush 42, 2) := by decide +kernel
theorem dX7_more_201 : decode cX7_more 201 = .ok (.invokevirtual 172, 3) := by decide +kernel
theorem dX7_more_204 : decode cX7_more 204 = .ok (.ifCond .ne 21, 3) := by decide +kernel
theorem dX7_more_207 : decode cX7_more 207 = .ok (.aload_n 0, 1) := by decide +kernel
theorem dX7_more_208 : decode cX7_more 208 = .ok (.bipush 47, 2) := by decide +kernel
theorem dX7_more_210 : decode cX7_more 210 = .ok (.invokevirtual 172, 3) := by decide +kernel
theorem dX7_more_213 : decode cX7_more 213 = .ok (.ifCond .ne 12, 3) := by decide +kernel
theorem dX7_more_216 : decode cX7_more 216 = .ok (.aload_n 0, 1) := by decide +kernel
theorem dX7_more_217 : decode cX7_more 217 = .ok (.bipush 37, 2) := by decide +kernel
theorem dX7_more_219 : decode cX7_more 219 = .ok (.invokevirtual 172, 3) := by decide +kernel
theorem dX7_more_222 : decode cX7_more 222 = .ok (.ifCond .eq 82, 3) := by decide +kernel
theorem dX7_more_225 : decode cX7_more 225 = .ok (.aload_n 0, 1) := by decide +kernel
theorem dX7_more_226 : decode cX7_more 226 = .ok (.aload_n 0, 1) := by decide +kernel
theorem dX7_more_227 : decode cX7_more 227 = .ok (.getfield 7, 3) := by decide +kernel
theorem dX7_more_230 : decode cX7_more 230 = .ok (.aload_n 0, 1) := by decide +kernel
theorem dX7_more_231 : decode cX7_more 231 = .ok (.getfield 132, 3) := by decide +kernel
theorem dX7_more_234 : decode cX7_more 234 = .ok (.baload, 1) := by decide +kernel
theorem dX7_more_235 : decode cX7_more 235 = .ok (.invokevirtual 253, 3) := by decide +kernel
theorem dX7_more_238 : decode cX7_more 238 = .ok (.istore_n 3, 1) := by decide +kernel
theorem dX7_more_239 : decode cX7_more 239 = .ok (.aload_n 0, 1) := by decide +kernel
theorem dX7_more_240 : decode cX7_more 240 = .ok (.invokevirtual 175, 3) := by decide +kernel
theorem dX7_more_243 : decode cX7_more 243 = .ok (.aload_n 0, 1) := by decide +kernel
theorem dX7_more_244 : decode cX7_more 244 = .ok (.bipush 14, 2) := by decide +kernel
theorem dX7_more_246 : decode cX7_more 246 = .ok (.iload_n 3, 1) := by decide +kernel
theorem dX7_more_247 : decode cX7_more 247 = .ok (.invokevirtual 215, 3) := by decide +kernel
theorem dX7_more_250 : decode cX7_more 250 = .ok (.aload_n 0, 1) := by decide +kernel
theorem dX7_more_251 : decode cX7_more 251 = .ok (.bipush 15, 2) := by decide +kernel
theorem dX7_more_253 : decode cX7_more 253 = .ok (.iconst 0, 1) := by decide +kernel
theorem dX7_more_254 : decode cX7_more 254 = .ok (.invokevirtual 215, 3) := by decide +kernel
theorem dX7_more_257 : decode cX7_more 257 = .ok (.goto 47, 3) := by decide +kernel
theorem dX7_more_260 : decode cX7_more 260 = .ok (.iload_n 1, 1) := by decide +kernel
theorem dX7_more_261 : decode cX7_more 261 = .ok (.bipush 11, 2) := by decide +kernel
theorem dX7_more_263 : decode cX7_more 263 = .ok (.if_icmp .eq 9, 3) := by decide +kernel
theorem dX7_more_266 : decode cX7_more 266 = .ok (.iload_n 1, 1) := by decide +kernel
theorem dX7_more_267 : decode cX7_more 267 = .ok (.bipush 14, 2) := by decide +kernel
theorem dX7_more_269 : decode cX7_more 269 = .ok (.if_icmp .ne 29, 3) := by decide +kernel
theorem dX7_more_272 : decode cX7_more 272 = .ok (.aload_n 0, 1) := by decide +kernel
theorem dX7_more_273 : decode cX7_more 273 = .ok (.iload_n 2, 1) := by decide +kernel
theorem dX7_more_274 : decode cX7_more 274 = .ok (.invokevirtual 247, 3) := by decide +kernel
theorem dX7_more_277 : decode cX7_more 277 = .ok (.aload_n 0, 1) := by decide +kernel
theorem dX7_more_278 : decode cX7_more 278 = .ok (.iload_n 1, 1) := by decide +kernel
theorem dX7_more_279 : decode cX7_more 279 = .ok (.bipush 11, 2) := by decide +kernel
theorem dX7_more_281 : decode cX7_more 281 = .ok (.if_icmp .ne 8, 3) := by decide +kernel
theorem dX7_more_284 : decode cX7_more 284 = .ok (.bipush 10, 2) := by decide +kernel
theorem dX7_more_286 : decode cX7_more 286 = .ok (.goto 5, 3) := by decide +kernel
theorem dX7_more_289 : decode cX7_more 289 = .ok (.bipush 13, 2) := by decide +kernel
theorem dX7_more_291 : decode cX7_more 291 = .ok (.iconst 0, 1) := by decide +kernel
theorem dX7_more_292 : decode cX7_more 292 = .ok (.invokevirtual 215, 3) := by decide +kernel
theorem dX7_more_295 : decode cX7_more 295 = .ok (.goto 9, 3) := by decide +kernel
theorem dX7_more_298 : decode cX7_more 298 = .ok (.aload_n 0, 1) := by decide +kernel
theorem dX7_more_299 : decode cX7_more 299 = .ok (.iload_n 1, 1) := by decide +kernel
theorem dX7_more_300 : decode cX7_more 300 = .ok (.iload_n 2, 1) := by decide +kernel
theorem dX7_more_301 : decode cX7_more 301 = .ok (.invokevirtual 257, 3) := by decide +kernel
theorem dX7_more_304 : decode cX7_more 304 = .ok (.return_, 1) := by decide +kernel
theorem dX7_rest_0 : decode cX7_rest 0 = .ok (.iload_n 1, 1) := by decide +kernel
theorem dX7_rest_1 : decode cX7_rest 1 = .ok (.bipush 15, 2) := by decide +kernel
theorem dX7_rest_3 : decode cX7_rest 3 = .ok (.if_icmp .ne 10, 3) := by decide +kernel
theorem dX7_rest_6 : decode cX7_rest 6 = .ok (.aload_n 0, 1) := by decide +kernel
theorem dX7_rest_7 : decode cX7_rest 7 = .ok (.invokevirtual 260, 3) := by decide +kernel
theorem dX7_rest_10 : decode cX7_rest 10 = .ok (.goto 273, 3) := by decide +kernel
theorem dX7_rest_13 : decode cX7_rest 13 = .ok (.iload_n 1, 1) := by decide +kernel
theorem dX7_rest_14 : decode cX7_rest 14 = .ok (.bipush 16, 2) := by decide +kernel
theorem dX7_rest_16 : decode cX7_rest 16 = .ok (.if_icmp .ne 21, 3) := by decide +kernel
theorem dX7_rest_19 : decode cX7_rest 19 = .ok (.aload_n 0, 1) := by decide +kernel
theorem dX7_rest_20 : decode cX7_rest 20 = .ok (.getfield 29, 3) := by decide +kernel
theorem dX7_rest_23 : decode cX7_rest 23 = .ok (.iload_n 2, 1) := by decide +kernel
theorem dX7_rest_24 : decode cX7_rest 24 = .ok (.aload_n 0, 1) := by decide +kernel
theorem dX7_rest_25 : decode cX7_rest 25 = .ok (.invokevirtual 235, 3) := by decide +kernel
theorem dX7_rest_28 : decode cX7_rest 28 = .ok (.iastore, 1) := by decide +kernel
theorem dX7_rest_29 : decode cX7_rest 29 = .ok (.aload_n 0, 1) := by decide +kernel
theorem dX7_rest_30 : decode cX7_rest 30 = .ok (.iload_n 2, 1) := by decide +kernel
theorem dX7_rest_31 : decode cX7_rest 31 = .ok (.invokevirtual 222, 3) := by decide +kernel
theorem dX7_rest_34 : decode cX7_rest 34 = .ok (.goto 249, 3) := by decide +kernel
theorem dX7_rest_37 : decode cX7_rest 37 = .ok (.iload_n 1, 1) := by decide +kernel
theorem dX7_rest_38 : decode cX7_rest 38 = .ok (.bipush 17, 2) := by decide +kernel
theorem dX7_rest_40 : decode cX7_rest 40 = .ok (.if_icmp .eq 9, 3) := by decide +kernel
theorem dX7_rest_43 : decode cX7_rest 43 = .ok (.iload_n 1, 1) := by decide +kernel
theorem dX7_rest_44 : decode cX7_rest 44 = .ok (.bipush 19, 2) := by decide +kernel
theorem dX7_rest_46 : decode cX7_rest 46 = .ok (.if_icmp .ne 69, 3) := by decide +kernel
theorem dX7_rest_49 : decode cX7_rest 49 = .ok (.aload_n 0, 1) := by decide +kernel
theorem dX7_rest_50 : decode cX7_rest 50 = .ok (.aload_n 0, 1) := by decide +kernel
theorem dX7_rest_51 : decode cX7_rest 51 = .ok (.iload_n 1, 1) := by decide +kernel
theorem dX7_rest_52 : decode cX7_rest 52 = .ok (.bipush 17, 2) := by decide +kernel
theorem dX7_rest_54 : decode cX7_rest 54 = .ok (.if_icmp .ne 8, 3) := by decide +kernel
theorem dX7_rest_57 : decode cX7_rest 57 = .ok (.bipush 41, 2) := by decide +kernel
theorem dX7_rest_59 : decode cX7_rest 59 = .ok (.goto 5, 3) := by decide +kernel
theorem dX7_rest_62 : decode cX7_rest 62 = .ok (.bipush 93, 2) := by decide +kernel
theorem dX7_rest_64 : decode cX7_rest 64 = .ok (.invokevirtual 172, 3) := by decide +kernel
theorem dX7_rest_67 : decode cX7_rest 67 = .ok (.invokevirtual 191, 3) := by decide +kernel
theorem dX7_rest_70 : decode cX7_rest 70 = .ok (.aload_n 0, 1) := by decide +kernel
theorem dX7_rest_71 : decode cX7_rest 71 = .ok (.getfield 165, 3) := by decide +kernel
theorem dX7_rest_74 : decode cX7_rest 74 = .ok (.ifCond .eq 209, 3) := by decide +kernel
theorem dX7_rest_77 : decode cX7_rest 77 = .ok (.aload_n 0, 1) := by decide +kernel
theorem dX7_rest_78 : decode cX7_rest 78 = .ok (.invokevirtual 175, 3) := by decide +kernel
theorem dX7_rest_81 : decode cX7_rest 81 = .ok (.iload_n 1, 1) := by decide +kernel
theorem dX7_rest_82 : decode cX7_rest 82 = .ok (.bipush 19, 2) := by decide +kernel
theorem dX7_rest_84 : decode cX7_rest 84 = .ok (.if_icmp .ne 11, 3) := by decide +kernel
theorem dX7_rest_87 : decode cX7_rest 87 = .ok (.aload_n 0, 1) := by decide +kernel
theorem dX7_rest_88 : decode cX7_rest 88 = .ok (.iload_n 2, 1) := by decide +kernel
theorem dX7_rest_89 : decode cX7_rest 89 = .ok (.invokevirtual 247, 3) := by decide +kernel
theorem dX7_rest_92 : decode cX7_rest 92 = .ok (.goto 13, 3) := by decide +kernel
theorem dX7_rest_95 : decode cX7_rest 95 = .ok (.aload_n 0, 1) := by decide +kernel
theorem dX7_rest_96 : decode cX7_rest 96 = .ok (.dup, 1) := by decide +kernel
theorem dX7_rest_97 : decode cX7_rest 97 = .ok (.getfield 219, 3) := by decide +kernel
theorem dX7_rest_100 : decode cX7_rest 100 = .ok (.iconst 1, 1) := by decide +kernel
theorem dX7_rest_101 : decode cX7_rest 101 = .ok (.isub, 1) := by decide +kernel
theorem dX7_rest_102 : decode cX7_rest 102 = .ok (.putfield 219, 3) := by decide +kernel
theorem dX7_rest_105 : decode cX7_rest 105 = .ok (.aload_n 0, 1) := by decide +kernel
theorem dX7_rest_106 : decode cX7_rest 106 = .ok (.bipush 18, 2) := by decide +kernel
theorem dX7_rest_108 : decode cX7_rest 108 = .ok (.iconst 0, 1) := by decide +kernel
theorem dX7_rest_109 : decode cX7_rest 109 = .ok (.invokevirtual 215, 3) := by decide +kernel
theorem dX7_rest_112 : decode cX7_rest 112 = .ok (.goto 171, 3) := by decide +kernel
theorem dX7_rest_115 : decode cX7_rest 115 = .ok (.iload_n 1, 1) := by decide +kernel
theorem dX7_rest_116 : decode cX7_rest 116 = .ok (.bipush 18, 2) := by decide +kernel
theorem dX7_rest_118 : decode cX7_rest 118 = .ok (.if_icmp .ne 57, 3) := by decide +kernel
theorem dX7_rest_121 : decode cX7_rest 121 = .ok (.aload_n 0, 1) := by decide +kernel
theorem dX7_rest_122 : decode cX7_rest 122 = .ok (.bipush 91, 2) := by decide +kernel
theorem dX7_rest_124 : decode cX7_rest 124 = .ok (.invokevirtual 172, 3) := by decide +kernel
theorem dX7_rest_127 : decode cX7_rest 127 = .ok (.ifCond .eq 156, 3) := by decide +kernel
theorem dX7_rest_130 : decode cX7_rest 130 = .ok (.aload_n 0, 1) := by decide +kernel
theorem dX7_rest_131 : decode cX7_rest 131 = .ok (.bipush 10, 2) := by decide +kernel
theorem dX7_rest_133 : decode cX7_rest 133 = .ok (.iconst 0, 1) := by decide +kernel
theorem dX7_rest_134 : decode cX7_rest 134 = .ok (.invokevirtual 211, 3) := by decide +kernel
theorem dX7_rest_137 : decode cX7_rest 137 = .ok (.istore_n 3, 1) := by decide +kernel
theorem dX7_rest_138 : decode cX7_rest 138 = .ok (.aload_n 0, 1) := by decide +kernel
theorem dX7_rest_139 : decode cX7_rest 139 = .ok (.getfield 165, 3) := by decide +kernel
theorem dX7_rest_142 : decode cX7_rest 142 = .ok (.ifCond .eq 13, 3) := by decide +kernel
theorem dX7_rest_145 : decode cX7_rest 145 = .ok (.aload_n 0, 1) := by decide +kernel
theorem dX7_rest_146 : decode cX7_rest 146 = .ok (.getfield 29, 3) := by decide +kernel
theorem dX7_rest_149 : decode cX7_rest 149 = .ok (.iload_n 3, 1) := by decide +kernel
theorem dX7_rest_150 : decode cX7_rest 150 = .ok (.aload_n 0, 1) := by decide +kernel
theorem dX7_rest_151 : decode cX7_rest 151 = .ok (.invokevirtual 235, 3) := by decide +kernel
theorem dX7_rest_154 : decode cX7_rest 154 = .ok (.iastore, 1) := by decide +kernel
theorem dX7_rest_155 : decode cX7_rest 155 = .ok (.aload_n 0, 1) := by decide +kernel
theorem dX7_rest_156 : decode cX7_rest 156 = .ok (.invokevirtual 175, 3) := by decide +kernel
theorem dX7_rest_159 : decode cX7_rest 159 = .ok (.aload_n 0, 1) := by decide +kernel
theorem dX7_rest_160 : decode cX7_rest 160 = .ok (.bipush 19, 2) := by decide +kernel
theorem dX7_rest_162 : decode cX7_rest 162 = .ok (.iload_n 3, 1) := by decide +kernel
theorem dX7_rest_163 : decode cX7_rest 163 = .ok (.invokevirtual 215, 3) := by decide +kernel
theorem dX7_rest_166 : decode cX7_rest 166 = .ok (.aload_n 0, 1) := by decide +kernel
theorem dX7_rest_167 : decode cX7_rest 167 = .ok (.iconst 1, 1) := by decide +kernel
theorem dX7_rest_168 : decode cX7_rest 168 = .ok (.iconst 0, 1) := by decide +kernel
theorem dX7_rest_169 : decode cX7_rest 169 = .ok (.invokevirtual 215, 3) := by decide +kernel
theorem dX7_rest_172 : decode cX7_rest 172 = .ok (.goto 111, 3) := by decide +kernel
theorem dX7_rest_175 : decode cX7_rest 175 = .ok (.iload_n 1, 1) := by decide +kernel
theorem dX7_rest_176 : decode cX7_rest 176 = .ok (.bipush 20, 2) := by decide +kernel
theorem dX7_rest_178 : decode cX7_rest 178 = .ok (.if_icmp .ne 99, 3) := by decide +kernel
theorem dX7_rest_181 : decode cX7_rest 181 = .ok (.aload_n 0, 1) := by decide +kernel
theorem dX7_rest_182 : decode cX7_rest 182 = .ok (.aload_n 0, 1) := by decide +kernel
theorem dX7_rest_183 : decode cX7_rest 183 = .ok (.bipush 44, 2) := by decide +kernel
theorem dX7_rest_185 : decode cX7_rest 185 = .ok (.invokevirtual 172, 3) := by decide +kernel
theorem dX7_rest_188 : decode cX7_rest 188 = .ok (.invokevirtual 191, 3) := by decide +kernel
theorem dX7_rest_191 : decode cX7_rest 191 = .ok (.aload_n 0, 1) := by decide +kernel
theorem dX7_rest_192 : decode cX7_rest 192 = .ok (.getfield 165, 3) := by decide +kernel
theorem dX7_rest_195 : decode cX7_rest 195 = .ok (.ifCond .eq 34, 3) := by decide +kernel
theorem dX7_rest_198 : decode cX7_rest 198 = .ok (.aload_n 0, 1) := by decide +kernel
theorem dX7_rest_199 : decode cX7_rest 199 = .ok (.getfield 29, 3) := by decide +kernel
theorem dX7_rest_202 : decode cX7_rest 202 = .ok (.iload_n 2, 1) := by decide +kernel
theorem dX7_rest_203 : decode cX7_rest 203 = .ok (.aload_n 0, 1) := by decide +kernel
theorem dX7_rest_204 : decode cX7_rest 204 = .ok (.invokevirtual 235, 3) := by decide +kernel
theorem dX7_rest_207 : decode cX7_rest 207 = .ok (.iastore, 1) := by decide +kernel
theorem dX7_rest_208 : decode cX7_rest 208 = .ok (.aload_n 0, 1) := by decide +kernel
theorem dX7_rest_209 : decode cX7_rest 209 = .ok (.invokevirtual 175, 3) := by decide +kernel
theorem dX7_rest_212 : decode cX7_rest 212 = .ok (.aload_n 0, 1) := by decide +kernel
theorem dX7_rest_213 : decode cX7_rest 213 = .ok (.aload_n 0, 1) := by decide +kernel
theorem dX7_rest_214 : decode cX7_rest 214 = .ok (.getfield 142, 3) := by decide +kernel
theorem dX7_rest_217 : decode cX7_rest 217 = .ok (.iconst 1, 1) := by decide +kernel
theorem dX7_rest_218 : decode cX7_rest 218 = .ok (.if_icmp .ne 7, 3) := by decide +kernel
theorem dX7_rest_221 : decode cX7_rest 221 = .ok (.iconst 1, 1) := by decide +kernel
theorem dX7_rest_222 : decode cX7_rest 222 = .ok (.goto 4, 3) := by decide +kernel
theorem dX7_rest_225 : decode cX7_rest 225 = .ok (.iconst 0, 1) := by decide +kernel
theorem dX7_rest_226 : decode cX7_rest 226 = .ok (.invokevirtual 191, 3) := by decide +kernel
theorem dX7_rest_229 : decode cX7_rest 229 = .ok (.aload_n 0, 1) := by decide +kernel
theorem dX7_rest_230 : decode cX7_rest 230 = .ok (.getfield 165, 3) := by decide +kernel
theorem dX7_rest_233 : decode cX7_rest 233 = .ok (.ifCond .eq 50, 3) := by decide +kernel
theorem dX7_rest_236 : decode cX7_rest 236 = .ok (.aload_n 0, 1) := by decide +kernel
theorem dX7_rest_237 : decode cX7_rest 237 = .ok (.getfield 44, 3) := by decide +kernel
theorem dX7_rest_240 : decode cX7_rest 240 = .ok (.iload_n 2, 1) := by decide +kernel
theorem dX7_rest_241 : decode cX7_rest 241 = .ok (.aload_n 0, 1) := by decide +kernel
theorem dX7_rest_242 : decode cX7_rest 242 = .ok (.getfield 132, 3) := by decide +kernel
theorem dX7_rest_245 : decode cX7_rest 245 = .ok (.iastore, 1) := by decide +kernel
theorem dX7_rest_246 : decode cX7_rest 246 = .ok (.aload_n 0, 1) := by decide +kernel
theorem dX7_rest_247 : decode cX7_rest 247 = .ok (.getfield 66, 3) := by decide +kernel
theorem dX7_rest_250 : decode cX7_rest 250 = .ok (.iload_n 2, 1) := by decide +kernel
theorem dX7_rest_251 : decode cX7_rest 251 = .ok (.aload_n 0, 1) := by decide +kernel
theorem dX7_rest_252 : decode cX7_rest 252 = .ok (.invokevirtual 204, 3) := by decide +kernel
theorem dX7_rest_255 : decode cX7_rest 255 = .ok (.lastore, 1) := by decide +kernel
