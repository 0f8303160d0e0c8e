theorem dX12_init_0 : decode cX12_init 0 = .ok (.aload_n 0, 1) := by decide +kernel
theorem dX12_init_1 : decode cX12_init 1 = .ok (.invokespecial 1, 3) := by decide +kernel
theorem dX12_init_4 : decode cX12_init 4 = .ok (.aload_n 0, 1) := by decide +kernel
theorem dX12_init_5 : decode cX12_init 5 = .ok (.sipush 1600, 3) := by decide +kernel
theorem dX12_init_8 : decode cX12_init 8 = .ok (.newarray .int, 2) := by decide +kernel
theorem dX12_init_10 : decode cX12_init 10 = .ok (.putfield 7, 3) := by decide +kernel
theorem dX12_init_13 : decode cX12_init 13 = .ok (.aload_n 0, 1) := by decide +kernel
theorem dX12_init_14 : decode cX12_init 14 = .ok (.iconst (-1), 1) := by decide +kernel
theorem dX12_init_15 : decode cX12_init 15 = .ok (.putfield 13, 3) := by decide +kernel
theorem dX12_init_18 : decode cX12_init 18 = .ok (.aload_n 0, 1) := by decide +kernel
theorem dX12_init_19 : decode cX12_init 19 = .ok (.bipush 19, 2) := by decide +kernel
theorem dX12_init_21 : decode cX12_init 21 = .ok (.newarray .long, 2) := by decide +kernel
theorem dX12_init_23 : decode cX12_init 23 = .ok (.putfield 17, 3) := by decide +kernel
theorem dX12_init_26 : decode cX12_init 26 = .ok (.aload_n 0, 1) := by decide +kernel
theorem dX12_init_27 : decode cX12_init 27 = .ok (.sipush 320, 3) := by decide +kernel
theorem dX12_init_30 : decode cX12_init 30 = .ok (.newarray .int, 2) := by decide +kernel
theorem dX12_init_32 : decode cX12_init 32 = .ok (.putfield 21, 3) := by decide +kernel
theorem dX12_init_35 : decode cX12_init 35 = .ok (.aload_n 0, 1) := by decide +kernel
theorem dX12_init_36 : decode cX12_init 36 = .ok (.sipush 320, 3) := by decide +kernel
theorem dX12_init_39 : decode cX12_init 39 = .ok (.newarray .int, 2) := by decide +kernel
theorem dX12_init_41 : decode cX12_init 41 = .ok (.putfield 24, 3) := by decide +kernel
theorem dX12_init_44 : decode cX12_init 44 = .ok (.aload_n 0, 1) := by decide +kernel
theorem dX12_init_45 : decode cX12_init 45 = .ok (.sipush 320, 3) := by decide +kernel
theorem dX12_init_48 : decode cX12_init 48 = .ok (.newarray .int, 2) := by decide +kernel
theorem dX12_init_50 : decode cX12_init 50 = .ok (.putfield 27, 3) := by decide +kernel
theorem dX12_init_53 : decode cX12_init 53 = .ok (.aload_n 0, 1) := by decide +kernel
theorem dX12_init_54 : decode cX12_init 54 = .ok (.sipush 320, 3) := by decide +kernel
theorem dX12_init_57 : decode cX12_init 57 = .ok (.newarray .int, 2) := by decide +kernel
theorem dX12_init_59 : decode cX12_init 59 = .ok (.putfield 30, 3) := by decide +kernel
theorem dX12_init_62 : decode cX12_init 62 = .ok (.aload_n 0, 1) := by decide +kernel
theorem dX12_init_63 : decode cX12_init 63 = .ok (.sipush 160, 3) := by decide +kernel
theorem dX12_init_66 : decode cX12_init 66 = .ok (.newarray .int, 2) := by decide +kernel
theorem dX12_init_68 : decode cX12_init 68 = .ok (.putfield 33, 3) := by decide +kernel
theorem dX12_init_71 : decode cX12_init 71 = .ok (.aload_n 0, 1) := by decide +kernel
theorem dX12_init_72 : decode cX12_init 72 = .ok (.bipush 64, 2) := by decide +kernel
theorem dX12_init_74 : decode cX12_init 74 = .ok (.newarray .int, 2) := by decide +kernel
theorem dX12_init_76 : decode cX12_init 76 = .ok (.putfield 36, 3) := by decide +kernel
theorem dX12_init_79 : decode cX12_init 79 = .ok (.aload_n 0, 1) := by decide +kernel
theorem dX12_init_80 : decode cX12_init 80 = .ok (.iconst 5, 1) := by decide +kernel
theorem dX12_init_81 : decode cX12_init 81 = .ok (.newarray .int, 2) := by decide +kernel
theorem dX12_init_83 : decode cX12_init 83 = .ok (.putfield 39, 3) := by decide +kernel
theorem dX12_init_86 : decode cX12_init 86 = .ok (.aload_n 0, 1) := by decide +kernel
theorem dX12_init_87 : decode cX12_init 87 = .ok (.iconst 4, 1) := by decide +kernel
theorem dX12_init_88 : decode cX12_init 88 = .ok (.newarray .int, 2) := by decide +kernel
theorem dX12_init_90 : decode cX12_init 90 = .ok (.putfield 42, 3) := by decide +kernel
theorem dX12_init_93 : decode cX12_init 93 = .ok (.aload_n 0, 1) := by decide +kernel
theorem dX12_init_94 : decode cX12_init 94 = .ok (.iconst 4, 1) := by decide +kernel
theorem dX12_init_95 : decode cX12_init 95 = .ok (.newarray .int, 2) := by decide +kernel
theorem dX12_init_97 : decode cX12_init 97 = .ok (.putfield 45, 3) := by decide +kernel
theorem dX12_init_100 : decode cX12_init 100 = .ok (.aload_n 0, 1) := by decide +kernel
theorem dX12_init_101 : decode cX12_init 101 = .ok (.bipush 12, 2) := by decide +kernel
theorem dX12_init_103 : decode cX12_init 103 = .ok (.newarray .int, 2) := by decide +kernel
theorem dX12_init_105 : decode cX12_init 105 = .ok (.putfield 48, 3) := by decide +kernel
theorem dX12_init_108 : decode cX12_init 108 = .ok (.aload_n 0, 1) := by decide +kernel
theorem dX12_init_109 : decode cX12_init 109 = .ok (.bipush 12, 2) := by decide +kernel
theorem dX12_init_111 : decode cX12_init 111 = .ok (.newarray .int, 2) := by decide +kernel
theorem dX12_init_113 : decode cX12_init 113 = .ok (.putfield 51, 3) := by decide +kernel
theorem dX12_init_116 : decode cX12_init 116 = .ok (.aload_n 0, 1) := by decide +kernel
theorem dX12_init_117 : decode cX12_init 117 = .ok (.bipush 12, 2) := by decide +kernel
theorem dX12_init_119 : decode cX12_init 119 = .ok (.newarray .int, 2) := by decide +kernel
theorem dX12_init_121 : decode cX12_init 121 = .ok (.putfield 54, 3) := by decide +kernel
theorem dX12_init_124 : decode cX12_init 124 = .ok (.aload_n 0, 1) := by decide +kernel
theorem dX12_init_125 : decode cX12_init 125 = .ok (.bipush 12, 2) := by decide +kernel
theorem dX12_init_127 : decode cX12_init 127 = .ok (.newarray .int, 2) := by decide +kernel
theorem dX12_init_129 : decode cX12_init 129 = .ok (.putfield 57, 3) := by decide +kernel
theorem dX12_init_132 : decode cX12_init 132 = .ok (.aload_n 0, 1) := by decide +kernel
theorem dX12_init_133 : decode cX12_init 133 = .ok (.iconst 4, 1) := by decide +kernel
theorem dX12_init_134 : decode cX12_init 134 = .ok (.newarray .boolean, 2) := by decide +kernel
theorem dX12_init_136 : decode cX12_init 136 = .ok (.putfield 60, 3) := by decide +kernel
theorem dX12_init_139 : decode cX12_init 139 = .ok (.aload_n 0, 1) := by decide +kernel
theorem dX12_init_140 : decode cX12_init 140 = .ok (.iconst 4, 1) := by decide +kernel
theorem dX12_init_141 : decode cX12_init 141 = .ok (.newarray .boolean, 2) := by decide +kernel
theorem dX12_init_143 : decode cX12_init 143 = .ok (.putfield 64, 3) := by decide +kernel
theorem dX12_init_146 : decode cX12_init 146 = .ok (.aload_n 0, 1) := by decide +kernel
theorem dX12_init_147 : decode cX12_init 147 = .ok (.bipush 96, 2) := by decide +kernel
theorem dX12_init_149 : decode cX12_init 149 = .ok (.newarray .int, 2) := by decide +kernel
theorem dX12_init_151 : decode cX12_init 151 = .ok (.putfield 67, 3) := by decide +kernel
theorem dX12_init_154 : decode cX12_init 154 = .ok (.aload_n 0, 1) := by decide +kernel
theorem dX12_init_155 : decode cX12_init 155 = .ok (.bipush 8, 2) := by decide +kernel
theorem dX12_init_157 : decode cX12_init 157 = .ok (.putfield 70, 3) := by decide +kernel
theorem dX12_init_160 : decode cX12_init 160 = .ok (.aload_n 0, 1) := by decide +kernel
theorem dX12_init_161 : decode cX12_init 161 = .ok (.iconst 1, 1) := by decide +kernel
theorem dX12_init_162 : decode cX12_init 162 = .ok (.putfield 73, 3) := by decide +kernel
theorem dX12_init_165 : decode cX12_init 165 = .ok (.aload_n 0, 1) := by decide +kernel
theorem dX12_init_166 : decode cX12_init 166 = .ok (.bipush 99, 2) := by decide +kernel
theorem dX12_init_168 : decode cX12_init 168 = .ok (.newarray .int, 2) := by decide +kernel
theorem dX12_init_170 : decode cX12_init 170 = .ok (.putfield 76, 3) := by decide +kernel
theorem dX12_init_173 : decode cX12_init 173 = .ok (.aload_n 0, 1) := by decide +kernel
theorem dX12_init_174 : decode cX12_init 174 = .ok (.bipush 99, 2) := by decide +kernel
theorem dX12_init_176 : decode cX12_init 176 = .ok (.newarray .int, 2) := by decide +kernel
theorem dX12_init_178 : decode cX12_init 178 = .ok (.putfield 79, 3) := by decide +kernel
theorem dX12_init_181 : decode cX12_init 181 = .ok (.aload_n 0, 1) := by decide +kernel
theorem dX12_init_182 : decode cX12_init 182 = .ok (.sipush 3960, 3) := by decide +kernel
theorem dX12_init_185 : decode cX12_init 185 = .ok (.newarray .int, 2) := by decide +kernel
theorem dX12_init_187 : decode cX12_init 187 = .ok (.putfield 82, 3) := by decide +kernel
theorem dX12_init_190 : decode cX12_init 190 = .ok (.aload_n 0, 1) := by decide +kernel
theorem dX12_init_191 : decode cX12_init 191 = .ok (.iconst 3, 1) := by decide +kernel
theorem dX12_init_192 : decode cX12_init 192 = .ok (.newarray .int, 2) := by decide +kernel
theorem dX12_init_194 : decode cX12_init 194 = .ok (.putfield 85, 3) := by decide +kernel
theorem dX12_init_197 : decode cX12_init 197 = .ok (.aload_n 0, 1) := by decide +kernel
theorem dX12_init_198 : decode cX12_init 198 = .ok (.iconst 3, 1) := by decide +kernel
theorem dX12_init_199 : decode cX12_init 199 = .ok (.newarray .int, 2) := by decide +kernel
theorem dX12_init_201 : decode cX12_init 201 = .ok (.putfield 88, 3) := by decide +kernel
theorem dX12_init_204 : decode cX12_init 204 = .ok (.aload_n 0, 1) := by decide +kernel
theorem dX12_init_205 : decode cX12_init 205 = .ok (.iconst 3, 1) := by decide +kernel
theorem dX12_init_206 : decode cX12_init 206 = .ok (.newarray .int, 2) := by decide +kernel
theorem dX12_init_208 : decode cX12_init 208 = .ok (.putfield 91, 3) := by decide +kernel
theorem dX12_init_211 : decode cX12_init 211 = .ok (.aload_n 0, 1) := by decide +kernel
theorem dX12_init_212 : decode cX12_init 212 = .ok (.iconst 3, 1) := by decide +kernel
theorem dX12_init_213 : decode cX12_init 213 = .ok (.newarray .int, 2) := by decide +kernel
theorem dX12_init_215 : decode cX12_init 215 = .ok (.putfield 94, 3) := by decide +kernel
theorem dX12_init_218 : decode cX12_init 218 = .ok (.aload_n 0, 1) := by decide +kernel
theorem dX12_init_219 : decode cX12_init 219 = .ok (.iconst 3, 1) := by decide +kernel
theorem dX12_init_220 : decode cX12_init 220 = .ok (.newarray .int, 2) := by decide +kernel
theorem dX12_init_222 : decode cX12_init 222 = .ok (.putfield 97, 3) := by decide +kernel
theorem dX12_init_225 : decode cX12_init 225 = .ok (.aload_n 0, 1) := by decide +kernel
theorem dX12_init_226 : decode cX12_init 226 = .ok (.iconst 3, 1) := by decide +kernel
theorem dX12_init_227 : decode cX12_init 227 = .ok (.newarray .int, 2) := by decide +kernel
theorem dX12_init_229 : decode cX12_init 229 = .ok (.putfield 100, 3) := by decide +kernel
theorem dX12_init_232 : decode cX12_init 232 = .ok (.aload_n 0, 1) := by decide +kernel
theorem dX12_init_233 : decode cX12_init 233 = .ok (.bipush 30, 2) := by decide +kernel
theorem dX12_init_235 : decode cX12_init 235 = .ok (.newarray .int, 2) := by decide +kernel
theorem dX12_init_237 : decode cX12_init 237 = .ok (.putfield 103, 3) := by decide +kernel
theorem dX12_init_240 : decode cX12_init 240 = .ok (.aload_n 0, 1) := by decide +kernel
theorem dX12_init_241 : decode cX12_init 241 = .ok (.bipush 30, 2) := by decide +kernel
theorem dX12_init_243 : decode cX12_init 243 = .ok (.newarray .int, 2) := by decide +kernel
theorem dX12_init_245 : decode cX12_init 245 = .ok (.putfield 106, 3) := by decide +kernel
theorem dX12_init_248 : decode cX12_init 248 = .ok (.aload_n 0, 1) := by decide +kernel
theorem dX12_init_249 : decode cX12_init 249 = .ok (.bipush 30, 2) := by decide +kernel
theorem dX12_init_251 : decode cX12_init 251 = .ok (.newarray .int, 2) := by decide +kernel
theorem dX12_init_253 : decode cX12_init 253 = .ok (.putfield 109, 3) := by decide +kernel
theorem dX12_init_256 : decode cX12_init 256 = .ok (.aload_n 0, 1) := by decide +kernel
theorem dX12_init_257 : decode cX12_init 257 = .ok (.bipush 30, 2) := by decide +kernel
theorem dX12_init_259 : decode cX12_init 259 = .ok (.newarray .int, 2) := by decide +kernel
theorem dX12_init_261 : decode cX12_init 261 = .ok (.putfield 112, 3) := by decide +kernel
theorem dX12_init_264 : decode cX12_init 264 = .ok (.aload_n 0, 1) := by decide +kernel
theorem dX12_init_265 : decode cX12_init 265 = .ok (.bipush 30, 2) := by decide +kernel
theorem dX12_init_267 : decode cX12_init 267 = .ok (.newarray .boolean, 2) := by decide +kernel
theorem dX12_init_269 : decode cX12_init 269 = .ok (.putfield 115, 3) := by decide +kernel
theorem dX12_init_272 : decode cX12_init 272 = .ok (.aload_n 0, 1) := by decide +kernel
theorem dX12_init_273 : decode cX12_init 273 = .ok (.iconst 5, 1) := by decide +kernel
theorem dX12_init_274 : decode cX12_init 274 = .ok (.newarray .int, 2) := by decide +kernel
theorem dX12_init_276 : decode cX12_init 276 = .ok (.putfield 118, 3) := by decide +kernel
theorem dX12_init_279 : decode cX12_init 279 = .ok (.aload_n 0, 1) := by decide +kernel
theorem dX12_init_280 : decode cX12_init 280 = .ok (.iconst 5, 1) := by decide +kernel
theorem dX12_init_281 : decode cX12_init 281 = .ok (.newarray .int, 2) := by decide +kernel
theorem dX12_init_283 : decode cX12_init 283 = .ok (.putfield 121, 3) := by decide +kernel
theorem dX12_init_286 : decode cX12_init 286 = .ok (.aload_n 0, 1) := by decide +kernel
theorem dX12_init_287 : decode cX12_init 287 = .ok (.bipush 25, 2) := by decide +kernel
theorem dX12_init_289 : decode cX12_init 289 = .ok (.newarray .int, 2) := by decide +kernel
theorem dX12_init_291 : decode cX12_init 291 = .ok (.putfield 124, 3) := by decide +kernel
theorem dX12_init_294 : decode cX12_init 294 = .ok (.aload_n 0, 1) := by decide +kernel
theorem dX12_init_295 : decode cX12_init 295 = .ok (.iconst 3, 1) := by decide +kernel
theorem dX12_init_296 : decode cX12_init 296 = .ok (.newarray .boolean, 2) := by decide +kernel
theorem dX12_init_298 : decode cX12_init 298 = .ok (.putfield 127, 3) := by decide +kernel
theorem dX12_init_301 : decode cX12_init 301 = .ok (.aload_n 0, 1) := by decide +kernel
theorem dX12_init_302 : decode cX12_init 302 = .ok (.sipush 297, 3) := by decide +kernel
theorem dX12_init_305 : decode cX12_init 305 = .ok (.newarray .int, 2) := by decide +kernel
theorem dX12_init_307 : decode cX12_init 307 = .ok (.putfield 130, 3) := by decide +kernel
theorem dX12_init_310 : decode cX12_init 310 = .ok (.return_, 1) := by decide +kernel
theorem dX12_feed_0 : decode cX12_feed 0 = .ok (.aload_n 0, 1) := by decide +kernel
theorem dX12_feed_1 : decode cX12_feed 1 = .ok (.getfield 133, 3) := by decide +kernel
theorem dX12_feed_4 : decode cX12_feed 4 = .ok (.bipush 20, 2) := by decide +kernel
theorem dX12_feed_6 : decode cX12_feed 6 = .ok (.iadd, 1) := by decide +kernel
theorem dX12_feed_7 : decode cX12_feed 7 = .ok (.sipush 1600, 3) := by decide +kernel
theorem dX12_feed_10 : decode cX12_feed 10 = .ok (.if_icmp .le 5, 3) := by decide +kernel
theorem dX12_feed_13 : decode cX12_feed 13 = .ok (.iconst (-1), 1) := by decide +kernel
theorem dX12_feed_14 : decode cX12_feed 14 = .ok (.ireturn, 1) := by decide +kernel
theorem dX12_feed_15 : decode cX12_feed 15 = .ok (.aload_n 0, 1) := by decide +kernel
theorem dX12_feed_16 : decode cX12_feed 16 = .ok (.iload_n 1, 1) := by decide +kernel
theorem dX12_feed_17 : decode cX12_feed 17 = .ok (.invokevirtual 136, 3) := by decide +kernel
theorem dX12_feed_20 : decode cX12_feed 20 = .ok (.aload_n 0, 1) := by decide +kernel
theorem dX12_feed_21 : decode cX12_feed 21 = .ok (.iload_n 2, 1) := by decide +kernel
theorem dX12_feed_22 : decode cX12_feed 22 = .ok (.invokevirtual 136, 3) := by decide +kernel
theorem dX12_feed_25 : decode cX12_feed 25 = .ok (.aload_n 0, 1) := by decide +kernel
theorem dX12_feed_26 : decode cX12_feed 26 = .ok (.iload_n 3, 1) := by decide +kernel
theorem dX12_feed_27 : decode cX12_feed 27 = .ok (.invokevirtual 136, 3) := by decide +kernel
theorem dX12_feed_30 : decode cX12_feed 30 = .ok (.aload_n 0, 1) := by decide +kernel
theorem dX12_feed_31 : decode cX12_feed 31 = .ok (.iload 4, 2) := by decide +kernel
theorem dX12_feed_33 : decode cX12_feed 33 = .ok (.invokevirtual 136, 3) := by decide +kernel
theorem dX12_feed_36 : decode cX12_feed 36 = .ok (.aload_n 0, 1) := by decide +kernel
theorem dX12_feed_37 : decode cX12_feed 37 = .ok (.iload 5, 2) := by decide +kernel
theorem dX12_feed_39 : decode cX12_feed 39 = .ok (.invokevirtual 136, 3) := by decide +kernel
theorem dX12_feed_42 : decode cX12_feed 42 = .ok (.aload_n 0, 1) := by decide +kernel
theorem dX12_feed_43 : decode cX12_feed 43 = .ok (.getfield 133, 3) := by decide +kernel
theorem dX12_feed_46 : decode cX12_feed 46 = .ok (.ireturn, 1) := by decide +kernel
theorem dX12_four_0 : decode cX12_four 0 = .ok (.bipush 24, 2) := by decide +kernel
theorem dX12_four_2 : decode cX12_four 2 = .ok (.istore_n 2, 1) := by decide +kernel
theorem dX12_four_3 : decode cX12_four 3 = .ok (.iload_n 2, 1) := by decide +kernel
theorem dX12_four_4 : decode cX12_four 4 = .ok (.ifCond .lt 35, 3) := by decide +kernel
theorem dX12_four_7 : decode cX12_four 7 = .ok (.aload_n 0, 1) := by decide +kernel
theorem dX12_four_8 : decode cX12_four 8 = .ok (.getfield 7, 3) := by decide +kernel
theorem dX12_four_11 : decode cX12_four 11 = .ok (.aload_n 0, 1) := by decide +kernel
theorem dX12_four_12 : decode cX12_four 12 = .ok (.getfield 133, 3) := by decide +kernel
theorem dX12_four_15 : decode cX12_four 15 = .ok (.iload_n 1, 1) := by decide +kernel
theorem dX12_four_16 : decode cX12_four 16 = .ok (.iload_n 2, 1) := by decide +kernel
theorem dX12_four_17 : decode cX12_four 17 = .ok (.ishr, 1) := by decide +kernel
theorem dX12_four_18 : decode cX12_four 18 = .ok (.sipush 255, 3) := by decide +kernel
theorem dX12_four_21 : decode cX12_four 21 = .ok (.iand, 1) := by decide +kernel
theorem dX12_four_22 : decode cX12_four 22 = .ok (.iastore, 1) := by decide +kernel
theorem dX12_four_23 : decode cX12_four 23 = .ok (.aload_n 0, 1) := by decide +kernel
theorem dX12_four_24 : decode cX12_four 24 = .ok (.dup, 1) := by decide +kernel
theorem dX12_four_25 : decode cX12_four 25 = .ok (.getfield 133, 3) := by decide +kernel
theorem dX12_four_28 : decode cX12_four 28 = .ok (.iconst 1, 1) := by decide +kernel
theorem dX12_four_29 : decode cX12_four 29 = .ok (.iadd, 1) := by decide +kernel
theorem dX12_four_30 : decode cX12_four 30 = .ok (.putfield 133, 3) := by decide +kernel
theorem dX12_four_33 : decode cX12_four 33 = .ok (.iinc 2 (-8), 3) := by decide +kernel
theorem dX12_four_36 : decode cX12_four 36 = .ok (.goto (-33), 3) := by decide +kernel
theorem dX12_four_39 : decode cX12_four 39 = .ok (.return_, 1) := by decide +kernel
theorem dX12_end_0 : decode cX12_end 0 = .ok (.iload_n 1, 1) := by decide +kernel
theorem dX12_end_1 : decode cX12_end 1 = .ok (.ifCond .lt 11, 3) := by decide +kernel
theorem dX12_end_4 : decode cX12_end 4 = .ok (.iload_n 1, 1) := by decide +kernel
theorem dX12_end_5 : decode cX12_end 5 = .ok (.aload_n 0, 1) := by decide +kernel
theorem dX12_end_6 : decode cX12_end 6 = .ok (.getfield 133, 3) := by decide +kernel
theorem dX12_end_9 : decode cX12_end 9 = .ok (.if_icmp .le 5, 3) := by decide +kernel
theorem dX12_end_12 : decode cX12_end 12 = .ok (.iconst (-1), 1) := by decide +kernel
theorem dX12_end_13 : decode cX12_end 13 = .ok (.ireturn, 1) := by decide +kernel
theorem dX12_end_14 : decode cX12_end 14 = .ok (.aload_n 0, 1) := by decide +kernel
theorem dX12_end_15 : decode cX12_end 15 = .ok (.iload_n 1, 1) := by decide +kernel
theorem dX12_end_16 : decode cX12_end 16 = .ok (.putfield 133, 3) := by decide +kernel
theorem dX12_end_19 : decode cX12_end 19 = .ok (.iload_n 1, 1) := by decide +kernel
theorem dX12_end_20 : decode cX12_end 20 = .ok (.ireturn, 1) := by decide +kernel
theorem dX12_here_0 : decode cX12_here 0 = .ok (.aload_n 0, 1) := by decide +kernel
theorem dX12_here_1 : decode cX12_here 1 = .ok (.getfield 140, 3) := by decide +kernel
theorem dX12_here_4 : decode cX12_here 4 = .ok (.iload_n 1, 1) := by decide +kernel
theorem dX12_here_5 : decode cX12_here 5 = .ok (.iadd, 1) := by decide +kernel
theorem dX12_here_6 : decode cX12_here 6 = .ok (.aload_n 0, 1) := by decide +kernel
theorem dX12_here_7 : decode cX12_here 7 = .ok (.getfield 143, 3) := by decide +kernel
theorem dX12_here_10 : decode cX12_here 10 = .ok (.if_icmp .ge 17, 3) := by decide +kernel
theorem dX12_here_13 : decode cX12_here 13 = .ok (.aload_n 0, 1) := by decide +kernel
theorem dX12_here_14 : decode cX12_here 14 = .ok (.getfield 7, 3) := by decide +kernel
theorem dX12_here_17 : decode cX12_here 17 = .ok (.aload_n 0, 1) := by decide +kernel
theorem dX12_here_18 : decode cX12_here 18 = .ok (.getfield 140, 3) := by decide +kernel
theorem dX12_here_21 : decode cX12_here 21 = .ok (.iload_n 1, 1) := by decide +kernel
theorem dX12_here_22 : decode cX12_here 22 = .ok (.iadd, 1) := by decide +kernel
theorem dX12_here_23 : decode cX12_here 23 = .ok (.iaload, 1) := by decide +kernel
theorem dX12_here_24 : decode cX12_here 24 = .ok (.goto 4, 3) := by decide +kernel
theorem dX12_here_27 : decode cX12_here 27 = .ok (.iconst (-1), 1) := by decide +kernel
theorem dX12_here_28 : decode cX12_here 28 = .ok (.ireturn, 1) := by decide +kernel
theorem dX12_isLetter_0 : decode cX12_isLetter 0 = .ok (.iload_n 0, 1) := by decide +kernel
theorem dX12_isLetter_1 : decode cX12_isLetter 1 = .ok (.bipush 97, 2) := by decide +kernel
theorem dX12_isLetter_3 : decode cX12_isLetter 3 = .ok (.if_icmp .lt 13, 3) := by decide +kernel
theorem dX12_isLetter_6 : decode cX12_isLetter 6 = .ok (.iload_n 0, 1) := by decide +kernel
theorem dX12_isLetter_7 : decode cX12_isLetter 7 = .ok (.bipush 122, 2) := by decide +kernel
theorem dX12_isLetter_9 : decode cX12_isLetter 9 = .ok (.if_icmp .gt 7, 3) := by decide +kernel
theorem dX12_isLetter_12 : decode cX12_isLetter 12 = .ok (.iconst 1, 1) := by decide +kernel
theorem dX12_isLetter_13 : decode cX12_isLetter 13 = .ok (.goto 4, 3) := by decide +kernel
theorem dX12_isLetter_16 : decode cX12_isLetter 16 = .ok (.iconst 0, 1) := by decide +kernel
theorem dX12_isLetter_17 : decode cX12_isLetter 17 = .ok (.ireturn, 1) := by decide +kernel
theorem dX12_isDigit_0 : decode cX12_isDigit 0 = .ok (.iload_n 0, 1) := by decide +kernel
theorem dX12_isDigit_1 : decode cX12_isDigit 1 = .ok (.bipush 48, 2) := by decide +kernel
theorem dX12_isDigit_3 : decode cX12_isDigit 3 = .ok (.if_icmp .lt 13, 3) := by decide +kernel
theorem dX12_isDigit_6 : decode cX12_isDigit 6 = .ok (.iload_n 0, 1) := by decide +kernel
theorem dX12_isDigit_7 : decode cX12_isDigit 7 = .ok (.bipush 57, 2) := by decide +kernel
theorem dX12_isDigit_9 : decode cX12_isDigit 9 = .ok (.if_icmp .gt 7, 3) := by decide +kernel
theorem dX12_isDigit_12 : decode cX12_isDigit 12 = .ok (.iconst 1, 1) := by decide +kernel
theorem dX12_isDigit_13 : decode cX12_isDigit 13 = .ok (.goto 4, 3) := by decide +kernel
theorem dX12_isDigit_16 : decode cX12_isDigit 16 = .ok (.iconst 0, 1) := by decide +kernel
theorem dX12_isDigit_17 : decode cX12_isDigit 17 = .ok (.ireturn, 1) := by decide +kernel
theorem dX12_isSign_0 : decode cX12_isSign 0 = .ok (.iload_n 0, 1) := by decide +kernel
theorem dX12_isSign_1 : decode cX12_isSign 1 = .ok (.bipush 59, 2) := by decide +kernel
theorem dX12_isSign_3 : decode cX12_isSign 3 = .ok (.if_icmp .eq 63, 3) := by decide +kernel
theorem dX12_isSign_6 : decode cX12_isSign 6 = .ok (.iload_n 0, 1) := by decide +kernel
theorem dX12_isSign_7 : decode cX12_isSign 7 = .ok (.bipush 40, 2) := by decide +kernel
theorem dX12_isSign_9 : decode cX12_isSign 9 = .ok (.if_icmp .eq 57, 3) := by decide +kernel
theorem dX12_isSign_12 : decode cX12_isSign 12 = .ok (.iload_n 0, 1) := by decide +kernel
theorem dX12_isSign_13 : decode cX12_isSign 13 = .ok (.bipush 41, 2) := by decide +kernel
theorem dX12_isSign_15 : decode cX12_isSign 15 = .ok (.if_icmp .eq 51, 3) := by decide +kernel
theorem dX12_isSign_18 : decode cX12_isSign 18 = .ok (.iload_n 0, 1) := by decide +kernel
theorem dX12_isSign_19 : decode cX12_isSign 19 = .ok (.bipush 60, 2) := by decide +kernel
theorem dX12_isSign_21 : decode cX12_isSign 21 = .ok (.if_icmp .eq 45, 3) := by decide +kernel
theorem dX12_isSign_24 : decode cX12_isSign 24 = .ok (.iload_n 0, 1) := by decide +kernel
theorem dX12_isSign_25 : decode cX12_isSign 25 = .ok (.bipush 62, 2) := by decide +kernel
theorem dX12_isSign_27 : decode cX12_isSign 27 = .ok (.if_icmp .eq 39, 3) := by decide +kernel
theorem dX12_isSign_30 : decode cX12_isSign 30 = .ok (.iload_n 0, 1) := by decide +kernel
theorem dX12_isSign_31 : decode cX12_isSign 31 = .ok (.bipush 61, 2) := by decide +kernel
theorem dX12_isSign_33 : decode cX12_isSign 33 = .ok (.if_icmp .eq 33, 3) := by decide +kernel
theorem dX12_isSign_36 : decode cX12_isSign 36 = .ok (.iload_n 0, 1) := by decide +kernel
theorem dX12_isSign_37 : decode cX12_isSign 37 = .ok (.bipush 43, 2) := by decide +kernel
theorem dX12_isSign_39 : decode cX12_isSign 39 = .ok (.if_icmp .eq 27, 3) := by decide +kernel
theorem dX12_isSign_42 : decode cX12_isSign 42 = .ok (.iload_n 0, 1) := by decide +kernel
theorem dX12_isSign_43 : decode cX12_isSign 43 = .ok (.bipush 45, 2) := by decide +kernel
theorem dX12_isSign_45 : decode cX12_isSign 45 = .ok (.if_icmp .eq 21, 3) := by decide +kernel
theorem dX12_isSign_48 : decode cX12_isSign 48 = .ok (.iload_n 0, 1) := by decide +kernel
theorem dX12_isSign_49 : decode cX12_isSign 49 = .ok (.bipush 42, 2) := by decide +kernel
theorem dX12_isSign_51 : decode cX12_isSign 51 = .ok (.if_icmp .eq 15, 3) := by decide +kernel
theorem dX12_isSign_54 : decode cX12_isSign 54 = .ok (.iload_n 0, 1) := by decide +kernel
theorem dX12_isSign_55 : decode cX12_isSign 55 = .ok (.bipush 47, 2) := by decide +kernel
theorem dX12_isSign_57 : decode cX12_isSign 57 = .ok (.if_icmp .eq 9, 3) := by decide +kernel
theorem dX12_isSign_60 : decode cX12_isSign 60 = .ok (.iload_n 0, 1) := by decide +kernel
theorem dX12_isSign_61 : decode cX12_isSign 61 = .ok (.bipush 37, 2) := by decide +kernel
theorem dX12_isSign_63 : decode cX12_isSign 63 = .ok (.if_icmp .ne 7, 3) := by decide +kernel
theorem dX12_isSign_66 : decode cX12_isSign 66 = .ok (.iconst 1, 1) := by decide +kernel
theorem dX12_isSign_67 : decode cX12_isSign 67 = .ok (.goto 4, 3) := by decide +kernel
theorem dX12_isSign_70 : decode cX12_isSign 70 = .ok (.iconst 0, 1) := by decide +kernel
theorem dX12_isSign_71 : decode cX12_isSign 71 = .ok (.ireturn, 1) := by decide +kernel
theorem dX12_token_0 : decode cX12_token 0 = .ok (.aload_n 0, 1) := by decide +kernel
theorem dX12_token_1 : decode cX12_token 1 = .ok (.iconst 0, 1) := by decide +kernel
theorem dX12_token_2 : decode cX12_token 2 = .ok (.invokevirtual 146, 3) := by decide +kernel
theorem dX12_token_5 : decode cX12_token 5 = .ok (.bipush 32, 2) := by decide +kernel
theorem dX12_token_7 : decode cX12_token 7 = .ok (.if_icmp .eq 13, 3) := by decide +kernel
theorem dX12_token_10 : decode cX12_token 10 = .ok (.aload_n 0, 1) := by decide +kernel
theorem dX12_token_11 : decode cX12_token 11 = .ok (.iconst 0, 1) := by decide +kernel
theorem dX12_token_12 : decode cX12_token 12 = .ok (.invokevirtual 146, 3) := by decide +kernel
theorem dX12_token_15 : decode cX12_token 15 = .ok (.bipush 10, 2) := by decide +kernel
theorem dX12_token_17 : decode cX12_token 17 = .ok (.if_icmp .ne 16, 3) := by decide +kernel
theorem dX12_token_20 : decode cX12_token 20 = .ok (.aload_n 0, 1) := by decide +kernel
theorem dX12_token_21 : decode cX12_token 21 = .ok (.dup, 1) := by decide +kernel
theorem dX12_token_22 : decode cX12_token 22 = .ok (.getfield 140, 3) := by decide +kernel
theorem dX12_token_25 : decode cX12_token 25 = .ok (.iconst 1, 1) := by decide +kernel
theorem dX12_token_26 : decode cX12_token 26 = .ok (.iadd, 1) := by decide +kernel
theorem dX12_token_27 : decode cX12_token 27 = .ok (.putfield 140, 3) := by decide +kernel
theorem dX12_token_30 : decode cX12_token 30 = .ok (.goto (-30), 3) := by decide +kernel
theorem dX12_token_33 : decode cX12_token 33 = .ok (.aload_n 0, 1) := by decide +kernel
theorem dX12_token_34 : decode cX12_token 34 = .ok (.aload_n 0, 1) := by decide +kernel
theorem dX12_token_35 : decode cX12_token 35 = .ok (.getfield 140, 3) := by decide +kernel
theorem dX12_token_38 : decode cX12_token 38 = .ok (.putfield 150, 3) := by decide +kernel
theorem dX12_token_41 : decode cX12_token 41 = .ok (.aload_n 0, 1) := by decide +kernel
theorem dX12_token_42 : decode cX12_token 42 = .ok (.iconst 0, 1) := by decide +kernel
theorem dX12_token_43 : decode cX12_token 43 = .ok (.invokevirtual 146, 3) := by decide +kernel
theorem dX12_token_46 : decode cX12_token 46 = .ok (.istore_n 1, 1) := by decide +kernel
theorem dX12_token_47 : decode cX12_token 47 = .ok (.iconst 0, 1) := by decide +kernel
theorem dX12_token_48 : decode cX12_token 48 = .ok (.istore_n 2, 1) := by decide +kernel
theorem dX12_token_49 : decode cX12_token 49 = .ok (.aload_n 0, 1) := by decide +kernel
theorem dX12_token_50 : decode cX12_token 50 = .ok (.lconst 0, 1) := by decide +kernel
theorem dX12_token_51 : decode cX12_token 51 = .ok (.putfield 153, 3) := by decide +kernel
theorem dX12_token_54 : decode cX12_token 54 = .ok (.aload_n 0, 1) := by decide +kernel
theorem dX12_token_55 : decode cX12_token 55 = .ok (.iconst 0, 1) := by decide +kernel
theorem dX12_token_56 : decode cX12_token 56 = .ok (.putfield 157, 3) := by decide +kernel
theorem dX12_token_59 : decode cX12_token 59 = .ok (.iload_n 1, 1) := by decide +kernel
theorem dX12_token_60 : decode cX12_token 60 = .ok (.ifCond .ge 11, 3) := by decide +kernel
theorem dX12_token_63 : decode cX12_token 63 = .ok (.aload_n 0, 1) := by decide +kernel
theorem dX12_token_64 : decode cX12_token 64 = .ok (.iconst 0, 1) := by decide +kernel
theorem dX12_token_65 : decode cX12_token 65 = .ok (.putfield 160, 3) := by decide +kernel
theorem dX12_token_68 : decode cX12_token 68 = .ok (.goto 164, 3) := by decide +kernel
theorem dX12_token_71 : decode cX12_token 71 = .ok (.iload_n 1, 1) := by decide +kernel
theorem dX12_token_72 : decode cX12_token 72 = .ok (.invokestatic 163, 3) := by decide +kernel
theorem dX12_token_75 : decode cX12_token 75 = .ok (.ifCond .eq 62, 3) := by decide +kernel
theorem dX12_token_78 : decode cX12_token 78 = .ok (.aload_n 0, 1) := by decide +kernel
theorem dX12_token_79 : decode cX12_token 79 = .ok (.iload_n 2, 1) := by decide +kernel
theorem dX12_token_80 : decode cX12_token 80 = .ok (.invokevirtual 146, 3) := by decide +kernel
theorem dX12_token_83 : decode cX12_token 83 = .ok (.invokestatic 163, 3) := by decide +kernel
theorem dX12_token_86 : decode cX12_token 86 = .ok (.ifCond .eq 33, 3) := by decide +kernel
theorem dX12_token_89 : decode cX12_token 89 = .ok (.iload_n 2, 1) := by decide +kernel
theorem dX12_token_90 : decode cX12_token 90 = .ok (.bipush 8, 2) := by decide +kernel
theorem dX12_token_92 : decode cX12_token 92 = .ok (.if_icmp .ge 21, 3) := by decide +kernel
theorem dX12_token_95 : decode cX12_token 95 = .ok (.aload_n 0, 1) := by decide +kernel
theorem dX12_token_96 : decode cX12_token 96 = .ok (.aload_n 0, 1) := by decide +kernel
theorem dX12_token_97 : decode cX12_token 97 = .ok (.getfield 153, 3) := by decide +kernel
theorem dX12_token_100 : decode cX12_token 100 = .ok (.bipush 8, 2) := by decide +kernel
theorem dX12_token_102 : decode cX12_token 102 = .ok (.lshl, 1) := by decide +kernel
theorem dX12_token_103 : decode cX12_token 103 = .ok (.aload_n 0, 1) := by decide +kernel
theorem dX12_token_104 : decode cX12_token 104 = .ok (.iload_n 2, 1) := by decide +kernel
theorem dX12_token_105 : decode cX12_token 105 = .ok (.invokevirtual 146, 3) := by decide +kernel
theorem dX12_token_108 : decode cX12_token 108 = .ok (.i2l, 1) := by decide +kernel
theorem dX12_token_109 : decode cX12_token 109 = .ok (.lor, 1) := by decide +kernel
theorem dX12_token_110 : decode cX12_token 110 = .ok (.putfield 153, 3) := by decide +kernel
theorem dX12_token_113 : decode cX12_token 113 = .ok (.iinc 2 1, 3) := by decide +kernel
theorem dX12_token_116 : decode cX12_token 116 = .ok (.goto (-38), 3) := by decide +kernel
theorem dX12_token_119 : decode cX12_token 119 = .ok (.aload_n 0, 1) := by decide +kernel
theorem dX12_token_120 : decode cX12_token 120 = .ok (.iload_n 2, 1) := by decide +kernel
theorem dX12_token_121 : decode cX12_token 121 = .ok (.bipush 8, 2) := by decide +kernel
theorem dX12_token_123 : decode cX12_token 123 = .ok (.if_icmp .le 7, 3) := by decide +kernel
theorem dX12_token_126 : decode cX12_token 126 = .ok (.iconst 3, 1) := by decide +kernel
theorem dX12_token_127 : decode cX12_token 127 = .ok (.goto 4, 3) := by decide +kernel
theorem dX12_token_130 : decode cX12_token 130 = .ok (.iconst 1, 1) := by decide +kernel
theorem dX12_token_131 : decode cX12_token 131 = .ok (.putfield 160, 3) := by decide +kernel
theorem dX12_token_134 : decode cX12_token 134 = .ok (.goto 98, 3) := by decide +kernel
theorem dX12_token_137 : decode cX12_token 137 = .ok (.iload_n 1, 1) := by decide +kernel
theorem dX12_token_138 : decode cX12_token 138 = .ok (.invokestatic 167, 3) := by decide +kernel
theorem dX12_token_141 : decode cX12_token 141 = .ok (.ifCond .eq 73, 3) := by decide +kernel
theorem dX12_token_144 : decode cX12_token 144 = .ok (.aload_n 0, 1) := by decide +kernel
theorem dX12_token_145 : decode cX12_token 145 = .ok (.iload_n 2, 1) := by decide +kernel
theorem dX12_token_146 : decode cX12_token 146 = .ok (.invokevirtual 146, 3) := by decide +kernel
theorem dX12_token_149 : decode cX12_token 149 = .ok (.invokestatic 167, 3) := by decide +kernel
theorem dX12_token_152 : decode cX12_token 152 = .ok (.ifCond .eq 34, 3) := by decide +kernel
theorem dX12_token_155 : decode cX12_token 155 = .ok (.iload_n 2, 1) := by decide +kernel
theorem dX12_token_156 : decode cX12_token 156 = .ok (.iconst 4, 1) := by decide +kernel
theorem dX12_token_157 : decode cX12_token 157 = .ok (.if_icmp .ge 23, 3) := by decide +kernel
theorem dX12_token_160 : decode cX12_token 160 = .ok (.aload_n 0, 1) := by decide +kernel
theorem dX12_token_161 : decode cX12_token 161 = .ok (.bipush 10, 2) := by decide +kernel
theorem dX12_token_163 : decode cX12_token 163 = .ok (.aload_n 0, 1) := by decide +kernel
theorem dX12_token_164 : decode cX12_token 164 = .ok (.getfield 157, 3) := by decide +kernel
theorem dX12_token_167 : decode cX12_token 167 = .ok (.imul, 1) := by decide +kernel
theorem dX12_token_168 : decode cX12_token 168 = .ok (.aload_n 0, 1) := by decide +kernel
theorem dX12_token_169 : decode cX12_token 169 = .ok (.iload_n 2, 1) := by decide +kernel
theorem dX12_token_170 : decode cX12_token 170 = .ok (.invokevirtual 146, 3) := by decide +kernel
theorem dX12_token_173 : decode cX12_token 173 = .ok (.iadd, 1) := by decide +kernel
theorem dX12_token_174 : decode cX12_token 174 = .ok (.bipush 48, 2) := by decide +kernel
theorem dX12_token_176 : decode cX12_token 176 = .ok (.isub, 1) := by decide +kernel
theorem dX12_token_177 : decode cX12_token 177 = .ok (.putfield 157, 3) := by decide +kernel
theorem dX12_token_180 : decode cX12_token 180 = .ok (.iinc 2 1, 3) := by decide +kernel
theorem dX12_token_183 : decode cX12_token 183 = .ok (.goto (-39), 3) := by decide +kernel
theorem dX12_token_186 : decode cX12_token 186 = .ok (.aload_n 0, 1) := by decide +kernel
theorem dX12_token_187 : decode cX12_token 187 = .ok (.iload_n 2, 1) := by decide +kernel
theorem dX12_token_188 : decode cX12_token 188 = .ok (.iconst 4, 1) := by decide +kernel
theorem dX12_token_189 : decode cX12_token 189 = .ok (.if_icmp .gt 14, 3) := by decide +kernel
theorem dX12_token_192 : decode cX12_token 192 = .ok (.aload_n 0, 1) := by decide +kernel
theorem dX12_token_193 : decode cX12_token 193 = .ok (.iload_n 2, 1) := by decide +kernel
theorem dX12_token_194 : decode cX12_token 194 = .ok (.invokevirtual 146, 3) := by decide +kernel
theorem dX12_token_197 : decode cX12_token 197 = .ok (.invokestatic 163, 3) := by decide +kernel
theorem dX12_token_200 : decode cX12_token 200 = .ok (.ifCond .eq 7, 3) := by decide +kernel
theorem dX12_token_203 : decode cX12_token 203 = .ok (.iconst 3, 1) := by decide +kernel
theorem dX12_token_204 : decode cX12_token 204 = .ok (.goto 4, 3) := by decide +kernel
theorem dX12_token_207 : decode cX12_token 207 = .ok (.iconst 2, 1) := by decide +kernel
theorem dX12_token_208 : decode cX12_token 208 = .ok (.putfield 160, 3) := by decide +kernel
theorem dX12_token_211 : decode cX12_token 211 = .ok (.goto 21, 3) := by decide +kernel
theorem dX12_token_214 : decode cX12_token 214 = .ok (.iconst 1, 1) := by decide +kernel
theorem dX12_token_215 : decode cX12_token 215 = .ok (.istore_n 2, 1) := by decide +kernel
theorem dX12_token_216 : decode cX12_token 216 = .ok (.aload_n 0, 1) := by decide +kernel
theorem dX12_token_217 : decode cX12_token 217 = .ok (.iload_n 1, 1) := by decide +kernel
theorem dX12_token_218 : decode cX12_token 218 = .ok (.invokestatic 170, 3) := by decide +kernel
theorem dX12_token_221 : decode cX12_token 221 = .ok (.ifCond .eq 7, 3) := by decide +kernel
theorem dX12_token_224 : decode cX12_token 224 = .ok (.iload_n 1, 1) := by decide +kernel
theorem dX12_token_225 : decode cX12_token 225 = .ok (.goto 4, 3) := by decide +kernel
theorem dX12_token_228 : decode cX12_token 228 = .ok (.iconst 3, 1) := by decide +kernel
theorem dX12_token_229 : decode cX12_token 229 = .ok (.putfield 160, 3) := by decide +kernel
theorem dX12_token_232 : decode cX12_token 232 = .ok (.aload_n 0, 1) := by decide +kernel
theorem dX12_token_233 : decode cX12_token 233 = .ok (.getfield 160, 3) := by decide +kernel
theorem dX12_token_236 : decode cX12_token 236 = .ok (.iconst 3, 1) := by decide +kernel
theorem dX12_token_237 : decode cX12_token 237 = .ok (.if_icmp .eq 13, 3) := by decide +kernel
theorem dX12_token_240 : decode cX12_token 240 = .ok (.aload_n 0, 1) := by decide +kernel
theorem dX12_token_241 : decode cX12_token 241 = .ok (.dup, 1) := by decide +kernel
theorem dX12_token_242 : decode cX12_token 242 = .ok (.getfield 140, 3) := by decide +kernel
theorem dX12_token_245 : decode cX12_token 245 = .ok (.iload_n 2, 1) := by decide +kernel
theorem dX12_token_246 : decode cX12_token 246 = .ok (.iadd, 1) := by decide +kernel
theorem dX12_token_247 : decode cX12_token 247 = .ok (.putfield 140, 3) := by decide +kernel
theorem dX12_token_250 : decode cX12_token 250 = .ok (.return_, 1) := by decide +kernel
theorem dX12_wrong_0 : decode cX12_wrong 0 = .ok (.aload_n 0, 1) := by decide +kernel
theorem dX12_wrong_1 : decode cX12_wrong 1 = .ok (.getfield 173, 3) := by decide +kernel
theorem dX12_wrong_4 : decode cX12_wrong 4 = .ok (.ifCond .le 4, 3) := by decide +kernel
theorem dX12_wrong_7 : decode cX12_wrong 7 = .ok (.return_, 1) := by decide +kernel
theorem dX12_wrong_8 : decode cX12_wrong 8 = .ok (.aload_n 0, 1) := by decide +kernel
theorem dX12_wrong_9 : decode cX12_wrong 9 = .ok (.aload_n 0, 1) := by decide +kernel
theorem dX12_wrong_10 : decode cX12_wrong 10 = .ok (.getfield 160, 3) := by decide +kernel
theorem dX12_wrong_13 : decode cX12_wrong 13 = .ok (.iconst 3, 1) := by decide +kernel
theorem dX12_wrong_14 : decode cX12_wrong 14 = .ok (.if_icmp .ne 7, 3) := by decide +kernel
theorem dX12_wrong_17 : decode cX12_wrong 17 = .ok (.iconst 1, 1) := by decide +kernel
theorem dX12_wrong_18 : decode cX12_wrong 18 = .ok (.goto 4, 3) := by decide +kernel
theorem dX12_wrong_21 : decode cX12_wrong 21 = .ok (.iload_n 1, 1) := by decide +kernel
theorem dX12_wrong_22 : decode cX12_wrong 22 = .ok (.putfield 173, 3) := by decide +kernel
theorem dX12_wrong_25 : decode cX12_wrong 25 = .ok (.aload_n 0, 1) := by decide +kernel
theorem dX12_wrong_26 : decode cX12_wrong 26 = .ok (.aload_n 0, 1) := by decide +kernel
theorem dX12_wrong_27 : decode cX12_wrong 27 = .ok (.getfield 150, 3) := by decide +kernel
theorem dX12_wrong_30 : decode cX12_wrong 30 = .ok (.putfield 13, 3) := by decide +kernel
theorem dX12_wrong_33 : decode cX12_wrong 33 = .ok (.return_, 1) := by decide +kernel
theorem dX12_isWord_0 : decode cX12_isWord 0 = .ok (.aload_n 0, 1) := by decide +kernel
theorem dX12_isWord_1 : decode cX12_isWord 1 = .ok (.getfield 160, 3) := by decide +kernel
theorem dX12_isWord_4 : decode cX12_isWord 4 = .ok (.iconst 1, 1) := by decide +kernel
theorem dX12_isWord_5 : decode cX12_isWord 5 = .ok (.if_icmp .ne 16, 3) := by decide +kernel
theorem dX12_isWord_8 : decode cX12_isWord 8 = .ok (.aload_n 0, 1) := by decide +kernel
theorem dX12_isWord_9 : decode cX12_isWord 9 = .ok (.getfield 153, 3) := by decide +kernel
theorem dX12_isWord_12 : decode cX12_isWord 12 = .ok (.lload_n 1, 1) := by decide +kernel
theorem dX12_isWord_13 : decode cX12_isWord 13 = .ok (.lcmp, 1) := by decide +kernel
theorem dX12_isWord_14 : decode cX12_isWord 14 = .ok (.ifCond .ne 7, 3) := by decide +kernel
theorem dX12_isWord_17 : decode cX12_isWord 17 = .ok (.iconst 1, 1) := by decide +kernel
theorem dX12_isWord_18 : decode cX12_isWord 18 = .ok (.goto 4, 3) := by decide +kernel
theorem dX12_isWord_21 : decode cX12_isWord 21 = .ok (.iconst 0, 1) := by decide +kernel
theorem dX12_isWord_22 : decode cX12_isWord 22 = .ok (.ireturn, 1) := by decide +kernel
theorem dX12_isOwn_0 : decode cX12_isOwn 0 = .ok (.aload_n 0, 1) := by decide +kernel
theorem dX12_isOwn_1 : decode cX12_isOwn 1 = .ok (.getfield 153, 3) := by decide +kernel
theorem dX12_isOwn_4 : decode cX12_isOwn 4 = .ok (.ldc2_w 176, 3) := by decide +kernel
theorem dX12_isOwn_7 : decode cX12_isOwn 7 = .ok (.lcmp, 1) := by decide +kernel
theorem dX12_isOwn_8 : decode cX12_isOwn 8 = .ok (.ifCond .eq 256, 3) := by decide +kernel
theorem dX12_isOwn_11 : decode cX12_isOwn 11 = .ok (.aload_n 0, 1) := by decide +kernel
theorem dX12_isOwn_12 : decode cX12_isOwn 12 = .ok (.getfield 153, 3) := by decide +kernel
theorem dX12_isOwn_15 : decode cX12_isOwn 15 = .ok (.ldc2_w 178, 3) := by decide +kernel
theorem dX12_isOwn_18 : decode cX12_isOwn 18 = .ok (.lcmp, 1) := by decide +kernel
theorem dX12_isOwn_19 : decode cX12_isOwn 19 = .ok (.ifCond .eq 245, 3) := by decide +kernel
theorem dX12_isOwn_22 : decode cX12_isOwn 22 = .ok (.aload_n 0, 1) := by decide +kernel
theorem dX12_isOwn_23 : decode cX12_isOwn 23 = .ok (.getfield 153, 3) := by decide +kernel
theorem dX12_isOwn_26 : decode cX12_isOwn 26 = .ok (.ldc2_w 180, 3) := by decide +kernel
theorem dX12_isOwn_29 : decode cX12_isOwn 29 = .ok (.lcmp, 1) := by decide +kernel
theorem dX12_isOwn_30 : decode cX12_isOwn 30 = .ok (.ifCond .eq 234, 3) := by decide +kernel
theorem dX12_isOwn_33 : decode cX12_isOwn 33 = .ok (.aload_n 0, 1) := by decide +kernel
theorem dX12_isOwn_34 : decode cX12_isOwn 34 = .ok (.getfield 153, 3) := by decide +kernel
theorem dX12_isOwn_37 : decode cX12_isOwn 37 = .ok (.ldc2_w 182, 3) := by decide +kernel
theorem dX12_isOwn_40 : decode cX12_isOwn 40 = .ok (.lcmp, 1) := by decide +kernel
theorem dX12_isOwn_41 : decode cX12_isOwn 41 = .ok (.ifCond .eq 223, 3) := by decide +kernel
theorem dX12_isOwn_44 : decode cX12_isOwn 44 = .ok (.aload_n 0, 1) := by decide +kernel
theorem dX12_isOwn_45 : decode cX12_isOwn 45 = .ok (.getfield 153, 3) := by decide +kernel
theorem dX12_isOwn_48 : decode cX12_isOwn 48 = .ok (.ldc2_w 184, 3) := by decide +kernel
theorem dX12_isOwn_51 : decode cX12_isOwn 51 = .ok (.lcmp, 1) := by decide +kernel
theorem dX12_isOwn_52 : decode cX12_isOwn 52 = .ok (.ifCond .eq 212, 3) := by decide +kernel
theorem dX12_isOwn_55 : decode cX12_isOwn 55 = .ok (.aload_n 0, 1) := by decide +kernel
theorem dX12_isOwn_56 : decode cX12_isOwn 56 = .ok (.getfield 153, 3) := by decide +kernel
theorem dX12_isOwn_59 : decode cX12_isOwn 59 = .ok (.ldc2_w 186, 3) := by decide +kernel
theorem dX12_isOwn_62 : decode cX12_isOwn 62 = .ok (.lcmp, 1) := by decide +kernel
theorem dX12_isOwn_63 : decode cX12_isOwn 63 = .ok (.ifCond .eq 201, 3) := by decide +kernel
theorem dX12_isOwn_66 : decode cX12_isOwn 66 = .ok (.aload_n 0, 1) := by decide +kernel
theorem dX12_isOwn_67 : decode cX12_isOwn 67 = .ok (.getfield 153, 3) := by decide +kernel
theorem dX12_isOwn_70 : decode cX12_isOwn 70 = .ok (.ldc2_w 188, 3) := by decide +kernel
theorem dX12_isOwn_73 : decode cX12_isOwn 73 = .ok (.lcmp, 1) := by decide +kernel
theorem dX12_isOwn_74 : decode cX12_isOwn 74 = .ok (.ifCond .eq 190, 3) := by decide +kernel
theorem dX12_isOwn_77 : decode cX12_isOwn 77 = .ok (.aload_n 0, 1) := by decide +kernel
theorem dX12_isOwn_78 : decode cX12_isOwn 78 = .ok (.getfield 153, 3) := by decide +kernel
theorem dX12_isOwn_81 : decode cX12_isOwn 81 = .ok (.ldc2_w 190, 3) := by decide +kernel
theorem dX12_isOwn_84 : decode cX12_isOwn 84 = .ok (.lcmp, 1) := by decide +kernel
theorem dX12_isOwn_85 : decode cX12_isOwn 85 = .ok (.ifCond .eq 179, 3) := by decide +kernel
theorem dX12_isOwn_88 : decode cX12_isOwn 88 = .ok (.aload_n 0, 1) := by decide +kernel
theorem dX12_isOwn_89 : decode cX12_isOwn 89 = .ok (.getfield 153, 3) := by decide +kernel
theorem dX12_isOwn_92 : decode cX12_isOwn 92 = .ok (.ldc2_w 192, 3) := by decide +kernel
theorem dX12_isOwn_95 : decode cX12_isOwn 95 = .ok (.lcmp, 1) := by decide +kernel
theorem dX12_isOwn_96 : decode cX12_isOwn 96 = .ok (.ifCond .eq 168, 3) := by decide +kernel
theorem dX12_isOwn_99 : decode cX12_isOwn 99 = .ok (.aload_n 0, 1) := by decide +kernel
theorem dX12_isOwn_100 : decode cX12_isOwn 100 = .ok (.getfield 153, 3) := by decide +kernel
theorem dX12_isOwn_103 : decode cX12_isOwn 103 = .ok (.ldc2_w 194, 3) := by decide +kernel
theorem dX12_isOwn_106 : decode cX12_isOwn 106 = .ok (.lcmp, 1) := by decide +kernel
theorem dX12_isOwn_107 : decode cX12_isOwn 107 = .ok (.ifCond .eq 157, 3) := by decide +kernel
theorem dX12_isOwn_110 : decode cX12_isOwn 110 = .ok (.aload_n 0, 1) := by decide +kernel
theorem dX12_isOwn_111 : decode cX12_isOwn 111 = .ok (.getfield 153, 3) := by decide +kernel
theorem dX12_isOwn_114 : decode cX12_isOwn 114 = .ok (.ldc2_w 196, 3) := by decide +kernel
theorem dX12_isOwn_117 : decode cX12_isOwn 117 = .ok (.lcmp, 1) := by decide +kernel
theorem dX12_isOwn_118 : decode cX12_isOwn 118 = .ok (.ifCond .eq 146, 3) := by decide +kernel
theorem dX12_isOwn_121 : decode cX12_isOwn 121 = .ok (.aload_n 0, 1) := by decide +kernel
theorem dX12_isOwn_122 : decode cX12_isOwn 122 = .ok (.getfield 153, 3) := by decide +kernel
theorem dX12_isOwn_125 : decode cX12_isOwn 125 = .ok (.ldc2_w 198, 3) := by decide +kernel
theorem dX12_isOwn_128 : decode cX12_isOwn 128 = .ok (.lcmp, 1) := by decide +kernel
theorem dX12_isOwn_129 : decode cX12_isOwn 129 = .ok (.ifCond .eq 135, 3) := by decide +kernel
theorem dX12_isOwn_132 : decode cX12_isOwn 132 = .ok (.aload_n 0, 1) := by decide +kernel
theorem dX12_isOwn_133 : decode cX12_isOwn 133 = .ok (.getfield 153, 3) := by decide +kernel
theorem dX12_isOwn_136 : decode cX12_isOwn 136 = .ok (.ldc2_w 200, 3) := by decide +kernel
theorem dX12_isOwn_139 : decode cX12_isOwn 139 = .ok (.lcmp, 1) := by decide +kernel
theorem dX12_isOwn_140 : decode cX12_isOwn 140 = .ok (.ifCond .eq 124, 3) := by decide +kernel
theorem dX12_isOwn_143 : decode cX12_isOwn 143 = .ok (.aload_n 0, 1) := by decide +kernel
theorem dX12_isOwn_144 : decode cX12_isOwn 144 = .ok (.getfield 153, 3) := by decide +kernel
theorem dX12_isOwn_147 : decode cX12_isOwn 147 = .ok (.ldc2_w 202, 3) := by decide +kernel
theorem dX12_isOwn_150 : decode cX12_isOwn 150 = .ok (.lcmp, 1) := by decide +kernel
theorem dX12_isOwn_151 : decode cX12_isOwn 151 = .ok (.ifCond .eq 113, 3) := by decide +kernel
theorem dX12_isOwn_154 : decode cX12_isOwn 154 = .ok (.aload_n 0, 1) := by decide +kernel
theorem dX12_isOwn_155 : decode cX12_isOwn 155 = .ok (.getfield 153, 3) := by decide +kernel
theorem dX12_isOwn_158 : decode cX12_isOwn 158 = .ok (.ldc2_w 204, 3) := by decide +kernel
theorem dX12_isOwn_161 : decode cX12_isOwn 161 = .ok (.lcmp, 1) := by decide +kernel
theorem dX12_isOwn_162 : decode cX12_isOwn 162 = .ok (.ifCond .eq 102, 3) := by decide +kernel
theorem dX12_isOwn_165 : decode cX12_isOwn 165 = .ok (.aload_n 0, 1) := by decide +kernel
theorem dX12_isOwn_166 : decode cX12_isOwn 166 = .ok (.getfield 153, 3) := by decide +kernel
theorem dX12_isOwn_169 : decode cX12_isOwn 169 = .ok (.ldc2_w 206, 3) := by decide +kernel
theorem dX12_isOwn_172 : decode cX12_isOwn 172 = .ok (.lcmp, 1) := by decide +kernel
theorem dX12_isOwn_173 : decode cX12_isOwn 173 = .ok (.ifCond .eq 91, 3) := by decide +kernel
theorem dX12_isOwn_176 : decode cX12_isOwn 176 = .ok (.aload_n 0, 1) := by decide +kernel
theorem dX12_isOwn_177 : decode cX12_isOwn 177 = .ok (.getfield 153, 3) := by decide +kernel
theorem dX12_isOwn_180 : decode cX12_isOwn 180 = .ok (.ldc2_w 208, 3) := by decide +kernel
theorem dX12_isOwn_183 : decode cX12_isOwn 183 = .ok (.lcmp, 1) := by decide +kernel
theorem dX12_isOwn_184 : decode cX12_isOwn 184 = .ok (.ifCond .eq 80, 3) := by decide +kernel
theorem dX12_isOwn_187 : decode cX12_isOwn 187 = .ok (.aload_n 0, 1) := by decide +kernel
theorem dX12_isOwn_188 : decode cX12_isOwn 188 = .ok (.getfield 153, 3) := by decide +kernel
theorem dX12_isOwn_191 : decode cX12_isOwn 191 = .ok (.ldc2_w 210, 3) := by decide +kernel
theorem dX12_isOwn_194 : decode cX12_isOwn 194 = .ok (.lcmp, 1) := by decide +kernel
theorem dX12_isOwn_195 : decode cX12_isOwn 195 = .ok (.ifCond .eq 69, 3) := by decide +kernel
theorem dX12_isOwn_198 : decode cX12_isOwn 198 = .ok (.aload_n 0, 1) := by decide +kernel
theorem dX12_isOwn_199 : decode cX12_isOwn 199 = .ok (.getfield 153, 3) := by decide +kernel
theorem dX12_isOwn_202 : decode cX12_isOwn 202 = .ok (.ldc2_w 212, 3) := by decide +kernel
theorem dX12_isOwn_205 : decode cX12_isOwn 205 = .ok (.lcmp, 1) := by decide +kernel
theorem dX12_isOwn_206 : decode cX12_isOwn 206 = .ok (.ifCond .eq 58, 3) := by decide +kernel
theorem dX12_isOwn_209 : decode cX12_isOwn 209 = .ok (.aload_n 0, 1) := by decide +kernel
theorem dX12_isOwn_210 : decode cX12_isOwn 210 = .ok (.getfield 153, 3) := by decide +kernel
theorem dX12_isOwn_213 : decode cX12_isOwn 213 = .ok (.ldc2_w 214, 3) := by decide +kernel
theorem dX12_isOwn_216 : decode cX12_isOwn 216 = .ok (.lcmp, 1) := by decide +kernel
theorem dX12_isOwn_217 : decode cX12_isOwn 217 = .ok (.ifCond .eq 47, 3) := by decide +kernel
theorem dX12_isOwn_220 : decode cX12_isOwn 220 = .ok (.aload_n 0, 1) := by decide +kernel
theorem dX12_isOwn_221 : decode cX12_isOwn 221 = .ok (.getfield 153, 3) := by decide +kernel
theorem dX12_isOwn_224 : decode cX12_isOwn 224 = .ok (.ldc2_w 216, 3) := by decide +kernel
theorem dX12_isOwn_227 : decode cX12_isOwn 227 = .ok (.lcmp, 1) := by decide +kernel
theorem dX12_isOwn_228 : decode cX12_isOwn 228 = .ok (.ifCond .eq 36, 3) := by decide +kernel
theorem dX12_isOwn_231 : decode cX12_isOwn 231 = .ok (.aload_n 0, 1) := by decide +kernel
theorem dX12_isOwn_232 : decode cX12_isOwn 232 = .ok (.getfield 153, 3) := by decide +kernel
theorem dX12_isOwn_235 : decode cX12_isOwn 235 = .ok (.ldc2_w 218, 3) := by decide +kernel
theorem dX12_isOwn_238 : decode cX12_isOwn 238 = .ok (.lcmp, 1) := by decide +kernel
theorem dX12_isOwn_239 : decode cX12_isOwn 239 = .ok (.ifCond .eq 25, 3) := by decide +kernel
theorem dX12_isOwn_242 : decode cX12_isOwn 242 = .ok (.aload_n 0, 1) := by decide +kernel
theorem dX12_isOwn_243 : decode cX12_isOwn 243 = .ok (.getfield 153, 3) := by decide +kernel
theorem dX12_isOwn_246 : decode cX12_isOwn 246 = .ok (.ldc2_w 220, 3) := by decide +kernel
theorem dX12_isOwn_249 : decode cX12_isOwn 249 = .ok (.lcmp, 1) := by decide +kernel
theorem dX12_isOwn_250 : decode cX12_isOwn 250 = .ok (.ifCond .eq 14, 3) := by decide +kernel
theorem dX12_isOwn_253 : decode cX12_isOwn 253 = .ok (.aload_n 0, 1) := by decide +kernel
theorem dX12_isOwn_254 : decode cX12_isOwn 254 = .ok (.getfield 153, 3) := by decide +kernel
theorem dX12_isOwn_257 : decode cX12_isOwn 257 = .ok (.ldc2_w 222, 3) := by decide +kernel
theorem dX12_isOwn_260 : decode cX12_isOwn 260 = .ok (.lcmp, 1) := by decide +kernel
theorem dX12_isOwn_261 : decode cX12_isOwn 261 = .ok (.ifCond .ne 7, 3) := by decide +kernel
theorem dX12_isOwn_264 : decode cX12_isOwn 264 = .ok (.iconst 1, 1) := by decide +kernel
theorem dX12_isOwn_265 : decode cX12_isOwn 265 = .ok (.goto 4, 3) := by decide +kernel
theorem dX12_isOwn_268 : decode cX12_isOwn 268 = .ok (.iconst 0, 1) := by decide +kernel
theorem dX12_isOwn_269 : decode cX12_isOwn 269 = .ok (.ireturn, 1) := by decide +kernel
theorem dX12_isName_0 : decode cX12_isName 0 = .ok (.aload_n 0, 1) := by decide +kernel
theorem dX12_isName_1 : decode cX12_isName 1 = .ok (.getfield 160, 3) := by decide +kernel
theorem dX12_isName_4 : decode cX12_isName 4 = .ok (.iconst 1, 1) := by decide +kernel
theorem dX12_isName_5 : decode cX12_isName 5 = .ok (.if_icmp .ne 14, 3) := by decide +kernel
theorem dX12_isName_8 : decode cX12_isName 8 = .ok (.aload_n 0, 1) := by decide +kernel
theorem dX12_isName_9 : decode cX12_isName 9 = .ok (.invokevirtual 224, 3) := by decide +kernel
theorem dX12_isName_12 : decode cX12_isName 12 = .ok (.ifCond .ne 7, 3) := by decide +kernel
theorem dX12_isName_15 : decode cX12_isName 15 = .ok (.iconst 1, 1) := by decide +kernel
theorem dX12_isName_16 : decode cX12_isName 16 = .ok (.goto 4, 3) := by decide +kernel
theorem dX12_isName_19 : decode cX12_isName 19 = .ok (.iconst 0, 1) := by decide +kernel
theorem dX12_isName_20 : decode cX12_isName 20 = .ok (.ireturn, 1) := by decide +kernel
theorem dX12_want_0 : decode cX12_want 0 = .ok (.aload_n 0, 1) := by decide +kernel
theorem dX12_want_1 : decode cX12_want 1 = .ok (.getfield 173, 3) := by decide +kernel
theorem dX12_want_4 : decode cX12_want 4 = .ok (.ifCond .le 4, 3) := by decide +kernel
theorem dX12_want_7 : decode cX12_want 7 = .ok (.return_, 1) := by decide +kernel
theorem dX12_want_8 : decode cX12_want 8 = .ok (.aload_n 0, 1) := by decide +kernel
theorem dX12_want_9 : decode cX12_want 9 = .ok (.lload_n 1, 1) := by decide +kernel
theorem dX12_want_10 : decode cX12_want 10 = .ok (.invokevirtual 228, 3) := by decide +kernel
theorem dX12_want_13 : decode cX12_want 13 = .ok (.ifCond .ne 11, 3) := by decide +kernel
theorem dX12_want_16 : decode cX12_want 16 = .ok (.aload_n 0, 1) := by decide +kernel
theorem dX12_want_17 : decode cX12_want 17 = .ok (.iconst 2, 1) := by decide +kernel
theorem dX12_want_18 : decode cX12_want 18 = .ok (.invokevirtual 232, 3) := by decide +kernel
theorem dX12_want_21 : decode cX12_want 21 = .ok (.goto 7, 3) := by decide +kernel
theorem dX12_want_24 : decode cX12_want 24 = .ok (.aload_n 0, 1) := by decide +kernel
theorem dX12_want_25 : decode cX12_want 25 = .ok (.invokevirtual 235, 3) := by decide +kernel
theorem dX12_want_28 : decode cX12_want 28 = .ok (.return_, 1) := by decide +kernel
theorem dX12_toldNumber_0 : decode cX12_toldNumber 0 = .ok (.aload_n 0, 1) := by decide +kernel
theorem dX12_toldNumber_1 : decode cX12_toldNumber 1 = .ok (.getfield 173, 3) := by decide +kernel
theorem dX12_toldNumber_4 : decode cX12_toldNumber 4 = .ok (.ifCond .le 5, 3) := by decide +kernel
theorem dX12_toldNumber_7 : decode cX12_toldNumber 7 = .ok (.iconst 0, 1) := by decide +kernel
theorem dX12_toldNumber_8 : decode cX12_toldNumber 8 = .ok (.ireturn, 1) := by decide +kernel
theorem dX12_toldNumber_9 : decode cX12_toldNumber 9 = .ok (.aload_n 0, 1) := by decide +kernel
theorem dX12_toldNumber_10 : decode cX12_toldNumber 10 = .ok (.getfield 160, 3) := by decide +kernel
theorem dX12_toldNumber_13 : decode cX12_toldNumber 13 = .ok (.iconst 2, 1) := by decide +kernel
theorem dX12_toldNumber_14 : decode cX12_toldNumber 14 = .ok (.if_icmp .eq 11, 3) := by decide +kernel
theorem dX12_toldNumber_17 : decode cX12_toldNumber 17 = .ok (.aload_n 0, 1) := by decide +kernel
theorem dX12_toldNumber_18 : decode cX12_toldNumber 18 = .ok (.iconst 2, 1) := by decide +kernel
theorem dX12_toldNumber_19 : decode cX12_toldNumber 19 = .ok (.invokevirtual 232, 3) := by decide +kernel
theorem dX12_toldNumber_22 : decode cX12_toldNumber 22 = .ok (.goto 24, 3) := by decide +kernel
theorem dX12_toldNumber_25 : decode cX12_toldNumber 25 = .ok (.aload_n 0, 1) := by decide +kernel
theorem dX12_toldNumber_26 : decode cX12_toldNumber 26 = .ok (.getfield 157, 3) := by decide +kernel
theorem dX12_toldNumber_29 : decode cX12_toldNumber 29 = .ok (.iload_n 1, 1) := by decide +kernel
theorem dX12_toldNumber_30 : decode cX12_toldNumber 30 = .ok (.if_icmp .lt 11, 3) := by decide +kernel
theorem dX12_toldNumber_33 : decode cX12_toldNumber 33 = .ok (.aload_n 0, 1) := by decide +kernel
theorem dX12_toldNumber_34 : decode cX12_toldNumber 34 = .ok (.getfield 157, 3) := by decide +kernel
theorem dX12_toldNumber_37 : decode cX12_toldNumber 37 = .ok (.iload_n 2, 1) := by decide +kernel
theorem dX12_toldNumber_38 : decode cX12_toldNumber 38 = .ok (.if_icmp .le 8, 3) := by decide +kernel
theorem dX12_toldNumber_41 : decode cX12_toldNumber 41 = .ok (.aload_n 0, 1) := by decide +kernel
theorem dX12_toldNumber_42 : decode cX12_toldNumber 42 = .ok (.iconst 4, 1) := by decide +kernel
theorem dX12_toldNumber_43 : decode cX12_toldNumber 43 = .ok (.invokevirtual 232, 3) := by decide +kernel
theorem dX12_toldNumber_46 : decode cX12_toldNumber 46 = .ok (.aload_n 0, 1) := by decide +kernel
theorem dX12_toldNumber_47 : decode cX12_toldNumber 47 = .ok (.getfield 157, 3) := by decide +kernel
theorem dX12_toldNumber_50 : decode cX12_toldNumber 50 = .ok (.istore_n 3, 1) := by decide +kernel
theorem dX12_toldNumber_51 : decode cX12_toldNumber 51 = .ok (.aload_n 0, 1) := by decide +kernel
theorem dX12_toldNumber_52 : decode cX12_toldNumber 52 = .ok (.getfield 173, 3) := by decide +kernel
theorem dX12_toldNumber_55 : decode cX12_toldNumber 55 = .ok (.ifCond .ne 7, 3) := by decide +kernel
theorem dX12_toldNumber_58 : decode cX12_toldNumber 58 = .ok (.aload_n 0, 1) := by decide +kernel
theorem dX12_toldNumber_59 : decode cX12_toldNumber 59 = .ok (.invokevirtual 235, 3) := by decide +kernel
theorem dX12_toldNumber_62 : decode cX12_toldNumber 62 = .ok (.iload_n 3, 1) := by decide +kernel
theorem dX12_toldNumber_63 : decode cX12_toldNumber 63 = .ok (.ireturn, 1) := by decide +kernel
theorem dX12_told_0 : decode cX12_told 0 = .ok (.aload_n 0, 1) := by decide +kernel
theorem dX12_told_1 : decode cX12_told 1 = .ok (.lload_n 1, 1) := by decide +kernel
theorem dX12_told_2 : decode cX12_told 2 = .ok (.invokevirtual 238, 3) := by decide +kernel
theorem dX12_told_5 : decode cX12_told 5 = .ok (.aload_n 0, 1) := by decide +kernel
theorem dX12_told_6 : decode cX12_told 6 = .ok (.iload_n 3, 1) := by decide +kernel
theorem dX12_told_7 : decode cX12_told 7 = .ok (.iload 4, 2) := by decide +kernel
theorem dX12_told_9 : decode cX12_told 9 = .ok (.invokevirtual 241, 3) := by decide +kernel
theorem dX12_told_12 : decode cX12_told 12 = .ok (.ireturn, 1) := by decide +kernel
theorem dX12_toldValue_0 : decode cX12_toldValue 0 = .ok (.aload_n 0, 1) := by decide +kernel
theorem dX12_toldValue_1 : decode cX12_toldValue 1 = .ok (.getfield 173, 3) := by decide +kernel
theorem dX12_toldValue_4 : decode cX12_toldValue 4 = .ok (.ifCond .le 5, 3) := by decide +kernel
theorem dX12_toldValue_7 : decode cX12_toldValue 7 = .ok (.iconst 0, 1) := by decide +kernel
theorem dX12_toldValue_8 : decode cX12_toldValue 8 = .ok (.ireturn, 1) := by decide +kernel
theorem dX12_toldValue_9 : decode cX12_toldValue 9 = .ok (.aload_n 0, 1) := by decide +kernel
theorem dX12_toldValue_10 : decode cX12_toldValue 10 = .ok (.getfield 150, 3) := by decide +kernel
theorem dX12_toldValue_13 : decode cX12_toldValue 13 = .ok (.istore_n 2, 1) := by decide +kernel
theorem dX12_toldValue_14 : decode cX12_toldValue 14 = .ok (.aload_n 0, 1) := by decide +kernel
theorem dX12_toldValue_15 : decode cX12_toldValue 15 = .ok (.getfield 160, 3) := by decide +kernel
theorem dX12_toldValue_18 : decode cX12_toldValue 18 = .ok (.bipush 45, 2) := by decide +kernel
theorem dX12_toldValue_20 : decode cX12_toldValue 20 = .ok (.if_icmp .ne 7, 3) := by decide +kernel
theorem dX12_toldValue_23 : decode cX12_toldValue 23 = .ok (.iconst 1, 1) := by decide +kernel
theorem dX12_toldValue_24 : decode cX12_toldValue 24 = .ok (.goto 4, 3) := by decide +kernel
theorem dX12_toldValue_27 : decode cX12_toldValue 27 = .ok (.iconst 0, 1) := by decide +kernel
theorem dX12_toldValue_28 : decode cX12_toldValue 28 = .ok (.istore_n 3, 1) := by decide +kernel
theorem dX12_toldValue_29 : decode cX12_toldValue 29 = .ok (.iload_n 3, 1) := by decide +kernel
theorem dX12_toldValue_30 : decode cX12_toldValue 30 = .ok (.ifCond .eq 7, 3) := by decide +kernel
theorem dX12_toldValue_33 : decode cX12_toldValue 33 = .ok (.aload_n 0, 1) := by decide +kernel
theorem dX12_toldValue_34 : decode cX12_toldValue 34 = .ok (.invokevirtual 235, 3) := by decide +kernel
theorem dX12_toldValue_37 : decode cX12_toldValue 37 = .ok (.aload_n 0, 1) := by decide +kernel
theorem dX12_toldValue_38 : decode cX12_toldValue 38 = .ok (.iconst 0, 1) := by decide +kernel
theorem dX12_toldValue_39 : decode cX12_toldValue 39 = .ok (.iload_n 1, 1) := by decide +kernel
theorem dX12_toldValue_40 : decode cX12_toldValue 40 = .ok (.invokevirtual 241, 3) := by decide +kernel
theorem dX12_toldValue_43 : decode cX12_toldValue 43 = .ok (.istore 4, 2) := by decide +kernel
theorem dX12_toldValue_45 : decode cX12_toldValue 45 = .ok (.aload_n 0, 1) := by decide +kernel
theorem dX12_toldValue_46 : decode cX12_toldValue 46 = .ok (.getfield 173, 3) := by decide +kernel
theorem dX12_toldValue_49 : decode cX12_toldValue 49 = .ok (.iconst 4, 1) := by decide +kernel
theorem dX12_toldValue_50 : decode cX12_toldValue 50 = .ok (.if_icmp .ne 12, 3) := by decide +kernel
theorem dX12_toldValue_53 : decode cX12_toldValue 53 = .ok (.iload_n 3, 1) := by decide +kernel
theorem dX12_toldValue_54 : decode cX12_toldValue 54 = .ok (.ifCond .eq 8, 3) := by decide +kernel
theorem dX12_toldValue_57 : decode cX12_toldValue 57 = .ok (.aload_n 0, 1) := by decide +kernel
theorem dX12_toldValue_58 : decode cX12_toldValue 58 = .ok (.iload_n 2, 1) := by decide +kernel
theorem dX12_toldValue_59 : decode cX12_toldValue 59 = .ok (.putfield 13, 3) := by decide +kernel
theorem dX12_toldValue_62 : decode cX12_toldValue 62 = .ok (.iload_n 3, 1) := by decide +kernel
theorem dX12_toldValue_63 : decode cX12_toldValue 63 = .ok (.ifCond .eq 9, 3) := by decide +kernel
theorem dX12_toldValue_66 : decode cX12_toldValue 66 = .ok (.iload 4, 2) := by decide +kernel
theorem dX12_toldValue_68 : decode cX12_toldValue 68 = .ok (.ineg, 1) := by decide +kernel
theorem dX12_toldValue_69 : decode cX12_toldValue 69 = .ok (.goto 5, 3) := by decide +kernel
theorem dX12_toldValue_72 : decode cX12_toldValue 72 = .ok (.iload 4, 2) := by decide +kernel
theorem dX12_toldValue_74 : decode cX12_toldValue 74 = .ok (.ireturn, 1) := by decide +kernel
theorem dX12_find_0 : decode cX12_find 0 = .ok (.iconst (-1), 1) := by decide +kernel
theorem dX12_find_1 : decode cX12_find 1 = .ok (.istore_n 3, 1) := by decide +kernel
theorem dX12_find_2 : decode cX12_find 2 = .ok (.iconst 0, 1) := by decide +kernel
theorem dX12_find_3 : decode cX12_find 3 = .ok (.istore 4, 2) := by decide +kernel
theorem dX12_find_5 : decode cX12_find 5 = .ok (.iload 4, 2) := by decide +kernel
theorem dX12_find_7 : decode cX12_find 7 = .ok (.iload_n 2, 1) := by decide +kernel
theorem dX12_find_8 : decode cX12_find 8 = .ok (.if_icmp .ge 33, 3) := by decide +kernel
theorem dX12_find_11 : decode cX12_find 11 = .ok (.aload_n 0, 1) := by decide +kernel
theorem dX12_find_12 : decode cX12_find 12 = .ok (.getfield 17, 3) := by decide +kernel
theorem dX12_find_15 : decode cX12_find 15 = .ok (.iload_n 1, 1) := by decide +kernel
theorem dX12_find_16 : decode cX12_find 16 = .ok (.iload 4, 2) := by decide +kernel
theorem dX12_find_18 : decode cX12_find 18 = .ok (.iadd, 1) := by decide +kernel
theorem dX12_find_19 : decode cX12_find 19 = .ok (.laload, 1) := by decide +kernel
theorem dX12_find_20 : decode cX12_find 20 = .ok (.aload_n 0, 1) := by decide +kernel
theorem dX12_find_21 : decode cX12_find 21 = .ok (.getfield 153, 3) := by decide +kernel
theorem dX12_find_24 : decode cX12_find 24 = .ok (.lcmp, 1) := by decide +kernel
theorem dX12_find_25 : decode cX12_find 25 = .ok (.ifCond .ne 8, 3) := by decide +kernel
theorem dX12_find_28 : decode cX12_find 28 = .ok (.iload 4, 2) := by decide +kernel
theorem dX12_find_30 : decode cX12_find 30 = .ok (.goto 4, 3) := by decide +kernel
theorem dX12_find_33 : decode cX12_find 33 = .ok (.iload_n 3, 1) := by decide +kernel
theorem dX12_find_34 : decode cX12_find 34 = .ok (.istore_n 3, 1) := by decide +kernel
theorem dX12_find_35 : decode cX12_find 35 = .ok (.iinc 4 1, 3) := by decide +kernel
theorem dX12_find_38 : decode cX12_find 38 = .ok (.goto (-33), 3) := by decide +kernel
theorem dX12_find_41 : decode cX12_find 41 = .ok (.iload_n 3, 1) := by decide +kernel
theorem dX12_find_42 : decode cX12_find 42 = .ok (.ireturn, 1) := by decide +kernel
theorem dX12_newName_0 : decode cX12_newName 0 = .ok (.aload_n 0, 1) := by decide +kernel
theorem dX12_newName_1 : decode cX12_newName 1 = .ok (.invokevirtual 235, 3) := by decide +kernel
theorem dX12_newName_4 : decode cX12_newName 4 = .ok (.aload_n 0, 1) := by decide +kernel
theorem dX12_newName_5 : decode cX12_newName 5 = .ok (.invokevirtual 245, 3) := by decide +kernel
theorem dX12_newName_8 : decode cX12_newName 8 = .ok (.ifCond .ne 11, 3) := by decide +kernel
theorem dX12_newName_11 : decode cX12_newName 11 = .ok (.aload_n 0, 1) := by decide +kernel
theorem dX12_newName_12 : decode cX12_newName 12 = .ok (.iconst 2, 1) := by decide +kernel
theorem dX12_newName_13 : decode cX12_newName 13 = .ok (.invokevirtual 232, 3) := by decide +kernel
theorem dX12_newName_16 : decode cX12_newName 16 = .ok (.goto 17, 3) := by decide +kernel
theorem dX12_newName_19 : decode cX12_newName 19 = .ok (.aload_n 0, 1) := by decide +kernel
theorem dX12_newName_20 : decode cX12_newName 20 = .ok (.iload_n 1, 1) := by decide +kernel
theorem dX12_newName_21 : decode cX12_newName 21 = .ok (.iload_n 2, 1) := by decide +kernel
theorem dX12_newName_22 : decode cX12_newName 22 = .ok (.invokevirtual 248, 3) := by decide +kernel
theorem dX12_newName_25 : decode cX12_newName 25 = .ok (.ifCond .lt 8, 3) := by decide +kernel
theorem dX12_newName_28 : decode cX12_newName 28 = .ok (.aload_n 0, 1) := by decide +kernel
theorem dX12_newName_29 : decode cX12_newName 29 = .ok (.iconst 3, 1) := by decide +kernel
theorem dX12_newName_30 : decode cX12_newName 30 = .ok (.invokevirtual 232, 3) := by decide +kernel
theorem dX12_newName_33 : decode cX12_newName 33 = .ok (.aload_n 0, 1) := by decide +kernel
theorem dX12_newName_34 : decode cX12_newName 34 = .ok (.getfield 173, 3) := by decide +kernel
theorem dX12_newName_37 : decode cX12_newName 37 = .ok (.ifCond .le 4, 3) := by decide +kernel
theorem dX12_newName_40 : decode cX12_newName 40 = .ok (.return_, 1) := by decide +kernel
theorem dX12_newName_41 : decode cX12_newName 41 = .ok (.aload_n 0, 1) := by decide +kernel
theorem dX12_newName_42 : decode cX12_newName 42 = .ok (.getfield 17, 3) := by decide +kernel
theorem dX12_newName_45 : decode cX12_newName 45 = .ok (.iload_n 1, 1) := by decide +kernel
theorem dX12_newName_46 : decode cX12_newName 46 = .ok (.iload_n 2, 1) := by decide +kernel
theorem dX12_newName_47 : decode cX12_newName 47 = .ok (.iadd, 1) := by decide +kernel
theorem dX12_newName_48 : decode cX12_newName 48 = .ok (.aload_n 0, 1) := by decide +kernel
theorem dX12_newName_49 : decode cX12_newName 49 = .ok (.getfield 153, 3) := by decide +kernel
theorem dX12_newName_52 : decode cX12_newName 52 = .ok (.lastore, 1) := by decide +kernel
theorem dX12_newName_53 : decode cX12_newName 53 = .ok (.aload_n 0, 1) := by decide +kernel
theorem dX12_newName_54 : decode cX12_newName 54 = .ok (.invokevirtual 235, 3) := by decide +kernel
theorem dX12_newName_57 : decode cX12_newName 57 = .ok (.return_, 1) := by decide +kernel
theorem dX12_oldName_0 : decode cX12_oldName 0 = .ok (.aload_n 0, 1) := by decide +kernel
theorem dX12_oldName_1 : decode cX12_oldName 1 = .ok (.getfield 173, 3) := by decide +kernel
theorem dX12_oldName_4 : decode cX12_oldName 4 = .ok (.ifCond .le 5, 3) := by decide +kernel
theorem dX12_oldName_7 : decode cX12_oldName 7 = .ok (.iconst 0, 1) := by decide +kernel
theorem dX12_oldName_8 : decode cX12_oldName 8 = .ok (.ireturn, 1) := by decide +kernel
theorem dX12_oldName_9 : decode cX12_oldName 9 = .ok (.aload_n 0, 1) := by decide +kernel
theorem dX12_oldName_10 : decode cX12_oldName 10 = .ok (.invokevirtual 245, 3) := by decide +kernel
theorem dX12_oldName_13 : decode cX12_oldName 13 = .ok (.ifCond .ne 11, 3) := by decide +kernel
theorem dX12_oldName_16 : decode cX12_oldName 16 = .ok (.aload_n 0, 1) := by decide +kernel
theorem dX12_oldName_17 : decode cX12_oldName 17 = .ok (.iconst 2, 1) := by decide +kernel
theorem dX12_oldName_18 : decode cX12_oldName 18 = .ok (.invokevirtual 232, 3) := by decide +kernel
theorem dX12_oldName_21 : decode cX12_oldName 21 = .ok (.goto 17, 3) := by decide +kernel
theorem dX12_oldName_24 : decode cX12_oldName 24 = .ok (.aload_n 0, 1) := by decide +kernel
theorem dX12_oldName_25 : decode cX12_oldName 25 = .ok (.iload_n 1, 1) := by decide +kernel
theorem dX12_oldName_26 : decode cX12_oldName 26 = .ok (.iload_n 2, 1) := by decide +kernel
theorem dX12_oldName_27 : decode cX12_oldName 27 = .ok (.invokevirtual 248, 3) := by decide +kernel
theorem dX12_oldName_30 : decode cX12_oldName 30 = .ok (.ifCond .ge 8, 3) := by decide +kernel
theorem dX12_oldName_33 : decode cX12_oldName 33 = .ok (.aload_n 0, 1) := by decide +kernel
theorem dX12_oldName_34 : decode cX12_oldName 34 = .ok (.iconst 5, 1) := by decide +kernel
theorem dX12_oldName_35 : decode cX12_oldName 35 = .ok (.invokevirtual 232, 3) := by decide +kernel
theorem dX12_oldName_38 : decode cX12_oldName 38 = .ok (.aload_n 0, 1) := by decide +kernel
theorem dX12_oldName_39 : decode cX12_oldName 39 = .ok (.getfield 173, 3) := by decide +kernel
theorem dX12_oldName_42 : decode cX12_oldName 42 = .ok (.ifCond .le 7, 3) := by decide +kernel
theorem dX12_oldName_45 : decode cX12_oldName 45 = .ok (.iconst 0, 1) := by decide +kernel
theorem dX12_oldName_46 : decode cX12_oldName 46 = .ok (.goto 9, 3) := by decide +kernel
theorem dX12_oldName_49 : decode cX12_oldName 49 = .ok (.aload_n 0, 1) := by decide +kernel
theorem dX12_oldName_50 : decode cX12_oldName 50 = .ok (.iload_n 1, 1) := by decide +kernel
theorem dX12_oldName_51 : decode cX12_oldName 51 = .ok (.iload_n 2, 1) := by decide +kernel
theorem dX12_oldName_52 : decode cX12_oldName 52 = .ok (.invokevirtual 248, 3) := by decide +kernel
theorem dX12_oldName_55 : decode cX12_oldName 55 = .ok (.ireturn, 1) := by decide +kernel
theorem dX12_nameBehind_0 : decode cX12_nameBehind 0 = .ok (.aload_n 0, 1) := by decide +kernel
theorem dX12_nameBehind_1 : decode cX12_nameBehind 1 = .ok (.getfield 173, 3) := by decide +kernel
theorem dX12_nameBehind_4 : decode cX12_nameBehind 4 = .ok (.ifCond .gt 11, 3) := by decide +kernel
theorem dX12_nameBehind_7 : decode cX12_nameBehind 7 = .ok (.aload_n 0, 1) := by decide +kernel
theorem dX12_nameBehind_8 : decode cX12_nameBehind 8 = .ok (.lload_n 1, 1) := by decide +kernel
theorem dX12_nameBehind_9 : decode cX12_nameBehind 9 = .ok (.invokevirtual 228, 3) := by decide +kernel
theorem dX12_nameBehind_12 : decode cX12_nameBehind 12 = .ok (.ifCond .ne 5, 3) := by decide +kernel
theorem dX12_nameBehind_15 : decode cX12_nameBehind 15 = .ok (.iconst (-1), 1) := by decide +kernel
theorem dX12_nameBehind_16 : decode cX12_nameBehind 16 = .ok (.ireturn, 1) := by decide +kernel
theorem dX12_nameBehind_17 : decode cX12_nameBehind 17 = .ok (.aload_n 0, 1) := by decide +kernel
theorem dX12_nameBehind_18 : decode cX12_nameBehind 18 = .ok (.invokevirtual 235, 3) := by decide +kernel
theorem dX12_nameBehind_21 : decode cX12_nameBehind 21 = .ok (.aload_n 0, 1) := by decide +kernel
theorem dX12_nameBehind_22 : decode cX12_nameBehind 22 = .ok (.iload_n 3, 1) := by decide +kernel
theorem dX12_nameBehind_23 : decode cX12_nameBehind 23 = .ok (.iload 4, 2) := by decide +kernel
theorem dX12_nameBehind_25 : decode cX12_nameBehind 25 = .ok (.invokevirtual 251, 3) := by decide +kernel
theorem dX12_nameBehind_28 : decode cX12_nameBehind 28 = .ok (.istore 5, 2) := by decide +kernel
theorem dX12_nameBehind_30 : decode cX12_nameBehind 30 = .ok (.aload_n 0, 1) := by decide +kernel
theorem dX12_nameBehind_31 : decode cX12_nameBehind 31 = .ok (.getfield 173, 3) := by decide +kernel
theorem dX12_nameBehind_34 : decode cX12_nameBehind 34 = .ok (.ifCond .ne 7, 3) := by decide +kernel
theorem dX12_nameBehind_37 : decode cX12_nameBehind 37 = .ok (.aload_n 0, 1) := by decide +kernel
theorem dX12_nameBehind_38 : decode cX12_nameBehind 38 = .ok (.invokevirtual 235, 3) := by decide +kernel
theorem dX12_nameBehind_41 : decode cX12_nameBehind 41 = .ok (.iload 5, 2) := by decide +kernel
theorem dX12_nameBehind_43 : decode cX12_nameBehind 43 = .ok (.ireturn, 1) := by decide +kernel
theorem dX12_add_0 : decode cX12_add 0 = .ok (.aload_n 0, 1) := by decide +kernel
theorem dX12_add_1 : decode cX12_add 1 = .ok (.getfield 21, 3) := by decide +kernel
theorem dX12_add_4 : decode cX12_add 4 = .ok (.aload_n 0, 1) := by decide +kernel
theorem dX12_add_5 : decode cX12_add 5 = .ok (.getfield 254, 3) := by decide +kernel
theorem dX12_add_8 : decode cX12_add 8 = .ok (.iload_n 1, 1) := by decide +kernel
theorem dX12_add_9 : decode cX12_add 9 = .ok (.iastore, 1) := by decide +kernel
theorem dX12_add_10 : decode cX12_add 10 = .ok (.aload_n 0, 1) := by decide +kernel
theorem dX12_add_11 : decode cX12_add 11 = .ok (.getfield 24, 3) := by decide +kernel
theorem dX12_add_14 : decode cX12_add 14 = .ok (.aload_n 0, 1) := by decide +kernel
theorem dX12_add_15 : decode cX12_add 15 = .ok (.getfield 254, 3) := by decide +kernel
theorem dX12_add_18 : decode cX12_add 18 = .ok (.iload_n 2, 1) := by decide +kernel
theorem dX12_add_19 : decode cX12_add 19 = .ok (.iastore, 1) := by decide +kernel
theorem dX12_add_20 : decode cX12_add 20 = .ok (.aload_n 0, 1) := by decide +kernel
theorem dX12_add_21 : decode cX12_add 21 = .ok (.dup, 1) := by decide +kernel
theorem dX12_add_22 : decode cX12_add 22 = .ok (.getfield 254, 3) := by decide +kernel
theorem dX12_add_25 : decode cX12_add 25 = .ok (.iconst 1, 1) := by decide +kernel
theorem dX12_add_26 : decode cX12_add 26 = .ok (.iadd, 1) := by decide +kernel
theorem dX12_add_27 : decode cX12_add 27 = .ok (.putfield 254, 3) := by decide +kernel
theorem dX12_add_30 : decode cX12_add 30 = .ok (.return_, 1) := by decide +kernel
theorem dX12_tight_0 : decode cX12_tight 0 = .ok (.iload_n 0, 1) := by decide +kernel
theorem dX12_tight_1 : decode cX12_tight 1 = .ok (.lookupswitch 85 #[(21, 79), (38, 77), (43, 83), (45, 83), (60, 81), (61, 81), (62, 81), (124, 75)], 75) := by decide +kernel
theorem dX12_tight_76 : decode cX12_tight 76 = .ok (.iconst 1, 1) := by decide +kernel
theorem dX12_tight_77 : decode cX12_tight 77 = .ok (.ireturn, 1) := by decide +kernel
theorem dX12_tight_78 : decode cX12_tight 78 = .ok (.iconst 2, 1) := by decide +kernel
theorem dX12_tight_79 : decode cX12_tight 79 = .ok (.ireturn, 1) := by decide +kernel
theorem dX12_tight_80 : decode cX12_tight 80 = .ok (.iconst 3, 1) := by decide +kernel
theorem dX12_tight_81 : decode cX12_tight 81 = .ok (.ireturn, 1) := by decide +kernel
theorem dX12_tight_82 : decode cX12_tight 82 = .ok (.iconst 4, 1) := by decide +kernel
theorem dX12_tight_83 : decode cX12_tight 83 = .ok (.ireturn, 1) := by decide +kernel
theorem dX12_tight_84 : decode cX12_tight 84 = .ok (.iconst 5, 1) := by decide +kernel
theorem dX12_tight_85 : decode cX12_tight 85 = .ok (.ireturn, 1) := by decide +kernel
theorem dX12_tight_86 : decode cX12_tight 86 = .ok (.bipush 6, 2) := by decide +kernel
theorem dX12_tight_88 : decode cX12_tight 88 = .ok (.ireturn, 1) := by decide +kernel
theorem dX12_close_0 : decode cX12_close 0 = .ok (.aload_n 0, 1) := by decide +kernel
theorem dX12_close_1 : decode cX12_close 1 = .ok (.getfield 257, 3) := by decide +kernel
theorem dX12_close_4 : decode cX12_close 4 = .ok (.ifCond .le 97, 3) := by decide +kernel
theorem dX12_close_7 : decode cX12_close 7 = .ok (.aload_n 0, 1) := by decide +kernel
theorem dX12_close_8 : decode cX12_close 8 = .ok (.getfield 33, 3) := by decide +kernel
theorem dX12_close_11 : decode cX12_close 11 = .ok (.aload_n 0, 1) := by decide +kernel
theorem dX12_close_12 : decode cX12_close 12 = .ok (.getfield 257, 3) := by decide +kernel
theorem dX12_close_15 : decode cX12_close 15 = .ok (.iconst 1, 1) := by decide +kernel
theorem dX12_close_16 : decode cX12_close 16 = .ok (.isub, 1) := by decide +kernel
theorem dX12_close_17 : decode cX12_close 17 = .ok (.iaload, 1) := by decide +kernel
theorem dX12_close_18 : decode cX12_close 18 = .ok (.bipush 20, 2) := by decide +kernel
theorem dX12_close_20 : decode cX12_close 20 = .ok (.if_icmp .eq 81, 3) := by decide +kernel
theorem dX12_close_23 : decode cX12_close 23 = .ok (.aload_n 0, 1) := by decide +kernel
theorem dX12_close_24 : decode cX12_close 24 = .ok (.getfield 33, 3) := by decide +kernel
theorem dX12_close_27 : decode cX12_close 27 = .ok (.aload_n 0, 1) := by decide +kernel
theorem dX12_close_28 : decode cX12_close 28 = .ok (.getfield 257, 3) := by decide +kernel
theorem dX12_close_31 : decode cX12_close 31 = .ok (.iconst 1, 1) := by decide +kernel
theorem dX12_close_32 : decode cX12_close 32 = .ok (.isub, 1) := by decide +kernel
theorem dX12_close_33 : decode cX12_close 33 = .ok (.iaload, 1) := by decide +kernel
theorem dX12_close_34 : decode cX12_close 34 = .ok (.invokestatic 260, 3) := by decide +kernel
theorem dX12_close_37 : decode cX12_close 37 = .ok (.iload_n 1, 1) := by decide +kernel
theorem dX12_close_38 : decode cX12_close 38 = .ok (.if_icmp .lt 63, 3) := by decide +kernel
theorem dX12_close_41 : decode cX12_close 41 = .ok (.aload_n 0, 1) := by decide +kernel
theorem dX12_close_42 : decode cX12_close 42 = .ok (.dup, 1) := by decide +kernel
theorem dX12_close_43 : decode cX12_close 43 = .ok (.getfield 257, 3) := by decide +kernel
theorem dX12_close_46 : decode cX12_close 46 = .ok (.iconst 1, 1) := by decide +kernel
theorem dX12_close_47 : decode cX12_close 47 = .ok (.isub, 1) := by decide +kernel
theorem dX12_close_48 : decode cX12_close 48 = .ok (.putfield 257, 3) := by decide +kernel
theorem dX12_close_51 : decode cX12_close 51 = .ok (.aload_n 0, 1) := by decide +kernel
theorem dX12_close_52 : decode cX12_close 52 = .ok (.getfield 33, 3) := by decide +kernel
theorem dX12_close_55 : decode cX12_close 55 = .ok (.aload_n 0, 1) := by decide +kernel
theorem dX12_close_56 : decode cX12_close 56 = .ok (.getfield 257, 3) := by decide +kernel
theorem dX12_close_59 : decode cX12_close 59 = .ok (.iaload, 1) := by decide +kernel
theorem dX12_close_60 : decode cX12_close 60 = .ok (.bipush 21, 2) := by decide +kernel
theorem dX12_close_62 : decode cX12_close 62 = .ok (.if_icmp .ne 22, 3) := by decide +kernel
theorem dX12_close_65 : decode cX12_close 65 = .ok (.aload_n 0, 1) := by decide +kernel
theorem dX12_close_66 : decode cX12_close 66 = .ok (.iconst 2, 1) := by decide +kernel
theorem dX12_close_67 : decode cX12_close 67 = .ok (.iconst 0, 1) := by decide +kernel
theorem dX12_close_68 : decode cX12_close 68 = .ok (.invokevirtual 263, 3) := by decide +kernel
theorem dX12_close_71 : decode cX12_close 71 = .ok (.aload_n 0, 1) := by decide +kernel
theorem dX12_close_72 : decode cX12_close 72 = .ok (.dup, 1) := by decide +kernel
theorem dX12_close_73 : decode cX12_close 73 = .ok (.getfield 267, 3) := by decide +kernel
theorem dX12_close_76 : decode cX12_close 76 = .ok (.iconst 1, 1) := by decide +kernel
theorem dX12_close_77 : decode cX12_close 77 = .ok (.isub, 1) := by decide +kernel
theorem dX12_close_78 : decode cX12_close 78 = .ok (.putfield 267, 3) := by decide +kernel
theorem dX12_close_81 : decode cX12_close 81 = .ok (.goto (-81), 3) := by decide +kernel
theorem dX12_close_84 : decode cX12_close 84 = .ok (.aload_n 0, 1) := by decide +kernel
theorem dX12_close_85 : decode cX12_close 85 = .ok (.iconst 3, 1) := by decide +kernel
theorem dX12_close_86 : decode cX12_close 86 = .ok (.aload_n 0, 1) := by decide +kernel
theorem dX12_close_87 : decode cX12_close 87 = .ok (.getfield 33, 3) := by decide +kernel
theorem dX12_close_90 : decode cX12_close 90 = .ok (.aload_n 0, 1) := by decide +kernel
theorem dX12_close_91 : decode cX12_close 91 = .ok (.getfield 257, 3) := by decide +kernel
theorem dX12_close_94 : decode cX12_close 94 = .ok (.iaload, 1) := by decide +kernel
theorem dX12_close_95 : decode cX12_close 95 = .ok (.invokevirtual 263, 3) := by decide +kernel
theorem dX12_close_98 : decode cX12_close 98 = .ok (.goto (-98), 3) := by decide +kernel
theorem dX12_close_101 : decode cX12_close 101 = .ok (.return_, 1) := by decide +kernel
theorem dX12_hasRelation_0 : decode cX12_hasRelation 0 = .ok (.aload_n 0, 1) := by decide +kernel
theorem dX12_hasRelation_1 : decode cX12_hasRelation 1 = .ok (.getfield 257, 3) := by decide +kernel
theorem dX12_hasRelation_4 : decode cX12_hasRelation 4 = .ok (.iconst 1, 1) := by decide +kernel
theorem dX12_hasRelation_5 : decode cX12_hasRelation 5 = .ok (.isub, 1) := by decide +kernel
theorem dX12_hasRelation_6 : decode cX12_hasRelation 6 = .ok (.istore_n 1, 1) := by decide +kernel
theorem dX12_hasRelation_7 : decode cX12_hasRelation 7 = .ok (.iload_n 1, 1) := by decide +kernel
theorem dX12_hasRelation_8 : decode cX12_hasRelation 8 = .ok (.ifCond .lt 33, 3) := by decide +kernel
theorem dX12_hasRelation_11 : decode cX12_hasRelation 11 = .ok (.aload_n 0, 1) := by decide +kernel
theorem dX12_hasRelation_12 : decode cX12_hasRelation 12 = .ok (.getfield 33, 3) := by decide +kernel
theorem dX12_hasRelation_15 : decode cX12_hasRelation 15 = .ok (.iload_n 1, 1) := by decide +kernel
theorem dX12_hasRelation_16 : decode cX12_hasRelation 16 = .ok (.iaload, 1) := by decide +kernel
theorem dX12_hasRelation_17 : decode cX12_hasRelation 17 = .ok (.bipush 20, 2) := by decide +kernel
theorem dX12_hasRelation_19 : decode cX12_hasRelation 19 = .ok (.if_icmp .eq 22, 3) := by decide +kernel
theorem dX12_hasRelation_22 : decode cX12_hasRelation 22 = .ok (.aload_n 0, 1) := by decide +kernel
theorem dX12_hasRelation_23 : decode cX12_hasRelation 23 = .ok (.getfield 33, 3) := by decide +kernel
theorem dX12_hasRelation_26 : decode cX12_hasRelation 26 = .ok (.iload_n 1, 1) := by decide +kernel
theorem dX12_hasRelation_27 : decode cX12_hasRelation 27 = .ok (.iaload, 1) := by decide +kernel
theorem dX12_hasRelation_28 : decode cX12_hasRelation 28 = .ok (.invokestatic 260, 3) := by decide +kernel
theorem dX12_hasRelation_31 : decode cX12_hasRelation 31 = .ok (.iconst 4, 1) := by decide +kernel
theorem dX12_hasRelation_32 : decode cX12_hasRelation 32 = .ok (.if_icmp .le 9, 3) := by decide +kernel
theorem dX12_hasRelation_35 : decode cX12_hasRelation 35 = .ok (.iinc 1 (-1), 3) := by decide +kernel
theorem dX12_hasRelation_38 : decode cX12_hasRelation 38 = .ok (.goto (-31), 3) := by decide +kernel
theorem dX12_hasRelation_41 : decode cX12_hasRelation 41 = .ok (.iload_n 1, 1) := by decide +kernel
theorem dX12_hasRelation_42 : decode cX12_hasRelation 42 = .ok (.ifCond .lt 31, 3) := by decide +kernel
theorem dX12_hasRelation_45 : decode cX12_hasRelation 45 = .ok (.aload_n 0, 1) := by decide +kernel
theorem dX12_hasRelation_46 : decode cX12_hasRelation 46 = .ok (.getfield 33, 3) := by decide +kernel
theorem dX12_hasRelation_49 : decode cX12_hasRelation 49 = .ok (.iload_n 1, 1) := by decide +kernel
theorem dX12_hasRelation_50 : decode cX12_hasRelation 50 = .ok (.iaload, 1) := by decide +kernel
theorem dX12_hasRelation_51 : decode cX12_hasRelation 51 = .ok (.bipush 20, 2) := by decide +kernel
theorem dX12_hasRelation_53 : decode cX12_hasRelation 53 = .ok (.if_icmp .eq 20, 3) := by decide +kernel
theorem dX12_hasRelation_56 : decode cX12_hasRelation 56 = .ok (.aload_n 0, 1) := by decide +kernel
theorem dX12_hasRelation_57 : decode cX12_hasRelation 57 = .ok (.getfield 33, 3) := by decide +kernel
theorem dX12_hasRelation_60 : decode cX12_hasRelation 60 = .ok (.iload_n 1, 1) := by decide +kernel
theorem dX12_hasRelation_61 : decode cX12_hasRelation 61 = .ok (.iaload, 1) := by decide +kernel
theorem dX12_hasRelation_62 : decode cX12_hasRelation 62 = .ok (.invokestatic 260, 3) := by decide +kernel
theorem dX12_hasRelation_65 : decode cX12_hasRelation 65 = .ok (.iconst 4, 1) := by decide +kernel
theorem dX12_hasRelation_66 : decode cX12_hasRelation 66 = .ok (.if_icmp .ne 7, 3) := by decide +kernel
theorem dX12_hasRelation_69 : decode cX12_hasRelation 69 = .ok (.iconst 1, 1) := by decide +kernel
theorem dX12_hasRelation_70 : decode cX12_hasRelation 70 = .ok (.goto 4, 3) := by decide +kernel
theorem dX12_hasRelation_73 : decode cX12_hasRelation 73 = .ok (.iconst 0, 1) := by decide +kernel
theorem dX12_hasRelation_74 : decode cX12_hasRelation 74 = .ok (.ireturn, 1) := by decide +kernel
theorem dX12_mayNot_0 : decode cX12_mayNot 0 = .ok (.aload_n 0, 1) := by decide +kernel
theorem dX12_mayNot_1 : decode cX12_mayNot 1 = .ok (.getfield 257, 3) := by decide +kernel
theorem dX12_mayNot_4 : decode cX12_mayNot 4 = .ok (.ifCond .eq 37, 3) := by decide +kernel
theorem dX12_mayNot_7 : decode cX12_mayNot 7 = .ok (.aload_n 0, 1) := by decide +kernel
theorem dX12_mayNot_8 : decode cX12_mayNot 8 = .ok (.getfield 33, 3) := by decide +kernel
theorem dX12_mayNot_11 : decode cX12_mayNot 11 = .ok (.aload_n 0, 1) := by decide +kernel
theorem dX12_mayNot_12 : decode cX12_mayNot 12 = .ok (.getfield 257, 3) := by decide +kernel
theorem dX12_mayNot_15 : decode cX12_mayNot 15 = .ok (.iconst 1, 1) := by decide +kernel
theorem dX12_mayNot_16 : decode cX12_mayNot 16 = .ok (.isub, 1) := by decide +kernel
theorem dX12_mayNot_17 : decode cX12_mayNot 17 = .ok (.iaload, 1) := by decide +kernel
theorem dX12_mayNot_18 : decode cX12_mayNot 18 = .ok (.bipush 20, 2) := by decide +kernel
theorem dX12_mayNot_20 : decode cX12_mayNot 20 = .ok (.if_icmp .eq 21, 3) := by decide +kernel
theorem dX12_mayNot_23 : decode cX12_mayNot 23 = .ok (.aload_n 0, 1) := by decide +kernel
theorem dX12_mayNot_24 : decode cX12_mayNot 24 = .ok (.getfield 33, 3) := by decide +kernel
theorem dX12_mayNot_27 : decode cX12_mayNot 27 = .ok (.aload_n 0, 1) := by decide +kernel
theorem dX12_mayNot_28 : decode cX12_mayNot 28 = .ok (.getfield 257, 3) := by decide +kernel
theorem dX12_mayNot_31 : decode cX12_mayNot 31 = .ok (.iconst 1, 1) := by decide +kernel
theorem dX12_mayNot_32 : decode cX12_mayNot 32 = .ok (.isub, 1) := by decide +kernel
theorem dX12_mayNot_33 : decode cX12_mayNot 33 = .ok (.iaload, 1) := by decide +kernel
theorem dX12_mayNot_34 : decode cX12_mayNot 34 = .ok (.invokestatic 260, 3) := by decide +kernel
theorem dX12_mayNot_37 : decode cX12_mayNot 37 = .ok (.iconst 4, 1) := by decide +kernel
theorem dX12_mayNot_38 : decode cX12_mayNot 38 = .ok (.if_icmp .ge 7, 3) := by decide +kernel
theorem dX12_mayNot_41 : decode cX12_mayNot 41 = .ok (.iconst 1, 1) := by decide +kernel
theorem dX12_mayNot_42 : decode cX12_mayNot 42 = .ok (.goto 4, 3) := by decide +kernel
theorem dX12_mayNot_45 : decode cX12_mayNot 45 = .ok (.iconst 0, 1) := by decide +kernel
theorem dX12_mayNot_46 : decode cX12_mayNot 46 = .ok (.ireturn, 1) := by decide +kernel
theorem dX12_asked_0 : decode cX12_asked 0 = .ok (.aload_n 0, 1) := by decide +kernel
theorem dX12_asked_1 : decode cX12_asked 1 = .ok (.getfield 160, 3) := by decide +kernel
theorem dX12_asked_4 : decode cX12_asked 4 = .ok (.iconst 1, 1) := by decide +kernel
theorem dX12_asked_5 : decode cX12_asked 5 = .ok (.if_icmp .eq 5, 3) := by decide +kernel
theorem dX12_asked_8 : decode cX12_asked 8 = .ok (.iconst (-1), 1) := by decide +kernel
theorem dX12_asked_9 : decode cX12_asked 9 = .ok (.ireturn, 1) := by decide +kernel
theorem dX12_asked_10 : decode cX12_asked 10 = .ok (.aload_n 0, 1) := by decide +kernel
theorem dX12_asked_11 : decode cX12_asked 11 = .ok (.getfield 153, 3) := by decide +kernel
theorem dX12_asked_14 : decode cX12_asked 14 = .ok (.ldc2_w 180, 3) := by decide +kernel
theorem dX12_asked_17 : decode cX12_asked 17 = .ok (.lcmp, 1) := by decide +kernel
theorem dX12_asked_18 : decode cX12_asked 18 = .ok (.ifCond .ne 5, 3) := by decide +kernel
theorem dX12_asked_21 : decode cX12_asked 21 = .ok (.iconst 0, 1) := by decide +kernel
theorem dX12_asked_22 : decode cX12_asked 22 = .ok (.ireturn, 1) := by decide +kernel
theorem dX12_asked_23 : decode cX12_asked 23 = .ok (.aload_n 0, 1) := by decide +kernel
theorem dX12_asked_24 : decode cX12_asked 24 = .ok (.getfield 153, 3) := by decide +kernel
theorem dX12_asked_27 : decode cX12_asked 27 = .ok (.ldc2_w 210, 3) := by decide +kernel
theorem dX12_asked_30 : decode cX12_asked 30 = .ok (.lcmp, 1) := by decide +kernel
theorem dX12_asked_31 : decode cX12_asked 31 = .ok (.ifCond .ne 5, 3) := by decide +kernel
theorem dX12_asked_34 : decode cX12_asked 34 = .ok (.iconst 1, 1) := by decide +kernel
theorem dX12_asked_35 : decode cX12_asked 35 = .ok (.ireturn, 1) := by decide +kernel
theorem dX12_asked_36 : decode cX12_asked 36 = .ok (.aload_n 0, 1) := by decide +kernel
theorem dX12_asked_37 : decode cX12_asked 37 = .ok (.getfield 153, 3) := by decide +kernel
theorem dX12_asked_40 : decode cX12_asked 40 = .ok (.ldc2_w 212, 3) := by decide +kernel
theorem dX12_asked_43 : decode cX12_asked 43 = .ok (.lcmp, 1) := by decide +kernel
theorem dX12_asked_44 : decode cX12_asked 44 = .ok (.ifCond .ne 5, 3) := by decide +kernel
theorem dX12_asked_47 : decode cX12_asked 47 = .ok (.iconst 2, 1) := by decide +kernel
theorem dX12_asked_48 : decode cX12_asked 48 = .ok (.ireturn, 1) := by decide +kernel
theorem dX12_asked_49 : decode cX12_asked 49 = .ok (.aload_n 0, 1) := by decide +kernel
theorem dX12_asked_50 : decode cX12_asked 50 = .ok (.getfield 153, 3) := by decide +kernel
theorem dX12_asked_53 : decode cX12_asked 53 = .ok (.ldc2_w 214, 3) := by decide +kernel
theorem dX12_asked_56 : decode cX12_asked 56 = .ok (.lcmp, 1) := by decide +kernel
theorem dX12_asked_57 : decode cX12_asked 57 = .ok (.ifCond .ne 5, 3) := by decide +kernel
theorem dX12_asked_60 : decode cX12_asked 60 = .ok (.iconst 3, 1) := by decide +kernel
theorem dX12_asked_61 : decode cX12_asked 61 = .ok (.ireturn, 1) := by decide +kernel
theorem dX12_asked_62 : decode cX12_asked 62 = .ok (.aload_n 0, 1) := by decide +kernel
theorem dX12_asked_63 : decode cX12_asked 63 = .ok (.getfield 153, 3) := by decide +kernel
theorem dX12_asked_66 : decode cX12_asked 66 = .ok (.ldc2_w 216, 3) := by decide +kernel
theorem dX12_asked_69 : decode cX12_asked 69 = .ok (.lcmp, 1) := by decide +kernel
theorem dX12_asked_70 : decode cX12_asked 70 = .ok (.ifCond .ne 7, 3) := by decide +kernel
theorem dX12_asked_73 : decode cX12_asked 73 = .ok (.iconst 4, 1) := by decide +kernel
theorem dX12_asked_74 : decode cX12_asked 74 = .ok (.goto 4, 3) := by decide +kernel
theorem dX12_asked_77 : decode cX12_asked 77 = .ok (.iconst (-1), 1) := by decide +kernel
theorem dX12_asked_78 : decode cX12_asked 78 = .ok (.ireturn, 1) := by decide +kernel
theorem dX12_isFull_0 : decode cX12_isFull 0 = .ok (.aload_n 0, 1) := by decide +kernel
theorem dX12_isFull_1 : decode cX12_isFull 1 = .ok (.getfield 270, 3) := by decide +kernel
theorem dX12_isFull_4 : decode cX12_isFull 4 = .ok (.bipush 60, 2) := by decide +kernel
theorem dX12_isFull_6 : decode cX12_isFull 6 = .ok (.if_icmp .eq 12, 3) := by decide +kernel
theorem dX12_isFull_9 : decode cX12_isFull 9 = .ok (.aload_n 0, 1) := by decide +kernel
theorem dX12_isFull_10 : decode cX12_isFull 10 = .ok (.getfield 273, 3) := by decide +kernel
theorem dX12_isFull_13 : decode cX12_isFull 13 = .ok (.bipush 30, 2) := by decide +kernel
theorem dX12_isFull_15 : decode cX12_isFull 15 = .ok (.if_icmp .ne 7, 3) := by decide +kernel
theorem dX12_isFull_18 : decode cX12_isFull 18 = .ok (.iconst 1, 1) := by decide +kernel
theorem dX12_isFull_19 : decode cX12_isFull 19 = .ok (.goto 4, 3) := by decide +kernel
theorem dX12_isFull_22 : decode cX12_isFull 22 = .ok (.iconst 0, 1) := by decide +kernel
theorem dX12_isFull_23 : decode cX12_isFull 23 = .ok (.ireturn, 1) := by decide +kernel
theorem dX12_countUnit_0 : decode cX12_countUnit 0 = .ok (.aload_n 0, 1) := by decide +kernel
theorem dX12_countUnit_1 : decode cX12_countUnit 1 = .ok (.dup, 1) := by decide +kernel
theorem dX12_countUnit_2 : decode cX12_countUnit 2 = .ok (.getfield 270, 3) := by decide +kernel
theorem dX12_countUnit_5 : decode cX12_countUnit 5 = .ok (.iconst 1, 1) := by decide +kernel
theorem dX12_countUnit_6 : decode cX12_countUnit 6 = .ok (.iadd, 1) := by decide +kernel
theorem dX12_countUnit_7 : decode cX12_countUnit 7 = .ok (.putfield 270, 3) := by decide +kernel
theorem dX12_countUnit_10 : decode cX12_countUnit 10 = .ok (.aload_n 0, 1) := by decide +kernel
theorem dX12_countUnit_11 : decode cX12_countUnit 11 = .ok (.dup, 1) := by decide +kernel
theorem dX12_countUnit_12 : decode cX12_countUnit 12 = .ok (.getfield 273, 3) := by decide +kernel
theorem dX12_countUnit_15 : decode cX12_countUnit 15 = .ok (.iconst 1, 1) := by decide +kernel
theorem dX12_countUnit_16 : decode cX12_countUnit 16 = .ok (.iadd, 1) := by decide +kernel
theorem dX12_countUnit_17 : decode cX12_countUnit 17 = .ok (.putfield 273, 3) := by decide +kernel
theorem dX12_countUnit_20 : decode cX12_countUnit 20 = .ok (.return_, 1) := by decide +kernel
theorem dX12_openUp_0 : decode cX12_openUp 0 = .ok (.aload_n 0, 1) := by decide +kernel
theorem dX12_openUp_1 : decode cX12_openUp 1 = .ok (.getfield 33, 3) := by decide +kernel
theorem dX12_openUp_4 : decode cX12_openUp 4 = .ok (.aload_n 0, 1) := by decide +kernel
theorem dX12_openUp_5 : decode cX12_openUp 5 = .ok (.getfield 257, 3) := by decide +kernel
theorem dX12_openUp_8 : decode cX12_openUp 8 = .ok (.iload_n 1, 1) := by decide +kernel
theorem dX12_openUp_9 : decode cX12_openUp 9 = .ok (.iastore, 1) := by decide +kernel
theorem dX12_openUp_10 : decode cX12_openUp 10 = .ok (.aload_n 0, 1) := by decide +kernel
theorem dX12_openUp_11 : decode cX12_openUp 11 = .ok (.dup, 1) := by decide +kernel
theorem dX12_openUp_12 : decode cX12_openUp 12 = .ok (.getfield 257, 3) := by decide +kernel
theorem dX12_openUp_15 : decode cX12_openUp 15 = .ok (.iconst 1, 1) := by decide +kernel
theorem dX12_openUp_16 : decode cX12_openUp 16 = .ok (.iadd, 1) := by decide +kernel
theorem dX12_openUp_17 : decode cX12_openUp 17 = .ok (.putfield 257, 3) := by decide +kernel
theorem dX12_openUp_20 : decode cX12_openUp 20 = .ok (.aload_n 0, 1) := by decide +kernel
theorem dX12_openUp_21 : decode cX12_openUp 21 = .ok (.dup, 1) := by decide +kernel
theorem dX12_openUp_22 : decode cX12_openUp 22 = .ok (.getfield 267, 3) := by decide +kernel
theorem dX12_openUp_25 : decode cX12_openUp 25 = .ok (.iconst 1, 1) := by decide +kernel
theorem dX12_openUp_26 : decode cX12_openUp 26 = .ok (.iadd, 1) := by decide +kernel
theorem dX12_openUp_27 : decode cX12_openUp 27 = .ok (.putfield 267, 3) := by decide +kernel
theorem dX12_openUp_30 : decode cX12_openUp 30 = .ok (.aload_n 0, 1) := by decide +kernel
theorem dX12_openUp_31 : decode cX12_openUp 31 = .ok (.getfield 173, 3) := by decide +kernel
theorem dX12_openUp_34 : decode cX12_openUp 34 = .ok (.ifCond .ne 7, 3) := by decide +kernel
theorem dX12_openUp_37 : decode cX12_openUp 37 = .ok (.aload_n 0, 1) := by decide +kernel
theorem dX12_openUp_38 : decode cX12_openUp 38 = .ok (.invokevirtual 235, 3) := by decide +kernel
theorem dX12_openUp_41 : decode cX12_openUp 41 = .ok (.return_, 1) := by decide +kernel
theorem dX12_unit_0 : decode cX12_unit 0 = .ok (.iconst 1, 1) := by decide +kernel
theorem dX12_unit_1 : decode cX12_unit 1 = .ok (.istore_n 1, 1) := by decide +kernel
theorem dX12_unit_2 : decode cX12_unit 2 = .ok (.iload_n 1, 1) := by decide +kernel
theorem dX12_unit_3 : decode cX12_unit 3 = .ok (.ifCond .eq 98, 3) := by decide +kernel
theorem dX12_unit_6 : decode cX12_unit 6 = .ok (.aload_n 0, 1) := by decide +kernel
theorem dX12_unit_7 : decode cX12_unit 7 = .ok (.getfield 173, 3) := by decide +kernel
theorem dX12_unit_10 : decode cX12_unit 10 = .ok (.ifCond .ne 91, 3) := by decide +kernel
theorem dX12_unit_13 : decode cX12_unit 13 = .ok (.aload_n 0, 1) := by decide +kernel
theorem dX12_unit_14 : decode cX12_unit 14 = .ok (.ldc2_w 222, 3) := by decide +kernel
theorem dX12_unit_17 : decode cX12_unit 17 = .ok (.invokevirtual 228, 3) := by decide +kernel
theorem dX12_unit_20 : decode cX12_unit 20 = .ok (.ifCond .eq 33, 3) := by decide +kernel
theorem dX12_unit_23 : decode cX12_unit 23 = .ok (.aload_n 0, 1) := by decide +kernel
theorem dX12_unit_24 : decode cX12_unit 24 = .ok (.invokevirtual 276, 3) := by decide +kernel
theorem dX12_unit_27 : decode cX12_unit 27 = .ok (.ifCond .eq 26, 3) := by decide +kernel
theorem dX12_unit_30 : decode cX12_unit 30 = .ok (.aload_n 0, 1) := by decide +kernel
theorem dX12_unit_31 : decode cX12_unit 31 = .ok (.getfield 267, 3) := by decide +kernel
theorem dX12_unit_34 : decode cX12_unit 34 = .ok (.bipush 6, 2) := by decide +kernel
theorem dX12_unit_36 : decode cX12_unit 36 = .ok (.if_icmp .le 8, 3) := by decide +kernel
theorem dX12_unit_39 : decode cX12_unit 39 = .ok (.aload_n 0, 1) := by decide +kernel
theorem dX12_unit_40 : decode cX12_unit 40 = .ok (.iconst 2, 1) := by decide +kernel
theorem dX12_unit_41 : decode cX12_unit 41 = .ok (.invokevirtual 232, 3) := by decide +kernel
theorem dX12_unit_44 : decode cX12_unit 44 = .ok (.aload_n 0, 1) := by decide +kernel
theorem dX12_unit_45 : decode cX12_unit 45 = .ok (.bipush 21, 2) := by decide +kernel
theorem dX12_unit_47 : decode cX12_unit 47 = .ok (.invokevirtual 279, 3) := by decide +kernel
theorem dX12_unit_50 : decode cX12_unit 50 = .ok (.goto (-48), 3) := by decide +kernel
theorem dX12_unit_53 : decode cX12_unit 53 = .ok (.aload_n 0, 1) := by decide +kernel
theorem dX12_unit_54 : decode cX12_unit 54 = .ok (.getfield 160, 3) := by decide +kernel
theorem dX12_unit_57 : decode cX12_unit 57 = .ok (.bipush 40, 2) := by decide +kernel
theorem dX12_unit_59 : decode cX12_unit 59 = .ok (.if_icmp .ne 37, 3) := by decide +kernel
theorem dX12_unit_62 : decode cX12_unit 62 = .ok (.aload_n 0, 1) := by decide +kernel
theorem dX12_unit_63 : decode cX12_unit 63 = .ok (.invokevirtual 282, 3) := by decide +kernel
theorem dX12_unit_66 : decode cX12_unit 66 = .ok (.ifCond .ne 12, 3) := by decide +kernel
theorem dX12_unit_69 : decode cX12_unit 69 = .ok (.aload_n 0, 1) := by decide +kernel
theorem dX12_unit_70 : decode cX12_unit 70 = .ok (.getfield 267, 3) := by decide +kernel
theorem dX12_unit_73 : decode cX12_unit 73 = .ok (.bipush 6, 2) := by decide +kernel
theorem dX12_unit_75 : decode cX12_unit 75 = .ok (.if_icmp .le 8, 3) := by decide +kernel
theorem dX12_unit_78 : decode cX12_unit 78 = .ok (.aload_n 0, 1) := by decide +kernel
theorem dX12_unit_79 : decode cX12_unit 79 = .ok (.iconst 2, 1) := by decide +kernel
theorem dX12_unit_80 : decode cX12_unit 80 = .ok (.invokevirtual 232, 3) := by decide +kernel
theorem dX12_unit_83 : decode cX12_unit 83 = .ok (.aload_n 0, 1) := by decide +kernel
theorem dX12_unit_84 : decode cX12_unit 84 = .ok (.invokevirtual 285, 3) := by decide +kernel
theorem dX12_unit_87 : decode cX12_unit 87 = .ok (.aload_n 0, 1) := by decide +kernel
theorem dX12_unit_88 : decode cX12_unit 88 = .ok (.bipush 20, 2) := by decide +kernel
theorem dX12_unit_90 : decode cX12_unit 90 = .ok (.invokevirtual 279, 3) := by decide +kernel
theorem dX12_unit_93 : decode cX12_unit 93 = .ok (.goto (-91), 3) := by decide +kernel
theorem dX12_unit_96 : decode cX12_unit 96 = .ok (.iconst 0, 1) := by decide +kernel
theorem dX12_unit_97 : decode cX12_unit 97 = .ok (.istore_n 1, 1) := by decide +kernel
theorem dX12_unit_98 : decode cX12_unit 98 = .ok (.goto (-96), 3) := by decide +kernel
theorem dX12_unit_101 : decode cX12_unit 101 = .ok (.aload_n 0, 1) := by decide +kernel
theorem dX12_unit_102 : decode cX12_unit 102 = .ok (.getfield 173, 3) := by decide +kernel
theorem dX12_unit_105 : decode cX12_unit 105 = .ok (.ifCond .le 4, 3) := by decide +kernel
theorem dX12_unit_108 : decode cX12_unit 108 = .ok (.return_, 1) := by decide +kernel
theorem dX12_unit_109 : decode cX12_unit 109 = .ok (.aload_n 0, 1) := by decide +kernel
theorem dX12_unit_110 : decode cX12_unit 110 = .ok (.invokevirtual 288, 3) := by decide +kernel
theorem dX12_unit_113 : decode cX12_unit 113 = .ok (.istore_n 2, 1) := by decide +kernel
theorem dX12_unit_114 : decode cX12_unit 114 = .ok (.aload_n 0, 1) := by decide +kernel
theorem dX12_unit_115 : decode cX12_unit 115 = .ok (.getfield 160, 3) := by decide +kernel
theorem dX12_unit_118 : decode cX12_unit 118 = .ok (.iconst 2, 1) := by decide +kernel
theorem dX12_unit_119 : decode cX12_unit 119 = .ok (.if_icmp .eq 7, 3) := by decide +kernel
theorem dX12_unit_122 : decode cX12_unit 122 = .ok (.iload_n 2, 1) := by decide +kernel
theorem dX12_unit_123 : decode cX12_unit 123 = .ok (.ifCond .lt 10, 3) := by decide +kernel
theorem dX12_unit_126 : decode cX12_unit 126 = .ok (.aload_n 0, 1) := by decide +kernel
theorem dX12_unit_127 : decode cX12_unit 127 = .ok (.invokevirtual 282, 3) := by decide +kernel
theorem dX12_unit_130 : decode cX12_unit 130 = .ok (.ifCond .eq 8, 3) := by decide +kernel
theorem dX12_unit_133 : decode cX12_unit 133 = .ok (.aload_n 0, 1) := by decide +kernel
theorem dX12_unit_134 : decode cX12_unit 134 = .ok (.iconst 2, 1) := by decide +kernel
theorem dX12_unit_135 : decode cX12_unit 135 = .ok (.invokevirtual 232, 3) := by decide +kernel
theorem dX12_unit_138 : decode cX12_unit 138 = .ok (.aload_n 0, 1) := by decide +kernel
theorem dX12_unit_139 : decode cX12_unit 139 = .ok (.getfield 173, 3) := by decide +kernel
theorem dX12_unit_142 : decode cX12_unit 142 = .ok (.ifCond .le 4, 3) := by decide +kernel
theorem dX12_unit_145 : decode cX12_unit 145 = .ok (.return_, 1) := by decide +kernel
theorem dX12_unit_146 : decode cX12_unit 146 = .ok (.aload_n 0, 1) := by decide +kernel
theorem dX12_unit_147 : decode cX12_unit 147 = .ok (.invokevirtual 285, 3) := by decide +kernel
theorem dX12_unit_150 : decode cX12_unit 150 = .ok (.aload_n 0, 1) := by decide +kernel
theorem dX12_unit_151 : decode cX12_unit 151 = .ok (.iload_n 2, 1) := by decide +kernel
theorem dX12_unit_152 : decode cX12_unit 152 = .ok (.ifCond .ge 7, 3) := by decide +kernel
theorem dX12_unit_155 : decode cX12_unit 155 = .ok (.iconst 0, 1) := by decide +kernel
theorem dX12_unit_156 : decode cX12_unit 156 = .ok (.goto 4, 3) := by decide +kernel
theorem dX12_unit_159 : decode cX12_unit 159 = .ok (.iconst 1, 1) := by decide +kernel
theorem dX12_unit_160 : decode cX12_unit 160 = .ok (.iload_n 2, 1) := by decide +kernel
theorem dX12_unit_161 : decode cX12_unit 161 = .ok (.ifCond .ge 10, 3) := by decide +kernel
theorem dX12_unit_164 : decode cX12_unit 164 = .ok (.aload_n 0, 1) := by decide +kernel
theorem dX12_unit_165 : decode cX12_unit 165 = .ok (.getfield 157, 3) := by decide +kernel
theorem dX12_unit_168 : decode cX12_unit 168 = .ok (.goto 4, 3) := by decide +kernel
theorem dX12_unit_171 : decode cX12_unit 171 = .ok (.iload_n 2, 1) := by decide +kernel
theorem dX12_unit_172 : decode cX12_unit 172 = .ok (.invokevirtual 263, 3) := by decide +kernel
theorem dX12_unit_175 : decode cX12_unit 175 = .ok (.aload_n 0, 1) := by decide +kernel
theorem dX12_unit_176 : decode cX12_unit 176 = .ok (.invokevirtual 235, 3) := by decide +kernel
theorem dX12_unit_179 : decode cX12_unit 179 = .ok (.return_, 1) := by decide +kernel
theorem dX12_sign_0 : decode cX12_sign 0 = .ok (.aload_n 0, 1) := by decide +kernel
theorem dX12_sign_1 : decode cX12_sign 1 = .ok (.ldc2_w 218, 3) := by decide +kernel
theorem dX12_sign_4 : decode cX12_sign 4 = .ok (.invokevirtual 228, 3) := by decide +kernel
theorem dX12_sign_7 : decode cX12_sign 7 = .ok (.ifCond .eq 6, 3) := by decide +kernel
theorem dX12_sign_10 : decode cX12_sign 10 = .ok (.bipush 38, 2) := by decide +kernel
theorem dX12_sign_12 : decode cX12_sign 12 = .ok (.ireturn, 1) := by decide +kernel
theorem dX12_sign_13 : decode cX12_sign 13 = .ok (.aload_n 0, 1) := by decide +kernel
theorem dX12_sign_14 : decode cX12_sign 14 = .ok (.ldc2_w 220, 3) := by decide +kernel
theorem dX12_sign_17 : decode cX12_sign 17 = .ok (.invokevirtual 228, 3) := by decide +kernel
theorem dX12_sign_20 : decode cX12_sign 20 = .ok (.ifCond .eq 6, 3) := by decide +kernel
theorem dX12_sign_23 : decode cX12_sign 23 = .ok (.bipush 124, 2) := by decide +kernel
theorem dX12_sign_25 : decode cX12_sign 25 = .ok (.ireturn, 1) := by decide +kernel
theorem dX12_sign_26 : decode cX12_sign 26 = .ok (.aload_n 0, 1) := by decide +kernel
theorem dX12_sign_27 : decode cX12_sign 27 = .ok (.getfield 160, 3) := by decide +kernel
theorem dX12_sign_30 : decode cX12_sign 30 = .ok (.bipush 60, 2) := by decide +kernel
theorem dX12_sign_32 : decode cX12_sign 32 = .ok (.if_icmp .eq 66, 3) := by decide +kernel
theorem dX12_sign_35 : decode cX12_sign 35 = .ok (.aload_n 0, 1) := by decide +kernel
theorem dX12_sign_36 : decode cX12_sign 36 = .ok (.getfield 160, 3) := by decide +kernel
theorem dX12_sign_39 : decode cX12_sign 39 = .ok (.bipush 62, 2) := by decide +kernel
theorem dX12_sign_41 : decode cX12_sign 41 = .ok (.if_icmp .eq 57, 3) := by decide +kernel
theorem dX12_sign_44 : decode cX12_sign 44 = .ok (.aload_n 0, 1) := by decide +kernel
theorem dX12_sign_45 : decode cX12_sign 45 = .ok (.getfield 160, 3) := by decide +kernel
theorem dX12_sign_48 : decode cX12_sign 48 = .ok (.bipush 61, 2) := by decide +kernel
theorem dX12_sign_50 : decode cX12_sign 50 = .ok (.if_icmp .eq 48, 3) := by decide +kernel
theorem dX12_sign_53 : decode cX12_sign 53 = .ok (.aload_n 0, 1) := by decide +kernel
theorem dX12_sign_54 : decode cX12_sign 54 = .ok (.getfield 160, 3) := by decide +kernel
theorem dX12_sign_57 : decode cX12_sign 57 = .ok (.bipush 43, 2) := by decide +kernel
theorem dX12_sign_59 : decode cX12_sign 59 = .ok (.if_icmp .eq 39, 3) := by decide +kernel
theorem dX12_sign_62 : decode cX12_sign 62 = .ok (.aload_n 0, 1) := by decide +kernel
theorem dX12_sign_63 : decode cX12_sign 63 = .ok (.getfield 160, 3) := by decide +kernel
theorem dX12_sign_66 : decode cX12_sign 66 = .ok (.bipush 45, 2) := by decide +kernel
theorem dX12_sign_68 : decode cX12_sign 68 = .ok (.if_icmp .eq 30, 3) := by decide +kernel
theorem dX12_sign_71 : decode cX12_sign 71 = .ok (.aload_n 0, 1) := by decide +kernel
theorem dX12_sign_72 : decode cX12_sign 72 = .ok (.getfield 160, 3) := by decide +kernel
theorem dX12_sign_75 : decode cX12_sign 75 = .ok (.bipush 42, 2) := by decide +kernel
theorem dX12_sign_77 : decode cX12_sign 77 = .ok (.if_icmp .eq 21, 3) := by decide +kernel
theorem dX12_sign_80 : decode cX12_sign 80 = .ok (.aload_n 0, 1) := by decide +kernel
theorem dX12_sign_81 : decode cX12_sign 81 = .ok (.getfield 160, 3) := by decide +kernel
theorem dX12_sign_84 : decode cX12_sign 84 = .ok (.bipush 47, 2) := by decide +kernel
theorem dX12_sign_86 : decode cX12_sign 86 = .ok (.if_icmp .eq 12, 3) := by decide +kernel
theorem dX12_sign_89 : decode cX12_sign 89 = .ok (.aload_n 0, 1) := by decide +kernel
theorem dX12_sign_90 : decode cX12_sign 90 = .ok (.getfield 160, 3) := by decide +kernel
theorem dX12_sign_93 : decode cX12_sign 93 = .ok (.bipush 37, 2) := by decide +kernel
theorem dX12_sign_95 : decode cX12_sign 95 = .ok (.if_icmp .ne 10, 3) := by decide +kernel
theorem dX12_sign_98 : decode cX12_sign 98 = .ok (.aload_n 0, 1) := by decide +kernel
theorem dX12_sign_99 : decode cX12_sign 99 = .ok (.getfield 160, 3) := by decide +kernel
theorem dX12_sign_102 : decode cX12_sign 102 = .ok (.goto 4, 3) := by decide +kernel
theorem dX12_sign_105 : decode cX12_sign 105 = .ok (.iconst 0, 1) := by decide +kernel
theorem dX12_sign_106 : decode cX12_sign 106 = .ok (.ireturn, 1) := by decide +kernel
theorem dX12_hasBracket_0 : decode cX12_hasBracket 0 = .ok (.iconst 0, 1) := by decide +kernel
theorem dX12_hasBracket_1 : decode cX12_hasBracket 1 = .ok (.istore_n 1, 1) := by decide +kernel
theorem dX12_hasBracket_2 : decode cX12_hasBracket 2 = .ok (.iconst 0, 1) := by decide +kernel
theorem dX12_hasBracket_3 : decode cX12_hasBracket 3 = .ok (.istore_n 2, 1) := by decide +kernel
theorem dX12_hasBracket_4 : decode cX12_hasBracket 4 = .ok (.iload_n 2, 1) := by decide +kernel
theorem dX12_hasBracket_5 : decode cX12_hasBracket 5 = .ok (.aload_n 0, 1) := by decide +kernel
theorem dX12_hasBracket_6 : decode cX12_hasBracket 6 = .ok (.getfield 257, 3) := by decide +kernel
theorem dX12_hasBracket_9 : decode cX12_hasBracket 9 = .ok (.if_icmp .ge 30, 3) := by decide +kernel
theorem dX12_hasBracket_12 : decode cX12_hasBracket 12 = .ok (.iload_n 1, 1) := by decide +kernel
theorem dX12_hasBracket_13 : decode cX12_hasBracket 13 = .ok (.ifCond .ne 14, 3) := by decide +kernel
theorem dX12_hasBracket_16 : decode cX12_hasBracket 16 = .ok (.aload_n 0, 1) := by decide +kernel
theorem dX12_hasBracket_17 : decode cX12_hasBracket 17 = .ok (.getfield 33, 3) := by decide +kernel
theorem dX12_hasBracket_20 : decode cX12_hasBracket 20 = .ok (.iload_n 2, 1) := by decide +kernel
theorem dX12_hasBracket_21 : decode cX12_hasBracket 21 = .ok (.iaload, 1) := by decide +kernel
theorem dX12_hasBracket_22 : decode cX12_hasBracket 22 = .ok (.bipush 20, 2) := by decide +kernel
theorem dX12_hasBracket_24 : decode cX12_hasBracket 24 = .ok (.if_icmp .ne 7, 3) := by decide +kernel
theorem dX12_hasBracket_27 : decode cX12_hasBracket 27 = .ok (.iconst 1, 1) := by decide +kernel
theorem dX12_hasBracket_28 : decode cX12_hasBracket 28 = .ok (.goto 4, 3) := by decide +kernel
theorem dX12_hasBracket_31 : decode cX12_hasBracket 31 = .ok (.iconst 0, 1) := by decide +kernel
theorem dX12_hasBracket_32 : decode cX12_hasBracket 32 = .ok (.istore_n 1, 1) := by decide +kernel
theorem dX12_hasBracket_33 : decode cX12_hasBracket 33 = .ok (.iinc 2 1, 3) := by decide +kernel
theorem dX12_hasBracket_36 : decode cX12_hasBracket 36 = .ok (.goto (-32), 3) := by decide +kernel
theorem dX12_hasBracket_39 : decode cX12_hasBracket 39 = .ok (.iload_n 1, 1) := by decide +kernel
theorem dX12_hasBracket_40 : decode cX12_hasBracket 40 = .ok (.ireturn, 1) := by decide +kernel
theorem dX12_readGrow_0 : decode cX12_readGrow 0 = .ok (.aload_n 0, 1) := by decide +kernel
theorem dX12_readGrow_1 : decode cX12_readGrow 1 = .ok (.invokevirtual 235, 3) := by decide +kernel
theorem dX12_readGrow_4 : decode cX12_readGrow 4 = .ok (.aload_n 0, 1) := by decide +kernel
theorem dX12_readGrow_5 : decode cX12_readGrow 5 = .ok (.iconst 0, 1) := by decide +kernel
theorem dX12_readGrow_6 : decode cX12_readGrow 6 = .ok (.putfield 254, 3) := by decide +kernel
theorem dX12_readGrow_9 : decode cX12_readGrow 9 = .ok (.aload_n 0, 1) := by decide +kernel
theorem dX12_readGrow_10 : decode cX12_readGrow 10 = .ok (.iconst 0, 1) := by decide +kernel
theorem dX12_readGrow_11 : decode cX12_readGrow 11 = .ok (.putfield 257, 3) := by decide +kernel
theorem dX12_readGrow_14 : decode cX12_readGrow 14 = .ok (.aload_n 0, 1) := by decide +kernel
theorem dX12_readGrow_15 : decode cX12_readGrow 15 = .ok (.iconst 0, 1) := by decide +kernel
theorem dX12_readGrow_16 : decode cX12_readGrow 16 = .ok (.putfield 267, 3) := by decide +kernel
theorem dX12_readGrow_19 : decode cX12_readGrow 19 = .ok (.aload_n 0, 1) := by decide +kernel
theorem dX12_readGrow_20 : decode cX12_readGrow 20 = .ok (.iconst 0, 1) := by decide +kernel
theorem dX12_readGrow_21 : decode cX12_readGrow 21 = .ok (.putfield 273, 3) := by decide +kernel
theorem dX12_readGrow_24 : decode cX12_readGrow 24 = .ok (.aload_n 0, 1) := by decide +kernel
theorem dX12_readGrow_25 : decode cX12_readGrow 25 = .ok (.invokevirtual 292, 3) := by decide +kernel
theorem dX12_readGrow_28 : decode cX12_readGrow 28 = .ok (.iconst 1, 1) := by decide +kernel
theorem dX12_readGrow_29 : decode cX12_readGrow 29 = .ok (.istore_n 1, 1) := by decide +kernel
theorem dX12_readGrow_30 : decode cX12_readGrow 30 = .ok (.iload_n 1, 1) := by decide +kernel
theorem dX12_readGrow_31 : decode cX12_readGrow 31 = .ok (.ifCond .eq 126, 3) := by decide +kernel
theorem dX12_readGrow_34 : decode cX12_readGrow 34 = .ok (.aload_n 0, 1) := by decide +kernel
theorem dX12_readGrow_35 : decode cX12_readGrow 35 = .ok (.getfield 173, 3) := by decide +kernel
theorem dX12_readGrow_38 : decode cX12_readGrow 38 = .ok (.ifCond .ne 119, 3) := by decide +kernel
theorem dX12_readGrow_41 : decode cX12_readGrow 41 = .ok (.aload_n 0, 1) := by decide +kernel
theorem dX12_readGrow_42 : decode cX12_readGrow 42 = .ok (.invokevirtual 295, 3) := by decide +kernel
theorem dX12_readGrow_45 : decode cX12_readGrow 45 = .ok (.istore_n 2, 1) := by decide +kernel
theorem dX12_readGrow_46 : decode cX12_readGrow 46 = .ok (.aload_n 0, 1) := by decide +kernel
theorem dX12_readGrow_47 : decode cX12_readGrow 47 = .ok (.getfield 160, 3) := by decide +kernel
theorem dX12_readGrow_50 : decode cX12_readGrow 50 = .ok (.bipush 41, 2) := by decide +kernel
theorem dX12_readGrow_52 : decode cX12_readGrow 52 = .ok (.if_icmp .ne 42, 3) := by decide +kernel
theorem dX12_readGrow_55 : decode cX12_readGrow 55 = .ok (.aload_n 0, 1) := by decide +kernel
theorem dX12_readGrow_56 : decode cX12_readGrow 56 = .ok (.invokevirtual 298, 3) := by decide +kernel
theorem dX12_readGrow_59 : decode cX12_readGrow 59 = .ok (.ifCond .eq 35, 3) := by decide +kernel
theorem dX12_readGrow_62 : decode cX12_readGrow 62 = .ok (.aload_n 0, 1) := by decide +kernel
theorem dX12_readGrow_63 : decode cX12_readGrow 63 = .ok (.iconst 0, 1) := by decide +kernel
theorem dX12_readGrow_64 : decode cX12_readGrow 64 = .ok (.invokevirtual 301, 3) := by decide +kernel
theorem dX12_readGrow_67 : decode cX12_readGrow 67 = .ok (.aload_n 0, 1) := by decide +kernel
theorem dX12_readGrow_68 : decode cX12_readGrow 68 = .ok (.dup, 1) := by decide +kernel
theorem dX12_readGrow_69 : decode cX12_readGrow 69 = .ok (.getfield 257, 3) := by decide +kernel
theorem dX12_readGrow_72 : decode cX12_readGrow 72 = .ok (.iconst 1, 1) := by decide +kernel
theorem dX12_readGrow_73 : decode cX12_readGrow 73 = .ok (.isub, 1) := by decide +kernel
theorem dX12_readGrow_74 : decode cX12_readGrow 74 = .ok (.putfield 257, 3) := by decide +kernel
theorem dX12_readGrow_77 : decode cX12_readGrow 77 = .ok (.aload_n 0, 1) := by decide +kernel
theorem dX12_readGrow_78 : decode cX12_readGrow 78 = .ok (.dup, 1) := by decide +kernel
theorem dX12_readGrow_79 : decode cX12_readGrow 79 = .ok (.getfield 267, 3) := by decide +kernel
theorem dX12_readGrow_82 : decode cX12_readGrow 82 = .ok (.iconst 1, 1) := by decide +kernel
theorem dX12_readGrow_83 : decode cX12_readGrow 83 = .ok (.isub, 1) := by decide +kernel
theorem dX12_readGrow_84 : decode cX12_readGrow 84 = .ok (.putfield 267, 3) := by decide +kernel
theorem dX12_readGrow_87 : decode cX12_readGrow 87 = .ok (.aload_n 0, 1) := by decide +kernel
theorem dX12_readGrow_88 : decode cX12_readGrow 88 = .ok (.invokevirtual 235, 3) := by decide +kernel
theorem dX12_readGrow_91 : decode cX12_readGrow 91 = .ok (.goto 63, 3) := by decide +kernel
theorem dX12_readGrow_94 : decode cX12_readGrow 94 = .ok (.iload_n 2, 1) := by decide +kernel
theorem dX12_readGrow_95 : decode cX12_readGrow 95 = .ok (.ifCond .eq 57, 3) := by decide +kernel
theorem dX12_readGrow_98 : decode cX12_readGrow 98 = .ok (.iload_n 2, 1) := by decide +kernel
theorem dX12_readGrow_99 : decode cX12_readGrow 99 = .ok (.invokestatic 260, 3) := by decide +kernel
theorem dX12_readGrow_102 : decode cX12_readGrow 102 = .ok (.iconst 4, 1) := by decide +kernel
theorem dX12_readGrow_103 : decode cX12_readGrow 103 = .ok (.if_icmp .ne 10, 3) := by decide +kernel
theorem dX12_readGrow_106 : decode cX12_readGrow 106 = .ok (.aload_n 0, 1) := by decide +kernel
theorem dX12_readGrow_107 : decode cX12_readGrow 107 = .ok (.invokevirtual 304, 3) := by decide +kernel
theorem dX12_readGrow_110 : decode cX12_readGrow 110 = .ok (.ifCond .ne 42, 3) := by decide +kernel
theorem dX12_readGrow_113 : decode cX12_readGrow 113 = .ok (.aload_n 0, 1) := by decide +kernel
theorem dX12_readGrow_114 : decode cX12_readGrow 114 = .ok (.iload_n 2, 1) := by decide +kernel
theorem dX12_readGrow_115 : decode cX12_readGrow 115 = .ok (.invokestatic 260, 3) := by decide +kernel
theorem dX12_readGrow_118 : decode cX12_readGrow 118 = .ok (.invokevirtual 301, 3) := by decide +kernel
theorem dX12_readGrow_121 : decode cX12_readGrow 121 = .ok (.aload_n 0, 1) := by decide +kernel
theorem dX12_readGrow_122 : decode cX12_readGrow 122 = .ok (.getfield 33, 3) := by decide +kernel
theorem dX12_readGrow_125 : decode cX12_readGrow 125 = .ok (.aload_n 0, 1) := by decide +kernel
theorem dX12_readGrow_126 : decode cX12_readGrow 126 = .ok (.getfield 257, 3) := by decide +kernel
theorem dX12_readGrow_129 : decode cX12_readGrow 129 = .ok (.iload_n 2, 1) := by decide +kernel
theorem dX12_readGrow_130 : decode cX12_readGrow 130 = .ok (.iastore, 1) := by decide +kernel
theorem dX12_readGrow_131 : decode cX12_readGrow 131 = .ok (.aload_n 0, 1) := by decide +kernel
theorem dX12_readGrow_132 : decode cX12_readGrow 132 = .ok (.dup, 1) := by decide +kernel
theorem dX12_readGrow_133 : decode cX12_readGrow 133 = .ok (.getfield 257, 3) := by decide +kernel
theorem dX12_readGrow_136 : decode cX12_readGrow 136 = .ok (.iconst 1, 1) := by decide +kernel
theorem dX12_readGrow_137 : decode cX12_readGrow 137 = .ok (.iadd, 1) := by decide +kernel
theorem dX12_readGrow_138 : decode cX12_readGrow 138 = .ok (.putfield 257, 3) := by decide +kernel
theorem dX12_readGrow_141 : decode cX12_readGrow 141 = .ok (.aload_n 0, 1) := by decide +kernel
theorem dX12_readGrow_142 : decode cX12_readGrow 142 = .ok (.invokevirtual 235, 3) := by decide +kernel
theorem dX12_readGrow_145 : decode cX12_readGrow 145 = .ok (.aload_n 0, 1) := by decide +kernel
theorem dX12_readGrow_146 : decode cX12_readGrow 146 = .ok (.invokevirtual 292, 3) := by decide +kernel
theorem dX12_readGrow_149 : decode cX12_readGrow 149 = .ok (.goto 5, 3) := by decide +kernel
theorem dX12_readGrow_152 : decode cX12_readGrow 152 = .ok (.iconst 0, 1) := by decide +kernel
theorem dX12_readGrow_153 : decode cX12_readGrow 153 = .ok (.istore_n 1, 1) := by decide +kernel
theorem dX12_readGrow_154 : decode cX12_readGrow 154 = .ok (.goto (-124), 3) := by decide +kernel
theorem dX12_readGrow_157 : decode cX12_readGrow 157 = .ok (.aload_n 0, 1) := by decide +kernel
theorem dX12_readGrow_158 : decode cX12_readGrow 158 = .ok (.getfield 173, 3) := by decide +kernel
theorem dX12_readGrow_161 : decode cX12_readGrow 161 = .ok (.ifCond .ne 15, 3) := by decide +kernel
theorem dX12_readGrow_164 : decode cX12_readGrow 164 = .ok (.aload_n 0, 1) := by decide +kernel
theorem dX12_readGrow_165 : decode cX12_readGrow 165 = .ok (.invokevirtual 298, 3) := by decide +kernel
theorem dX12_readGrow_168 : decode cX12_readGrow 168 = .ok (.ifCond .eq 8, 3) := by decide +kernel
theorem dX12_readGrow_171 : decode cX12_readGrow 171 = .ok (.aload_n 0, 1) := by decide +kernel
theorem dX12_readGrow_172 : decode cX12_readGrow 172 = .ok (.iconst 2, 1) := by decide +kernel
theorem dX12_readGrow_173 : decode cX12_readGrow 173 = .ok (.invokevirtual 232, 3) := by decide +kernel
theorem dX12_readGrow_176 : decode cX12_readGrow 176 = .ok (.aload_n 0, 1) := by decide +kernel
theorem dX12_readGrow_177 : decode cX12_readGrow 177 = .ok (.getfield 173, 3) := by decide +kernel
theorem dX12_readGrow_180 : decode cX12_readGrow 180 = .ok (.ifCond .ne 8, 3) := by decide +kernel
theorem dX12_readGrow_183 : decode cX12_readGrow 183 = .ok (.aload_n 0, 1) := by decide +kernel
theorem dX12_readGrow_184 : decode cX12_readGrow 184 = .ok (.iconst 0, 1) := by decide +kernel
theorem dX12_readGrow_185 : decode cX12_readGrow 185 = .ok (.invokevirtual 301, 3) := by decide +kernel
theorem dX12_readGrow_188 : decode cX12_readGrow 188 = .ok (.return_, 1) := by decide +kernel
theorem dX12_truth_0 : decode cX12_truth 0 = .ok (.iload_n 0, 1) := by decide +kernel
theorem dX12_truth_1 : decode cX12_truth 1 = .ok (.ifCond .eq 7, 3) := by decide +kernel
theorem dX12_truth_4 : decode cX12_truth 4 = .ok (.iconst 1, 1) := by decide +kernel
theorem dX12_truth_5 : decode cX12_truth 5 = .ok (.goto 4, 3) := by decide +kernel
theorem dX12_truth_8 : decode cX12_truth 8 = .ok (.iconst 0, 1) := by decide +kernel
theorem dX12_truth_9 : decode cX12_truth 9 = .ok (.ireturn, 1) := by decide +kernel
theorem dX12_done_0 : decode cX12_done 0 = .ok (.iload_n 0, 1) := by decide +kernel
theorem dX12_done_1 : decode cX12_done 1 = .ok (.tableswitch 214 37 62 #[143, 197, 214, 214, 214, 127, 119, 214, 123, 214, 131, 214, 214, 214, 214, 214, 214, 214, 214, 214, 214, 214, 214, 155, 183, 169], 119) := by decide +kernel
theorem dX12_done_120 : decode cX12_done 120 = .ok (.iload_n 1, 1) := by decide +kernel
theorem dX12_done_121 : decode cX12_done 121 = .ok (.iload_n 2, 1) := by decide +kernel
theorem dX12_done_122 : decode cX12_done 122 = .ok (.iadd, 1) := by decide +kernel
theorem dX12_done_123 : decode cX12_done 123 = .ok (.ireturn, 1) := by decide +kernel
theorem dX12_done_124 : decode cX12_done 124 = .ok (.iload_n 1, 1) := by decide +kernel
theorem dX12_done_125 : decode cX12_done 125 = .ok (.iload_n 2, 1) := by decide +kernel
theorem dX12_done_126 : decode cX12_done 126 = .ok (.isub, 1) := by decide +kernel
theorem dX12_done_127 : decode cX12_done 127 = .ok (.ireturn, 1) := by decide +kernel
theorem dX12_done_128 : decode cX12_done 128 = .ok (.iload_n 1, 1) := by decide +kernel
theorem dX12_done_129 : decode cX12_done 129 = .ok (.iload_n 2, 1) := by decide +kernel
theorem dX12_done_130 : decode cX12_done 130 = .ok (.imul, 1) := by decide +kernel
theorem dX12_done_131 : decode cX12_done 131 = .ok (.ireturn, 1) := by decide +kernel
theorem dX12_done_132 : decode cX12_done 132 = .ok (.iload_n 2, 1) := by decide +kernel
theorem dX12_done_133 : decode cX12_done 133 = .ok (.ifCond .ne 7, 3) := by decide +kernel
theorem dX12_done_136 : decode cX12_done 136 = .ok (.iconst 0, 1) := by decide +kernel
theorem dX12_done_137 : decode cX12_done 137 = .ok (.goto 6, 3) := by decide +kernel
theorem dX12_done_140 : decode cX12_done 140 = .ok (.iload_n 1, 1) := by decide +kernel
theorem dX12_done_141 : decode cX12_done 141 = .ok (.iload_n 2, 1) := by decide +kernel
theorem dX12_done_142 : decode cX12_done 142 = .ok (.idiv, 1) := by decide +kernel
theorem dX12_done_143 : decode cX12_done 143 = .ok (.ireturn, 1) := by decide +kernel
theorem dX12_done_144 : decode cX12_done 144 = .ok (.iload_n 2, 1) := by decide +kernel
theorem dX12_done_145 : decode cX12_done 145 = .ok (.ifCond .ne 7, 3) := by decide +kernel
theorem dX12_done_148 : decode cX12_done 148 = .ok (.iconst 0, 1) := by decide +kernel
theorem dX12_done_149 : decode cX12_done 149 = .ok (.goto 6, 3) := by decide +kernel
theorem dX12_done_152 : decode cX12_done 152 = .ok (.iload_n 1, 1) := by decide +kernel
theorem dX12_done_153 : decode cX12_done 153 = .ok (.iload_n 2, 1) := by decide +kernel
theorem dX12_done_154 : decode cX12_done 154 = .ok (.irem, 1) := by decide +kernel
theorem dX12_done_155 : decode cX12_done 155 = .ok (.ireturn, 1) := by decide +kernel
theorem dX12_done_156 : decode cX12_done 156 = .ok (.iload_n 1, 1) := by decide +kernel
theorem dX12_done_157 : decode cX12_done 157 = .ok (.iload_n 2, 1) := by decide +kernel
theorem dX12_done_158 : decode cX12_done 158 = .ok (.if_icmp .ge 7, 3) := by decide +kernel
theorem dX12_done_161 : decode cX12_done 161 = .ok (.iconst 1, 1) := by decide +kernel
theorem dX12_done_162 : decode cX12_done 162 = .ok (.goto 4, 3) := by decide +kernel
theorem dX12_done_165 : decode cX12_done 165 = .ok (.iconst 0, 1) := by decide +kernel
theorem dX12_done_166 : decode cX12_done 166 = .ok (.invokestatic 307, 3) := by decide +kernel
theorem dX12_done_169 : decode cX12_done 169 = .ok (.ireturn, 1) := by decide +kernel
theorem dX12_done_170 : decode cX12_done 170 = .ok (.iload_n 1, 1) := by decide +kernel
theorem dX12_done_171 : decode cX12_done 171 = .ok (.iload_n 2, 1) := by decide +kernel
theorem dX12_done_172 : decode cX12_done 172 = .ok (.if_icmp .le 7, 3) := by decide +kernel
theorem dX12_done_175 : decode cX12_done 175 = .ok (.iconst 1, 1) := by decide +kernel
theorem dX12_done_176 : decode cX12_done 176 = .ok (.goto 4, 3) := by decide +kernel
theorem dX12_done_179 : decode cX12_done 179 = .ok (.iconst 0, 1) := by decide +kernel
theorem dX12_done_180 : decode cX12_done 180 = .ok (.invokestatic 307, 3) := by decide +kernel
theorem dX12_done_183 : decode cX12_done 183 = .ok (.ireturn, 1) := by decide +kernel
theorem dX12_done_184 : decode cX12_done 184 = .ok (.iload_n 1, 1) := by decide +kernel
theorem dX12_done_185 : decode cX12_done 185 = .ok (.iload_n 2, 1) := by decide +kernel
theorem dX12_done_186 : decode cX12_done 186 = .ok (.if_icmp .ne 7, 3) := by decide +kernel
theorem dX12_done_189 : decode cX12_done 189 = .ok (.iconst 1, 1) := by decide +kernel
theorem dX12_done_190 : decode cX12_done 190 = .ok (.goto 4, 3) := by decide +kernel
theorem dX12_done_193 : decode cX12_done 193 = .ok (.iconst 0, 1) := by decide +kernel
theorem dX12_done_194 : decode cX12_done 194 = .ok (.invokestatic 307, 3) := by decide +kernel
theorem dX12_done_197 : decode cX12_done 197 = .ok (.ireturn, 1) := by decide +kernel
theorem dX12_done_198 : decode cX12_done 198 = .ok (.iload_n 1, 1) := by decide +kernel
theorem dX12_done_199 : decode cX12_done 199 = .ok (.ifCond .eq 11, 3) := by decide +kernel
theorem dX12_done_202 : decode cX12_done 202 = .ok (.iload_n 2, 1) := by decide +kernel
theorem dX12_done_203 : decode cX12_done 203 = .ok (.ifCond .eq 7, 3) := by decide +kernel
theorem dX12_done_206 : decode cX12_done 206 = .ok (.iconst 1, 1) := by decide +kernel
theorem dX12_done_207 : decode cX12_done 207 = .ok (.goto 4, 3) := by decide +kernel
theorem dX12_done_210 : decode cX12_done 210 = .ok (.iconst 0, 1) := by decide +kernel
theorem dX12_done_211 : decode cX12_done 211 = .ok (.invokestatic 307, 3) := by decide +kernel
theorem dX12_done_214 : decode cX12_done 214 = .ok (.ireturn, 1) := by decide +kernel
theorem dX12_done_215 : decode cX12_done 215 = .ok (.iload_n 1, 1) := by decide +kernel
theorem dX12_done_216 : decode cX12_done 216 = .ok (.ifCond .ne 7, 3) := by decide +kernel
theorem dX12_done_219 : decode cX12_done 219 = .ok (.iload_n 2, 1) := by decide +kernel
theorem dX12_done_220 : decode cX12_done 220 = .ok (.ifCond .eq 7, 3) := by decide +kernel
theorem dX12_done_223 : decode cX12_done 223 = .ok (.iconst 1, 1) := by decide +kernel
theorem dX12_done_224 : decode cX12_done 224 = .ok (.goto 4, 3) := by decide +kernel
theorem dX12_done_227 : decode cX12_done 227 = .ok (.iconst 0, 1) := by decide +kernel
theorem dX12_done_228 : decode cX12_done 228 = .ok (.invokestatic 307, 3) := by decide +kernel
theorem dX12_done_231 : decode cX12_done 231 = .ok (.ireturn, 1) := by decide +kernel
theorem dX12_grown_0 : decode cX12_grown 0 = .ok (.aload_n 0, 1) := by decide +kernel
theorem dX12_grown_1 : decode cX12_grown 1 = .ok (.getfield 311, 3) := by decide +kernel
theorem dX12_grown_4 : decode cX12_grown 4 = .ok (.ifCond .ne 5, 3) := by decide +kernel
theorem dX12_grown_7 : decode cX12_grown 7 = .ok (.iconst 0, 1) := by decide +kernel
theorem dX12_grown_8 : decode cX12_grown 8 = .ok (.ireturn, 1) := by decide +kernel
theorem dX12_grown_9 : decode cX12_grown 9 = .ok (.iconst 0, 1) := by decide +kernel
theorem dX12_grown_10 : decode cX12_grown 10 = .ok (.istore_n 1, 1) := by decide +kernel
theorem dX12_grown_11 : decode cX12_grown 11 = .ok (.iconst 0, 1) := by decide +kernel
theorem dX12_grown_12 : decode cX12_grown 12 = .ok (.istore_n 2, 1) := by decide +kernel
theorem dX12_grown_13 : decode cX12_grown 13 = .ok (.iload_n 2, 1) := by decide +kernel
theorem dX12_grown_14 : decode cX12_grown 14 = .ok (.aload_n 0, 1) := by decide +kernel
theorem dX12_grown_15 : decode cX12_grown 15 = .ok (.getfield 315, 3) := by decide +kernel
theorem dX12_grown_18 : decode cX12_grown 18 = .ok (.if_icmp .ge 143, 3) := by decide +kernel
theorem dX12_grown_21 : decode cX12_grown 21 = .ok (.aload_n 0, 1) := by decide +kernel
theorem dX12_grown_22 : decode cX12_grown 22 = .ok (.getfield 27, 3) := by decide +kernel
theorem dX12_grown_25 : decode cX12_grown 25 = .ok (.iload_n 2, 1) := by decide +kernel
theorem dX12_grown_26 : decode cX12_grown 26 = .ok (.iaload, 1) := by decide +kernel
theorem dX12_grown_27 : decode cX12_grown 27 = .ok (.ifCond .eq 13, 3) := by decide +kernel
theorem dX12_grown_30 : decode cX12_grown 30 = .ok (.aload_n 0, 1) := by decide +kernel
theorem dX12_grown_31 : decode cX12_grown 31 = .ok (.getfield 27, 3) := by decide +kernel
theorem dX12_grown_34 : decode cX12_grown 34 = .ok (.iload_n 2, 1) := by decide +kernel
theorem dX12_grown_35 : decode cX12_grown 35 = .ok (.iaload, 1) := by decide +kernel
theorem dX12_grown_36 : decode cX12_grown 36 = .ok (.iconst 1, 1) := by decide +kernel
theorem dX12_grown_37 : decode cX12_grown 37 = .ok (.if_icmp .ne 44, 3) := by decide +kernel
theorem dX12_grown_40 : decode cX12_grown 40 = .ok (.aload_n 0, 1) := by decide +kernel
theorem dX12_grown_41 : decode cX12_grown 41 = .ok (.getfield 36, 3) := by decide +kernel
theorem dX12_grown_44 : decode cX12_grown 44 = .ok (.iload_n 1, 1) := by decide +kernel
theorem dX12_grown_45 : decode cX12_grown 45 = .ok (.aload_n 0, 1) := by decide +kernel
theorem dX12_grown_46 : decode cX12_grown 46 = .ok (.getfield 27, 3) := by decide +kernel
theorem dX12_grown_49 : decode cX12_grown 49 = .ok (.iload_n 2, 1) := by decide +kernel
theorem dX12_grown_50 : decode cX12_grown 50 = .ok (.iaload, 1) := by decide +kernel
theorem dX12_grown_51 : decode cX12_grown 51 = .ok (.ifCond .ne 12, 3) := by decide +kernel
theorem dX12_grown_54 : decode cX12_grown 54 = .ok (.aload_n 0, 1) := by decide +kernel
theorem dX12_grown_55 : decode cX12_grown 55 = .ok (.getfield 30, 3) := by decide +kernel
theorem dX12_grown_58 : decode cX12_grown 58 = .ok (.iload_n 2, 1) := by decide +kernel
theorem dX12_grown_59 : decode cX12_grown 59 = .ok (.iaload, 1) := by decide +kernel
theorem dX12_grown_60 : decode cX12_grown 60 = .ok (.goto 14, 3) := by decide +kernel
theorem dX12_grown_63 : decode cX12_grown 63 = .ok (.aload_n 0, 1) := by decide +kernel
theorem dX12_grown_64 : decode cX12_grown 64 = .ok (.getfield 39, 3) := by decide +kernel
theorem dX12_grown_67 : decode cX12_grown 67 = .ok (.aload_n 0, 1) := by decide +kernel
theorem dX12_grown_68 : decode cX12_grown 68 = .ok (.getfield 30, 3) := by decide +kernel
theorem dX12_grown_71 : decode cX12_grown 71 = .ok (.iload_n 2, 1) := by decide +kernel
theorem dX12_grown_72 : decode cX12_grown 72 = .ok (.iaload, 1) := by decide +kernel
theorem dX12_grown_73 : decode cX12_grown 73 = .ok (.iaload, 1) := by decide +kernel
theorem dX12_grown_74 : decode cX12_grown 74 = .ok (.iastore, 1) := by decide +kernel
theorem dX12_grown_75 : decode cX12_grown 75 = .ok (.iinc 1 1, 3) := by decide +kernel
theorem dX12_grown_78 : decode cX12_grown 78 = .ok (.goto 77, 3) := by decide +kernel
theorem dX12_grown_81 : decode cX12_grown 81 = .ok (.aload_n 0, 1) := by decide +kernel
theorem dX12_grown_82 : decode cX12_grown 82 = .ok (.getfield 27, 3) := by decide +kernel
theorem dX12_grown_85 : decode cX12_grown 85 = .ok (.iload_n 2, 1) := by decide +kernel
theorem dX12_grown_86 : decode cX12_grown 86 = .ok (.iaload, 1) := by decide +kernel
theorem dX12_grown_87 : decode cX12_grown 87 = .ok (.iconst 2, 1) := by decide +kernel
theorem dX12_grown_88 : decode cX12_grown 88 = .ok (.if_icmp .ne 33, 3) := by decide +kernel
theorem dX12_grown_91 : decode cX12_grown 91 = .ok (.aload_n 0, 1) := by decide +kernel
theorem dX12_grown_92 : decode cX12_grown 92 = .ok (.getfield 36, 3) := by decide +kernel
theorem dX12_grown_95 : decode cX12_grown 95 = .ok (.iload_n 1, 1) := by decide +kernel
theorem dX12_grown_96 : decode cX12_grown 96 = .ok (.iconst 1, 1) := by decide +kernel
theorem dX12_grown_97 : decode cX12_grown 97 = .ok (.isub, 1) := by decide +kernel
theorem dX12_grown_98 : decode cX12_grown 98 = .ok (.aload_n 0, 1) := by decide +kernel
theorem dX12_grown_99 : decode cX12_grown 99 = .ok (.getfield 36, 3) := by decide +kernel
theorem dX12_grown_102 : decode cX12_grown 102 = .ok (.iload_n 1, 1) := by decide +kernel
theorem dX12_grown_103 : decode cX12_grown 103 = .ok (.iconst 1, 1) := by decide +kernel
theorem dX12_grown_104 : decode cX12_grown 104 = .ok (.isub, 1) := by decide +kernel
theorem dX12_grown_105 : decode cX12_grown 105 = .ok (.iaload, 1) := by decide +kernel
theorem dX12_grown_106 : decode cX12_grown 106 = .ok (.ifCond .ne 7, 3) := by decide +kernel
theorem dX12_grown_109 : decode cX12_grown 109 = .ok (.iconst 1, 1) := by decide +kernel
theorem dX12_grown_110 : decode cX12_grown 110 = .ok (.goto 4, 3) := by decide +kernel
theorem dX12_grown_113 : decode cX12_grown 113 = .ok (.iconst 0, 1) := by decide +kernel
theorem dX12_grown_114 : decode cX12_grown 114 = .ok (.invokestatic 307, 3) := by decide +kernel
theorem dX12_grown_117 : decode cX12_grown 117 = .ok (.iastore, 1) := by decide +kernel
theorem dX12_grown_118 : decode cX12_grown 118 = .ok (.goto 37, 3) := by decide +kernel
theorem dX12_grown_121 : decode cX12_grown 121 = .ok (.iinc 1 (-1), 3) := by decide +kernel
theorem dX12_grown_124 : decode cX12_grown 124 = .ok (.aload_n 0, 1) := by decide +kernel
theorem dX12_grown_125 : decode cX12_grown 125 = .ok (.getfield 36, 3) := by decide +kernel
theorem dX12_grown_128 : decode cX12_grown 128 = .ok (.iload_n 1, 1) := by decide +kernel
theorem dX12_grown_129 : decode cX12_grown 129 = .ok (.iconst 1, 1) := by decide +kernel
theorem dX12_grown_130 : decode cX12_grown 130 = .ok (.isub, 1) := by decide +kernel
theorem dX12_grown_131 : decode cX12_grown 131 = .ok (.aload_n 0, 1) := by decide +kernel
theorem dX12_grown_132 : decode cX12_grown 132 = .ok (.getfield 30, 3) := by decide +kernel
theorem dX12_grown_135 : decode cX12_grown 135 = .ok (.iload_n 2, 1) := by decide +kernel
theorem dX12_grown_136 : decode cX12_grown 136 = .ok (.iaload, 1) := by decide +kernel
theorem dX12_grown_137 : decode cX12_grown 137 = .ok (.aload_n 0, 1) := by decide +kernel
theorem dX12_grown_138 : decode cX12_grown 138 = .ok (.getfield 36, 3) := by decide +kernel
theorem dX12_grown_141 : decode cX12_grown 141 = .ok (.iload_n 1, 1) := by decide +kernel
theorem dX12_grown_142 : decode cX12_grown 142 = .ok (.iconst 1, 1) := by decide +kernel
theorem dX12_grown_143 : decode cX12_grown 143 = .ok (.isub, 1) := by decide +kernel
theorem dX12_grown_144 : decode cX12_grown 144 = .ok (.iaload, 1) := by decide +kernel
theorem dX12_grown_145 : decode cX12_grown 145 = .ok (.aload_n 0, 1) := by decide +kernel
theorem dX12_grown_146 : decode cX12_grown 146 = .ok (.getfield 36, 3) := by decide +kernel
theorem dX12_grown_149 : decode cX12_grown 149 = .ok (.iload_n 1, 1) := by decide +kernel
theorem dX12_grown_150 : decode cX12_grown 150 = .ok (.iaload, 1) := by decide +kernel
theorem dX12_grown_151 : decode cX12_grown 151 = .ok (.invokestatic 318, 3) := by decide +kernel
theorem dX12_grown_154 : decode cX12_grown 154 = .ok (.iastore, 1) := by decide +kernel
theorem dX12_grown_155 : decode cX12_grown 155 = .ok (.iinc 2 1, 3) := by decide +kernel
theorem dX12_grown_158 : decode cX12_grown 158 = .ok (.goto (-145), 3) := by decide +kernel
theorem dX12_grown_161 : decode cX12_grown 161 = .ok (.aload_n 0, 1) := by decide +kernel
theorem dX12_grown_162 : decode cX12_grown 162 = .ok (.getfield 36, 3) := by decide +kernel
theorem dX12_grown_165 : decode cX12_grown 165 = .ok (.iconst 0, 1) := by decide +kernel
theorem dX12_grown_166 : decode cX12_grown 166 = .ok (.iaload, 1) := by decide +kernel
theorem dX12_grown_167 : decode cX12_grown 167 = .ok (.ireturn, 1) := by decide +kernel
theorem dX12_readPlant_0 : decode cX12_readPlant 0 = .ok (.aload_n 0, 1) := by decide +kernel
theorem dX12_readPlant_1 : decode cX12_readPlant 1 = .ok (.iconst 0, 1) := by decide +kernel
theorem dX12_readPlant_2 : decode cX12_readPlant 2 = .ok (.aload_n 0, 1) := by decide +kernel
theorem dX12_readPlant_3 : decode cX12_readPlant 3 = .ok (.getfield 322, 3) := by decide +kernel
theorem dX12_readPlant_6 : decode cX12_readPlant 6 = .ok (.invokevirtual 325, 3) := by decide +kernel
theorem dX12_readPlant_9 : decode cX12_readPlant 9 = .ok (.aload_n 0, 1) := by decide +kernel
theorem dX12_readPlant_10 : decode cX12_readPlant 10 = .ok (.getfield 42, 3) := by decide +kernel
theorem dX12_readPlant_13 : decode cX12_readPlant 13 = .ok (.aload_n 0, 1) := by decide +kernel
theorem dX12_readPlant_14 : decode cX12_readPlant 14 = .ok (.getfield 322, 3) := by decide +kernel
theorem dX12_readPlant_17 : decode cX12_readPlant 17 = .ok (.aload_n 0, 1) := by decide +kernel
theorem dX12_readPlant_18 : decode cX12_readPlant 18 = .ok (.ldc2_w 180, 3) := by decide +kernel
theorem dX12_readPlant_21 : decode cX12_readPlant 21 = .ok (.iconst 1, 1) := by decide +kernel
theorem dX12_readPlant_22 : decode cX12_readPlant 22 = .ok (.bipush 99, 2) := by decide +kernel
theorem dX12_readPlant_24 : decode cX12_readPlant 24 = .ok (.invokevirtual 328, 3) := by decide +kernel
theorem dX12_readPlant_27 : decode cX12_readPlant 27 = .ok (.iastore, 1) := by decide +kernel
theorem dX12_readPlant_28 : decode cX12_readPlant 28 = .ok (.aload_n 0, 1) := by decide +kernel
theorem dX12_readPlant_29 : decode cX12_readPlant 29 = .ok (.getfield 60, 3) := by decide +kernel
theorem dX12_readPlant_32 : decode cX12_readPlant 32 = .ok (.aload_n 0, 1) := by decide +kernel
theorem dX12_readPlant_33 : decode cX12_readPlant 33 = .ok (.getfield 322, 3) := by decide +kernel
theorem dX12_readPlant_36 : decode cX12_readPlant 36 = .ok (.aload_n 0, 1) := by decide +kernel
theorem dX12_readPlant_37 : decode cX12_readPlant 37 = .ok (.getfield 173, 3) := by decide +kernel
theorem dX12_readPlant_40 : decode cX12_readPlant 40 = .ok (.ifCond .ne 17, 3) := by decide +kernel
theorem dX12_readPlant_43 : decode cX12_readPlant 43 = .ok (.aload_n 0, 1) := by decide +kernel
theorem dX12_readPlant_44 : decode cX12_readPlant 44 = .ok (.ldc2_w 182, 3) := by decide +kernel
theorem dX12_readPlant_47 : decode cX12_readPlant 47 = .ok (.invokevirtual 228, 3) := by decide +kernel
theorem dX12_readPlant_50 : decode cX12_readPlant 50 = .ok (.ifCond .eq 7, 3) := by decide +kernel
theorem dX12_readPlant_53 : decode cX12_readPlant 53 = .ok (.iconst 1, 1) := by decide +kernel
theorem dX12_readPlant_54 : decode cX12_readPlant 54 = .ok (.goto 4, 3) := by decide +kernel
theorem dX12_readPlant_57 : decode cX12_readPlant 57 = .ok (.iconst 0, 1) := by decide +kernel
theorem dX12_readPlant_58 : decode cX12_readPlant 58 = .ok (.bastore, 1) := by decide +kernel
theorem dX12_readPlant_59 : decode cX12_readPlant 59 = .ok (.aload_n 0, 1) := by decide +kernel
theorem dX12_readPlant_60 : decode cX12_readPlant 60 = .ok (.getfield 60, 3) := by decide +kernel
theorem dX12_readPlant_63 : decode cX12_readPlant 63 = .ok (.aload_n 0, 1) := by decide +kernel
theorem dX12_readPlant_64 : decode cX12_readPlant 64 = .ok (.getfield 322, 3) := by decide +kernel
theorem dX12_readPlant_67 : decode cX12_readPlant 67 = .ok (.baload, 1) := by decide +kernel
theorem dX12_readPlant_68 : decode cX12_readPlant 68 = .ok (.ifCond .eq 7, 3) := by decide +kernel
theorem dX12_readPlant_71 : decode cX12_readPlant 71 = .ok (.aload_n 0, 1) := by decide +kernel
theorem dX12_readPlant_72 : decode cX12_readPlant 72 = .ok (.invokevirtual 235, 3) := by decide +kernel
theorem dX12_readPlant_75 : decode cX12_readPlant 75 = .ok (.aload_n 0, 1) := by decide +kernel
theorem dX12_readPlant_76 : decode cX12_readPlant 76 = .ok (.getfield 173, 3) := by decide +kernel
theorem dX12_readPlant_79 : decode cX12_readPlant 79 = .ok (.ifCond .ne 13, 3) := by decide +kernel
theorem dX12_readPlant_82 : decode cX12_readPlant 82 = .ok (.aload_n 0, 1) := by decide +kernel
theorem dX12_readPlant_83 : decode cX12_readPlant 83 = .ok (.dup, 1) := by decide +kernel
theorem dX12_readPlant_84 : decode cX12_readPlant 84 = .ok (.getfield 322, 3) := by decide +kernel
theorem dX12_readPlant_87 : decode cX12_readPlant 87 = .ok (.iconst 1, 1) := by decide +kernel
theorem dX12_readPlant_88 : decode cX12_readPlant 88 = .ok (.iadd, 1) := by decide +kernel
theorem dX12_readPlant_89 : decode cX12_readPlant 89 = .ok (.putfield 322, 3) := by decide +kernel
theorem dX12_readPlant_92 : decode cX12_readPlant 92 = .ok (.return_, 1) := by decide +kernel
theorem dX12_readTopic_0 : decode cX12_readTopic 0 = .ok (.aload_n 0, 1) := by decide +kernel
theorem dX12_readTopic_1 : decode cX12_readTopic 1 = .ok (.iconst 4, 1) := by decide +kernel
theorem dX12_readTopic_2 : decode cX12_readTopic 2 = .ok (.aload_n 0, 1) := by decide +kernel
theorem dX12_readTopic_3 : decode cX12_readTopic 3 = .ok (.getfield 332, 3) := by decide +kernel
theorem dX12_readTopic_6 : decode cX12_readTopic 6 = .ok (.invokevirtual 325, 3) := by decide +kernel
theorem dX12_readTopic_9 : decode cX12_readTopic 9 = .ok (.aload_n 0, 1) := by decide +kernel
theorem dX12_readTopic_10 : decode cX12_readTopic 10 = .ok (.getfield 173, 3) := by decide +kernel
theorem dX12_readTopic_13 : decode cX12_readTopic 13 = .ok (.ifCond .ne 13, 3) := by decide +kernel
theorem dX12_readTopic_16 : decode cX12_readTopic 16 = .ok (.aload_n 0, 1) := by decide +kernel
theorem dX12_readTopic_17 : decode cX12_readTopic 17 = .ok (.dup, 1) := by decide +kernel
theorem dX12_readTopic_18 : decode cX12_readTopic 18 = .ok (.getfield 332, 3) := by decide +kernel
theorem dX12_readTopic_21 : decode cX12_readTopic 21 = .ok (.iconst 1, 1) := by decide +kernel
theorem dX12_readTopic_22 : decode cX12_readTopic 22 = .ok (.iadd, 1) := by decide +kernel
theorem dX12_readTopic_23 : decode cX12_readTopic 23 = .ok (.putfield 332, 3) := by decide +kernel
theorem dX12_readTopic_26 : decode cX12_readTopic 26 = .ok (.return_, 1) := by decide +kernel
theorem dX12_readBill_0 : decode cX12_readBill 0 = .ok (.aload_n 0, 1) := by decide +kernel
theorem dX12_readBill_1 : decode cX12_readBill 1 = .ok (.bipush 8, 2) := by decide +kernel
theorem dX12_readBill_3 : decode cX12_readBill 3 = .ok (.aload_n 0, 1) := by decide +kernel
theorem dX12_readBill_4 : decode cX12_readBill 4 = .ok (.getfield 335, 3) := by decide +kernel
theorem dX12_readBill_7 : decode cX12_readBill 7 = .ok (.invokevirtual 325, 3) := by decide +kernel
theorem dX12_readBill_10 : decode cX12_readBill 10 = .ok (.bipush 8, 2) := by decide +kernel
theorem dX12_readBill_12 : decode cX12_readBill 12 = .ok (.aload_n 0, 1) := by decide +kernel
theorem dX12_readBill_13 : decode cX12_readBill 13 = .ok (.getfield 335, 3) := by decide +kernel
theorem dX12_readBill_16 : decode cX12_readBill 16 = .ok (.imul, 1) := by decide +kernel
theorem dX12_readBill_17 : decode cX12_readBill 17 = .ok (.istore_n 1, 1) := by decide +kernel
theorem dX12_readBill_18 : decode cX12_readBill 18 = .ok (.aload_n 0, 1) := by decide +kernel
theorem dX12_readBill_19 : decode cX12_readBill 19 = .ok (.ldc2_w 188, 3) := by decide +kernel
theorem dX12_readBill_22 : decode cX12_readBill 22 = .ok (.invokevirtual 238, 3) := by decide +kernel
theorem dX12_readBill_25 : decode cX12_readBill 25 = .ok (.aload_n 0, 1) := by decide +kernel
theorem dX12_readBill_26 : decode cX12_readBill 26 = .ok (.getfield 67, 3) := by decide +kernel
theorem dX12_readBill_29 : decode cX12_readBill 29 = .ok (.iload_n 1, 1) := by decide +kernel
theorem dX12_readBill_30 : decode cX12_readBill 30 = .ok (.iconst 3, 1) := by decide +kernel
theorem dX12_readBill_31 : decode cX12_readBill 31 = .ok (.iadd, 1) := by decide +kernel
theorem dX12_readBill_32 : decode cX12_readBill 32 = .ok (.aload_n 0, 1) := by decide +kernel
theorem dX12_readBill_33 : decode cX12_readBill 33 = .ok (.iconst 0, 1) := by decide +kernel
theorem dX12_readBill_34 : decode cX12_readBill 34 = .ok (.aload_n 0, 1) := by decide +kernel
theorem dX12_readBill_35 : decode cX12_readBill 35 = .ok (.getfield 322, 3) := by decide +kernel
theorem dX12_readBill_38 : decode cX12_readBill 38 = .ok (.invokevirtual 251, 3) := by decide +kernel
theorem dX12_readBill_41 : decode cX12_readBill 41 = .ok (.iastore, 1) := by decide +kernel
theorem dX12_readBill_42 : decode cX12_readBill 42 = .ok (.aload_n 0, 1) := by decide +kernel
theorem dX12_readBill_43 : decode cX12_readBill 43 = .ok (.getfield 173, 3) := by decide +kernel
theorem dX12_readBill_46 : decode cX12_readBill 46 = .ok (.ifCond .ne 7, 3) := by decide +kernel
theorem dX12_readBill_49 : decode cX12_readBill 49 = .ok (.aload_n 0, 1) := by decide +kernel
theorem dX12_readBill_50 : decode cX12_readBill 50 = .ok (.invokevirtual 235, 3) := by decide +kernel
theorem dX12_readBill_53 : decode cX12_readBill 53 = .ok (.aload_n 0, 1) := by decide +kernel
theorem dX12_readBill_54 : decode cX12_readBill 54 = .ok (.getfield 67, 3) := by decide +kernel
theorem dX12_readBill_57 : decode cX12_readBill 57 = .ok (.iload_n 1, 1) := by decide +kernel
theorem dX12_readBill_58 : decode cX12_readBill 58 = .ok (.iconst 2, 1) := by decide +kernel
theorem dX12_readBill_59 : decode cX12_readBill 59 = .ok (.iadd, 1) := by decide +kernel
theorem dX12_readBill_60 : decode cX12_readBill 60 = .ok (.aload_n 0, 1) := by decide +kernel
theorem dX12_readBill_61 : decode cX12_readBill 61 = .ok (.ldc2_w 190, 3) := by decide +kernel
theorem dX12_readBill_64 : decode cX12_readBill 64 = .ok (.iconst 0, 1) := by decide +kernel
theorem dX12_readBill_65 : decode cX12_readBill 65 = .ok (.aload_n 0, 1) := by decide +kernel
theorem dX12_readBill_66 : decode cX12_readBill 66 = .ok (.getfield 338, 3) := by decide +kernel
theorem dX12_readBill_69 : decode cX12_readBill 69 = .ok (.iconst 1, 1) := by decide +kernel
theorem dX12_readBill_70 : decode cX12_readBill 70 = .ok (.isub, 1) := by decide +kernel
theorem dX12_readBill_71 : decode cX12_readBill 71 = .ok (.invokevirtual 328, 3) := by decide +kernel
theorem dX12_readBill_74 : decode cX12_readBill 74 = .ok (.iastore, 1) := by decide +kernel
theorem dX12_readBill_75 : decode cX12_readBill 75 = .ok (.aload_n 0, 1) := by decide +kernel
theorem dX12_readBill_76 : decode cX12_readBill 76 = .ok (.getfield 67, 3) := by decide +kernel
theorem dX12_readBill_79 : decode cX12_readBill 79 = .ok (.iload_n 1, 1) := by decide +kernel
theorem dX12_readBill_80 : decode cX12_readBill 80 = .ok (.iconst 4, 1) := by decide +kernel
theorem dX12_readBill_81 : decode cX12_readBill 81 = .ok (.iadd, 1) := by decide +kernel
theorem dX12_readBill_82 : decode cX12_readBill 82 = .ok (.aload_n 0, 1) := by decide +kernel
theorem dX12_readBill_83 : decode cX12_readBill 83 = .ok (.ldc2_w 192, 3) := by decide +kernel
theorem dX12_readBill_86 : decode cX12_readBill 86 = .ok (.iconst 4, 1) := by decide +kernel
theorem dX12_readBill_87 : decode cX12_readBill 87 = .ok (.aload_n 0, 1) := by decide +kernel
theorem dX12_readBill_88 : decode cX12_readBill 88 = .ok (.getfield 332, 3) := by decide +kernel
theorem dX12_readBill_91 : decode cX12_readBill 91 = .ok (.invokevirtual 341, 3) := by decide +kernel
theorem dX12_readBill_94 : decode cX12_readBill 94 = .ok (.iastore, 1) := by decide +kernel
theorem dX12_readBill_95 : decode cX12_readBill 95 = .ok (.aload_n 0, 1) := by decide +kernel
theorem dX12_readBill_96 : decode cX12_readBill 96 = .ok (.getfield 67, 3) := by decide +kernel
theorem dX12_readBill_99 : decode cX12_readBill 99 = .ok (.iload_n 1, 1) := by decide +kernel
theorem dX12_readBill_100 : decode cX12_readBill 100 = .ok (.iconst 5, 1) := by decide +kernel
theorem dX12_readBill_101 : decode cX12_readBill 101 = .ok (.iadd, 1) := by decide +kernel
theorem dX12_readBill_102 : decode cX12_readBill 102 = .ok (.aload_n 0, 1) := by decide +kernel
theorem dX12_readBill_103 : decode cX12_readBill 103 = .ok (.getfield 173, 3) := by decide +kernel
theorem dX12_readBill_106 : decode cX12_readBill 106 = .ok (.ifCond .ne 23, 3) := by decide +kernel
theorem dX12_readBill_109 : decode cX12_readBill 109 = .ok (.aload_n 0, 1) := by decide +kernel
theorem dX12_readBill_110 : decode cX12_readBill 110 = .ok (.getfield 67, 3) := by decide +kernel
theorem dX12_readBill_113 : decode cX12_readBill 113 = .ok (.iload_n 1, 1) := by decide +kernel
theorem dX12_readBill_114 : decode cX12_readBill 114 = .ok (.iconst 4, 1) := by decide +kernel
theorem dX12_readBill_115 : decode cX12_readBill 115 = .ok (.iadd, 1) := by decide +kernel
theorem dX12_readBill_116 : decode cX12_readBill 116 = .ok (.iaload, 1) := by decide +kernel
theorem dX12_readBill_117 : decode cX12_readBill 117 = .ok (.ifCond .lt 12, 3) := by decide +kernel
theorem dX12_readBill_120 : decode cX12_readBill 120 = .ok (.aload_n 0, 1) := by decide +kernel
theorem dX12_readBill_121 : decode cX12_readBill 121 = .ok (.bipush 9, 2) := by decide +kernel
theorem dX12_readBill_123 : decode cX12_readBill 123 = .ok (.invokevirtual 344, 3) := by decide +kernel
theorem dX12_readBill_126 : decode cX12_readBill 126 = .ok (.goto 4, 3) := by decide +kernel
theorem dX12_readBill_129 : decode cX12_readBill 129 = .ok (.iconst 0, 1) := by decide +kernel
theorem dX12_readBill_130 : decode cX12_readBill 130 = .ok (.iastore, 1) := by decide +kernel
theorem dX12_readBill_131 : decode cX12_readBill 131 = .ok (.aload_n 0, 1) := by decide +kernel
theorem dX12_readBill_132 : decode cX12_readBill 132 = .ok (.getfield 67, 3) := by decide +kernel
theorem dX12_readBill_135 : decode cX12_readBill 135 = .ok (.iload_n 1, 1) := by decide +kernel
theorem dX12_readBill_136 : decode cX12_readBill 136 = .ok (.bipush 6, 2) := by decide +kernel
theorem dX12_readBill_138 : decode cX12_readBill 138 = .ok (.iadd, 1) := by decide +kernel
theorem dX12_readBill_139 : decode cX12_readBill 139 = .ok (.aload_n 0, 1) := by decide +kernel
theorem dX12_readBill_140 : decode cX12_readBill 140 = .ok (.ldc2_w 194, 3) := by decide +kernel
theorem dX12_readBill_143 : decode cX12_readBill 143 = .ok (.bipush 8, 2) := by decide +kernel
theorem dX12_readBill_145 : decode cX12_readBill 145 = .ok (.aload_n 0, 1) := by decide +kernel
theorem dX12_readBill_146 : decode cX12_readBill 146 = .ok (.getfield 335, 3) := by decide +kernel
theorem dX12_readBill_149 : decode cX12_readBill 149 = .ok (.invokevirtual 341, 3) := by decide +kernel
theorem dX12_readBill_152 : decode cX12_readBill 152 = .ok (.iastore, 1) := by decide +kernel
theorem dX12_readBill_153 : decode cX12_readBill 153 = .ok (.aload_n 0, 1) := by decide +kernel
theorem dX12_readBill_154 : decode cX12_readBill 154 = .ok (.getfield 67, 3) := by decide +kernel
theorem dX12_readBill_157 : decode cX12_readBill 157 = .ok (.iload_n 1, 1) := by decide +kernel
theorem dX12_readBill_158 : decode cX12_readBill 158 = .ok (.bipush 7, 2) := by decide +kernel
theorem dX12_readBill_160 : decode cX12_readBill 160 = .ok (.iadd, 1) := by decide +kernel
theorem dX12_readBill_161 : decode cX12_readBill 161 = .ok (.aload_n 0, 1) := by decide +kernel
theorem dX12_readBill_162 : decode cX12_readBill 162 = .ok (.ldc2_w 196, 3) := by decide +kernel
theorem dX12_readBill_165 : decode cX12_readBill 165 = .ok (.bipush 8, 2) := by decide +kernel
theorem dX12_readBill_167 : decode cX12_readBill 167 = .ok (.aload_n 0, 1) := by decide +kernel
theorem dX12_readBill_168 : decode cX12_readBill 168 = .ok (.getfield 335, 3) := by decide +kernel
theorem dX12_readBill_171 : decode cX12_readBill 171 = .ok (.invokevirtual 341, 3) := by decide +kernel
theorem dX12_readBill_174 : decode cX12_readBill 174 = .ok (.iastore, 1) := by decide +kernel
theorem dX12_readBill_175 : decode cX12_readBill 175 = .ok (.aload_n 0, 1) := by decide +kernel
theorem dX12_readBill_176 : decode cX12_readBill 176 = .ok (.getfield 173, 3) := by decide +kernel
theorem dX12_readBill_179 : decode cX12_readBill 179 = .ok (.ifCond .le 4, 3) := by decide +kernel
theorem dX12_readBill_182 : decode cX12_readBill 182 = .ok (.return_, 1) := by decide +kernel
theorem dX12_readBill_183 : decode cX12_readBill 183 = .ok (.aload_n 0, 1) := by decide +kernel
theorem dX12_readBill_184 : decode cX12_readBill 184 = .ok (.getfield 67, 3) := by decide +kernel
theorem dX12_readBill_187 : decode cX12_readBill 187 = .ok (.iload_n 1, 1) := by decide +kernel
theorem dX12_readBill_188 : decode cX12_readBill 188 = .ok (.iconst 0, 1) := by decide +kernel
theorem dX12_readBill_189 : decode cX12_readBill 189 = .ok (.iadd, 1) := by decide +kernel
theorem dX12_readBill_190 : decode cX12_readBill 190 = .ok (.aload_n 0, 1) := by decide +kernel
theorem dX12_readBill_191 : decode cX12_readBill 191 = .ok (.getfield 42, 3) := by decide +kernel
theorem dX12_readBill_194 : decode cX12_readBill 194 = .ok (.aload_n 0, 1) := by decide +kernel
theorem dX12_readBill_195 : decode cX12_readBill 195 = .ok (.getfield 67, 3) := by decide +kernel
theorem dX12_readBill_198 : decode cX12_readBill 198 = .ok (.iload_n 1, 1) := by decide +kernel
theorem dX12_readBill_199 : decode cX12_readBill 199 = .ok (.iconst 3, 1) := by decide +kernel
theorem dX12_readBill_200 : decode cX12_readBill 200 = .ok (.iadd, 1) := by decide +kernel
theorem dX12_readBill_201 : decode cX12_readBill 201 = .ok (.iaload, 1) := by decide +kernel
theorem dX12_readBill_202 : decode cX12_readBill 202 = .ok (.iaload, 1) := by decide +kernel
theorem dX12_readBill_203 : decode cX12_readBill 203 = .ok (.iastore, 1) := by decide +kernel
theorem dX12_readBill_204 : decode cX12_readBill 204 = .ok (.aload_n 0, 1) := by decide +kernel
theorem dX12_readBill_205 : decode cX12_readBill 205 = .ok (.getfield 67, 3) := by decide +kernel
theorem dX12_readBill_208 : decode cX12_readBill 208 = .ok (.iload_n 1, 1) := by decide +kernel
theorem dX12_readBill_209 : decode cX12_readBill 209 = .ok (.iconst 1, 1) := by decide +kernel
theorem dX12_readBill_210 : decode cX12_readBill 210 = .ok (.iadd, 1) := by decide +kernel
theorem dX12_readBill_211 : decode cX12_readBill 211 = .ok (.iconst 0, 1) := by decide +kernel
theorem dX12_readBill_212 : decode cX12_readBill 212 = .ok (.iastore, 1) := by decide +kernel
theorem dX12_readBill_213 : decode cX12_readBill 213 = .ok (.aload_n 0, 1) := by decide +kernel
theorem dX12_readBill_214 : decode cX12_readBill 214 = .ok (.dup, 1) := by decide +kernel
theorem dX12_readBill_215 : decode cX12_readBill 215 = .ok (.getfield 335, 3) := by decide +kernel
theorem dX12_readBill_218 : decode cX12_readBill 218 = .ok (.iconst 1, 1) := by decide +kernel
theorem dX12_readBill_219 : decode cX12_readBill 219 = .ok (.iadd, 1) := by decide +kernel
theorem dX12_readBill_220 : decode cX12_readBill 220 = .ok (.putfield 335, 3) := by decide +kernel
theorem dX12_readBill_223 : decode cX12_readBill 223 = .ok (.return_, 1) := by decide +kernel
theorem dX12_readParty_0 : decode cX12_readParty 0 = .ok (.aload_n 0, 1) := by decide +kernel
theorem dX12_readParty_1 : decode cX12_readParty 1 = .ok (.bipush 16, 2) := by decide +kernel
theorem dX12_readParty_3 : decode cX12_readParty 3 = .ok (.aload_n 0, 1) := by decide +kernel
theorem dX12_readParty_4 : decode cX12_readParty 4 = .ok (.getfield 347, 3) := by decide +kernel
theorem dX12_readParty_7 : decode cX12_readParty 7 = .ok (.invokevirtual 325, 3) := by decide +kernel
theorem dX12_readParty_10 : decode cX12_readParty 10 = .ok (.aload_n 0, 1) := by decide +kernel
theorem dX12_readParty_11 : decode cX12_readParty 11 = .ok (.getfield 173, 3) := by decide +kernel
theorem dX12_readParty_14 : decode cX12_readParty 14 = .ok (.ifCond .le 4, 3) := by decide +kernel
theorem dX12_readParty_17 : decode cX12_readParty 17 = .ok (.return_, 1) := by decide +kernel
theorem dX12_readParty_18 : decode cX12_readParty 18 = .ok (.iconst 0, 1) := by decide +kernel
theorem dX12_readParty_19 : decode cX12_readParty 19 = .ok (.istore_n 1, 1) := by decide +kernel
theorem dX12_readParty_20 : decode cX12_readParty 20 = .ok (.iload_n 1, 1) := by decide +kernel
theorem dX12_readParty_21 : decode cX12_readParty 21 = .ok (.iconst 4, 1) := by decide +kernel
theorem dX12_readParty_22 : decode cX12_readParty 22 = .ok (.if_icmp .ge 23, 3) := by decide +kernel
theorem dX12_readParty_25 : decode cX12_readParty 25 = .ok (.aload_n 0, 1) := by decide +kernel
theorem dX12_readParty_26 : decode cX12_readParty 26 = .ok (.getfield 51, 3) := by decide +kernel
theorem dX12_readParty_29 : decode cX12_readParty 29 = .ok (.iconst 4, 1) := by decide +kernel
theorem dX12_readParty_30 : decode cX12_readParty 30 = .ok (.aload_n 0, 1) := by decide +kernel
theorem dX12_readParty_31 : decode cX12_readParty 31 = .ok (.getfield 347, 3) := by decide +kernel
theorem dX12_readParty_34 : decode cX12_readParty 34 = .ok (.imul, 1) := by decide +kernel
theorem dX12_readParty_35 : decode cX12_readParty 35 = .ok (.iload_n 1, 1) := by decide +kernel
theorem dX12_readParty_36 : decode cX12_readParty 36 = .ok (.iadd, 1) := by decide +kernel
theorem dX12_readParty_37 : decode cX12_readParty 37 = .ok (.iconst 0, 1) := by decide +kernel
theorem dX12_readParty_38 : decode cX12_readParty 38 = .ok (.iastore, 1) := by decide +kernel
theorem dX12_readParty_39 : decode cX12_readParty 39 = .ok (.iinc 1 1, 3) := by decide +kernel
theorem dX12_readParty_42 : decode cX12_readParty 42 = .ok (.goto (-22), 3) := by decide +kernel
theorem dX12_readParty_45 : decode cX12_readParty 45 = .ok (.aload_n 0, 1) := by decide +kernel
theorem dX12_readParty_46 : decode cX12_readParty 46 = .ok (.dup, 1) := by decide +kernel
theorem dX12_readParty_47 : decode cX12_readParty 47 = .ok (.getfield 347, 3) := by decide +kernel
theorem dX12_readParty_50 : decode cX12_readParty 50 = .ok (.iconst 1, 1) := by decide +kernel
theorem dX12_readParty_51 : decode cX12_readParty 51 = .ok (.iadd, 1) := by decide +kernel
theorem dX12_readParty_52 : decode cX12_readParty 52 = .ok (.putfield 347, 3) := by decide +kernel
theorem dX12_readParty_55 : decode cX12_readParty 55 = .ok (.return_, 1) := by decide +kernel
theorem dX12_readWants_0 : decode cX12_readWants 0 = .ok (.aload_n 0, 1) := by decide +kernel
theorem dX12_readWants_1 : decode cX12_readWants 1 = .ok (.invokevirtual 235, 3) := by decide +kernel
theorem dX12_readWants_4 : decode cX12_readWants 4 = .ok (.aload_n 0, 1) := by decide +kernel
theorem dX12_readWants_5 : decode cX12_readWants 5 = .ok (.bipush 16, 2) := by decide +kernel
theorem dX12_readWants_7 : decode cX12_readWants 7 = .ok (.aload_n 0, 1) := by decide +kernel
theorem dX12_readWants_8 : decode cX12_readWants 8 = .ok (.getfield 347, 3) := by decide +kernel
theorem dX12_readWants_11 : decode cX12_readWants 11 = .ok (.invokevirtual 251, 3) := by decide +kernel
theorem dX12_readWants_14 : decode cX12_readWants 14 = .ok (.istore_n 1, 1) := by decide +kernel
theorem dX12_readWants_15 : decode cX12_readWants 15 = .ok (.aload_n 0, 1) := by decide +kernel
theorem dX12_readWants_16 : decode cX12_readWants 16 = .ok (.getfield 173, 3) := by decide +kernel
theorem dX12_readWants_19 : decode cX12_readWants 19 = .ok (.ifCond .ne 7, 3) := by decide +kernel
theorem dX12_readWants_22 : decode cX12_readWants 22 = .ok (.aload_n 0, 1) := by decide +kernel
theorem dX12_readWants_23 : decode cX12_readWants 23 = .ok (.invokevirtual 235, 3) := by decide +kernel
theorem dX12_readWants_26 : decode cX12_readWants 26 = .ok (.aload_n 0, 1) := by decide +kernel
theorem dX12_readWants_27 : decode cX12_readWants 27 = .ok (.iconst 4, 1) := by decide +kernel
theorem dX12_readWants_28 : decode cX12_readWants 28 = .ok (.aload_n 0, 1) := by decide +kernel
theorem dX12_readWants_29 : decode cX12_readWants 29 = .ok (.getfield 332, 3) := by decide +kernel
theorem dX12_readWants_32 : decode cX12_readWants 32 = .ok (.invokevirtual 251, 3) := by decide +kernel
theorem dX12_readWants_35 : decode cX12_readWants 35 = .ok (.istore_n 2, 1) := by decide +kernel
theorem dX12_readWants_36 : decode cX12_readWants 36 = .ok (.aload_n 0, 1) := by decide +kernel
theorem dX12_readWants_37 : decode cX12_readWants 37 = .ok (.getfield 173, 3) := by decide +kernel
theorem dX12_readWants_40 : decode cX12_readWants 40 = .ok (.ifCond .ne 21, 3) := by decide +kernel
theorem dX12_readWants_43 : decode cX12_readWants 43 = .ok (.aload_n 0, 1) := by decide +kernel
theorem dX12_readWants_44 : decode cX12_readWants 44 = .ok (.getfield 51, 3) := by decide +kernel
theorem dX12_readWants_47 : decode cX12_readWants 47 = .ok (.iconst 4, 1) := by decide +kernel
theorem dX12_readWants_48 : decode cX12_readWants 48 = .ok (.iload_n 1, 1) := by decide +kernel
theorem dX12_readWants_49 : decode cX12_readWants 49 = .ok (.imul, 1) := by decide +kernel
theorem dX12_readWants_50 : decode cX12_readWants 50 = .ok (.iload_n 2, 1) := by decide +kernel
theorem dX12_readWants_51 : decode cX12_readWants 51 = .ok (.iadd, 1) := by decide +kernel
theorem dX12_readWants_52 : decode cX12_readWants 52 = .ok (.iaload, 1) := by decide +kernel
theorem dX12_readWants_53 : decode cX12_readWants 53 = .ok (.ifCond .le 8, 3) := by decide +kernel
theorem dX12_readWants_56 : decode cX12_readWants 56 = .ok (.aload_n 0, 1) := by decide +kernel
theorem dX12_readWants_57 : decode cX12_readWants 57 = .ok (.iconst 3, 1) := by decide +kernel
theorem dX12_readWants_58 : decode cX12_readWants 58 = .ok (.invokevirtual 232, 3) := by decide +kernel
theorem dX12_readWants_61 : decode cX12_readWants 61 = .ok (.aload_n 0, 1) := by decide +kernel
theorem dX12_readWants_62 : decode cX12_readWants 62 = .ok (.getfield 173, 3) := by decide +kernel
theorem dX12_readWants_65 : decode cX12_readWants 65 = .ok (.ifCond .ne 7, 3) := by decide +kernel
theorem dX12_readWants_68 : decode cX12_readWants 68 = .ok (.aload_n 0, 1) := by decide +kernel
theorem dX12_readWants_69 : decode cX12_readWants 69 = .ok (.invokevirtual 235, 3) := by decide +kernel
theorem dX12_readWants_72 : decode cX12_readWants 72 = .ok (.aload_n 0, 1) := by decide +kernel
theorem dX12_readWants_73 : decode cX12_readWants 73 = .ok (.bipush 9, 2) := by decide +kernel
theorem dX12_readWants_75 : decode cX12_readWants 75 = .ok (.invokevirtual 344, 3) := by decide +kernel
theorem dX12_readWants_78 : decode cX12_readWants 78 = .ok (.istore_n 3, 1) := by decide +kernel
theorem dX12_readWants_79 : decode cX12_readWants 79 = .ok (.aload_n 0, 1) := by decide +kernel
theorem dX12_readWants_80 : decode cX12_readWants 80 = .ok (.ldc2_w 202, 3) := by decide +kernel
theorem dX12_readWants_83 : decode cX12_readWants 83 = .ok (.iconst 1, 1) := by decide +kernel
theorem dX12_readWants_84 : decode cX12_readWants 84 = .ok (.bipush 9, 2) := by decide +kernel
theorem dX12_readWants_86 : decode cX12_readWants 86 = .ok (.invokevirtual 328, 3) := by decide +kernel
theorem dX12_readWants_89 : decode cX12_readWants 89 = .ok (.istore 4, 2) := by decide +kernel
theorem dX12_readWants_91 : decode cX12_readWants 91 = .ok (.aload_n 0, 1) := by decide +kernel
theorem dX12_readWants_92 : decode cX12_readWants 92 = .ok (.getfield 173, 3) := by decide +kernel
theorem dX12_readWants_95 : decode cX12_readWants 95 = .ok (.ifCond .le 4, 3) := by decide +kernel
theorem dX12_readWants_98 : decode cX12_readWants 98 = .ok (.return_, 1) := by decide +kernel
theorem dX12_readWants_99 : decode cX12_readWants 99 = .ok (.aload_n 0, 1) := by decide +kernel
theorem dX12_readWants_100 : decode cX12_readWants 100 = .ok (.getfield 48, 3) := by decide +kernel
theorem dX12_readWants_103 : decode cX12_readWants 103 = .ok (.iconst 4, 1) := by decide +kernel
theorem dX12_readWants_104 : decode cX12_readWants 104 = .ok (.iload_n 1, 1) := by decide +kernel
theorem dX12_readWants_105 : decode cX12_readWants 105 = .ok (.imul, 1) := by decide +kernel
theorem dX12_readWants_106 : decode cX12_readWants 106 = .ok (.iload_n 2, 1) := by decide +kernel
theorem dX12_readWants_107 : decode cX12_readWants 107 = .ok (.iadd, 1) := by decide +kernel
theorem dX12_readWants_108 : decode cX12_readWants 108 = .ok (.iload_n 3, 1) := by decide +kernel
theorem dX12_readWants_109 : decode cX12_readWants 109 = .ok (.iastore, 1) := by decide +kernel
theorem dX12_readWants_110 : decode cX12_readWants 110 = .ok (.aload_n 0, 1) := by decide +kernel
theorem dX12_readWants_111 : decode cX12_readWants 111 = .ok (.getfield 51, 3) := by decide +kernel
theorem dX12_readWants_114 : decode cX12_readWants 114 = .ok (.iconst 4, 1) := by decide +kernel
theorem dX12_readWants_115 : decode cX12_readWants 115 = .ok (.iload_n 1, 1) := by decide +kernel
theorem dX12_readWants_116 : decode cX12_readWants 116 = .ok (.imul, 1) := by decide +kernel
theorem dX12_readWants_117 : decode cX12_readWants 117 = .ok (.iload_n 2, 1) := by decide +kernel
theorem dX12_readWants_118 : decode cX12_readWants 118 = .ok (.iadd, 1) := by decide +kernel
theorem dX12_readWants_119 : decode cX12_readWants 119 = .ok (.iload 4, 2) := by decide +kernel
theorem dX12_readWants_121 : decode cX12_readWants 121 = .ok (.iastore, 1) := by decide +kernel
theorem dX12_readWants_122 : decode cX12_readWants 122 = .ok (.return_, 1) := by decide +kernel
theorem dX12_readLine_0 : decode cX12_readLine 0 = .ok (.aload_n 0, 1) := by decide +kernel
theorem dX12_readLine_1 : decode cX12_readLine 1 = .ok (.ldc2_w 176, 3) := by decide +kernel
theorem dX12_readLine_4 : decode cX12_readLine 4 = .ok (.invokevirtual 228, 3) := by decide +kernel
theorem dX12_readLine_7 : decode cX12_readLine 7 = .ok (.ifCond .eq 27, 3) := by decide +kernel
theorem dX12_readLine_10 : decode cX12_readLine 10 = .ok (.aload_n 0, 1) := by decide +kernel
theorem dX12_readLine_11 : decode cX12_readLine 11 = .ok (.getfield 350, 3) := by decide +kernel
theorem dX12_readLine_14 : decode cX12_readLine 14 = .ok (.ifCond .ne 20, 3) := by decide +kernel
theorem dX12_readLine_17 : decode cX12_readLine 17 = .ok (.aload_n 0, 1) := by decide +kernel
theorem dX12_readLine_18 : decode cX12_readLine 18 = .ok (.aload_n 0, 1) := by decide +kernel
theorem dX12_readLine_19 : decode cX12_readLine 19 = .ok (.ldc2_w 176, 3) := by decide +kernel
theorem dX12_readLine_22 : decode cX12_readLine 22 = .ok (.iconst 2, 1) := by decide +kernel
theorem dX12_readLine_23 : decode cX12_readLine 23 = .ok (.bipush 12, 2) := by decide +kernel
theorem dX12_readLine_25 : decode cX12_readLine 25 = .ok (.invokevirtual 328, 3) := by decide +kernel
theorem dX12_readLine_28 : decode cX12_readLine 28 = .ok (.putfield 338, 3) := by decide +kernel
theorem dX12_readLine_31 : decode cX12_readLine 31 = .ok (.goto 248, 3) := by decide +kernel
theorem dX12_readLine_34 : decode cX12_readLine 34 = .ok (.aload_n 0, 1) := by decide +kernel
theorem dX12_readLine_35 : decode cX12_readLine 35 = .ok (.ldc2_w 178, 3) := by decide +kernel
theorem dX12_readLine_38 : decode cX12_readLine 38 = .ok (.invokevirtual 228, 3) := by decide +kernel
theorem dX12_readLine_41 : decode cX12_readLine 41 = .ok (.ifCond .eq 18, 3) := by decide +kernel
theorem dX12_readLine_44 : decode cX12_readLine 44 = .ok (.aload_n 0, 1) := by decide +kernel
theorem dX12_readLine_45 : decode cX12_readLine 45 = .ok (.getfield 322, 3) := by decide +kernel
theorem dX12_readLine_48 : decode cX12_readLine 48 = .ok (.iconst 4, 1) := by decide +kernel
theorem dX12_readLine_49 : decode cX12_readLine 49 = .ok (.if_icmp .ge 10, 3) := by decide +kernel
theorem dX12_readLine_52 : decode cX12_readLine 52 = .ok (.aload_n 0, 1) := by decide +kernel
theorem dX12_readLine_53 : decode cX12_readLine 53 = .ok (.invokevirtual 353, 3) := by decide +kernel
theorem dX12_readLine_56 : decode cX12_readLine 56 = .ok (.goto 223, 3) := by decide +kernel
theorem dX12_readLine_59 : decode cX12_readLine 59 = .ok (.aload_n 0, 1) := by decide +kernel
theorem dX12_readLine_60 : decode cX12_readLine 60 = .ok (.ldc2_w 184, 3) := by decide +kernel
theorem dX12_readLine_63 : decode cX12_readLine 63 = .ok (.invokevirtual 228, 3) := by decide +kernel
theorem dX12_readLine_66 : decode cX12_readLine 66 = .ok (.ifCond .eq 18, 3) := by decide +kernel
theorem dX12_readLine_69 : decode cX12_readLine 69 = .ok (.aload_n 0, 1) := by decide +kernel
theorem dX12_readLine_70 : decode cX12_readLine 70 = .ok (.getfield 332, 3) := by decide +kernel
theorem dX12_readLine_73 : decode cX12_readLine 73 = .ok (.iconst 4, 1) := by decide +kernel
theorem dX12_readLine_74 : decode cX12_readLine 74 = .ok (.if_icmp .ge 10, 3) := by decide +kernel
theorem dX12_readLine_77 : decode cX12_readLine 77 = .ok (.aload_n 0, 1) := by decide +kernel
theorem dX12_readLine_78 : decode cX12_readLine 78 = .ok (.invokevirtual 356, 3) := by decide +kernel
theorem dX12_readLine_81 : decode cX12_readLine 81 = .ok (.goto 198, 3) := by decide +kernel
theorem dX12_readLine_84 : decode cX12_readLine 84 = .ok (.aload_n 0, 1) := by decide +kernel
theorem dX12_readLine_85 : decode cX12_readLine 85 = .ok (.ldc2_w 186, 3) := by decide +kernel
theorem dX12_readLine_88 : decode cX12_readLine 88 = .ok (.invokevirtual 228, 3) := by decide +kernel
theorem dX12_readLine_91 : decode cX12_readLine 91 = .ok (.ifCond .eq 19, 3) := by decide +kernel
theorem dX12_readLine_94 : decode cX12_readLine 94 = .ok (.aload_n 0, 1) := by decide +kernel
theorem dX12_readLine_95 : decode cX12_readLine 95 = .ok (.getfield 335, 3) := by decide +kernel
theorem dX12_readLine_98 : decode cX12_readLine 98 = .ok (.bipush 8, 2) := by decide +kernel
theorem dX12_readLine_100 : decode cX12_readLine 100 = .ok (.if_icmp .ge 10, 3) := by decide +kernel
theorem dX12_readLine_103 : decode cX12_readLine 103 = .ok (.aload_n 0, 1) := by decide +kernel
theorem dX12_readLine_104 : decode cX12_readLine 104 = .ok (.invokevirtual 359, 3) := by decide +kernel
theorem dX12_readLine_107 : decode cX12_readLine 107 = .ok (.goto 172, 3) := by decide +kernel
theorem dX12_readLine_110 : decode cX12_readLine 110 = .ok (.aload_n 0, 1) := by decide +kernel
theorem dX12_readLine_111 : decode cX12_readLine 111 = .ok (.ldc2_w 198, 3) := by decide +kernel
theorem dX12_readLine_114 : decode cX12_readLine 114 = .ok (.invokevirtual 228, 3) := by decide +kernel
theorem dX12_readLine_117 : decode cX12_readLine 117 = .ok (.ifCond .eq 18, 3) := by decide +kernel
theorem dX12_readLine_120 : decode cX12_readLine 120 = .ok (.aload_n 0, 1) := by decide +kernel
theorem dX12_readLine_121 : decode cX12_readLine 121 = .ok (.getfield 347, 3) := by decide +kernel
theorem dX12_readLine_124 : decode cX12_readLine 124 = .ok (.iconst 3, 1) := by decide +kernel
theorem dX12_readLine_125 : decode cX12_readLine 125 = .ok (.if_icmp .ge 10, 3) := by decide +kernel
theorem dX12_readLine_128 : decode cX12_readLine 128 = .ok (.aload_n 0, 1) := by decide +kernel
theorem dX12_readLine_129 : decode cX12_readLine 129 = .ok (.invokevirtual 362, 3) := by decide +kernel
theorem dX12_readLine_132 : decode cX12_readLine 132 = .ok (.goto 147, 3) := by decide +kernel
theorem dX12_readLine_135 : decode cX12_readLine 135 = .ok (.aload_n 0, 1) := by decide +kernel
theorem dX12_readLine_136 : decode cX12_readLine 136 = .ok (.ldc2_w 200, 3) := by decide +kernel
theorem dX12_readLine_139 : decode cX12_readLine 139 = .ok (.invokevirtual 228, 3) := by decide +kernel
theorem dX12_readLine_142 : decode cX12_readLine 142 = .ok (.ifCond .eq 10, 3) := by decide +kernel
theorem dX12_readLine_145 : decode cX12_readLine 145 = .ok (.aload_n 0, 1) := by decide +kernel
theorem dX12_readLine_146 : decode cX12_readLine 146 = .ok (.invokevirtual 365, 3) := by decide +kernel
theorem dX12_readLine_149 : decode cX12_readLine 149 = .ok (.goto 130, 3) := by decide +kernel
theorem dX12_readLine_152 : decode cX12_readLine 152 = .ok (.aload_n 0, 1) := by decide +kernel
theorem dX12_readLine_153 : decode cX12_readLine 153 = .ok (.ldc2_w 204, 3) := by decide +kernel
theorem dX12_readLine_156 : decode cX12_readLine 156 = .ok (.invokevirtual 228, 3) := by decide +kernel
theorem dX12_readLine_159 : decode cX12_readLine 159 = .ok (.ifCond .eq 22, 3) := by decide +kernel
theorem dX12_readLine_162 : decode cX12_readLine 162 = .ok (.aload_n 0, 1) := by decide +kernel
theorem dX12_readLine_163 : decode cX12_readLine 163 = .ok (.getfield 368, 3) := by decide +kernel
theorem dX12_readLine_166 : decode cX12_readLine 166 = .ok (.ifCond .ne 15, 3) := by decide +kernel
theorem dX12_readLine_169 : decode cX12_readLine 169 = .ok (.aload_n 0, 1) := by decide +kernel
theorem dX12_readLine_170 : decode cX12_readLine 170 = .ok (.iconst 1, 1) := by decide +kernel
theorem dX12_readLine_171 : decode cX12_readLine 171 = .ok (.putfield 368, 3) := by decide +kernel
theorem dX12_readLine_174 : decode cX12_readLine 174 = .ok (.aload_n 0, 1) := by decide +kernel
theorem dX12_readLine_175 : decode cX12_readLine 175 = .ok (.invokevirtual 371, 3) := by decide +kernel
theorem dX12_readLine_178 : decode cX12_readLine 178 = .ok (.goto 101, 3) := by decide +kernel
theorem dX12_readLine_181 : decode cX12_readLine 181 = .ok (.aload_n 0, 1) := by decide +kernel
theorem dX12_readLine_182 : decode cX12_readLine 182 = .ok (.ldc2_w 206, 3) := by decide +kernel
theorem dX12_readLine_185 : decode cX12_readLine 185 = .ok (.invokevirtual 228, 3) := by decide +kernel
theorem dX12_readLine_188 : decode cX12_readLine 188 = .ok (.ifCond .eq 46, 3) := by decide +kernel
theorem dX12_readLine_191 : decode cX12_readLine 191 = .ok (.aload_n 0, 1) := by decide +kernel
theorem dX12_readLine_192 : decode cX12_readLine 192 = .ok (.getfield 374, 3) := by decide +kernel
theorem dX12_readLine_195 : decode cX12_readLine 195 = .ok (.ifCond .ne 39, 3) := by decide +kernel
theorem dX12_readLine_198 : decode cX12_readLine 198 = .ok (.aload_n 0, 1) := by decide +kernel
theorem dX12_readLine_199 : decode cX12_readLine 199 = .ok (.iconst 1, 1) := by decide +kernel
theorem dX12_readLine_200 : decode cX12_readLine 200 = .ok (.putfield 374, 3) := by decide +kernel
theorem dX12_readLine_203 : decode cX12_readLine 203 = .ok (.aload_n 0, 1) := by decide +kernel
theorem dX12_readLine_204 : decode cX12_readLine 204 = .ok (.aload_n 0, 1) := by decide +kernel
theorem dX12_readLine_205 : decode cX12_readLine 205 = .ok (.ldc2_w 206, 3) := by decide +kernel
theorem dX12_readLine_208 : decode cX12_readLine 208 = .ok (.iconst 0, 1) := by decide +kernel
theorem dX12_readLine_209 : decode cX12_readLine 209 = .ok (.bipush 100, 2) := by decide +kernel
theorem dX12_readLine_211 : decode cX12_readLine 211 = .ok (.invokevirtual 328, 3) := by decide +kernel
theorem dX12_readLine_214 : decode cX12_readLine 214 = .ok (.putfield 377, 3) := by decide +kernel
theorem dX12_readLine_217 : decode cX12_readLine 217 = .ok (.aload_n 0, 1) := by decide +kernel
theorem dX12_readLine_218 : decode cX12_readLine 218 = .ok (.aload_n 0, 1) := by decide +kernel
theorem dX12_readLine_219 : decode cX12_readLine 219 = .ok (.ldc2_w 188, 3) := by decide +kernel
theorem dX12_readLine_222 : decode cX12_readLine 222 = .ok (.iconst 1, 1) := by decide +kernel
theorem dX12_readLine_223 : decode cX12_readLine 223 = .ok (.bipush 99, 2) := by decide +kernel
theorem dX12_readLine_225 : decode cX12_readLine 225 = .ok (.invokevirtual 328, 3) := by decide +kernel
theorem dX12_readLine_228 : decode cX12_readLine 228 = .ok (.putfield 380, 3) := by decide +kernel
theorem dX12_readLine_231 : decode cX12_readLine 231 = .ok (.goto 48, 3) := by decide +kernel
theorem dX12_readLine_234 : decode cX12_readLine 234 = .ok (.aload_n 0, 1) := by decide +kernel
theorem dX12_readLine_235 : decode cX12_readLine 235 = .ok (.ldc2_w 208, 3) := by decide +kernel
theorem dX12_readLine_238 : decode cX12_readLine 238 = .ok (.invokevirtual 228, 3) := by decide +kernel
theorem dX12_readLine_241 : decode cX12_readLine 241 = .ok (.ifCond .eq 33, 3) := by decide +kernel
theorem dX12_readLine_244 : decode cX12_readLine 244 = .ok (.aload_n 0, 1) := by decide +kernel
theorem dX12_readLine_245 : decode cX12_readLine 245 = .ok (.getfield 383, 3) := by decide +kernel
theorem dX12_readLine_248 : decode cX12_readLine 248 = .ok (.ifCond .ne 26, 3) := by decide +kernel
theorem dX12_readLine_251 : decode cX12_readLine 251 = .ok (.aload_n 0, 1) := by decide +kernel
theorem dX12_readLine_252 : decode cX12_readLine 252 = .ok (.iconst 1, 1) := by decide +kernel
theorem dX12_readLine_253 : decode cX12_readLine 253 = .ok (.putfield 383, 3) := by decide +kernel
theorem dX12_readLine_256 : decode cX12_readLine 256 = .ok (.aload_n 0, 1) := by decide +kernel
theorem dX12_readLine_257 : decode cX12_readLine 257 = .ok (.aload_n 0, 1) := by decide +kernel
theorem dX12_readLine_258 : decode cX12_readLine 258 = .ok (.ldc2_w 208, 3) := by decide +kernel
theorem dX12_readLine_261 : decode cX12_readLine 261 = .ok (.iconst 0, 1) := by decide +kernel
theorem dX12_readLine_262 : decode cX12_readLine 262 = .ok (.sipush 999, 3) := by decide +kernel
theorem dX12_readLine_265 : decode cX12_readLine 265 = .ok (.invokevirtual 328, 3) := by decide +kernel
theorem dX12_readLine_268 : decode cX12_readLine 268 = .ok (.putfield 386, 3) := by decide +kernel
theorem dX12_readLine_271 : decode cX12_readLine 271 = .ok (.goto 8, 3) := by decide +kernel
theorem dX12_readLine_274 : decode cX12_readLine 274 = .ok (.aload_n 0, 1) := by decide +kernel
theorem dX12_readLine_275 : decode cX12_readLine 275 = .ok (.iconst 2, 1) := by decide +kernel
theorem dX12_readLine_276 : decode cX12_readLine 276 = .ok (.invokevirtual 232, 3) := by decide +kernel
theorem dX12_readLine_279 : decode cX12_readLine 279 = .ok (.aload_n 0, 1) := by decide +kernel
theorem dX12_readLine_280 : decode cX12_readLine 280 = .ok (.iconst 1, 1) := by decide +kernel
theorem dX12_readLine_281 : decode cX12_readLine 281 = .ok (.putfield 350, 3) := by decide +kernel
theorem dX12_readLine_284 : decode cX12_readLine 284 = .ok (.aload_n 0, 1) := by decide +kernel
theorem dX12_readLine_285 : decode cX12_readLine 285 = .ok (.getfield 173, 3) := by decide +kernel
theorem dX12_readLine_288 : decode cX12_readLine 288 = .ok (.ifCond .ne 17, 3) := by decide +kernel
theorem dX12_readLine_291 : decode cX12_readLine 291 = .ok (.aload_n 0, 1) := by decide +kernel
theorem dX12_readLine_292 : decode cX12_readLine 292 = .ok (.getfield 160, 3) := by decide +kernel
theorem dX12_readLine_295 : decode cX12_readLine 295 = .ok (.bipush 59, 2) := by decide +kernel
theorem dX12_readLine_297 : decode cX12_readLine 297 = .ok (.if_icmp .eq 8, 3) := by decide +kernel
theorem dX12_readLine_300 : decode cX12_readLine 300 = .ok (.aload_n 0, 1) := by decide +kernel
theorem dX12_readLine_301 : decode cX12_readLine 301 = .ok (.iconst 2, 1) := by decide +kernel
theorem dX12_readLine_302 : decode cX12_readLine 302 = .ok (.invokevirtual 232, 3) := by decide +kernel
theorem dX12_readLine_305 : decode cX12_readLine 305 = .ok (.aload_n 0, 1) := by decide +kernel
theorem dX12_readLine_306 : decode cX12_readLine 306 = .ok (.getfield 173, 3) := by decide +kernel
theorem dX12_readLine_309 : decode cX12_readLine 309 = .ok (.ifCond .ne 7, 3) := by decide +kernel
theorem dX12_readLine_312 : decode cX12_readLine 312 = .ok (.aload_n 0, 1) := by decide +kernel
theorem dX12_readLine_313 : decode cX12_readLine 313 = .ok (.invokevirtual 235, 3) := by decide +kernel
theorem dX12_readLine_316 : decode cX12_readLine 316 = .ok (.return_, 1) := by decide +kernel
theorem dX12_readAll_0 : decode cX12_readAll 0 = .ok (.aload_n 0, 1) := by decide +kernel
theorem dX12_readAll_1 : decode cX12_readAll 1 = .ok (.aload_n 0, 1) := by decide +kernel
theorem dX12_readAll_2 : decode cX12_readAll 2 = .ok (.getfield 133, 3) := by decide +kernel
theorem dX12_readAll_5 : decode cX12_readAll 5 = .ok (.putfield 143, 3) := by decide +kernel
theorem dX12_readAll_8 : decode cX12_readAll 8 = .ok (.aload_n 0, 1) := by decide +kernel
theorem dX12_readAll_9 : decode cX12_readAll 9 = .ok (.iconst 0, 1) := by decide +kernel
theorem dX12_readAll_10 : decode cX12_readAll 10 = .ok (.putfield 133, 3) := by decide +kernel
theorem dX12_readAll_13 : decode cX12_readAll 13 = .ok (.aload_n 0, 1) := by decide +kernel
theorem dX12_readAll_14 : decode cX12_readAll 14 = .ok (.iconst 0, 1) := by decide +kernel
theorem dX12_readAll_15 : decode cX12_readAll 15 = .ok (.putfield 140, 3) := by decide +kernel
theorem dX12_readAll_18 : decode cX12_readAll 18 = .ok (.aload_n 0, 1) := by decide +kernel
theorem dX12_readAll_19 : decode cX12_readAll 19 = .ok (.iconst 0, 1) := by decide +kernel
theorem dX12_readAll_20 : decode cX12_readAll 20 = .ok (.putfield 173, 3) := by decide +kernel
theorem dX12_readAll_23 : decode cX12_readAll 23 = .ok (.aload_n 0, 1) := by decide +kernel
theorem dX12_readAll_24 : decode cX12_readAll 24 = .ok (.iconst (-1), 1) := by decide +kernel
theorem dX12_readAll_25 : decode cX12_readAll 25 = .ok (.putfield 13, 3) := by decide +kernel
theorem dX12_readAll_28 : decode cX12_readAll 28 = .ok (.aload_n 0, 1) := by decide +kernel
theorem dX12_readAll_29 : decode cX12_readAll 29 = .ok (.bipush 8, 2) := by decide +kernel
theorem dX12_readAll_31 : decode cX12_readAll 31 = .ok (.putfield 338, 3) := by decide +kernel
theorem dX12_readAll_34 : decode cX12_readAll 34 = .ok (.aload_n 0, 1) := by decide +kernel
theorem dX12_readAll_35 : decode cX12_readAll 35 = .ok (.iconst 0, 1) := by decide +kernel
theorem dX12_readAll_36 : decode cX12_readAll 36 = .ok (.putfield 322, 3) := by decide +kernel
theorem dX12_readAll_39 : decode cX12_readAll 39 = .ok (.aload_n 0, 1) := by decide +kernel
theorem dX12_readAll_40 : decode cX12_readAll 40 = .ok (.iconst 0, 1) := by decide +kernel
theorem dX12_readAll_41 : decode cX12_readAll 41 = .ok (.putfield 332, 3) := by decide +kernel
theorem dX12_readAll_44 : decode cX12_readAll 44 = .ok (.aload_n 0, 1) := by decide +kernel
theorem dX12_readAll_45 : decode cX12_readAll 45 = .ok (.iconst 0, 1) := by decide +kernel
theorem dX12_readAll_46 : decode cX12_readAll 46 = .ok (.putfield 335, 3) := by decide +kernel
theorem dX12_readAll_49 : decode cX12_readAll 49 = .ok (.aload_n 0, 1) := by decide +kernel
theorem dX12_readAll_50 : decode cX12_readAll 50 = .ok (.iconst 0, 1) := by decide +kernel
theorem dX12_readAll_51 : decode cX12_readAll 51 = .ok (.putfield 347, 3) := by decide +kernel
theorem dX12_readAll_54 : decode cX12_readAll 54 = .ok (.aload_n 0, 1) := by decide +kernel
theorem dX12_readAll_55 : decode cX12_readAll 55 = .ok (.iconst 0, 1) := by decide +kernel
theorem dX12_readAll_56 : decode cX12_readAll 56 = .ok (.putfield 377, 3) := by decide +kernel
theorem dX12_readAll_59 : decode cX12_readAll 59 = .ok (.aload_n 0, 1) := by decide +kernel
theorem dX12_readAll_60 : decode cX12_readAll 60 = .ok (.iconst 1, 1) := by decide +kernel
theorem dX12_readAll_61 : decode cX12_readAll 61 = .ok (.putfield 380, 3) := by decide +kernel
theorem dX12_readAll_64 : decode cX12_readAll 64 = .ok (.aload_n 0, 1) := by decide +kernel
theorem dX12_readAll_65 : decode cX12_readAll 65 = .ok (.iconst 0, 1) := by decide +kernel
theorem dX12_readAll_66 : decode cX12_readAll 66 = .ok (.putfield 386, 3) := by decide +kernel
theorem dX12_readAll_69 : decode cX12_readAll 69 = .ok (.aload_n 0, 1) := by decide +kernel
theorem dX12_readAll_70 : decode cX12_readAll 70 = .ok (.iconst 0, 1) := by decide +kernel
theorem dX12_readAll_71 : decode cX12_readAll 71 = .ok (.putfield 350, 3) := by decide +kernel
theorem dX12_readAll_74 : decode cX12_readAll 74 = .ok (.aload_n 0, 1) := by decide +kernel
theorem dX12_readAll_75 : decode cX12_readAll 75 = .ok (.iconst 0, 1) := by decide +kernel
theorem dX12_readAll_76 : decode cX12_readAll 76 = .ok (.putfield 368, 3) := by decide +kernel
theorem dX12_readAll_79 : decode cX12_readAll 79 = .ok (.aload_n 0, 1) := by decide +kernel
theorem dX12_readAll_80 : decode cX12_readAll 80 = .ok (.iconst 0, 1) := by decide +kernel
theorem dX12_readAll_81 : decode cX12_readAll 81 = .ok (.putfield 374, 3) := by decide +kernel
theorem dX12_readAll_84 : decode cX12_readAll 84 = .ok (.aload_n 0, 1) := by decide +kernel
theorem dX12_readAll_85 : decode cX12_readAll 85 = .ok (.iconst 0, 1) := by decide +kernel
theorem dX12_readAll_86 : decode cX12_readAll 86 = .ok (.putfield 383, 3) := by decide +kernel
theorem dX12_readAll_89 : decode cX12_readAll 89 = .ok (.aload_n 0, 1) := by decide +kernel
theorem dX12_readAll_90 : decode cX12_readAll 90 = .ok (.iconst 0, 1) := by decide +kernel
theorem dX12_readAll_91 : decode cX12_readAll 91 = .ok (.putfield 270, 3) := by decide +kernel
theorem dX12_readAll_94 : decode cX12_readAll 94 = .ok (.aload_n 0, 1) := by decide +kernel
theorem dX12_readAll_95 : decode cX12_readAll 95 = .ok (.iconst 0, 1) := by decide +kernel
theorem dX12_readAll_96 : decode cX12_readAll 96 = .ok (.putfield 254, 3) := by decide +kernel
theorem dX12_readAll_99 : decode cX12_readAll 99 = .ok (.aload_n 0, 1) := by decide +kernel
theorem dX12_readAll_100 : decode cX12_readAll 100 = .ok (.invokevirtual 235, 3) := by decide +kernel
theorem dX12_readAll_103 : decode cX12_readAll 103 = .ok (.aload_n 0, 1) := by decide +kernel
theorem dX12_readAll_104 : decode cX12_readAll 104 = .ok (.getfield 173, 3) := by decide +kernel
theorem dX12_readAll_107 : decode cX12_readAll 107 = .ok (.ifCond .ne 17, 3) := by decide +kernel
theorem dX12_readAll_110 : decode cX12_readAll 110 = .ok (.aload_n 0, 1) := by decide +kernel
theorem dX12_readAll_111 : decode cX12_readAll 111 = .ok (.getfield 160, 3) := by decide +kernel
theorem dX12_readAll_114 : decode cX12_readAll 114 = .ok (.ifCond .eq 10, 3) := by decide +kernel
theorem dX12_readAll_117 : decode cX12_readAll 117 = .ok (.aload_n 0, 1) := by decide +kernel
theorem dX12_readAll_118 : decode cX12_readAll 118 = .ok (.invokevirtual 389, 3) := by decide +kernel
theorem dX12_readAll_121 : decode cX12_readAll 121 = .ok (.goto (-18), 3) := by decide +kernel
theorem dX12_readAll_124 : decode cX12_readAll 124 = .ok (.return_, 1) := by decide +kernel
theorem dX12_hedge_0 : decode cX12_hedge 0 = .ok (.aload_n 0, 1) := by decide +kernel
theorem dX12_hedge_1 : decode cX12_hedge 1 = .ok (.invokevirtual 392, 3) := by decide +kernel
theorem dX12_hedge_4 : decode cX12_hedge 4 = .ok (.aload_n 0, 1) := by decide +kernel
theorem dX12_hedge_5 : decode cX12_hedge 5 = .ok (.getfield 173, 3) := by decide +kernel
theorem dX12_hedge_8 : decode cX12_hedge 8 = .ok (.ifCond .le 5, 3) := by decide +kernel
theorem dX12_hedge_11 : decode cX12_hedge 11 = .ok (.iconst (-1), 1) := by decide +kernel
theorem dX12_hedge_12 : decode cX12_hedge 12 = .ok (.ireturn, 1) := by decide +kernel
theorem dX12_hedge_13 : decode cX12_hedge 13 = .ok (.aload_n 0, 1) := by decide +kernel
theorem dX12_hedge_14 : decode cX12_hedge 14 = .ok (.aload_n 0, 1) := by decide +kernel
theorem dX12_hedge_15 : decode cX12_hedge 15 = .ok (.getfield 338, 3) := by decide +kernel
theorem dX12_hedge_18 : decode cX12_hedge 18 = .ok (.putfield 70, 3) := by decide +kernel
theorem dX12_hedge_21 : decode cX12_hedge 21 = .ok (.aload_n 0, 1) := by decide +kernel
theorem dX12_hedge_22 : decode cX12_hedge 22 = .ok (.aload_n 0, 1) := by decide +kernel
theorem dX12_hedge_23 : decode cX12_hedge 23 = .ok (.getfield 322, 3) := by decide +kernel
theorem dX12_hedge_26 : decode cX12_hedge 26 = .ok (.putfield 395, 3) := by decide +kernel
theorem dX12_hedge_29 : decode cX12_hedge 29 = .ok (.aload_n 0, 1) := by decide +kernel
theorem dX12_hedge_30 : decode cX12_hedge 30 = .ok (.aload_n 0, 1) := by decide +kernel
theorem dX12_hedge_31 : decode cX12_hedge 31 = .ok (.getfield 332, 3) := by decide +kernel
theorem dX12_hedge_34 : decode cX12_hedge 34 = .ok (.putfield 398, 3) := by decide +kernel
theorem dX12_hedge_37 : decode cX12_hedge 37 = .ok (.aload_n 0, 1) := by decide +kernel
theorem dX12_hedge_38 : decode cX12_hedge 38 = .ok (.aload_n 0, 1) := by decide +kernel
theorem dX12_hedge_39 : decode cX12_hedge 39 = .ok (.getfield 347, 3) := by decide +kernel
theorem dX12_hedge_42 : decode cX12_hedge 42 = .ok (.putfield 401, 3) := by decide +kernel
theorem dX12_hedge_45 : decode cX12_hedge 45 = .ok (.aload_n 0, 1) := by decide +kernel
theorem dX12_hedge_46 : decode cX12_hedge 46 = .ok (.aload_n 0, 1) := by decide +kernel
theorem dX12_hedge_47 : decode cX12_hedge 47 = .ok (.getfield 377, 3) := by decide +kernel
theorem dX12_hedge_50 : decode cX12_hedge 50 = .ok (.putfield 404, 3) := by decide +kernel
theorem dX12_hedge_53 : decode cX12_hedge 53 = .ok (.aload_n 0, 1) := by decide +kernel
theorem dX12_hedge_54 : decode cX12_hedge 54 = .ok (.aload_n 0, 1) := by decide +kernel
theorem dX12_hedge_55 : decode cX12_hedge 55 = .ok (.getfield 380, 3) := by decide +kernel
theorem dX12_hedge_58 : decode cX12_hedge 58 = .ok (.putfield 73, 3) := by decide +kernel
theorem dX12_hedge_61 : decode cX12_hedge 61 = .ok (.aload_n 0, 1) := by decide +kernel
theorem dX12_hedge_62 : decode cX12_hedge 62 = .ok (.aload_n 0, 1) := by decide +kernel
theorem dX12_hedge_63 : decode cX12_hedge 63 = .ok (.getfield 270, 3) := by decide +kernel
theorem dX12_hedge_66 : decode cX12_hedge 66 = .ok (.putfield 407, 3) := by decide +kernel
theorem dX12_hedge_69 : decode cX12_hedge 69 = .ok (.aload_n 0, 1) := by decide +kernel
theorem dX12_hedge_70 : decode cX12_hedge 70 = .ok (.aload_n 0, 1) := by decide +kernel
theorem dX12_hedge_71 : decode cX12_hedge 71 = .ok (.getfield 368, 3) := by decide +kernel
theorem dX12_hedge_74 : decode cX12_hedge 74 = .ok (.putfield 311, 3) := by decide +kernel
theorem dX12_hedge_77 : decode cX12_hedge 77 = .ok (.aload_n 0, 1) := by decide +kernel
theorem dX12_hedge_78 : decode cX12_hedge 78 = .ok (.aload_n 0, 1) := by decide +kernel
theorem dX12_hedge_79 : decode cX12_hedge 79 = .ok (.getfield 368, 3) := by decide +kernel
theorem dX12_hedge_82 : decode cX12_hedge 82 = .ok (.ifCond .eq 10, 3) := by decide +kernel
theorem dX12_hedge_85 : decode cX12_hedge 85 = .ok (.aload_n 0, 1) := by decide +kernel
theorem dX12_hedge_86 : decode cX12_hedge 86 = .ok (.getfield 254, 3) := by decide +kernel
theorem dX12_hedge_89 : decode cX12_hedge 89 = .ok (.goto 4, 3) := by decide +kernel
theorem dX12_hedge_92 : decode cX12_hedge 92 = .ok (.iconst 0, 1) := by decide +kernel
theorem dX12_hedge_93 : decode cX12_hedge 93 = .ok (.putfield 315, 3) := by decide +kernel
theorem dX12_hedge_96 : decode cX12_hedge 96 = .ok (.iconst 0, 1) := by decide +kernel
theorem dX12_hedge_97 : decode cX12_hedge 97 = .ok (.istore_n 1, 1) := by decide +kernel
theorem dX12_hedge_98 : decode cX12_hedge 98 = .ok (.iload_n 1, 1) := by decide +kernel
theorem dX12_hedge_99 : decode cX12_hedge 99 = .ok (.aload_n 0, 1) := by decide +kernel
theorem dX12_hedge_100 : decode cX12_hedge 100 = .ok (.getfield 315, 3) := by decide +kernel
theorem dX12_hedge_103 : decode cX12_hedge 103 = .ok (.if_icmp .ge 33, 3) := by decide +kernel
theorem dX12_hedge_106 : decode cX12_hedge 106 = .ok (.aload_n 0, 1) := by decide +kernel
theorem dX12_hedge_107 : decode cX12_hedge 107 = .ok (.getfield 27, 3) := by decide +kernel
theorem dX12_hedge_110 : decode cX12_hedge 110 = .ok (.iload_n 1, 1) := by decide +kernel
theorem dX12_hedge_111 : decode cX12_hedge 111 = .ok (.aload_n 0, 1) := by decide +kernel
theorem dX12_hedge_112 : decode cX12_hedge 112 = .ok (.getfield 21, 3) := by decide +kernel
theorem dX12_hedge_115 : decode cX12_hedge 115 = .ok (.iload_n 1, 1) := by decide +kernel
theorem dX12_hedge_116 : decode cX12_hedge 116 = .ok (.iaload, 1) := by decide +kernel
theorem dX12_hedge_117 : decode cX12_hedge 117 = .ok (.iastore, 1) := by decide +kernel
theorem dX12_hedge_118 : decode cX12_hedge 118 = .ok (.aload_n 0, 1) := by decide +kernel
theorem dX12_hedge_119 : decode cX12_hedge 119 = .ok (.getfield 30, 3) := by decide +kernel
theorem dX12_hedge_122 : decode cX12_hedge 122 = .ok (.iload_n 1, 1) := by decide +kernel
theorem dX12_hedge_123 : decode cX12_hedge 123 = .ok (.aload_n 0, 1) := by decide +kernel
theorem dX12_hedge_124 : decode cX12_hedge 124 = .ok (.getfield 24, 3) := by decide +kernel
theorem dX12_hedge_127 : decode cX12_hedge 127 = .ok (.iload_n 1, 1) := by decide +kernel
theorem dX12_hedge_128 : decode cX12_hedge 128 = .ok (.iaload, 1) := by decide +kernel
theorem dX12_hedge_129 : decode cX12_hedge 129 = .ok (.iastore, 1) := by decide +kernel
theorem dX12_hedge_130 : decode cX12_hedge 130 = .ok (.iinc 1 1, 3) := by decide +kernel
theorem dX12_hedge_133 : decode cX12_hedge 133 = .ok (.goto (-35), 3) := by decide +kernel
theorem dX12_hedge_136 : decode cX12_hedge 136 = .ok (.iconst 0, 1) := by decide +kernel
theorem dX12_hedge_137 : decode cX12_hedge 137 = .ok (.istore_n 1, 1) := by decide +kernel
theorem dX12_hedge_138 : decode cX12_hedge 138 = .ok (.iload_n 1, 1) := by decide +kernel
theorem dX12_hedge_139 : decode cX12_hedge 139 = .ok (.iconst 4, 1) := by decide +kernel
theorem dX12_hedge_140 : decode cX12_hedge 140 = .ok (.if_icmp .ge 33, 3) := by decide +kernel
theorem dX12_hedge_143 : decode cX12_hedge 143 = .ok (.aload_n 0, 1) := by decide +kernel
theorem dX12_hedge_144 : decode cX12_hedge 144 = .ok (.getfield 45, 3) := by decide +kernel
theorem dX12_hedge_147 : decode cX12_hedge 147 = .ok (.iload_n 1, 1) := by decide +kernel
theorem dX12_hedge_148 : decode cX12_hedge 148 = .ok (.aload_n 0, 1) := by decide +kernel
theorem dX12_hedge_149 : decode cX12_hedge 149 = .ok (.getfield 42, 3) := by decide +kernel
theorem dX12_hedge_152 : decode cX12_hedge 152 = .ok (.iload_n 1, 1) := by decide +kernel
theorem dX12_hedge_153 : decode cX12_hedge 153 = .ok (.iaload, 1) := by decide +kernel
theorem dX12_hedge_154 : decode cX12_hedge 154 = .ok (.iastore, 1) := by decide +kernel
theorem dX12_hedge_155 : decode cX12_hedge 155 = .ok (.aload_n 0, 1) := by decide +kernel
theorem dX12_hedge_156 : decode cX12_hedge 156 = .ok (.getfield 64, 3) := by decide +kernel
theorem dX12_hedge_159 : decode cX12_hedge 159 = .ok (.iload_n 1, 1) := by decide +kernel
theorem dX12_hedge_160 : decode cX12_hedge 160 = .ok (.aload_n 0, 1) := by decide +kernel
theorem dX12_hedge_161 : decode cX12_hedge 161 = .ok (.getfield 60, 3) := by decide +kernel
theorem dX12_hedge_164 : decode cX12_hedge 164 = .ok (.iload_n 1, 1) := by decide +kernel
theorem dX12_hedge_165 : decode cX12_hedge 165 = .ok (.baload, 1) := by decide +kernel
theorem dX12_hedge_166 : decode cX12_hedge 166 = .ok (.bastore, 1) := by decide +kernel
theorem dX12_hedge_167 : decode cX12_hedge 167 = .ok (.iinc 1 1, 3) := by decide +kernel
theorem dX12_hedge_170 : decode cX12_hedge 170 = .ok (.goto (-32), 3) := by decide +kernel
theorem dX12_hedge_173 : decode cX12_hedge 173 = .ok (.iconst 0, 1) := by decide +kernel
theorem dX12_hedge_174 : decode cX12_hedge 174 = .ok (.istore_n 1, 1) := by decide +kernel
theorem dX12_hedge_175 : decode cX12_hedge 175 = .ok (.iload_n 1, 1) := by decide +kernel
theorem dX12_hedge_176 : decode cX12_hedge 176 = .ok (.bipush 12, 2) := by decide +kernel
theorem dX12_hedge_178 : decode cX12_hedge 178 = .ok (.if_icmp .ge 33, 3) := by decide +kernel
theorem dX12_hedge_181 : decode cX12_hedge 181 = .ok (.aload_n 0, 1) := by decide +kernel
theorem dX12_hedge_182 : decode cX12_hedge 182 = .ok (.getfield 54, 3) := by decide +kernel
theorem dX12_hedge_185 : decode cX12_hedge 185 = .ok (.iload_n 1, 1) := by decide +kernel
theorem dX12_hedge_186 : decode cX12_hedge 186 = .ok (.aload_n 0, 1) := by decide +kernel
theorem dX12_hedge_187 : decode cX12_hedge 187 = .ok (.getfield 48, 3) := by decide +kernel
theorem dX12_hedge_190 : decode cX12_hedge 190 = .ok (.iload_n 1, 1) := by decide +kernel
theorem dX12_hedge_191 : decode cX12_hedge 191 = .ok (.iaload, 1) := by decide +kernel
theorem dX12_hedge_192 : decode cX12_hedge 192 = .ok (.iastore, 1) := by decide +kernel
theorem dX12_hedge_193 : decode cX12_hedge 193 = .ok (.aload_n 0, 1) := by decide +kernel
theorem dX12_hedge_194 : decode cX12_hedge 194 = .ok (.getfield 57, 3) := by decide +kernel
theorem dX12_hedge_197 : decode cX12_hedge 197 = .ok (.iload_n 1, 1) := by decide +kernel
theorem dX12_hedge_198 : decode cX12_hedge 198 = .ok (.aload_n 0, 1) := by decide +kernel
theorem dX12_hedge_199 : decode cX12_hedge 199 = .ok (.getfield 51, 3) := by decide +kernel
theorem dX12_hedge_202 : decode cX12_hedge 202 = .ok (.iload_n 1, 1) := by decide +kernel
theorem dX12_hedge_203 : decode cX12_hedge 203 = .ok (.iaload, 1) := by decide +kernel
theorem dX12_hedge_204 : decode cX12_hedge 204 = .ok (.iastore, 1) := by decide +kernel
theorem dX12_hedge_205 : decode cX12_hedge 205 = .ok (.iinc 1 1, 3) := by decide +kernel
theorem dX12_hedge_208 : decode cX12_hedge 208 = .ok (.goto (-33), 3) := by decide +kernel
theorem dX12_hedge_211 : decode cX12_hedge 211 = .ok (.iconst 0, 1) := by decide +kernel
theorem dX12_hedge_212 : decode cX12_hedge 212 = .ok (.istore_n 1, 1) := by decide +kernel
theorem dX12_hedge_213 : decode cX12_hedge 213 = .ok (.iload_n 1, 1) := by decide +kernel
theorem dX12_hedge_214 : decode cX12_hedge 214 = .ok (.bipush 99, 2) := by decide +kernel
theorem dX12_hedge_216 : decode cX12_hedge 216 = .ok (.if_icmp .ge 36, 3) := by decide +kernel
theorem dX12_hedge_219 : decode cX12_hedge 219 = .ok (.aload_n 0, 1) := by decide +kernel
theorem dX12_hedge_220 : decode cX12_hedge 220 = .ok (.getfield 76, 3) := by decide +kernel
theorem dX12_hedge_223 : decode cX12_hedge 223 = .ok (.iload_n 1, 1) := by decide +kernel
theorem dX12_hedge_224 : decode cX12_hedge 224 = .ok (.iload_n 1, 1) := by decide +kernel
theorem dX12_hedge_225 : decode cX12_hedge 225 = .ok (.bipush 8, 2) := by decide +kernel
theorem dX12_hedge_227 : decode cX12_hedge 227 = .ok (.aload_n 0, 1) := by decide +kernel
theorem dX12_hedge_228 : decode cX12_hedge 228 = .ok (.getfield 335, 3) := by decide +kernel
theorem dX12_hedge_231 : decode cX12_hedge 231 = .ok (.imul, 1) := by decide +kernel
theorem dX12_hedge_232 : decode cX12_hedge 232 = .ok (.if_icmp .ge 12, 3) := by decide +kernel
theorem dX12_hedge_235 : decode cX12_hedge 235 = .ok (.aload_n 0, 1) := by decide +kernel
theorem dX12_hedge_236 : decode cX12_hedge 236 = .ok (.getfield 67, 3) := by decide +kernel
theorem dX12_hedge_239 : decode cX12_hedge 239 = .ok (.iload_n 1, 1) := by decide +kernel
theorem dX12_hedge_240 : decode cX12_hedge 240 = .ok (.iaload, 1) := by decide +kernel
theorem dX12_hedge_241 : decode cX12_hedge 241 = .ok (.goto 4, 3) := by decide +kernel
theorem dX12_hedge_244 : decode cX12_hedge 244 = .ok (.iconst 0, 1) := by decide +kernel
theorem dX12_hedge_245 : decode cX12_hedge 245 = .ok (.iastore, 1) := by decide +kernel
theorem dX12_hedge_246 : decode cX12_hedge 246 = .ok (.iinc 1 1, 3) := by decide +kernel
theorem dX12_hedge_249 : decode cX12_hedge 249 = .ok (.goto (-36), 3) := by decide +kernel
theorem dX12_hedge_252 : decode cX12_hedge 252 = .ok (.aload_n 0, 1) := by decide +kernel
theorem dX12_hedge_253 : decode cX12_hedge 253 = .ok (.getfield 76, 3) := by decide +kernel
theorem dX12_hedge_256 : decode cX12_hedge 256 = .ok (.bipush 96, 2) := by decide +kernel
theorem dX12_hedge_258 : decode cX12_hedge 258 = .ok (.aload_n 0, 1) := by decide +kernel
theorem dX12_hedge_259 : decode cX12_hedge 259 = .ok (.getfield 335, 3) := by decide +kernel
theorem dX12_hedge_262 : decode cX12_hedge 262 = .ok (.iastore, 1) := by decide +kernel
theorem dX12_hedge_263 : decode cX12_hedge 263 = .ok (.aload_n 0, 1) := by decide +kernel
theorem dX12_hedge_264 : decode cX12_hedge 264 = .ok (.getfield 76, 3) := by decide +kernel
theorem dX12_hedge_267 : decode cX12_hedge 267 = .ok (.bipush 98, 2) := by decide +kernel
theorem dX12_hedge_269 : decode cX12_hedge 269 = .ok (.aload_n 0, 1) := by decide +kernel
theorem dX12_hedge_270 : decode cX12_hedge 270 = .ok (.getfield 386, 3) := by decide +kernel
theorem dX12_hedge_273 : decode cX12_hedge 273 = .ok (.iastore, 1) := by decide +kernel
theorem dX12_hedge_274 : decode cX12_hedge 274 = .ok (.aload_n 0, 1) := by decide +kernel
theorem dX12_hedge_275 : decode cX12_hedge 275 = .ok (.iconst 0, 1) := by decide +kernel
theorem dX12_hedge_276 : decode cX12_hedge 276 = .ok (.putfield 410, 3) := by decide +kernel
theorem dX12_hedge_279 : decode cX12_hedge 279 = .ok (.aload_n 0, 1) := by decide +kernel
theorem dX12_hedge_280 : decode cX12_hedge 280 = .ok (.iconst 0, 1) := by decide +kernel
theorem dX12_hedge_281 : decode cX12_hedge 281 = .ok (.putfield 413, 3) := by decide +kernel
theorem dX12_hedge_284 : decode cX12_hedge 284 = .ok (.aload_n 0, 1) := by decide +kernel
theorem dX12_hedge_285 : decode cX12_hedge 285 = .ok (.iconst 0, 1) := by decide +kernel
theorem dX12_hedge_286 : decode cX12_hedge 286 = .ok (.putfield 416, 3) := by decide +kernel
theorem dX12_hedge_289 : decode cX12_hedge 289 = .ok (.aload_n 0, 1) := by decide +kernel
theorem dX12_hedge_290 : decode cX12_hedge 290 = .ok (.iconst 0, 1) := by decide +kernel
theorem dX12_hedge_291 : decode cX12_hedge 291 = .ok (.putfield 419, 3) := by decide +kernel
theorem dX12_hedge_294 : decode cX12_hedge 294 = .ok (.iconst 0, 1) := by decide +kernel
theorem dX12_hedge_295 : decode cX12_hedge 295 = .ok (.istore_n 1, 1) := by decide +kernel
theorem dX12_hedge_296 : decode cX12_hedge 296 = .ok (.iload_n 1, 1) := by decide +kernel
theorem dX12_hedge_297 : decode cX12_hedge 297 = .ok (.iconst 3, 1) := by decide +kernel
theorem dX12_hedge_298 : decode cX12_hedge 298 = .ok (.if_icmp .ge 16, 3) := by decide +kernel
theorem dX12_hedge_301 : decode cX12_hedge 301 = .ok (.aload_n 0, 1) := by decide +kernel
theorem dX12_hedge_302 : decode cX12_hedge 302 = .ok (.getfield 127, 3) := by decide +kernel
theorem dX12_hedge_305 : decode cX12_hedge 305 = .ok (.iload_n 1, 1) := by decide +kernel
theorem dX12_hedge_306 : decode cX12_hedge 306 = .ok (.iconst 0, 1) := by decide +kernel
theorem dX12_hedge_307 : decode cX12_hedge 307 = .ok (.bastore, 1) := by decide +kernel
theorem dX12_hedge_308 : decode cX12_hedge 308 = .ok (.iinc 1 1, 3) := by decide +kernel
theorem dX12_hedge_311 : decode cX12_hedge 311 = .ok (.goto (-15), 3) := by decide +kernel
theorem dX12_hedge_314 : decode cX12_hedge 314 = .ok (.aload_n 0, 1) := by decide +kernel
theorem dX12_hedge_315 : decode cX12_hedge 315 = .ok (.getfield 335, 3) := by decide +kernel
theorem dX12_hedge_318 : decode cX12_hedge 318 = .ok (.ireturn, 1) := by decide +kernel
theorem dX12_fault_0 : decode cX12_fault 0 = .ok (.iload_n 1, 1) := by decide +kernel
theorem dX12_fault_1 : decode cX12_fault 1 = .ok (.ifCond .ne 10, 3) := by decide +kernel
theorem dX12_fault_4 : decode cX12_fault 4 = .ok (.aload_n 0, 1) := by decide +kernel
theorem dX12_fault_5 : decode cX12_fault 5 = .ok (.getfield 173, 3) := by decide +kernel
theorem dX12_fault_8 : decode cX12_fault 8 = .ok (.goto 16, 3) := by decide +kernel
theorem dX12_fault_11 : decode cX12_fault 11 = .ok (.iload_n 1, 1) := by decide +kernel
theorem dX12_fault_12 : decode cX12_fault 12 = .ok (.iconst 1, 1) := by decide +kernel
theorem dX12_fault_13 : decode cX12_fault 13 = .ok (.if_icmp .ne 10, 3) := by decide +kernel
theorem dX12_fault_16 : decode cX12_fault 16 = .ok (.aload_n 0, 1) := by decide +kernel
theorem dX12_fault_17 : decode cX12_fault 17 = .ok (.getfield 13, 3) := by decide +kernel
theorem dX12_fault_20 : decode cX12_fault 20 = .ok (.goto 4, 3) := by decide +kernel
theorem dX12_fault_23 : decode cX12_fault 23 = .ok (.iconst (-1), 1) := by decide +kernel
theorem dX12_fault_24 : decode cX12_fault 24 = .ok (.ireturn, 1) := by decide +kernel
theorem dX12_isIn_0 : decode cX12_isIn 0 = .ok (.iload_n 0, 1) := by decide +kernel
theorem dX12_isIn_1 : decode cX12_isIn 1 = .ok (.iload_n 1, 1) := by decide +kernel
theorem dX12_isIn_2 : decode cX12_isIn 2 = .ok (.if_icmp .lt 12, 3) := by decide +kernel
theorem dX12_isIn_5 : decode cX12_isIn 5 = .ok (.iload_n 0, 1) := by decide +kernel
theorem dX12_isIn_6 : decode cX12_isIn 6 = .ok (.iload_n 2, 1) := by decide +kernel
theorem dX12_isIn_7 : decode cX12_isIn 7 = .ok (.if_icmp .gt 7, 3) := by decide +kernel
theorem dX12_isIn_10 : decode cX12_isIn 10 = .ok (.iconst 1, 1) := by decide +kernel
theorem dX12_isIn_11 : decode cX12_isIn 11 = .ok (.goto 4, 3) := by decide +kernel
theorem dX12_isIn_14 : decode cX12_isIn 14 = .ok (.iconst 0, 1) := by decide +kernel
theorem dX12_isIn_15 : decode cX12_isIn 15 = .ok (.ireturn, 1) := by decide +kernel
theorem dX12_isBill_0 : decode cX12_isBill 0 = .ok (.iload_n 1, 1) := by decide +kernel
theorem dX12_isBill_1 : decode cX12_isBill 1 = .ok (.iconst 0, 1) := by decide +kernel
theorem dX12_isBill_2 : decode cX12_isBill 2 = .ok (.aload_n 0, 1) := by decide +kernel
theorem dX12_isBill_3 : decode cX12_isBill 3 = .ok (.getfield 76, 3) := by decide +kernel
theorem dX12_isBill_6 : decode cX12_isBill 6 = .ok (.bipush 96, 2) := by decide +kernel
theorem dX12_isBill_8 : decode cX12_isBill 8 = .ok (.iaload, 1) := by decide +kernel
theorem dX12_isBill_9 : decode cX12_isBill 9 = .ok (.iconst 1, 1) := by decide +kernel
theorem dX12_isBill_10 : decode cX12_isBill 10 = .ok (.isub, 1) := by decide +kernel
theorem dX12_isBill_11 : decode cX12_isBill 11 = .ok (.invokestatic 422, 3) := by decide +kernel
theorem dX12_isBill_14 : decode cX12_isBill 14 = .ok (.ireturn, 1) := by decide +kernel
theorem dX12_isStake_0 : decode cX12_isStake 0 = .ok (.iload_n 1, 1) := by decide +kernel
theorem dX12_isStake_1 : decode cX12_isStake 1 = .ok (.iconst 0, 1) := by decide +kernel
theorem dX12_isStake_2 : decode cX12_isStake 2 = .ok (.aload_n 0, 1) := by decide +kernel
theorem dX12_isStake_3 : decode cX12_isStake 3 = .ok (.getfield 70, 3) := by decide +kernel
theorem dX12_isStake_6 : decode cX12_isStake 6 = .ok (.iconst 1, 1) := by decide +kernel
theorem dX12_isStake_7 : decode cX12_isStake 7 = .ok (.isub, 1) := by decide +kernel
theorem dX12_isStake_8 : decode cX12_isStake 8 = .ok (.invokestatic 422, 3) := by decide +kernel
theorem dX12_isStake_11 : decode cX12_isStake 11 = .ok (.ireturn, 1) := by decide +kernel
theorem dX12_isTopic_0 : decode cX12_isTopic 0 = .ok (.iload_n 1, 1) := by decide +kernel
theorem dX12_isTopic_1 : decode cX12_isTopic 1 = .ok (.iconst 0, 1) := by decide +kernel
theorem dX12_isTopic_2 : decode cX12_isTopic 2 = .ok (.aload_n 0, 1) := by decide +kernel
theorem dX12_isTopic_3 : decode cX12_isTopic 3 = .ok (.getfield 398, 3) := by decide +kernel
theorem dX12_isTopic_6 : decode cX12_isTopic 6 = .ok (.iconst 1, 1) := by decide +kernel
theorem dX12_isTopic_7 : decode cX12_isTopic 7 = .ok (.isub, 1) := by decide +kernel
theorem dX12_isTopic_8 : decode cX12_isTopic 8 = .ok (.invokestatic 422, 3) := by decide +kernel
theorem dX12_isTopic_11 : decode cX12_isTopic 11 = .ok (.ireturn, 1) := by decide +kernel
theorem dX12_isPlant_0 : decode cX12_isPlant 0 = .ok (.iload_n 1, 1) := by decide +kernel
theorem dX12_isPlant_1 : decode cX12_isPlant 1 = .ok (.iconst 0, 1) := by decide +kernel
theorem dX12_isPlant_2 : decode cX12_isPlant 2 = .ok (.aload_n 0, 1) := by decide +kernel
theorem dX12_isPlant_3 : decode cX12_isPlant 3 = .ok (.getfield 395, 3) := by decide +kernel
theorem dX12_isPlant_6 : decode cX12_isPlant 6 = .ok (.iconst 1, 1) := by decide +kernel
theorem dX12_isPlant_7 : decode cX12_isPlant 7 = .ok (.isub, 1) := by decide +kernel
theorem dX12_isPlant_8 : decode cX12_isPlant 8 = .ok (.invokestatic 422, 3) := by decide +kernel
theorem dX12_isPlant_11 : decode cX12_isPlant 11 = .ok (.ireturn, 1) := by decide +kernel
theorem dX12_load_0 : decode cX12_load 0 = .ok (.iconst 0, 1) := by decide +kernel
theorem dX12_load_1 : decode cX12_load 1 = .ok (.istore_n 1, 1) := by decide +kernel
theorem dX12_load_2 : decode cX12_load 2 = .ok (.iload_n 1, 1) := by decide +kernel
theorem dX12_load_3 : decode cX12_load 3 = .ok (.bipush 99, 2) := by decide +kernel
theorem dX12_load_5 : decode cX12_load 5 = .ok (.if_icmp .ge 21, 3) := by decide +kernel
theorem dX12_load_8 : decode cX12_load 8 = .ok (.aload_n 0, 1) := by decide +kernel
theorem dX12_load_9 : decode cX12_load 9 = .ok (.getfield 79, 3) := by decide +kernel
theorem dX12_load_12 : decode cX12_load 12 = .ok (.iload_n 1, 1) := by decide +kernel
theorem dX12_load_13 : decode cX12_load 13 = .ok (.aload_n 0, 1) := by decide +kernel
theorem dX12_load_14 : decode cX12_load 14 = .ok (.getfield 76, 3) := by decide +kernel
theorem dX12_load_17 : decode cX12_load 17 = .ok (.iload_n 1, 1) := by decide +kernel
theorem dX12_load_18 : decode cX12_load 18 = .ok (.iaload, 1) := by decide +kernel
theorem dX12_load_19 : decode cX12_load 19 = .ok (.iastore, 1) := by decide +kernel
theorem dX12_load_20 : decode cX12_load 20 = .ok (.iinc 1 1, 3) := by decide +kernel
theorem dX12_load_23 : decode cX12_load 23 = .ok (.goto (-21), 3) := by decide +kernel
theorem dX12_load_26 : decode cX12_load 26 = .ok (.return_, 1) := by decide +kernel
theorem dX12_of_0 : decode cX12_of 0 = .ok (.aload_n 0, 1) := by decide +kernel
theorem dX12_of_1 : decode cX12_of 1 = .ok (.getfield 79, 3) := by decide +kernel
theorem dX12_of_4 : decode cX12_of 4 = .ok (.bipush 8, 2) := by decide +kernel
theorem dX12_of_6 : decode cX12_of 6 = .ok (.iload_n 1, 1) := by decide +kernel
theorem dX12_of_7 : decode cX12_of 7 = .ok (.imul, 1) := by decide +kernel
theorem dX12_of_8 : decode cX12_of 8 = .ok (.iload_n 2, 1) := by decide +kernel
theorem dX12_of_9 : decode cX12_of 9 = .ok (.iadd, 1) := by decide +kernel
theorem dX12_of_10 : decode cX12_of 10 = .ok (.iaload, 1) := by decide +kernel
theorem dX12_of_11 : decode cX12_of 11 = .ok (.ireturn, 1) := by decide +kernel
theorem dX12_bills_0 : decode cX12_bills 0 = .ok (.aload_n 0, 1) := by decide +kernel
theorem dX12_bills_1 : decode cX12_bills 1 = .ok (.getfield 79, 3) := by decide +kernel
theorem dX12_bills_4 : decode cX12_bills 4 = .ok (.bipush 96, 2) := by decide +kernel
theorem dX12_bills_6 : decode cX12_bills 6 = .ok (.iaload, 1) := by decide +kernel
theorem dX12_bills_7 : decode cX12_bills 7 = .ok (.ireturn, 1) := by decide +kernel
theorem dX12_lives_0 : decode cX12_lives 0 = .ok (.aload_n 0, 1) := by decide +kernel
theorem dX12_lives_1 : decode cX12_lives 1 = .ok (.iload_n 1, 1) := by decide +kernel
theorem dX12_lives_2 : decode cX12_lives 2 = .ok (.iconst 0, 1) := by decide +kernel
theorem dX12_lives_3 : decode cX12_lives 3 = .ok (.invokevirtual 426, 3) := by decide +kernel
theorem dX12_lives_6 : decode cX12_lives 6 = .ok (.ifCond .le 7, 3) := by decide +kernel
theorem dX12_lives_9 : decode cX12_lives 9 = .ok (.iconst 1, 1) := by decide +kernel
theorem dX12_lives_10 : decode cX12_lives 10 = .ok (.goto 4, 3) := by decide +kernel
theorem dX12_lives_13 : decode cX12_lives 13 = .ok (.iconst 0, 1) := by decide +kernel
theorem dX12_lives_14 : decode cX12_lives 14 = .ok (.ireturn, 1) := by decide +kernel
theorem dX12_livingSet_0 : decode cX12_livingSet 0 = .ok (.iconst 0, 1) := by decide +kernel
theorem dX12_livingSet_1 : decode cX12_livingSet 1 = .ok (.istore_n 1, 1) := by decide +kernel
theorem dX12_livingSet_2 : decode cX12_livingSet 2 = .ok (.iconst 0, 1) := by decide +kernel
theorem dX12_livingSet_3 : decode cX12_livingSet 3 = .ok (.istore_n 2, 1) := by decide +kernel
theorem dX12_livingSet_4 : decode cX12_livingSet 4 = .ok (.iload_n 2, 1) := by decide +kernel
theorem dX12_livingSet_5 : decode cX12_livingSet 5 = .ok (.aload_n 0, 1) := by decide +kernel
theorem dX12_livingSet_6 : decode cX12_livingSet 6 = .ok (.invokevirtual 429, 3) := by decide +kernel
theorem dX12_livingSet_9 : decode cX12_livingSet 9 = .ok (.if_icmp .ge 22, 3) := by decide +kernel
theorem dX12_livingSet_12 : decode cX12_livingSet 12 = .ok (.iload_n 1, 1) := by decide +kernel
theorem dX12_livingSet_13 : decode cX12_livingSet 13 = .ok (.aload_n 0, 1) := by decide +kernel
theorem dX12_livingSet_14 : decode cX12_livingSet 14 = .ok (.iload_n 2, 1) := by decide +kernel
theorem dX12_livingSet_15 : decode cX12_livingSet 15 = .ok (.invokevirtual 432, 3) := by decide +kernel
theorem dX12_livingSet_18 : decode cX12_livingSet 18 = .ok (.invokestatic 307, 3) := by decide +kernel
theorem dX12_livingSet_21 : decode cX12_livingSet 21 = .ok (.iload_n 2, 1) := by decide +kernel
theorem dX12_livingSet_22 : decode cX12_livingSet 22 = .ok (.ishl, 1) := by decide +kernel
theorem dX12_livingSet_23 : decode cX12_livingSet 23 = .ok (.ior, 1) := by decide +kernel
theorem dX12_livingSet_24 : decode cX12_livingSet 24 = .ok (.istore_n 1, 1) := by decide +kernel
theorem dX12_livingSet_25 : decode cX12_livingSet 25 = .ok (.iinc 2 1, 3) := by decide +kernel
theorem dX12_livingSet_28 : decode cX12_livingSet 28 = .ok (.goto (-24), 3) := by decide +kernel
theorem dX12_livingSet_31 : decode cX12_livingSet 31 = .ok (.iload_n 1, 1) := by decide +kernel
theorem dX12_livingSet_32 : decode cX12_livingSet 32 = .ok (.ireturn, 1) := by decide +kernel
theorem dX12_repealedSet_0 : decode cX12_repealedSet 0 = .ok (.iconst 0, 1) := by decide +kernel
theorem dX12_repealedSet_1 : decode cX12_repealedSet 1 = .ok (.istore_n 1, 1) := by decide +kernel
theorem dX12_repealedSet_2 : decode cX12_repealedSet 2 = .ok (.iconst 0, 1) := by decide +kernel
theorem dX12_repealedSet_3 : decode cX12_repealedSet 3 = .ok (.istore_n 2, 1) := by decide +kernel
theorem dX12_repealedSet_4 : decode cX12_repealedSet 4 = .ok (.iload_n 2, 1) := by decide +kernel
theorem dX12_repealedSet_5 : decode cX12_repealedSet 5 = .ok (.aload_n 0, 1) := by decide +kernel
theorem dX12_repealedSet_6 : decode cX12_repealedSet 6 = .ok (.invokevirtual 429, 3) := by decide +kernel
theorem dX12_repealedSet_9 : decode cX12_repealedSet 9 = .ok (.if_icmp .ge 39, 3) := by decide +kernel
theorem dX12_repealedSet_12 : decode cX12_repealedSet 12 = .ok (.aload_n 0, 1) := by decide +kernel
theorem dX12_repealedSet_13 : decode cX12_repealedSet 13 = .ok (.iload_n 2, 1) := by decide +kernel
theorem dX12_repealedSet_14 : decode cX12_repealedSet 14 = .ok (.invokevirtual 432, 3) := by decide +kernel
theorem dX12_repealedSet_17 : decode cX12_repealedSet 17 = .ok (.ifCond .eq 25, 3) := by decide +kernel
theorem dX12_repealedSet_20 : decode cX12_repealedSet 20 = .ok (.aload_n 0, 1) := by decide +kernel
theorem dX12_repealedSet_21 : decode cX12_repealedSet 21 = .ok (.iload_n 2, 1) := by decide +kernel
theorem dX12_repealedSet_22 : decode cX12_repealedSet 22 = .ok (.bipush 7, 2) := by decide +kernel
theorem dX12_repealedSet_24 : decode cX12_repealedSet 24 = .ok (.invokevirtual 426, 3) := by decide +kernel
theorem dX12_repealedSet_27 : decode cX12_repealedSet 27 = .ok (.ifCond .lt 15, 3) := by decide +kernel
theorem dX12_repealedSet_30 : decode cX12_repealedSet 30 = .ok (.iload_n 1, 1) := by decide +kernel
theorem dX12_repealedSet_31 : decode cX12_repealedSet 31 = .ok (.iconst 1, 1) := by decide +kernel
theorem dX12_repealedSet_32 : decode cX12_repealedSet 32 = .ok (.aload_n 0, 1) := by decide +kernel
theorem dX12_repealedSet_33 : decode cX12_repealedSet 33 = .ok (.iload_n 2, 1) := by decide +kernel
theorem dX12_repealedSet_34 : decode cX12_repealedSet 34 = .ok (.bipush 7, 2) := by decide +kernel
theorem dX12_repealedSet_36 : decode cX12_repealedSet 36 = .ok (.invokevirtual 426, 3) := by decide +kernel
theorem dX12_repealedSet_39 : decode cX12_repealedSet 39 = .ok (.ishl, 1) := by decide +kernel
theorem dX12_repealedSet_40 : decode cX12_repealedSet 40 = .ok (.ior, 1) := by decide +kernel
theorem dX12_repealedSet_41 : decode cX12_repealedSet 41 = .ok (.istore_n 1, 1) := by decide +kernel
theorem dX12_repealedSet_42 : decode cX12_repealedSet 42 = .ok (.iinc 2 1, 3) := by decide +kernel
theorem dX12_repealedSet_45 : decode cX12_repealedSet 45 = .ok (.goto (-41), 3) := by decide +kernel
theorem dX12_repealedSet_48 : decode cX12_repealedSet 48 = .ok (.iload_n 1, 1) := by decide +kernel
theorem dX12_repealedSet_49 : decode cX12_repealedSet 49 = .ok (.ireturn, 1) := by decide +kernel
theorem dX12_standing_0 : decode cX12_standing 0 = .ok (.iconst 0, 1) := by decide +kernel
theorem dX12_standing_1 : decode cX12_standing 1 = .ok (.istore_n 1, 1) := by decide +kernel
theorem dX12_standing_2 : decode cX12_standing 2 = .ok (.aload_n 0, 1) := by decide +kernel
theorem dX12_standing_3 : decode cX12_standing 3 = .ok (.invokevirtual 435, 3) := by decide +kernel
theorem dX12_standing_6 : decode cX12_standing 6 = .ok (.aload_n 0, 1) := by decide +kernel
theorem dX12_standing_7 : decode cX12_standing 7 = .ok (.invokevirtual 438, 3) := by decide +kernel
theorem dX12_standing_10 : decode cX12_standing 10 = .ok (.iconst (-1), 1) := by decide +kernel
theorem dX12_standing_11 : decode cX12_standing 11 = .ok (.ixor, 1) := by decide +kernel
theorem dX12_standing_12 : decode cX12_standing 12 = .ok (.iand, 1) := by decide +kernel
theorem dX12_standing_13 : decode cX12_standing 13 = .ok (.istore_n 2, 1) := by decide +kernel
theorem dX12_standing_14 : decode cX12_standing 14 = .ok (.iconst 0, 1) := by decide +kernel
theorem dX12_standing_15 : decode cX12_standing 15 = .ok (.istore_n 3, 1) := by decide +kernel
theorem dX12_standing_16 : decode cX12_standing 16 = .ok (.iload_n 3, 1) := by decide +kernel
theorem dX12_standing_17 : decode cX12_standing 17 = .ok (.aload_n 0, 1) := by decide +kernel
theorem dX12_standing_18 : decode cX12_standing 18 = .ok (.invokevirtual 429, 3) := by decide +kernel
theorem dX12_standing_21 : decode cX12_standing 21 = .ok (.if_icmp .ge 49, 3) := by decide +kernel
theorem dX12_standing_24 : decode cX12_standing 24 = .ok (.iload_n 2, 1) := by decide +kernel
theorem dX12_standing_25 : decode cX12_standing 25 = .ok (.iload_n 3, 1) := by decide +kernel
theorem dX12_standing_26 : decode cX12_standing 26 = .ok (.ishr, 1) := by decide +kernel
theorem dX12_standing_27 : decode cX12_standing 27 = .ok (.iconst 1, 1) := by decide +kernel
theorem dX12_standing_28 : decode cX12_standing 28 = .ok (.iand, 1) := by decide +kernel
theorem dX12_standing_29 : decode cX12_standing 29 = .ok (.iconst 1, 1) := by decide +kernel
theorem dX12_standing_30 : decode cX12_standing 30 = .ok (.if_icmp .ne 34, 3) := by decide +kernel
theorem dX12_standing_33 : decode cX12_standing 33 = .ok (.aload_n 0, 1) := by decide +kernel
theorem dX12_standing_34 : decode cX12_standing 34 = .ok (.iload_n 3, 1) := by decide +kernel
theorem dX12_standing_35 : decode cX12_standing 35 = .ok (.bipush 6, 2) := by decide +kernel
theorem dX12_standing_37 : decode cX12_standing 37 = .ok (.invokevirtual 426, 3) := by decide +kernel
theorem dX12_standing_40 : decode cX12_standing 40 = .ok (.ifCond .lt 18, 3) := by decide +kernel
theorem dX12_standing_43 : decode cX12_standing 43 = .ok (.iload_n 1, 1) := by decide +kernel
theorem dX12_standing_44 : decode cX12_standing 44 = .ok (.aload_n 0, 1) := by decide +kernel
theorem dX12_standing_45 : decode cX12_standing 45 = .ok (.iload_n 3, 1) := by decide +kernel
theorem dX12_standing_46 : decode cX12_standing 46 = .ok (.bipush 6, 2) := by decide +kernel
theorem dX12_standing_48 : decode cX12_standing 48 = .ok (.invokevirtual 426, 3) := by decide +kernel
theorem dX12_standing_51 : decode cX12_standing 51 = .ok (.ishr, 1) := by decide +kernel
theorem dX12_standing_52 : decode cX12_standing 52 = .ok (.iconst 1, 1) := by decide +kernel
theorem dX12_standing_53 : decode cX12_standing 53 = .ok (.iand, 1) := by decide +kernel
theorem dX12_standing_54 : decode cX12_standing 54 = .ok (.iconst 1, 1) := by decide +kernel
theorem dX12_standing_55 : decode cX12_standing 55 = .ok (.if_icmp .ne 9, 3) := by decide +kernel
theorem dX12_standing_58 : decode cX12_standing 58 = .ok (.iload_n 1, 1) := by decide +kernel
theorem dX12_standing_59 : decode cX12_standing 59 = .ok (.iconst 1, 1) := by decide +kernel
theorem dX12_standing_60 : decode cX12_standing 60 = .ok (.iload_n 3, 1) := by decide +kernel
theorem dX12_standing_61 : decode cX12_standing 61 = .ok (.ishl, 1) := by decide +kernel
theorem dX12_standing_62 : decode cX12_standing 62 = .ok (.ior, 1) := by decide +kernel
theorem dX12_standing_63 : decode cX12_standing 63 = .ok (.istore_n 1, 1) := by decide +kernel
theorem dX12_standing_64 : decode cX12_standing 64 = .ok (.iinc 3 1, 3) := by decide +kernel
theorem dX12_standing_67 : decode cX12_standing 67 = .ok (.goto (-51), 3) := by decide +kernel
theorem dX12_standing_70 : decode cX12_standing 70 = .ok (.iload_n 1, 1) := by decide +kernel
theorem dX12_standing_71 : decode cX12_standing 71 = .ok (.ireturn, 1) := by decide +kernel
theorem dX12_lawOf_0 : decode cX12_lawOf 0 = .ok (.aload_n 0, 1) := by decide +kernel
theorem dX12_lawOf_1 : decode cX12_lawOf 1 = .ok (.invokevirtual 441, 3) := by decide +kernel
theorem dX12_lawOf_4 : decode cX12_lawOf 4 = .ok (.istore_n 2, 1) := by decide +kernel
theorem dX12_lawOf_5 : decode cX12_lawOf 5 = .ok (.iconst 0, 1) := by decide +kernel
theorem dX12_lawOf_6 : decode cX12_lawOf 6 = .ok (.istore_n 3, 1) := by decide +kernel
theorem dX12_lawOf_7 : decode cX12_lawOf 7 = .ok (.iconst 0, 1) := by decide +kernel
theorem dX12_lawOf_8 : decode cX12_lawOf 8 = .ok (.istore 4, 2) := by decide +kernel
theorem dX12_lawOf_10 : decode cX12_lawOf 10 = .ok (.iload 4, 2) := by decide +kernel
theorem dX12_lawOf_12 : decode cX12_lawOf 12 = .ok (.aload_n 0, 1) := by decide +kernel
theorem dX12_lawOf_13 : decode cX12_lawOf 13 = .ok (.getfield 70, 3) := by decide +kernel
theorem dX12_lawOf_16 : decode cX12_lawOf 16 = .ok (.if_icmp .ge 93, 3) := by decide +kernel
theorem dX12_lawOf_19 : decode cX12_lawOf 19 = .ok (.iconst 0, 1) := by decide +kernel
theorem dX12_lawOf_20 : decode cX12_lawOf 20 = .ok (.istore 5, 2) := by decide +kernel
theorem dX12_lawOf_22 : decode cX12_lawOf 22 = .ok (.iload 5, 2) := by decide +kernel
theorem dX12_lawOf_24 : decode cX12_lawOf 24 = .ok (.aload_n 0, 1) := by decide +kernel
theorem dX12_lawOf_25 : decode cX12_lawOf 25 = .ok (.invokevirtual 429, 3) := by decide +kernel
theorem dX12_lawOf_28 : decode cX12_lawOf 28 = .ok (.if_icmp .ge 75, 3) := by decide +kernel
theorem dX12_lawOf_31 : decode cX12_lawOf 31 = .ok (.iload_n 2, 1) := by decide +kernel
theorem dX12_lawOf_32 : decode cX12_lawOf 32 = .ok (.iload 5, 2) := by decide +kernel
theorem dX12_lawOf_34 : decode cX12_lawOf 34 = .ok (.ishr, 1) := by decide +kernel
theorem dX12_lawOf_35 : decode cX12_lawOf 35 = .ok (.iconst 1, 1) := by decide +kernel
theorem dX12_lawOf_36 : decode cX12_lawOf 36 = .ok (.iand, 1) := by decide +kernel
theorem dX12_lawOf_37 : decode cX12_lawOf 37 = .ok (.ifCond .eq 60, 3) := by decide +kernel
theorem dX12_lawOf_40 : decode cX12_lawOf 40 = .ok (.aload_n 0, 1) := by decide +kernel
theorem dX12_lawOf_41 : decode cX12_lawOf 41 = .ok (.iload 5, 2) := by decide +kernel
theorem dX12_lawOf_43 : decode cX12_lawOf 43 = .ok (.iconst 2, 1) := by decide +kernel
theorem dX12_lawOf_44 : decode cX12_lawOf 44 = .ok (.invokevirtual 426, 3) := by decide +kernel
theorem dX12_lawOf_47 : decode cX12_lawOf 47 = .ok (.iload 4, 2) := by decide +kernel
theorem dX12_lawOf_49 : decode cX12_lawOf 49 = .ok (.if_icmp .ne 48, 3) := by decide +kernel
theorem dX12_lawOf_52 : decode cX12_lawOf 52 = .ok (.aload_n 0, 1) := by decide +kernel
theorem dX12_lawOf_53 : decode cX12_lawOf 53 = .ok (.iload 5, 2) := by decide +kernel
theorem dX12_lawOf_55 : decode cX12_lawOf 55 = .ok (.iconst 4, 1) := by decide +kernel
theorem dX12_lawOf_56 : decode cX12_lawOf 56 = .ok (.invokevirtual 426, 3) := by decide +kernel
theorem dX12_lawOf_59 : decode cX12_lawOf 59 = .ok (.iload_n 1, 1) := by decide +kernel
theorem dX12_lawOf_60 : decode cX12_lawOf 60 = .ok (.if_icmp .eq 6, 3) := by decide +kernel
theorem dX12_lawOf_63 : decode cX12_lawOf 63 = .ok (.goto 34, 3) := by decide +kernel
theorem dX12_lawOf_66 : decode cX12_lawOf 66 = .ok (.aload_n 0, 1) := by decide +kernel
theorem dX12_lawOf_67 : decode cX12_lawOf 67 = .ok (.iload 5, 2) := by decide +kernel
theorem dX12_lawOf_69 : decode cX12_lawOf 69 = .ok (.bipush 6, 2) := by decide +kernel
theorem dX12_lawOf_71 : decode cX12_lawOf 71 = .ok (.invokevirtual 426, 3) := by decide +kernel
theorem dX12_lawOf_74 : decode cX12_lawOf 74 = .ok (.ifCond .ge 13, 3) := by decide +kernel
theorem dX12_lawOf_77 : decode cX12_lawOf 77 = .ok (.aload_n 0, 1) := by decide +kernel
theorem dX12_lawOf_78 : decode cX12_lawOf 78 = .ok (.iload 5, 2) := by decide +kernel
theorem dX12_lawOf_80 : decode cX12_lawOf 80 = .ok (.iconst 5, 1) := by decide +kernel
theorem dX12_lawOf_81 : decode cX12_lawOf 81 = .ok (.invokevirtual 426, 3) := by decide +kernel
theorem dX12_lawOf_84 : decode cX12_lawOf 84 = .ok (.goto 12, 3) := by decide +kernel
theorem dX12_lawOf_87 : decode cX12_lawOf 87 = .ok (.iload_n 3, 1) := by decide +kernel
theorem dX12_lawOf_88 : decode cX12_lawOf 88 = .ok (.aload_n 0, 1) := by decide +kernel
theorem dX12_lawOf_89 : decode cX12_lawOf 89 = .ok (.iload 5, 2) := by decide +kernel
theorem dX12_lawOf_91 : decode cX12_lawOf 91 = .ok (.iconst 5, 1) := by decide +kernel
theorem dX12_lawOf_92 : decode cX12_lawOf 92 = .ok (.invokevirtual 426, 3) := by decide +kernel
theorem dX12_lawOf_95 : decode cX12_lawOf 95 = .ok (.iadd, 1) := by decide +kernel
theorem dX12_lawOf_96 : decode cX12_lawOf 96 = .ok (.istore_n 3, 1) := by decide +kernel
theorem dX12_lawOf_97 : decode cX12_lawOf 97 = .ok (.iinc 5 1, 3) := by decide +kernel
theorem dX12_lawOf_100 : decode cX12_lawOf 100 = .ok (.goto (-78), 3) := by decide +kernel
theorem dX12_lawOf_103 : decode cX12_lawOf 103 = .ok (.iinc 4 1, 3) := by decide +kernel
theorem dX12_lawOf_106 : decode cX12_lawOf 106 = .ok (.goto (-96), 3) := by decide +kernel
theorem dX12_lawOf_109 : decode cX12_lawOf 109 = .ok (.iload_n 3, 1) := by decide +kernel
theorem dX12_lawOf_110 : decode cX12_lawOf 110 = .ok (.ireturn, 1) := by decide +kernel
theorem dX12_apart_0 : decode cX12_apart 0 = .ok (.iload_n 0, 1) := by decide +kernel
theorem dX12_apart_1 : decode cX12_apart 1 = .ok (.iload_n 1, 1) := by decide +kernel
theorem dX12_apart_2 : decode cX12_apart 2 = .ok (.if_icmp .ge 9, 3) := by decide +kernel
theorem dX12_apart_5 : decode cX12_apart 5 = .ok (.iload_n 1, 1) := by decide +kernel
theorem dX12_apart_6 : decode cX12_apart 6 = .ok (.iload_n 0, 1) := by decide +kernel
theorem dX12_apart_7 : decode cX12_apart 7 = .ok (.isub, 1) := by decide +kernel
theorem dX12_apart_8 : decode cX12_apart 8 = .ok (.goto 6, 3) := by decide +kernel
theorem dX12_apart_11 : decode cX12_apart 11 = .ok (.iload_n 0, 1) := by decide +kernel
theorem dX12_apart_12 : decode cX12_apart 12 = .ok (.iload_n 1, 1) := by decide +kernel
theorem dX12_apart_13 : decode cX12_apart 13 = .ok (.isub, 1) := by decide +kernel
theorem dX12_apart_14 : decode cX12_apart 14 = .ok (.ireturn, 1) := by decide +kernel
theorem dX12_near_0 : decode cX12_near 0 = .ok (.iconst 0, 1) := by decide +kernel
theorem dX12_near_1 : decode cX12_near 1 = .ok (.istore_n 2, 1) := by decide +kernel
theorem dX12_near_2 : decode cX12_near 2 = .ok (.iconst 0, 1) := by decide +kernel
theorem dX12_near_3 : decode cX12_near 3 = .ok (.istore_n 3, 1) := by decide +kernel
theorem dX12_near_4 : decode cX12_near 4 = .ok (.iload_n 3, 1) := by decide +kernel
theorem dX12_near_5 : decode cX12_near 5 = .ok (.aload_n 0, 1) := by decide +kernel
theorem dX12_near_6 : decode cX12_near 6 = .ok (.invokevirtual 429, 3) := by decide +kernel
theorem dX12_near_9 : decode cX12_near 9 = .ok (.if_icmp .ge 52, 3) := by decide +kernel
theorem dX12_near_12 : decode cX12_near 12 = .ok (.iload_n 2, 1) := by decide +kernel
theorem dX12_near_13 : decode cX12_near 13 = .ok (.iload_n 3, 1) := by decide +kernel
theorem dX12_near_14 : decode cX12_near 14 = .ok (.iload_n 1, 1) := by decide +kernel
theorem dX12_near_15 : decode cX12_near 15 = .ok (.if_icmp .eq 34, 3) := by decide +kernel
theorem dX12_near_18 : decode cX12_near 18 = .ok (.aload_n 0, 1) := by decide +kernel
theorem dX12_near_19 : decode cX12_near 19 = .ok (.iload_n 3, 1) := by decide +kernel
theorem dX12_near_20 : decode cX12_near 20 = .ok (.invokevirtual 432, 3) := by decide +kernel
theorem dX12_near_23 : decode cX12_near 23 = .ok (.ifCond .eq 26, 3) := by decide +kernel
theorem dX12_near_26 : decode cX12_near 26 = .ok (.aload_n 0, 1) := by decide +kernel
theorem dX12_near_27 : decode cX12_near 27 = .ok (.iload_n 3, 1) := by decide +kernel
theorem dX12_near_28 : decode cX12_near 28 = .ok (.iconst 2, 1) := by decide +kernel
theorem dX12_near_29 : decode cX12_near 29 = .ok (.invokevirtual 426, 3) := by decide +kernel
theorem dX12_near_32 : decode cX12_near 32 = .ok (.aload_n 0, 1) := by decide +kernel
theorem dX12_near_33 : decode cX12_near 33 = .ok (.iload_n 1, 1) := by decide +kernel
theorem dX12_near_34 : decode cX12_near 34 = .ok (.iconst 2, 1) := by decide +kernel
theorem dX12_near_35 : decode cX12_near 35 = .ok (.invokevirtual 426, 3) := by decide +kernel
theorem dX12_near_38 : decode cX12_near 38 = .ok (.invokestatic 444, 3) := by decide +kernel
theorem dX12_near_41 : decode cX12_near 41 = .ok (.iconst 2, 1) := by decide +kernel
theorem dX12_near_42 : decode cX12_near 42 = .ok (.if_icmp .ge 7, 3) := by decide +kernel
theorem dX12_near_45 : decode cX12_near 45 = .ok (.iconst 1, 1) := by decide +kernel
theorem dX12_near_46 : decode cX12_near 46 = .ok (.goto 4, 3) := by decide +kernel
theorem dX12_near_49 : decode cX12_near 49 = .ok (.iconst 0, 1) := by decide +kernel
theorem dX12_near_50 : decode cX12_near 50 = .ok (.invokestatic 307, 3) := by decide +kernel
theorem dX12_near_53 : decode cX12_near 53 = .ok (.iadd, 1) := by decide +kernel
theorem dX12_near_54 : decode cX12_near 54 = .ok (.istore_n 2, 1) := by decide +kernel
theorem dX12_near_55 : decode cX12_near 55 = .ok (.iinc 3 1, 3) := by decide +kernel
theorem dX12_near_58 : decode cX12_near 58 = .ok (.goto (-54), 3) := by decide +kernel
theorem dX12_near_61 : decode cX12_near 61 = .ok (.iload_n 2, 1) := by decide +kernel
theorem dX12_near_62 : decode cX12_near 62 = .ok (.ireturn, 1) := by decide +kernel
theorem dX12_lessen_0 : decode cX12_lessen 0 = .ok (.aload_n 0, 1) := by decide +kernel
theorem dX12_lessen_1 : decode cX12_lessen 1 = .ok (.getfield 79, 3) := by decide +kernel
theorem dX12_lessen_4 : decode cX12_lessen 4 = .ok (.bipush 8, 2) := by decide +kernel
theorem dX12_lessen_6 : decode cX12_lessen 6 = .ok (.iload_n 1, 1) := by decide +kernel
theorem dX12_lessen_7 : decode cX12_lessen 7 = .ok (.imul, 1) := by decide +kernel
theorem dX12_lessen_8 : decode cX12_lessen 8 = .ok (.iconst 0, 1) := by decide +kernel
theorem dX12_lessen_9 : decode cX12_lessen 9 = .ok (.iadd, 1) := by decide +kernel
theorem dX12_lessen_10 : decode cX12_lessen 10 = .ok (.aload_n 0, 1) := by decide +kernel
theorem dX12_lessen_11 : decode cX12_lessen 11 = .ok (.iload_n 1, 1) := by decide +kernel
theorem dX12_lessen_12 : decode cX12_lessen 12 = .ok (.iconst 0, 1) := by decide +kernel
theorem dX12_lessen_13 : decode cX12_lessen 13 = .ok (.invokevirtual 426, 3) := by decide +kernel
theorem dX12_lessen_16 : decode cX12_lessen 16 = .ok (.iload_n 2, 1) := by decide +kernel
theorem dX12_lessen_17 : decode cX12_lessen 17 = .ok (.if_icmp .le 14, 3) := by decide +kernel
theorem dX12_lessen_20 : decode cX12_lessen 20 = .ok (.aload_n 0, 1) := by decide +kernel
theorem dX12_lessen_21 : decode cX12_lessen 21 = .ok (.iload_n 1, 1) := by decide +kernel
theorem dX12_lessen_22 : decode cX12_lessen 22 = .ok (.iconst 0, 1) := by decide +kernel
theorem dX12_lessen_23 : decode cX12_lessen 23 = .ok (.invokevirtual 426, 3) := by decide +kernel
theorem dX12_lessen_26 : decode cX12_lessen 26 = .ok (.iload_n 2, 1) := by decide +kernel
theorem dX12_lessen_27 : decode cX12_lessen 27 = .ok (.isub, 1) := by decide +kernel
theorem dX12_lessen_28 : decode cX12_lessen 28 = .ok (.goto 4, 3) := by decide +kernel
theorem dX12_lessen_31 : decode cX12_lessen 31 = .ok (.iconst 0, 1) := by decide +kernel
theorem dX12_lessen_32 : decode cX12_lessen 32 = .ok (.iastore, 1) := by decide +kernel
theorem dX12_lessen_33 : decode cX12_lessen 33 = .ok (.return_, 1) := by decide +kernel
theorem dX12_goYear_0 : decode cX12_goYear 0 = .ok (.aload_n 0, 1) := by decide +kernel
theorem dX12_goYear_1 : decode cX12_goYear 1 = .ok (.invokevirtual 435, 3) := by decide +kernel
theorem dX12_goYear_4 : decode cX12_goYear 4 = .ok (.istore_n 1, 1) := by decide +kernel
theorem dX12_goYear_5 : decode cX12_goYear 5 = .ok (.iconst 0, 1) := by decide +kernel
theorem dX12_goYear_6 : decode cX12_goYear 6 = .ok (.istore_n 2, 1) := by decide +kernel
theorem dX12_goYear_7 : decode cX12_goYear 7 = .ok (.iload_n 2, 1) := by decide +kernel
theorem dX12_goYear_8 : decode cX12_goYear 8 = .ok (.aload_n 0, 1) := by decide +kernel
theorem dX12_goYear_9 : decode cX12_goYear 9 = .ok (.invokevirtual 429, 3) := by decide +kernel
theorem dX12_goYear_12 : decode cX12_goYear 12 = .ok (.if_icmp .ge 138, 3) := by decide +kernel
theorem dX12_goYear_15 : decode cX12_goYear 15 = .ok (.aload_n 0, 1) := by decide +kernel
theorem dX12_goYear_16 : decode cX12_goYear 16 = .ok (.iload_n 2, 1) := by decide +kernel
theorem dX12_goYear_17 : decode cX12_goYear 17 = .ok (.invokevirtual 432, 3) := by decide +kernel
theorem dX12_goYear_20 : decode cX12_goYear 20 = .ok (.ifCond .ne 6, 3) := by decide +kernel
theorem dX12_goYear_23 : decode cX12_goYear 23 = .ok (.goto 121, 3) := by decide +kernel
theorem dX12_goYear_26 : decode cX12_goYear 26 = .ok (.aload_n 0, 1) := by decide +kernel
theorem dX12_goYear_27 : decode cX12_goYear 27 = .ok (.getfield 39, 3) := by decide +kernel
theorem dX12_goYear_30 : decode cX12_goYear 30 = .ok (.iconst 0, 1) := by decide +kernel
theorem dX12_goYear_31 : decode cX12_goYear 31 = .ok (.aload_n 0, 1) := by decide +kernel
theorem dX12_goYear_32 : decode cX12_goYear 32 = .ok (.iload_n 2, 1) := by decide +kernel
theorem dX12_goYear_33 : decode cX12_goYear 33 = .ok (.iconst 0, 1) := by decide +kernel
theorem dX12_goYear_34 : decode cX12_goYear 34 = .ok (.invokevirtual 426, 3) := by decide +kernel
theorem dX12_goYear_37 : decode cX12_goYear 37 = .ok (.iastore, 1) := by decide +kernel
theorem dX12_goYear_38 : decode cX12_goYear 38 = .ok (.aload_n 0, 1) := by decide +kernel
theorem dX12_goYear_39 : decode cX12_goYear 39 = .ok (.getfield 39, 3) := by decide +kernel
theorem dX12_goYear_42 : decode cX12_goYear 42 = .ok (.iconst 1, 1) := by decide +kernel
theorem dX12_goYear_43 : decode cX12_goYear 43 = .ok (.aload_n 0, 1) := by decide +kernel
theorem dX12_goYear_44 : decode cX12_goYear 44 = .ok (.iload_n 2, 1) := by decide +kernel
theorem dX12_goYear_45 : decode cX12_goYear 45 = .ok (.iconst 1, 1) := by decide +kernel
theorem dX12_goYear_46 : decode cX12_goYear 46 = .ok (.invokevirtual 426, 3) := by decide +kernel
theorem dX12_goYear_49 : decode cX12_goYear 49 = .ok (.iastore, 1) := by decide +kernel
theorem dX12_goYear_50 : decode cX12_goYear 50 = .ok (.aload_n 0, 1) := by decide +kernel
theorem dX12_goYear_51 : decode cX12_goYear 51 = .ok (.getfield 39, 3) := by decide +kernel
theorem dX12_goYear_54 : decode cX12_goYear 54 = .ok (.iconst 2, 1) := by decide +kernel
theorem dX12_goYear_55 : decode cX12_goYear 55 = .ok (.aload_n 0, 1) := by decide +kernel
theorem dX12_goYear_56 : decode cX12_goYear 56 = .ok (.iload_n 2, 1) := by decide +kernel
theorem dX12_goYear_57 : decode cX12_goYear 57 = .ok (.iconst 2, 1) := by decide +kernel
theorem dX12_goYear_58 : decode cX12_goYear 58 = .ok (.invokevirtual 426, 3) := by decide +kernel
theorem dX12_goYear_61 : decode cX12_goYear 61 = .ok (.iastore, 1) := by decide +kernel
theorem dX12_goYear_62 : decode cX12_goYear 62 = .ok (.aload_n 0, 1) := by decide +kernel
theorem dX12_goYear_63 : decode cX12_goYear 63 = .ok (.getfield 39, 3) := by decide +kernel
theorem dX12_goYear_66 : decode cX12_goYear 66 = .ok (.iconst 3, 1) := by decide +kernel
theorem dX12_goYear_67 : decode cX12_goYear 67 = .ok (.aload_n 0, 1) := by decide +kernel
theorem dX12_goYear_68 : decode cX12_goYear 68 = .ok (.iload_n 2, 1) := by decide +kernel
theorem dX12_goYear_69 : decode cX12_goYear 69 = .ok (.invokevirtual 447, 3) := by decide +kernel
theorem dX12_goYear_72 : decode cX12_goYear 72 = .ok (.iastore, 1) := by decide +kernel
theorem dX12_goYear_73 : decode cX12_goYear 73 = .ok (.aload_n 0, 1) := by decide +kernel
theorem dX12_goYear_74 : decode cX12_goYear 74 = .ok (.getfield 39, 3) := by decide +kernel
theorem dX12_goYear_77 : decode cX12_goYear 77 = .ok (.iconst 4, 1) := by decide +kernel
theorem dX12_goYear_78 : decode cX12_goYear 78 = .ok (.aload_n 0, 1) := by decide +kernel
theorem dX12_goYear_79 : decode cX12_goYear 79 = .ok (.getfield 79, 3) := by decide +kernel
theorem dX12_goYear_82 : decode cX12_goYear 82 = .ok (.bipush 97, 2) := by decide +kernel
theorem dX12_goYear_84 : decode cX12_goYear 84 = .ok (.iaload, 1) := by decide +kernel
theorem dX12_goYear_85 : decode cX12_goYear 85 = .ok (.iastore, 1) := by decide +kernel
theorem dX12_goYear_86 : decode cX12_goYear 86 = .ok (.aload_n 0, 1) := by decide +kernel
theorem dX12_goYear_87 : decode cX12_goYear 87 = .ok (.iload_n 2, 1) := by decide +kernel
theorem dX12_goYear_88 : decode cX12_goYear 88 = .ok (.iconst 0, 1) := by decide +kernel
theorem dX12_goYear_89 : decode cX12_goYear 89 = .ok (.invokevirtual 426, 3) := by decide +kernel
theorem dX12_goYear_92 : decode cX12_goYear 92 = .ok (.aload_n 0, 1) := by decide +kernel
theorem dX12_goYear_93 : decode cX12_goYear 93 = .ok (.invokevirtual 450, 3) := by decide +kernel
theorem dX12_goYear_96 : decode cX12_goYear 96 = .ok (.iadd, 1) := by decide +kernel
theorem dX12_goYear_97 : decode cX12_goYear 97 = .ok (.istore_n 3, 1) := by decide +kernel
theorem dX12_goYear_98 : decode cX12_goYear 98 = .ok (.aload_n 0, 1) := by decide +kernel
theorem dX12_goYear_99 : decode cX12_goYear 99 = .ok (.getfield 79, 3) := by decide +kernel
theorem dX12_goYear_102 : decode cX12_goYear 102 = .ok (.bipush 8, 2) := by decide +kernel
theorem dX12_goYear_104 : decode cX12_goYear 104 = .ok (.iload_n 2, 1) := by decide +kernel
theorem dX12_goYear_105 : decode cX12_goYear 105 = .ok (.imul, 1) := by decide +kernel
theorem dX12_goYear_106 : decode cX12_goYear 106 = .ok (.iconst 0, 1) := by decide +kernel
theorem dX12_goYear_107 : decode cX12_goYear 107 = .ok (.iadd, 1) := by decide +kernel
theorem dX12_goYear_108 : decode cX12_goYear 108 = .ok (.iload_n 3, 1) := by decide +kernel
theorem dX12_goYear_109 : decode cX12_goYear 109 = .ok (.ifCond .ge 7, 3) := by decide +kernel
theorem dX12_goYear_112 : decode cX12_goYear 112 = .ok (.iconst 0, 1) := by decide +kernel
theorem dX12_goYear_113 : decode cX12_goYear 113 = .ok (.goto 15, 3) := by decide +kernel
theorem dX12_goYear_116 : decode cX12_goYear 116 = .ok (.iload_n 3, 1) := by decide +kernel
theorem dX12_goYear_117 : decode cX12_goYear 117 = .ok (.bipush 99, 2) := by decide +kernel
theorem dX12_goYear_119 : decode cX12_goYear 119 = .ok (.if_icmp .le 8, 3) := by decide +kernel
theorem dX12_goYear_122 : decode cX12_goYear 122 = .ok (.bipush 99, 2) := by decide +kernel
theorem dX12_goYear_124 : decode cX12_goYear 124 = .ok (.goto 4, 3) := by decide +kernel
theorem dX12_goYear_127 : decode cX12_goYear 127 = .ok (.iload_n 3, 1) := by decide +kernel
theorem dX12_goYear_128 : decode cX12_goYear 128 = .ok (.iastore, 1) := by decide +kernel
theorem dX12_goYear_129 : decode cX12_goYear 129 = .ok (.aload_n 0, 1) := by decide +kernel
theorem dX12_goYear_130 : decode cX12_goYear 130 = .ok (.getfield 79, 3) := by decide +kernel
theorem dX12_goYear_133 : decode cX12_goYear 133 = .ok (.bipush 8, 2) := by decide +kernel
theorem dX12_goYear_135 : decode cX12_goYear 135 = .ok (.iload_n 2, 1) := by decide +kernel
theorem dX12_goYear_136 : decode cX12_goYear 136 = .ok (.imul, 1) := by decide +kernel
theorem dX12_goYear_137 : decode cX12_goYear 137 = .ok (.iconst 1, 1) := by decide +kernel
theorem dX12_goYear_138 : decode cX12_goYear 138 = .ok (.iadd, 1) := by decide +kernel
theorem dX12_goYear_139 : decode cX12_goYear 139 = .ok (.dup2, 1) := by decide +kernel
theorem dX12_goYear_140 : decode cX12_goYear 140 = .ok (.iaload, 1) := by decide +kernel
theorem dX12_goYear_141 : decode cX12_goYear 141 = .ok (.iconst 1, 1) := by decide +kernel
theorem dX12_goYear_142 : decode cX12_goYear 142 = .ok (.iadd, 1) := by decide +kernel
