theorem dX12_init_0 : decode cX12_init 0 = .ok (.aload_n 0, 1) := by decide +kernel
theorem dX12_init_1 : decode cX12_init 1 = .ok (.invokespecial 1, 3) := by decide +kernel
theorem dX12_init_4 : decode cX12_init 4 = .ok (.aload_n 0, 1) := by decide +kernel
theorem dX12_init_5 : decode cX12_init 5 = .ok (.bipush 6, 2) := by decide +kernel
theorem dX12_init_7 : decode cX12_init 7 = .ok (.newarray .int, 2) := by decide +kernel
theorem dX12_init_9 : decode cX12_init 9 = .ok (.putfield 7, 3) := by decide +kernel
theorem dX12_init_12 : decode cX12_init 12 = .ok (.aload_n 0, 1) := by decide +kernel
theorem dX12_init_13 : decode cX12_init 13 = .ok (.sipush 160, 3) := by decide +kernel
theorem dX12_init_16 : decode cX12_init 16 = .ok (.newarray .int, 2) := by decide +kernel
theorem dX12_init_18 : decode cX12_init 18 = .ok (.putfield 13, 3) := by decide +kernel
theorem dX12_init_21 : decode cX12_init 21 = .ok (.aload_n 0, 1) := by decide +kernel
theorem dX12_init_22 : decode cX12_init 22 = .ok (.sipush 160, 3) := by decide +kernel
theorem dX12_init_25 : decode cX12_init 25 = .ok (.newarray .int, 2) := by decide +kernel
theorem dX12_init_27 : decode cX12_init 27 = .ok (.putfield 16, 3) := by decide +kernel
theorem dX12_init_30 : decode cX12_init 30 = .ok (.aload_n 0, 1) := by decide +kernel
theorem dX12_init_31 : decode cX12_init 31 = .ok (.sipush 160, 3) := by decide +kernel
theorem dX12_init_34 : decode cX12_init 34 = .ok (.newarray .int, 2) := by decide +kernel
theorem dX12_init_36 : decode cX12_init 36 = .ok (.putfield 19, 3) := by decide +kernel
theorem dX12_init_39 : decode cX12_init 39 = .ok (.aload_n 0, 1) := by decide +kernel
theorem dX12_init_40 : decode cX12_init 40 = .ok (.sipush 160, 3) := by decide +kernel
theorem dX12_init_43 : decode cX12_init 43 = .ok (.newarray .int, 2) := by decide +kernel
theorem dX12_init_45 : decode cX12_init 45 = .ok (.putfield 22, 3) := by decide +kernel
theorem dX12_init_48 : decode cX12_init 48 = .ok (.aload_n 0, 1) := by decide +kernel
theorem dX12_init_49 : decode cX12_init 49 = .ok (.sipush 160, 3) := by decide +kernel
theorem dX12_init_52 : decode cX12_init 52 = .ok (.newarray .int, 2) := by decide +kernel
theorem dX12_init_54 : decode cX12_init 54 = .ok (.putfield 25, 3) := by decide +kernel
theorem dX12_init_57 : decode cX12_init 57 = .ok (.aload_n 0, 1) := by decide +kernel
theorem dX12_init_58 : decode cX12_init 58 = .ok (.sipush 160, 3) := by decide +kernel
theorem dX12_init_61 : decode cX12_init 61 = .ok (.newarray .int, 2) := by decide +kernel
theorem dX12_init_63 : decode cX12_init 63 = .ok (.putfield 28, 3) := by decide +kernel
theorem dX12_init_66 : decode cX12_init 66 = .ok (.aload_n 0, 1) := by decide +kernel
theorem dX12_init_67 : decode cX12_init 67 = .ok (.sipush 960, 3) := by decide +kernel
theorem dX12_init_70 : decode cX12_init 70 = .ok (.newarray .int, 2) := by decide +kernel
theorem dX12_init_72 : decode cX12_init 72 = .ok (.putfield 31, 3) := by decide +kernel
theorem dX12_init_75 : decode cX12_init 75 = .ok (.aload_n 0, 1) := by decide +kernel
theorem dX12_init_76 : decode cX12_init 76 = .ok (.sipush 960, 3) := by decide +kernel
theorem dX12_init_79 : decode cX12_init 79 = .ok (.newarray .boolean, 2) := by decide +kernel
theorem dX12_init_81 : decode cX12_init 81 = .ok (.putfield 34, 3) := by decide +kernel
theorem dX12_init_84 : decode cX12_init 84 = .ok (.aload_n 0, 1) := by decide +kernel
theorem dX12_init_85 : decode cX12_init 85 = .ok (.bipush 40, 2) := by decide +kernel
theorem dX12_init_87 : decode cX12_init 87 = .ok (.newarray .int, 2) := by decide +kernel
theorem dX12_init_89 : decode cX12_init 89 = .ok (.putfield 38, 3) := by decide +kernel
theorem dX12_init_92 : decode cX12_init 92 = .ok (.aload_n 0, 1) := by decide +kernel
theorem dX12_init_93 : decode cX12_init 93 = .ok (.bipush 40, 2) := by decide +kernel
theorem dX12_init_95 : decode cX12_init 95 = .ok (.newarray .int, 2) := by decide +kernel
theorem dX12_init_97 : decode cX12_init 97 = .ok (.putfield 41, 3) := by decide +kernel
theorem dX12_init_100 : decode cX12_init 100 = .ok (.aload_n 0, 1) := by decide +kernel
theorem dX12_init_101 : decode cX12_init 101 = .ok (.bipush 40, 2) := by decide +kernel
theorem dX12_init_103 : decode cX12_init 103 = .ok (.newarray .int, 2) := by decide +kernel
theorem dX12_init_105 : decode cX12_init 105 = .ok (.putfield 44, 3) := by decide +kernel
theorem dX12_init_108 : decode cX12_init 108 = .ok (.aload_n 0, 1) := by decide +kernel
theorem dX12_init_109 : decode cX12_init 109 = .ok (.bipush 40, 2) := by decide +kernel
theorem dX12_init_111 : decode cX12_init 111 = .ok (.newarray .int, 2) := by decide +kernel
theorem dX12_init_113 : decode cX12_init 113 = .ok (.putfield 47, 3) := by decide +kernel
theorem dX12_init_116 : decode cX12_init 116 = .ok (.aload_n 0, 1) := by decide +kernel
theorem dX12_init_117 : decode cX12_init 117 = .ok (.bipush 40, 2) := by decide +kernel
theorem dX12_init_119 : decode cX12_init 119 = .ok (.newarray .int, 2) := by decide +kernel
theorem dX12_init_121 : decode cX12_init 121 = .ok (.putfield 50, 3) := by decide +kernel
theorem dX12_init_124 : decode cX12_init 124 = .ok (.aload_n 0, 1) := by decide +kernel
theorem dX12_init_125 : decode cX12_init 125 = .ok (.bipush 40, 2) := by decide +kernel
theorem dX12_init_127 : decode cX12_init 127 = .ok (.newarray .int, 2) := by decide +kernel
theorem dX12_init_129 : decode cX12_init 129 = .ok (.putfield 53, 3) := by decide +kernel
theorem dX12_init_132 : decode cX12_init 132 = .ok (.aload_n 0, 1) := by decide +kernel
theorem dX12_init_133 : decode cX12_init 133 = .ok (.bipush 40, 2) := by decide +kernel
theorem dX12_init_135 : decode cX12_init 135 = .ok (.newarray .int, 2) := by decide +kernel
theorem dX12_init_137 : decode cX12_init 137 = .ok (.putfield 56, 3) := by decide +kernel
theorem dX12_init_140 : decode cX12_init 140 = .ok (.aload_n 0, 1) := by decide +kernel
theorem dX12_init_141 : decode cX12_init 141 = .ok (.bipush 40, 2) := by decide +kernel
theorem dX12_init_143 : decode cX12_init 143 = .ok (.newarray .int, 2) := by decide +kernel
theorem dX12_init_145 : decode cX12_init 145 = .ok (.putfield 59, 3) := by decide +kernel
theorem dX12_init_148 : decode cX12_init 148 = .ok (.aload_n 0, 1) := by decide +kernel
theorem dX12_init_149 : decode cX12_init 149 = .ok (.bipush 40, 2) := by decide +kernel
theorem dX12_init_151 : decode cX12_init 151 = .ok (.newarray .int, 2) := by decide +kernel
theorem dX12_init_153 : decode cX12_init 153 = .ok (.putfield 62, 3) := by decide +kernel
theorem dX12_init_156 : decode cX12_init 156 = .ok (.aload_n 0, 1) := by decide +kernel
theorem dX12_init_157 : decode cX12_init 157 = .ok (.bipush 63, 2) := by decide +kernel
theorem dX12_init_159 : decode cX12_init 159 = .ok (.putfield 65, 3) := by decide +kernel
theorem dX12_init_162 : decode cX12_init 162 = .ok (.aload_n 0, 1) := by decide +kernel
theorem dX12_init_163 : decode cX12_init 163 = .ok (.sipush 10000, 3) := by decide +kernel
theorem dX12_init_166 : decode cX12_init 166 = .ok (.putfield 69, 3) := by decide +kernel
theorem dX12_init_169 : decode cX12_init 169 = .ok (.aload_n 0, 1) := by decide +kernel
theorem dX12_init_170 : decode cX12_init 170 = .ok (.ldc 72, 2) := by decide +kernel
theorem dX12_init_172 : decode cX12_init 172 = .ok (.putfield 73, 3) := by decide +kernel
theorem dX12_init_175 : decode cX12_init 175 = .ok (.aload_n 0, 1) := by decide +kernel
theorem dX12_init_176 : decode cX12_init 176 = .ok (.bipush 100, 2) := by decide +kernel
theorem dX12_init_178 : decode cX12_init 178 = .ok (.putfield 76, 3) := by decide +kernel
theorem dX12_init_181 : decode cX12_init 181 = .ok (.aload_n 0, 1) := by decide +kernel
theorem dX12_init_182 : decode cX12_init 182 = .ok (.bipush 6, 2) := by decide +kernel
theorem dX12_init_184 : decode cX12_init 184 = .ok (.newarray .int, 2) := by decide +kernel
theorem dX12_init_186 : decode cX12_init 186 = .ok (.putfield 79, 3) := by decide +kernel
theorem dX12_init_189 : decode cX12_init 189 = .ok (.aload_n 0, 1) := by decide +kernel
theorem dX12_init_190 : decode cX12_init 190 = .ok (.sipush 960, 3) := by decide +kernel
theorem dX12_init_193 : decode cX12_init 193 = .ok (.newarray .int, 2) := by decide +kernel
theorem dX12_init_195 : decode cX12_init 195 = .ok (.putfield 82, 3) := by decide +kernel
theorem dX12_init_198 : decode cX12_init 198 = .ok (.aload_n 0, 1) := by decide +kernel
theorem dX12_init_199 : decode cX12_init 199 = .ok (.sipush 160, 3) := by decide +kernel
theorem dX12_init_202 : decode cX12_init 202 = .ok (.newarray .int, 2) := by decide +kernel
theorem dX12_init_204 : decode cX12_init 204 = .ok (.putfield 85, 3) := by decide +kernel
theorem dX12_init_207 : decode cX12_init 207 = .ok (.aload_n 0, 1) := by decide +kernel
theorem dX12_init_208 : decode cX12_init 208 = .ok (.sipush 960, 3) := by decide +kernel
theorem dX12_init_211 : decode cX12_init 211 = .ok (.newarray .int, 2) := by decide +kernel
theorem dX12_init_213 : decode cX12_init 213 = .ok (.putfield 88, 3) := by decide +kernel
theorem dX12_init_216 : decode cX12_init 216 = .ok (.aload_n 0, 1) := by decide +kernel
theorem dX12_init_217 : decode cX12_init 217 = .ok (.sipush 160, 3) := by decide +kernel
theorem dX12_init_220 : decode cX12_init 220 = .ok (.newarray .int, 2) := by decide +kernel
theorem dX12_init_222 : decode cX12_init 222 = .ok (.putfield 91, 3) := by decide +kernel
theorem dX12_init_225 : decode cX12_init 225 = .ok (.aload_n 0, 1) := by decide +kernel
theorem dX12_init_226 : decode cX12_init 226 = .ok (.sipush 160, 3) := by decide +kernel
theorem dX12_init_229 : decode cX12_init 229 = .ok (.newarray .int, 2) := by decide +kernel
theorem dX12_init_231 : decode cX12_init 231 = .ok (.putfield 94, 3) := by decide +kernel
theorem dX12_init_234 : decode cX12_init 234 = .ok (.aload_n 0, 1) := by decide +kernel
theorem dX12_init_235 : decode cX12_init 235 = .ok (.sipush 160, 3) := by decide +kernel
theorem dX12_init_238 : decode cX12_init 238 = .ok (.newarray .boolean, 2) := by decide +kernel
theorem dX12_init_240 : decode cX12_init 240 = .ok (.putfield 97, 3) := by decide +kernel
theorem dX12_init_243 : decode cX12_init 243 = .ok (.aload_n 0, 1) := by decide +kernel
theorem dX12_init_244 : decode cX12_init 244 = .ok (.bipush 12, 2) := by decide +kernel
theorem dX12_init_246 : decode cX12_init 246 = .ok (.newarray .int, 2) := by decide +kernel
theorem dX12_init_248 : decode cX12_init 248 = .ok (.putfield 100, 3) := by decide +kernel
theorem dX12_init_251 : decode cX12_init 251 = .ok (.aload_n 0, 1) := by decide +kernel
theorem dX12_init_252 : decode cX12_init 252 = .ok (.bipush 12, 2) := by decide +kernel
theorem dX12_init_254 : decode cX12_init 254 = .ok (.newarray .int, 2) := by decide +kernel
theorem dX12_init_256 : decode cX12_init 256 = .ok (.putfield 103, 3) := by decide +kernel
theorem dX12_init_259 : decode cX12_init 259 = .ok (.aload_n 0, 1) := by decide +kernel
theorem dX12_init_260 : decode cX12_init 260 = .ok (.bipush 12, 2) := by decide +kernel
theorem dX12_init_262 : decode cX12_init 262 = .ok (.newarray .int, 2) := by decide +kernel
theorem dX12_init_264 : decode cX12_init 264 = .ok (.putfield 106, 3) := by decide +kernel
theorem dX12_init_267 : decode cX12_init 267 = .ok (.aload_n 0, 1) := by decide +kernel
theorem dX12_init_268 : decode cX12_init 268 = .ok (.bipush 12, 2) := by decide +kernel
theorem dX12_init_270 : decode cX12_init 270 = .ok (.newarray .int, 2) := by decide +kernel
theorem dX12_init_272 : decode cX12_init 272 = .ok (.putfield 109, 3) := by decide +kernel
theorem dX12_init_275 : decode cX12_init 275 = .ok (.aload_n 0, 1) := by decide +kernel
theorem dX12_init_276 : decode cX12_init 276 = .ok (.bipush 12, 2) := by decide +kernel
theorem dX12_init_278 : decode cX12_init 278 = .ok (.newarray .int, 2) := by decide +kernel
theorem dX12_init_280 : decode cX12_init 280 = .ok (.putfield 112, 3) := by decide +kernel
theorem dX12_init_283 : decode cX12_init 283 = .ok (.aload_n 0, 1) := by decide +kernel
theorem dX12_init_284 : decode cX12_init 284 = .ok (.sipush 11520, 3) := by decide +kernel
theorem dX12_init_287 : decode cX12_init 287 = .ok (.newarray .int, 2) := by decide +kernel
theorem dX12_init_289 : decode cX12_init 289 = .ok (.putfield 115, 3) := by decide +kernel
theorem dX12_init_292 : decode cX12_init 292 = .ok (.aload_n 0, 1) := by decide +kernel
theorem dX12_init_293 : decode cX12_init 293 = .ok (.sipush 1920, 3) := by decide +kernel
theorem dX12_init_296 : decode cX12_init 296 = .ok (.newarray .int, 2) := by decide +kernel
theorem dX12_init_298 : decode cX12_init 298 = .ok (.putfield 118, 3) := by decide +kernel
theorem dX12_init_301 : decode cX12_init 301 = .ok (.iconst 0, 1) := by decide +kernel
theorem dX12_init_302 : decode cX12_init 302 = .ok (.istore_n 1, 1) := by decide +kernel
theorem dX12_init_303 : decode cX12_init 303 = .ok (.iload_n 1, 1) := by decide +kernel
theorem dX12_init_304 : decode cX12_init 304 = .ok (.sipush 960, 3) := by decide +kernel
theorem dX12_init_307 : decode cX12_init 307 = .ok (.if_icmp .ge 16, 3) := by decide +kernel
theorem dX12_init_310 : decode cX12_init 310 = .ok (.aload_n 0, 1) := by decide +kernel
theorem dX12_init_311 : decode cX12_init 311 = .ok (.getfield 31, 3) := by decide +kernel
theorem dX12_init_314 : decode cX12_init 314 = .ok (.iload_n 1, 1) := by decide +kernel
theorem dX12_init_315 : decode cX12_init 315 = .ok (.iconst (-1), 1) := by decide +kernel
theorem dX12_init_316 : decode cX12_init 316 = .ok (.iastore, 1) := by decide +kernel
theorem dX12_init_317 : decode cX12_init 317 = .ok (.iinc 1 1, 3) := by decide +kernel
theorem dX12_init_320 : decode cX12_init 320 = .ok (.goto (-17), 3) := by decide +kernel
theorem dX12_init_323 : decode cX12_init 323 = .ok (.return_, 1) := by decide +kernel
theorem dX12_thrown_0 : decode cX12_thrown 0 = .ok (.aload_n 0, 1) := by decide +kernel
theorem dX12_thrown_1 : decode cX12_thrown 1 = .ok (.getfield 121, 3) := by decide +kernel
theorem dX12_thrown_4 : decode cX12_thrown 4 = .ok (.ireturn, 1) := by decide +kernel
theorem dX12_holds_0 : decode cX12_holds 0 = .ok (.aload_n 0, 1) := by decide +kernel
theorem dX12_holds_1 : decode cX12_holds 1 = .ok (.iload_n 1, 1) := by decide +kernel
theorem dX12_holds_2 : decode cX12_holds 2 = .ok (.putfield 121, 3) := by decide +kernel
theorem dX12_holds_5 : decode cX12_holds 5 = .ok (.iload_n 1, 1) := by decide +kernel
theorem dX12_holds_6 : decode cX12_holds 6 = .ok (.ifCond .ne 7, 3) := by decide +kernel
theorem dX12_holds_9 : decode cX12_holds 9 = .ok (.iconst 1, 1) := by decide +kernel
theorem dX12_holds_10 : decode cX12_holds 10 = .ok (.goto 4, 3) := by decide +kernel
theorem dX12_holds_13 : decode cX12_holds 13 = .ok (.iconst 0, 1) := by decide +kernel
theorem dX12_holds_14 : decode cX12_holds 14 = .ok (.ireturn, 1) := by decide +kernel
theorem dX12_in_0 : decode cX12_in 0 = .ok (.iload_n 0, 1) := by decide +kernel
theorem dX12_in_1 : decode cX12_in 1 = .ok (.iload_n 1, 1) := by decide +kernel
theorem dX12_in_2 : decode cX12_in 2 = .ok (.if_icmp .lt 12, 3) := by decide +kernel
theorem dX12_in_5 : decode cX12_in 5 = .ok (.iload_n 0, 1) := by decide +kernel
theorem dX12_in_6 : decode cX12_in 6 = .ok (.iload_n 2, 1) := by decide +kernel
theorem dX12_in_7 : decode cX12_in 7 = .ok (.if_icmp .gt 7, 3) := by decide +kernel
theorem dX12_in_10 : decode cX12_in 10 = .ok (.iconst 1, 1) := by decide +kernel
theorem dX12_in_11 : decode cX12_in 11 = .ok (.goto 4, 3) := by decide +kernel
theorem dX12_in_14 : decode cX12_in 14 = .ok (.iconst 0, 1) := by decide +kernel
theorem dX12_in_15 : decode cX12_in 15 = .ok (.ireturn, 1) := by decide +kernel
theorem dX12_isKiosk_0 : decode cX12_isKiosk 0 = .ok (.iload_n 0, 1) := by decide +kernel
theorem dX12_isKiosk_1 : decode cX12_isKiosk 1 = .ok (.iconst 0, 1) := by decide +kernel
theorem dX12_isKiosk_2 : decode cX12_isKiosk 2 = .ok (.iconst 5, 1) := by decide +kernel
theorem dX12_isKiosk_3 : decode cX12_isKiosk 3 = .ok (.invokestatic 124, 3) := by decide +kernel
theorem dX12_isKiosk_6 : decode cX12_isKiosk 6 = .ok (.ireturn, 1) := by decide +kernel
theorem dX12_isPerson_0 : decode cX12_isPerson 0 = .ok (.iload_n 0, 1) := by decide +kernel
theorem dX12_isPerson_1 : decode cX12_isPerson 1 = .ok (.iconst 0, 1) := by decide +kernel
theorem dX12_isPerson_2 : decode cX12_isPerson 2 = .ok (.bipush 9, 2) := by decide +kernel
theorem dX12_isPerson_4 : decode cX12_isPerson 4 = .ok (.invokestatic 124, 3) := by decide +kernel
theorem dX12_isPerson_7 : decode cX12_isPerson 7 = .ok (.ireturn, 1) := by decide +kernel
theorem dX12_isPower_0 : decode cX12_isPower 0 = .ok (.iload_n 1, 1) := by decide +kernel
theorem dX12_isPower_1 : decode cX12_isPower 1 = .ok (.iconst 0, 1) := by decide +kernel
theorem dX12_isPower_2 : decode cX12_isPower 2 = .ok (.aload_n 0, 1) := by decide +kernel
theorem dX12_isPower_3 : decode cX12_isPower 3 = .ok (.getfield 128, 3) := by decide +kernel
theorem dX12_isPower_6 : decode cX12_isPower 6 = .ok (.iconst 1, 1) := by decide +kernel
theorem dX12_isPower_7 : decode cX12_isPower 7 = .ok (.isub, 1) := by decide +kernel
theorem dX12_isPower_8 : decode cX12_isPower 8 = .ok (.invokestatic 124, 3) := by decide +kernel
theorem dX12_isPower_11 : decode cX12_isPower 11 = .ok (.ireturn, 1) := by decide +kernel
theorem dX12_isRecord_0 : decode cX12_isRecord 0 = .ok (.iload_n 1, 1) := by decide +kernel
theorem dX12_isRecord_1 : decode cX12_isRecord 1 = .ok (.invokestatic 131, 3) := by decide +kernel
theorem dX12_isRecord_4 : decode cX12_isRecord 4 = .ok (.ifCond .eq 23, 3) := by decide +kernel
theorem dX12_isRecord_7 : decode cX12_isRecord 7 = .ok (.iload_n 2, 1) := by decide +kernel
theorem dX12_isRecord_8 : decode cX12_isRecord 8 = .ok (.iconst 0, 1) := by decide +kernel
theorem dX12_isRecord_9 : decode cX12_isRecord 9 = .ok (.aload_n 0, 1) := by decide +kernel
theorem dX12_isRecord_10 : decode cX12_isRecord 10 = .ok (.getfield 79, 3) := by decide +kernel
theorem dX12_isRecord_13 : decode cX12_isRecord 13 = .ok (.iload_n 1, 1) := by decide +kernel
theorem dX12_isRecord_14 : decode cX12_isRecord 14 = .ok (.iaload, 1) := by decide +kernel
theorem dX12_isRecord_15 : decode cX12_isRecord 15 = .ok (.iconst 1, 1) := by decide +kernel
theorem dX12_isRecord_16 : decode cX12_isRecord 16 = .ok (.isub, 1) := by decide +kernel
theorem dX12_isRecord_17 : decode cX12_isRecord 17 = .ok (.invokestatic 124, 3) := by decide +kernel
theorem dX12_isRecord_20 : decode cX12_isRecord 20 = .ok (.ifCond .eq 7, 3) := by decide +kernel
theorem dX12_isRecord_23 : decode cX12_isRecord 23 = .ok (.iconst 1, 1) := by decide +kernel
theorem dX12_isRecord_24 : decode cX12_isRecord 24 = .ok (.goto 4, 3) := by decide +kernel
theorem dX12_isRecord_27 : decode cX12_isRecord 27 = .ok (.iconst 0, 1) := by decide +kernel
theorem dX12_isRecord_28 : decode cX12_isRecord 28 = .ok (.ireturn, 1) := by decide +kernel
theorem dX12_many_0 : decode cX12_many 0 = .ok (.iconst 0, 1) := by decide +kernel
theorem dX12_many_1 : decode cX12_many 1 = .ok (.istore_n 1, 1) := by decide +kernel
theorem dX12_many_2 : decode cX12_many 2 = .ok (.iconst 0, 1) := by decide +kernel
theorem dX12_many_3 : decode cX12_many 3 = .ok (.istore_n 2, 1) := by decide +kernel
theorem dX12_many_4 : decode cX12_many 4 = .ok (.iload_n 2, 1) := by decide +kernel
theorem dX12_many_5 : decode cX12_many 5 = .ok (.bipush 6, 2) := by decide +kernel
theorem dX12_many_7 : decode cX12_many 7 = .ok (.if_icmp .ge 17, 3) := by decide +kernel
theorem dX12_many_10 : decode cX12_many 10 = .ok (.iload_n 1, 1) := by decide +kernel
theorem dX12_many_11 : decode cX12_many 11 = .ok (.iload_n 0, 1) := by decide +kernel
theorem dX12_many_12 : decode cX12_many 12 = .ok (.iload_n 2, 1) := by decide +kernel
theorem dX12_many_13 : decode cX12_many 13 = .ok (.ishr, 1) := by decide +kernel
theorem dX12_many_14 : decode cX12_many 14 = .ok (.iconst 1, 1) := by decide +kernel
theorem dX12_many_15 : decode cX12_many 15 = .ok (.iand, 1) := by decide +kernel
theorem dX12_many_16 : decode cX12_many 16 = .ok (.iadd, 1) := by decide +kernel
theorem dX12_many_17 : decode cX12_many 17 = .ok (.istore_n 1, 1) := by decide +kernel
theorem dX12_many_18 : decode cX12_many 18 = .ok (.iinc 2 1, 3) := by decide +kernel
theorem dX12_many_21 : decode cX12_many 21 = .ok (.goto (-17), 3) := by decide +kernel
theorem dX12_many_24 : decode cX12_many 24 = .ok (.iload_n 1, 1) := by decide +kernel
theorem dX12_many_25 : decode cX12_many 25 = .ok (.ireturn, 1) := by decide +kernel
theorem dX12_errorOfLink_0 : decode cX12_errorOfLink 0 = .ok (.iload_n 1, 1) := by decide +kernel
theorem dX12_errorOfLink_1 : decode cX12_errorOfLink 1 = .ok (.invokestatic 131, 3) := by decide +kernel
theorem dX12_errorOfLink_4 : decode cX12_errorOfLink 4 = .ok (.ifCond .eq 10, 3) := by decide +kernel
theorem dX12_errorOfLink_7 : decode cX12_errorOfLink 7 = .ok (.iload_n 2, 1) := by decide +kernel
theorem dX12_errorOfLink_8 : decode cX12_errorOfLink 8 = .ok (.invokestatic 131, 3) := by decide +kernel
theorem dX12_errorOfLink_11 : decode cX12_errorOfLink 11 = .ok (.ifCond .ne 5, 3) := by decide +kernel
theorem dX12_errorOfLink_14 : decode cX12_errorOfLink 14 = .ok (.iconst 1, 1) := by decide +kernel
theorem dX12_errorOfLink_15 : decode cX12_errorOfLink 15 = .ok (.ireturn, 1) := by decide +kernel
theorem dX12_errorOfLink_16 : decode cX12_errorOfLink 16 = .ok (.iload_n 1, 1) := by decide +kernel
theorem dX12_errorOfLink_17 : decode cX12_errorOfLink 17 = .ok (.iload_n 2, 1) := by decide +kernel
theorem dX12_errorOfLink_18 : decode cX12_errorOfLink 18 = .ok (.if_icmp .ne 7, 3) := by decide +kernel
theorem dX12_errorOfLink_21 : decode cX12_errorOfLink 21 = .ok (.iconst 2, 1) := by decide +kernel
theorem dX12_errorOfLink_22 : decode cX12_errorOfLink 22 = .ok (.goto 22, 3) := by decide +kernel
theorem dX12_errorOfLink_25 : decode cX12_errorOfLink 25 = .ok (.aload_n 0, 1) := by decide +kernel
theorem dX12_errorOfLink_26 : decode cX12_errorOfLink 26 = .ok (.getfield 7, 3) := by decide +kernel
theorem dX12_errorOfLink_29 : decode cX12_errorOfLink 29 = .ok (.iload_n 1, 1) := by decide +kernel
theorem dX12_errorOfLink_30 : decode cX12_errorOfLink 30 = .ok (.iaload, 1) := by decide +kernel
theorem dX12_errorOfLink_31 : decode cX12_errorOfLink 31 = .ok (.iload_n 2, 1) := by decide +kernel
theorem dX12_errorOfLink_32 : decode cX12_errorOfLink 32 = .ok (.ishr, 1) := by decide +kernel
theorem dX12_errorOfLink_33 : decode cX12_errorOfLink 33 = .ok (.iconst 1, 1) := by decide +kernel
theorem dX12_errorOfLink_34 : decode cX12_errorOfLink 34 = .ok (.iand, 1) := by decide +kernel
theorem dX12_errorOfLink_35 : decode cX12_errorOfLink 35 = .ok (.iload_n 3, 1) := by decide +kernel
theorem dX12_errorOfLink_36 : decode cX12_errorOfLink 36 = .ok (.if_icmp .ne 7, 3) := by decide +kernel
theorem dX12_errorOfLink_39 : decode cX12_errorOfLink 39 = .ok (.iconst 3, 1) := by decide +kernel
theorem dX12_errorOfLink_40 : decode cX12_errorOfLink 40 = .ok (.goto 4, 3) := by decide +kernel
theorem dX12_errorOfLink_43 : decode cX12_errorOfLink 43 = .ok (.iconst 0, 1) := by decide +kernel
theorem dX12_errorOfLink_44 : decode cX12_errorOfLink 44 = .ok (.ireturn, 1) := by decide +kernel
theorem dX12_turns_0 : decode cX12_turns 0 = .ok (.aload_n 0, 1) := by decide +kernel
theorem dX12_turns_1 : decode cX12_turns 1 = .ok (.getfield 7, 3) := by decide +kernel
theorem dX12_turns_4 : decode cX12_turns 4 = .ok (.iload_n 1, 1) := by decide +kernel
theorem dX12_turns_5 : decode cX12_turns 5 = .ok (.dup2, 1) := by decide +kernel
theorem dX12_turns_6 : decode cX12_turns 6 = .ok (.iaload, 1) := by decide +kernel
theorem dX12_turns_7 : decode cX12_turns 7 = .ok (.iconst 1, 1) := by decide +kernel
theorem dX12_turns_8 : decode cX12_turns 8 = .ok (.iload_n 2, 1) := by decide +kernel
theorem dX12_turns_9 : decode cX12_turns 9 = .ok (.ishl, 1) := by decide +kernel
theorem dX12_turns_10 : decode cX12_turns 10 = .ok (.ixor, 1) := by decide +kernel
theorem dX12_turns_11 : decode cX12_turns 11 = .ok (.iastore, 1) := by decide +kernel
theorem dX12_turns_12 : decode cX12_turns 12 = .ok (.aload_n 0, 1) := by decide +kernel
theorem dX12_turns_13 : decode cX12_turns 13 = .ok (.getfield 7, 3) := by decide +kernel
theorem dX12_turns_16 : decode cX12_turns 16 = .ok (.iload_n 2, 1) := by decide +kernel
theorem dX12_turns_17 : decode cX12_turns 17 = .ok (.dup2, 1) := by decide +kernel
theorem dX12_turns_18 : decode cX12_turns 18 = .ok (.iaload, 1) := by decide +kernel
theorem dX12_turns_19 : decode cX12_turns 19 = .ok (.iconst 1, 1) := by decide +kernel
theorem dX12_turns_20 : decode cX12_turns 20 = .ok (.iload_n 1, 1) := by decide +kernel
theorem dX12_turns_21 : decode cX12_turns 21 = .ok (.ishl, 1) := by decide +kernel
theorem dX12_turns_22 : decode cX12_turns 22 = .ok (.ixor, 1) := by decide +kernel
theorem dX12_turns_23 : decode cX12_turns 23 = .ok (.iastore, 1) := by decide +kernel
theorem dX12_turns_24 : decode cX12_turns 24 = .ok (.aload_n 0, 1) := by decide +kernel
theorem dX12_turns_25 : decode cX12_turns 25 = .ok (.getfield 7, 3) := by decide +kernel
theorem dX12_turns_28 : decode cX12_turns 28 = .ok (.iload_n 1, 1) := by decide +kernel
theorem dX12_turns_29 : decode cX12_turns 29 = .ok (.iaload, 1) := by decide +kernel
theorem dX12_turns_30 : decode cX12_turns 30 = .ok (.invokestatic 135, 3) := by decide +kernel
theorem dX12_turns_33 : decode cX12_turns 33 = .ok (.ireturn, 1) := by decide +kernel
theorem dX12_join_0 : decode cX12_join 0 = .ok (.aload_n 0, 1) := by decide +kernel
theorem dX12_join_1 : decode cX12_join 1 = .ok (.aload_n 0, 1) := by decide +kernel
theorem dX12_join_2 : decode cX12_join 2 = .ok (.iload_n 1, 1) := by decide +kernel
theorem dX12_join_3 : decode cX12_join 3 = .ok (.iload_n 2, 1) := by decide +kernel
theorem dX12_join_4 : decode cX12_join 4 = .ok (.iconst 1, 1) := by decide +kernel
theorem dX12_join_5 : decode cX12_join 5 = .ok (.invokevirtual 139, 3) := by decide +kernel
theorem dX12_join_8 : decode cX12_join 8 = .ok (.invokevirtual 143, 3) := by decide +kernel
theorem dX12_join_11 : decode cX12_join 11 = .ok (.ifCond .eq 12, 3) := by decide +kernel
theorem dX12_join_14 : decode cX12_join 14 = .ok (.aload_n 0, 1) := by decide +kernel
theorem dX12_join_15 : decode cX12_join 15 = .ok (.iload_n 1, 1) := by decide +kernel
theorem dX12_join_16 : decode cX12_join 16 = .ok (.iload_n 2, 1) := by decide +kernel
theorem dX12_join_17 : decode cX12_join 17 = .ok (.invokevirtual 146, 3) := by decide +kernel
theorem dX12_join_20 : decode cX12_join 20 = .ok (.goto 4, 3) := by decide +kernel
theorem dX12_join_23 : decode cX12_join 23 = .ok (.iconst 0, 1) := by decide +kernel
theorem dX12_join_24 : decode cX12_join 24 = .ok (.ireturn, 1) := by decide +kernel
theorem dX12_cut_0 : decode cX12_cut 0 = .ok (.aload_n 0, 1) := by decide +kernel
theorem dX12_cut_1 : decode cX12_cut 1 = .ok (.aload_n 0, 1) := by decide +kernel
theorem dX12_cut_2 : decode cX12_cut 2 = .ok (.iload_n 1, 1) := by decide +kernel
theorem dX12_cut_3 : decode cX12_cut 3 = .ok (.iload_n 2, 1) := by decide +kernel
theorem dX12_cut_4 : decode cX12_cut 4 = .ok (.iconst 0, 1) := by decide +kernel
theorem dX12_cut_5 : decode cX12_cut 5 = .ok (.invokevirtual 139, 3) := by decide +kernel
theorem dX12_cut_8 : decode cX12_cut 8 = .ok (.invokevirtual 143, 3) := by decide +kernel
theorem dX12_cut_11 : decode cX12_cut 11 = .ok (.ifCond .eq 12, 3) := by decide +kernel
theorem dX12_cut_14 : decode cX12_cut 14 = .ok (.aload_n 0, 1) := by decide +kernel
theorem dX12_cut_15 : decode cX12_cut 15 = .ok (.iload_n 1, 1) := by decide +kernel
theorem dX12_cut_16 : decode cX12_cut 16 = .ok (.iload_n 2, 1) := by decide +kernel
theorem dX12_cut_17 : decode cX12_cut 17 = .ok (.invokevirtual 146, 3) := by decide +kernel
theorem dX12_cut_20 : decode cX12_cut 20 = .ok (.goto 4, 3) := by decide +kernel
theorem dX12_cut_23 : decode cX12_cut 23 = .ok (.iconst 0, 1) := by decide +kernel
theorem dX12_cut_24 : decode cX12_cut 24 = .ok (.ireturn, 1) := by decide +kernel
theorem dX12_goesOn_0 : decode cX12_goesOn 0 = .ok (.iconst 0, 1) := by decide +kernel
theorem dX12_goesOn_1 : decode cX12_goesOn 1 = .ok (.istore_n 2, 1) := by decide +kernel
theorem dX12_goesOn_2 : decode cX12_goesOn 2 = .ok (.iconst 0, 1) := by decide +kernel
theorem dX12_goesOn_3 : decode cX12_goesOn 3 = .ok (.istore_n 3, 1) := by decide +kernel
theorem dX12_goesOn_4 : decode cX12_goesOn 4 = .ok (.iload_n 3, 1) := by decide +kernel
theorem dX12_goesOn_5 : decode cX12_goesOn 5 = .ok (.bipush 36, 2) := by decide +kernel
theorem dX12_goesOn_7 : decode cX12_goesOn 7 = .ok (.if_icmp .ge 110, 3) := by decide +kernel
theorem dX12_goesOn_10 : decode cX12_goesOn 10 = .ok (.sipush 160, 3) := by decide +kernel
theorem dX12_goesOn_13 : decode cX12_goesOn 13 = .ok (.iload_n 3, 1) := by decide +kernel
theorem dX12_goesOn_14 : decode cX12_goesOn 14 = .ok (.bipush 6, 2) := by decide +kernel
theorem dX12_goesOn_16 : decode cX12_goesOn 16 = .ok (.idiv, 1) := by decide +kernel
theorem dX12_goesOn_17 : decode cX12_goesOn 17 = .ok (.imul, 1) := by decide +kernel
theorem dX12_goesOn_18 : decode cX12_goesOn 18 = .ok (.iload_n 1, 1) := by decide +kernel
theorem dX12_goesOn_19 : decode cX12_goesOn 19 = .ok (.iadd, 1) := by decide +kernel
theorem dX12_goesOn_20 : decode cX12_goesOn 20 = .ok (.istore 4, 2) := by decide +kernel
theorem dX12_goesOn_22 : decode cX12_goesOn 22 = .ok (.sipush 160, 3) := by decide +kernel
theorem dX12_goesOn_25 : decode cX12_goesOn 25 = .ok (.iload_n 3, 1) := by decide +kernel
theorem dX12_goesOn_26 : decode cX12_goesOn 26 = .ok (.bipush 6, 2) := by decide +kernel
theorem dX12_goesOn_28 : decode cX12_goesOn 28 = .ok (.irem, 1) := by decide +kernel
theorem dX12_goesOn_29 : decode cX12_goesOn 29 = .ok (.imul, 1) := by decide +kernel
theorem dX12_goesOn_30 : decode cX12_goesOn 30 = .ok (.iload_n 1, 1) := by decide +kernel
theorem dX12_goesOn_31 : decode cX12_goesOn 31 = .ok (.iadd, 1) := by decide +kernel
theorem dX12_goesOn_32 : decode cX12_goesOn 32 = .ok (.istore 5, 2) := by decide +kernel
theorem dX12_goesOn_34 : decode cX12_goesOn 34 = .ok (.aload_n 0, 1) := by decide +kernel
theorem dX12_goesOn_35 : decode cX12_goesOn 35 = .ok (.getfield 7, 3) := by decide +kernel
theorem dX12_goesOn_38 : decode cX12_goesOn 38 = .ok (.iload_n 3, 1) := by decide +kernel
theorem dX12_goesOn_39 : decode cX12_goesOn 39 = .ok (.bipush 6, 2) := by decide +kernel
theorem dX12_goesOn_41 : decode cX12_goesOn 41 = .ok (.idiv, 1) := by decide +kernel
theorem dX12_goesOn_42 : decode cX12_goesOn 42 = .ok (.iaload, 1) := by decide +kernel
theorem dX12_goesOn_43 : decode cX12_goesOn 43 = .ok (.iload_n 3, 1) := by decide +kernel
theorem dX12_goesOn_44 : decode cX12_goesOn 44 = .ok (.bipush 6, 2) := by decide +kernel
theorem dX12_goesOn_46 : decode cX12_goesOn 46 = .ok (.irem, 1) := by decide +kernel
theorem dX12_goesOn_47 : decode cX12_goesOn 47 = .ok (.ishr, 1) := by decide +kernel
theorem dX12_goesOn_48 : decode cX12_goesOn 48 = .ok (.iconst 1, 1) := by decide +kernel
theorem dX12_goesOn_49 : decode cX12_goesOn 49 = .ok (.iand, 1) := by decide +kernel
theorem dX12_goesOn_50 : decode cX12_goesOn 50 = .ok (.iconst 1, 1) := by decide +kernel
theorem dX12_goesOn_51 : decode cX12_goesOn 51 = .ok (.if_icmp .ne 7, 3) := by decide +kernel
theorem dX12_goesOn_54 : decode cX12_goesOn 54 = .ok (.iconst 1, 1) := by decide +kernel
theorem dX12_goesOn_55 : decode cX12_goesOn 55 = .ok (.goto 4, 3) := by decide +kernel
theorem dX12_goesOn_58 : decode cX12_goesOn 58 = .ok (.iconst 0, 1) := by decide +kernel
theorem dX12_goesOn_59 : decode cX12_goesOn 59 = .ok (.istore 6, 2) := by decide +kernel
theorem dX12_goesOn_61 : decode cX12_goesOn 61 = .ok (.iload 6, 2) := by decide +kernel
theorem dX12_goesOn_63 : decode cX12_goesOn 63 = .ok (.ifCond .eq 48, 3) := by decide +kernel
theorem dX12_goesOn_66 : decode cX12_goesOn 66 = .ok (.aload_n 0, 1) := by decide +kernel
theorem dX12_goesOn_67 : decode cX12_goesOn 67 = .ok (.getfield 31, 3) := by decide +kernel
theorem dX12_goesOn_70 : decode cX12_goesOn 70 = .ok (.iload 5, 2) := by decide +kernel
theorem dX12_goesOn_72 : decode cX12_goesOn 72 = .ok (.iaload, 1) := by decide +kernel
theorem dX12_goesOn_73 : decode cX12_goesOn 73 = .ok (.iconst (-1), 1) := by decide +kernel
theorem dX12_goesOn_74 : decode cX12_goesOn 74 = .ok (.if_icmp .ne 37, 3) := by decide +kernel
theorem dX12_goesOn_77 : decode cX12_goesOn 77 = .ok (.aload_n 0, 1) := by decide +kernel
theorem dX12_goesOn_78 : decode cX12_goesOn 78 = .ok (.getfield 31, 3) := by decide +kernel
theorem dX12_goesOn_81 : decode cX12_goesOn 81 = .ok (.iload 4, 2) := by decide +kernel
theorem dX12_goesOn_83 : decode cX12_goesOn 83 = .ok (.iaload, 1) := by decide +kernel
theorem dX12_goesOn_84 : decode cX12_goesOn 84 = .ok (.iconst 0, 1) := by decide +kernel
theorem dX12_goesOn_85 : decode cX12_goesOn 85 = .ok (.aload_n 0, 1) := by decide +kernel
theorem dX12_goesOn_86 : decode cX12_goesOn 86 = .ok (.getfield 150, 3) := by decide +kernel
theorem dX12_goesOn_89 : decode cX12_goesOn 89 = .ok (.iconst 1, 1) := by decide +kernel
theorem dX12_goesOn_90 : decode cX12_goesOn 90 = .ok (.isub, 1) := by decide +kernel
theorem dX12_goesOn_91 : decode cX12_goesOn 91 = .ok (.invokestatic 124, 3) := by decide +kernel
theorem dX12_goesOn_94 : decode cX12_goesOn 94 = .ok (.ifCond .eq 17, 3) := by decide +kernel
theorem dX12_goesOn_97 : decode cX12_goesOn 97 = .ok (.aload_n 0, 1) := by decide +kernel
theorem dX12_goesOn_98 : decode cX12_goesOn 98 = .ok (.getfield 31, 3) := by decide +kernel
theorem dX12_goesOn_101 : decode cX12_goesOn 101 = .ok (.iload 5, 2) := by decide +kernel
theorem dX12_goesOn_103 : decode cX12_goesOn 103 = .ok (.aload_n 0, 1) := by decide +kernel
theorem dX12_goesOn_104 : decode cX12_goesOn 104 = .ok (.getfield 150, 3) := by decide +kernel
theorem dX12_goesOn_107 : decode cX12_goesOn 107 = .ok (.iastore, 1) := by decide +kernel
theorem dX12_goesOn_108 : decode cX12_goesOn 108 = .ok (.iinc 2 1, 3) := by decide +kernel
theorem dX12_goesOn_111 : decode cX12_goesOn 111 = .ok (.iinc 3 1, 3) := by decide +kernel
theorem dX12_goesOn_114 : decode cX12_goesOn 114 = .ok (.goto (-110), 3) := by decide +kernel
theorem dX12_goesOn_117 : decode cX12_goesOn 117 = .ok (.iload_n 2, 1) := by decide +kernel
theorem dX12_goesOn_118 : decode cX12_goesOn 118 = .ok (.ireturn, 1) := by decide +kernel
theorem dX12_pass_0 : decode cX12_pass 0 = .ok (.aload_n 0, 1) := by decide +kernel
theorem dX12_pass_1 : decode cX12_pass 1 = .ok (.iload_n 1, 1) := by decide +kernel
theorem dX12_pass_2 : decode cX12_pass 2 = .ok (.iconst 1, 1) := by decide +kernel
theorem dX12_pass_3 : decode cX12_pass 3 = .ok (.bipush 50, 2) := by decide +kernel
theorem dX12_pass_5 : decode cX12_pass 5 = .ok (.invokestatic 124, 3) := by decide +kernel
theorem dX12_pass_8 : decode cX12_pass 8 = .ok (.ifCond .ne 7, 3) := by decide +kernel
theorem dX12_pass_11 : decode cX12_pass 11 = .ok (.iconst 1, 1) := by decide +kernel
theorem dX12_pass_12 : decode cX12_pass 12 = .ok (.goto 20, 3) := by decide +kernel
theorem dX12_pass_15 : decode cX12_pass 15 = .ok (.aload_n 0, 1) := by decide +kernel
theorem dX12_pass_16 : decode cX12_pass 16 = .ok (.getfield 150, 3) := by decide +kernel
theorem dX12_pass_19 : decode cX12_pass 19 = .ok (.iload_n 1, 1) := by decide +kernel
theorem dX12_pass_20 : decode cX12_pass 20 = .ok (.iadd, 1) := by decide +kernel
theorem dX12_pass_21 : decode cX12_pass 21 = .ok (.sipush 400, 3) := by decide +kernel
theorem dX12_pass_24 : decode cX12_pass 24 = .ok (.if_icmp .le 7, 3) := by decide +kernel
theorem dX12_pass_27 : decode cX12_pass 27 = .ok (.iconst 2, 1) := by decide +kernel
theorem dX12_pass_28 : decode cX12_pass 28 = .ok (.goto 4, 3) := by decide +kernel
theorem dX12_pass_31 : decode cX12_pass 31 = .ok (.iconst 0, 1) := by decide +kernel
theorem dX12_pass_32 : decode cX12_pass 32 = .ok (.invokevirtual 143, 3) := by decide +kernel
theorem dX12_pass_35 : decode cX12_pass 35 = .ok (.ifCond .ne 5, 3) := by decide +kernel
theorem dX12_pass_38 : decode cX12_pass 38 = .ok (.iconst 0, 1) := by decide +kernel
theorem dX12_pass_39 : decode cX12_pass 39 = .ok (.ireturn, 1) := by decide +kernel
theorem dX12_pass_40 : decode cX12_pass 40 = .ok (.iconst 0, 1) := by decide +kernel
theorem dX12_pass_41 : decode cX12_pass 41 = .ok (.istore_n 2, 1) := by decide +kernel
theorem dX12_pass_42 : decode cX12_pass 42 = .ok (.iconst 0, 1) := by decide +kernel
theorem dX12_pass_43 : decode cX12_pass 43 = .ok (.istore_n 3, 1) := by decide +kernel
theorem dX12_pass_44 : decode cX12_pass 44 = .ok (.iload_n 3, 1) := by decide +kernel
theorem dX12_pass_45 : decode cX12_pass 45 = .ok (.iload_n 1, 1) := by decide +kernel
theorem dX12_pass_46 : decode cX12_pass 46 = .ok (.if_icmp .ge 46, 3) := by decide +kernel
theorem dX12_pass_49 : decode cX12_pass 49 = .ok (.aload_n 0, 1) := by decide +kernel
theorem dX12_pass_50 : decode cX12_pass 50 = .ok (.dup, 1) := by decide +kernel
theorem dX12_pass_51 : decode cX12_pass 51 = .ok (.getfield 150, 3) := by decide +kernel
theorem dX12_pass_54 : decode cX12_pass 54 = .ok (.iconst 1, 1) := by decide +kernel
theorem dX12_pass_55 : decode cX12_pass 55 = .ok (.iadd, 1) := by decide +kernel
theorem dX12_pass_56 : decode cX12_pass 56 = .ok (.putfield 150, 3) := by decide +kernel
theorem dX12_pass_59 : decode cX12_pass 59 = .ok (.iconst 0, 1) := by decide +kernel
theorem dX12_pass_60 : decode cX12_pass 60 = .ok (.istore 4, 2) := by decide +kernel
theorem dX12_pass_62 : decode cX12_pass 62 = .ok (.iload 4, 2) := by decide +kernel
theorem dX12_pass_64 : decode cX12_pass 64 = .ok (.aload_n 0, 1) := by decide +kernel
theorem dX12_pass_65 : decode cX12_pass 65 = .ok (.getfield 153, 3) := by decide +kernel
theorem dX12_pass_68 : decode cX12_pass 68 = .ok (.if_icmp .ge 18, 3) := by decide +kernel
theorem dX12_pass_71 : decode cX12_pass 71 = .ok (.iload_n 2, 1) := by decide +kernel
theorem dX12_pass_72 : decode cX12_pass 72 = .ok (.aload_n 0, 1) := by decide +kernel
theorem dX12_pass_73 : decode cX12_pass 73 = .ok (.iload 4, 2) := by decide +kernel
theorem dX12_pass_75 : decode cX12_pass 75 = .ok (.invokevirtual 156, 3) := by decide +kernel
theorem dX12_pass_78 : decode cX12_pass 78 = .ok (.iadd, 1) := by decide +kernel
theorem dX12_pass_79 : decode cX12_pass 79 = .ok (.istore_n 2, 1) := by decide +kernel
theorem dX12_pass_80 : decode cX12_pass 80 = .ok (.iinc 4 1, 3) := by decide +kernel
theorem dX12_pass_83 : decode cX12_pass 83 = .ok (.goto (-21), 3) := by decide +kernel
theorem dX12_pass_86 : decode cX12_pass 86 = .ok (.iinc 3 1, 3) := by decide +kernel
theorem dX12_pass_89 : decode cX12_pass 89 = .ok (.goto (-45), 3) := by decide +kernel
theorem dX12_pass_92 : decode cX12_pass 92 = .ok (.iload_n 2, 1) := by decide +kernel
theorem dX12_pass_93 : decode cX12_pass 93 = .ok (.ireturn, 1) := by decide +kernel
theorem dX12_unread_0 : decode cX12_unread 0 = .ok (.iconst 0, 1) := by decide +kernel
theorem dX12_unread_1 : decode cX12_unread 1 = .ok (.istore_n 2, 1) := by decide +kernel
theorem dX12_unread_2 : decode cX12_unread 2 = .ok (.iconst 0, 1) := by decide +kernel
theorem dX12_unread_3 : decode cX12_unread 3 = .ok (.istore_n 3, 1) := by decide +kernel
theorem dX12_unread_4 : decode cX12_unread 4 = .ok (.iload_n 3, 1) := by decide +kernel
theorem dX12_unread_5 : decode cX12_unread 5 = .ok (.aload_n 0, 1) := by decide +kernel
theorem dX12_unread_6 : decode cX12_unread 6 = .ok (.getfield 153, 3) := by decide +kernel
theorem dX12_unread_9 : decode cX12_unread 9 = .ok (.if_icmp .ge 48, 3) := by decide +kernel
theorem dX12_unread_12 : decode cX12_unread 12 = .ok (.iload_n 2, 1) := by decide +kernel
theorem dX12_unread_13 : decode cX12_unread 13 = .ok (.aload_n 0, 1) := by decide +kernel
theorem dX12_unread_14 : decode cX12_unread 14 = .ok (.getfield 31, 3) := by decide +kernel
theorem dX12_unread_17 : decode cX12_unread 17 = .ok (.sipush 160, 3) := by decide +kernel
theorem dX12_unread_20 : decode cX12_unread 20 = .ok (.iload_n 1, 1) := by decide +kernel
theorem dX12_unread_21 : decode cX12_unread 21 = .ok (.imul, 1) := by decide +kernel
theorem dX12_unread_22 : decode cX12_unread 22 = .ok (.iload_n 3, 1) := by decide +kernel
theorem dX12_unread_23 : decode cX12_unread 23 = .ok (.iadd, 1) := by decide +kernel
theorem dX12_unread_24 : decode cX12_unread 24 = .ok (.iaload, 1) := by decide +kernel
theorem dX12_unread_25 : decode cX12_unread 25 = .ok (.iconst (-1), 1) := by decide +kernel
theorem dX12_unread_26 : decode cX12_unread 26 = .ok (.if_icmp .eq 22, 3) := by decide +kernel
theorem dX12_unread_29 : decode cX12_unread 29 = .ok (.aload_n 0, 1) := by decide +kernel
theorem dX12_unread_30 : decode cX12_unread 30 = .ok (.getfield 34, 3) := by decide +kernel
theorem dX12_unread_33 : decode cX12_unread 33 = .ok (.sipush 160, 3) := by decide +kernel
theorem dX12_unread_36 : decode cX12_unread 36 = .ok (.iload_n 1, 1) := by decide +kernel
theorem dX12_unread_37 : decode cX12_unread 37 = .ok (.imul, 1) := by decide +kernel
theorem dX12_unread_38 : decode cX12_unread 38 = .ok (.iload_n 3, 1) := by decide +kernel
theorem dX12_unread_39 : decode cX12_unread 39 = .ok (.iadd, 1) := by decide +kernel
theorem dX12_unread_40 : decode cX12_unread 40 = .ok (.baload, 1) := by decide +kernel
theorem dX12_unread_41 : decode cX12_unread 41 = .ok (.ifCond .ne 7, 3) := by decide +kernel
theorem dX12_unread_44 : decode cX12_unread 44 = .ok (.iconst 1, 1) := by decide +kernel
theorem dX12_unread_45 : decode cX12_unread 45 = .ok (.goto 4, 3) := by decide +kernel
theorem dX12_unread_48 : decode cX12_unread 48 = .ok (.iconst 0, 1) := by decide +kernel
theorem dX12_unread_49 : decode cX12_unread 49 = .ok (.iadd, 1) := by decide +kernel
theorem dX12_unread_50 : decode cX12_unread 50 = .ok (.istore_n 2, 1) := by decide +kernel
theorem dX12_unread_51 : decode cX12_unread 51 = .ok (.iinc 3 1, 3) := by decide +kernel
theorem dX12_unread_54 : decode cX12_unread 54 = .ok (.goto (-50), 3) := by decide +kernel
theorem dX12_unread_57 : decode cX12_unread 57 = .ok (.iload_n 2, 1) := by decide +kernel
theorem dX12_unread_58 : decode cX12_unread 58 = .ok (.ireturn, 1) := by decide +kernel
theorem dX12_read_0 : decode cX12_read 0 = .ok (.aload_n 0, 1) := by decide +kernel
theorem dX12_read_1 : decode cX12_read 1 = .ok (.iload_n 1, 1) := by decide +kernel
theorem dX12_read_2 : decode cX12_read 2 = .ok (.invokestatic 131, 3) := by decide +kernel
theorem dX12_read_5 : decode cX12_read 5 = .ok (.ifCond .eq 7, 3) := by decide +kernel
theorem dX12_read_8 : decode cX12_read 8 = .ok (.iconst 0, 1) := by decide +kernel
theorem dX12_read_9 : decode cX12_read 9 = .ok (.goto 4, 3) := by decide +kernel
theorem dX12_read_12 : decode cX12_read 12 = .ok (.iconst 1, 1) := by decide +kernel
theorem dX12_read_13 : decode cX12_read 13 = .ok (.invokevirtual 143, 3) := by decide +kernel
theorem dX12_read_16 : decode cX12_read 16 = .ok (.ifCond .ne 5, 3) := by decide +kernel
theorem dX12_read_19 : decode cX12_read 19 = .ok (.iconst 0, 1) := by decide +kernel
theorem dX12_read_20 : decode cX12_read 20 = .ok (.ireturn, 1) := by decide +kernel
theorem dX12_read_21 : decode cX12_read 21 = .ok (.aload_n 0, 1) := by decide +kernel
theorem dX12_read_22 : decode cX12_read 22 = .ok (.iload_n 1, 1) := by decide +kernel
theorem dX12_read_23 : decode cX12_read 23 = .ok (.invokevirtual 159, 3) := by decide +kernel
theorem dX12_read_26 : decode cX12_read 26 = .ok (.istore_n 2, 1) := by decide +kernel
theorem dX12_read_27 : decode cX12_read 27 = .ok (.iconst 0, 1) := by decide +kernel
theorem dX12_read_28 : decode cX12_read 28 = .ok (.istore_n 3, 1) := by decide +kernel
theorem dX12_read_29 : decode cX12_read 29 = .ok (.iload_n 3, 1) := by decide +kernel
theorem dX12_read_30 : decode cX12_read 30 = .ok (.aload_n 0, 1) := by decide +kernel
theorem dX12_read_31 : decode cX12_read 31 = .ok (.getfield 153, 3) := by decide +kernel
theorem dX12_read_34 : decode cX12_read 34 = .ok (.if_icmp .ge 42, 3) := by decide +kernel
theorem dX12_read_37 : decode cX12_read 37 = .ok (.aload_n 0, 1) := by decide +kernel
theorem dX12_read_38 : decode cX12_read 38 = .ok (.getfield 34, 3) := by decide +kernel
theorem dX12_read_41 : decode cX12_read 41 = .ok (.sipush 160, 3) := by decide +kernel
theorem dX12_read_44 : decode cX12_read 44 = .ok (.iload_n 1, 1) := by decide +kernel
theorem dX12_read_45 : decode cX12_read 45 = .ok (.imul, 1) := by decide +kernel
theorem dX12_read_46 : decode cX12_read 46 = .ok (.iload_n 3, 1) := by decide +kernel
theorem dX12_read_47 : decode cX12_read 47 = .ok (.iadd, 1) := by decide +kernel
theorem dX12_read_48 : decode cX12_read 48 = .ok (.aload_n 0, 1) := by decide +kernel
theorem dX12_read_49 : decode cX12_read 49 = .ok (.getfield 31, 3) := by decide +kernel
theorem dX12_read_52 : decode cX12_read 52 = .ok (.sipush 160, 3) := by decide +kernel
theorem dX12_read_55 : decode cX12_read 55 = .ok (.iload_n 1, 1) := by decide +kernel
theorem dX12_read_56 : decode cX12_read 56 = .ok (.imul, 1) := by decide +kernel
theorem dX12_read_57 : decode cX12_read 57 = .ok (.iload_n 3, 1) := by decide +kernel
theorem dX12_read_58 : decode cX12_read 58 = .ok (.iadd, 1) := by decide +kernel
theorem dX12_read_59 : decode cX12_read 59 = .ok (.iaload, 1) := by decide +kernel
theorem dX12_read_60 : decode cX12_read 60 = .ok (.iconst (-1), 1) := by decide +kernel
theorem dX12_read_61 : decode cX12_read 61 = .ok (.if_icmp .eq 7, 3) := by decide +kernel
theorem dX12_read_64 : decode cX12_read 64 = .ok (.iconst 1, 1) := by decide +kernel
theorem dX12_read_65 : decode cX12_read 65 = .ok (.goto 4, 3) := by decide +kernel
theorem dX12_read_68 : decode cX12_read 68 = .ok (.iconst 0, 1) := by decide +kernel
theorem dX12_read_69 : decode cX12_read 69 = .ok (.bastore, 1) := by decide +kernel
theorem dX12_read_70 : decode cX12_read 70 = .ok (.iinc 3 1, 3) := by decide +kernel
theorem dX12_read_73 : decode cX12_read 73 = .ok (.goto (-44), 3) := by decide +kernel
theorem dX12_read_76 : decode cX12_read 76 = .ok (.iload_n 2, 1) := by decide +kernel
theorem dX12_read_77 : decode cX12_read 77 = .ok (.ireturn, 1) := by decide +kernel
theorem dX12_makes_0 : decode cX12_makes 0 = .ok (.aload_n 0, 1) := by decide +kernel
theorem dX12_makes_1 : decode cX12_makes 1 = .ok (.getfield 13, 3) := by decide +kernel
theorem dX12_makes_4 : decode cX12_makes 4 = .ok (.aload_n 0, 1) := by decide +kernel
theorem dX12_makes_5 : decode cX12_makes 5 = .ok (.getfield 153, 3) := by decide +kernel
theorem dX12_makes_8 : decode cX12_makes 8 = .ok (.iload_n 2, 1) := by decide +kernel
theorem dX12_makes_9 : decode cX12_makes 9 = .ok (.iastore, 1) := by decide +kernel
theorem dX12_makes_10 : decode cX12_makes 10 = .ok (.aload_n 0, 1) := by decide +kernel
theorem dX12_makes_11 : decode cX12_makes 11 = .ok (.getfield 16, 3) := by decide +kernel
theorem dX12_makes_14 : decode cX12_makes 14 = .ok (.aload_n 0, 1) := by decide +kernel
theorem dX12_makes_15 : decode cX12_makes 15 = .ok (.getfield 153, 3) := by decide +kernel
theorem dX12_makes_18 : decode cX12_makes 18 = .ok (.iload_n 1, 1) := by decide +kernel
theorem dX12_makes_19 : decode cX12_makes 19 = .ok (.iastore, 1) := by decide +kernel
theorem dX12_makes_20 : decode cX12_makes 20 = .ok (.aload_n 0, 1) := by decide +kernel
theorem dX12_makes_21 : decode cX12_makes 21 = .ok (.getfield 19, 3) := by decide +kernel
theorem dX12_makes_24 : decode cX12_makes 24 = .ok (.aload_n 0, 1) := by decide +kernel
theorem dX12_makes_25 : decode cX12_makes 25 = .ok (.getfield 153, 3) := by decide +kernel
theorem dX12_makes_28 : decode cX12_makes 28 = .ok (.aload_n 0, 1) := by decide +kernel
theorem dX12_makes_29 : decode cX12_makes 29 = .ok (.getfield 150, 3) := by decide +kernel
theorem dX12_makes_32 : decode cX12_makes 32 = .ok (.iastore, 1) := by decide +kernel
theorem dX12_makes_33 : decode cX12_makes 33 = .ok (.aload_n 0, 1) := by decide +kernel
theorem dX12_makes_34 : decode cX12_makes 34 = .ok (.getfield 22, 3) := by decide +kernel
theorem dX12_makes_37 : decode cX12_makes 37 = .ok (.aload_n 0, 1) := by decide +kernel
theorem dX12_makes_38 : decode cX12_makes 38 = .ok (.getfield 153, 3) := by decide +kernel
theorem dX12_makes_41 : decode cX12_makes 41 = .ok (.iload_n 3, 1) := by decide +kernel
theorem dX12_makes_42 : decode cX12_makes 42 = .ok (.iastore, 1) := by decide +kernel
theorem dX12_makes_43 : decode cX12_makes 43 = .ok (.aload_n 0, 1) := by decide +kernel
theorem dX12_makes_44 : decode cX12_makes 44 = .ok (.getfield 31, 3) := by decide +kernel
theorem dX12_makes_47 : decode cX12_makes 47 = .ok (.sipush 160, 3) := by decide +kernel
theorem dX12_makes_50 : decode cX12_makes 50 = .ok (.iload_n 1, 1) := by decide +kernel
theorem dX12_makes_51 : decode cX12_makes 51 = .ok (.imul, 1) := by decide +kernel
theorem dX12_makes_52 : decode cX12_makes 52 = .ok (.aload_n 0, 1) := by decide +kernel
theorem dX12_makes_53 : decode cX12_makes 53 = .ok (.getfield 153, 3) := by decide +kernel
theorem dX12_makes_56 : decode cX12_makes 56 = .ok (.iadd, 1) := by decide +kernel
theorem dX12_makes_57 : decode cX12_makes 57 = .ok (.aload_n 0, 1) := by decide +kernel
theorem dX12_makes_58 : decode cX12_makes 58 = .ok (.getfield 150, 3) := by decide +kernel
theorem dX12_makes_61 : decode cX12_makes 61 = .ok (.iastore, 1) := by decide +kernel
theorem dX12_makes_62 : decode cX12_makes 62 = .ok (.aload_n 0, 1) := by decide +kernel
theorem dX12_makes_63 : decode cX12_makes 63 = .ok (.getfield 34, 3) := by decide +kernel
theorem dX12_makes_66 : decode cX12_makes 66 = .ok (.sipush 160, 3) := by decide +kernel
theorem dX12_makes_69 : decode cX12_makes 69 = .ok (.iload_n 1, 1) := by decide +kernel
theorem dX12_makes_70 : decode cX12_makes 70 = .ok (.imul, 1) := by decide +kernel
theorem dX12_makes_71 : decode cX12_makes 71 = .ok (.aload_n 0, 1) := by decide +kernel
theorem dX12_makes_72 : decode cX12_makes 72 = .ok (.getfield 153, 3) := by decide +kernel
theorem dX12_makes_75 : decode cX12_makes 75 = .ok (.iadd, 1) := by decide +kernel
theorem dX12_makes_76 : decode cX12_makes 76 = .ok (.iconst 1, 1) := by decide +kernel
theorem dX12_makes_77 : decode cX12_makes 77 = .ok (.bastore, 1) := by decide +kernel
theorem dX12_makes_78 : decode cX12_makes 78 = .ok (.aload_n 0, 1) := by decide +kernel
theorem dX12_makes_79 : decode cX12_makes 79 = .ok (.dup, 1) := by decide +kernel
theorem dX12_makes_80 : decode cX12_makes 80 = .ok (.getfield 153, 3) := by decide +kernel
theorem dX12_makes_83 : decode cX12_makes 83 = .ok (.iconst 1, 1) := by decide +kernel
theorem dX12_makes_84 : decode cX12_makes 84 = .ok (.iadd, 1) := by decide +kernel
theorem dX12_makes_85 : decode cX12_makes 85 = .ok (.putfield 153, 3) := by decide +kernel
theorem dX12_makes_88 : decode cX12_makes 88 = .ok (.aload_n 0, 1) := by decide +kernel
theorem dX12_makes_89 : decode cX12_makes 89 = .ok (.getfield 153, 3) := by decide +kernel
theorem dX12_makes_92 : decode cX12_makes 92 = .ok (.iconst 1, 1) := by decide +kernel
theorem dX12_makes_93 : decode cX12_makes 93 = .ok (.isub, 1) := by decide +kernel
theorem dX12_makes_94 : decode cX12_makes 94 = .ok (.ireturn, 1) := by decide +kernel
theorem dX12_has_0 : decode cX12_has 0 = .ok (.iload_n 1, 1) := by decide +kernel
theorem dX12_has_1 : decode cX12_has 1 = .ok (.iconst (-1), 1) := by decide +kernel
theorem dX12_has_2 : decode cX12_has 2 = .ok (.if_icmp .ne 5, 3) := by decide +kernel
theorem dX12_has_5 : decode cX12_has 5 = .ok (.iconst 1, 1) := by decide +kernel
theorem dX12_has_6 : decode cX12_has 6 = .ok (.ireturn, 1) := by decide +kernel
theorem dX12_has_7 : decode cX12_has 7 = .ok (.iload_n 1, 1) := by decide +kernel
theorem dX12_has_8 : decode cX12_has 8 = .ok (.bipush 6, 2) := by decide +kernel
theorem dX12_has_10 : decode cX12_has 10 = .ok (.if_icmp .ge 16, 3) := by decide +kernel
theorem dX12_has_13 : decode cX12_has 13 = .ok (.aload_n 0, 1) := by decide +kernel
theorem dX12_has_14 : decode cX12_has 14 = .ok (.getfield 34, 3) := by decide +kernel
theorem dX12_has_17 : decode cX12_has 17 = .ok (.sipush 160, 3) := by decide +kernel
theorem dX12_has_20 : decode cX12_has 20 = .ok (.iload_n 1, 1) := by decide +kernel
theorem dX12_has_21 : decode cX12_has 21 = .ok (.imul, 1) := by decide +kernel
theorem dX12_has_22 : decode cX12_has 22 = .ok (.iload_n 2, 1) := by decide +kernel
theorem dX12_has_23 : decode cX12_has 23 = .ok (.iadd, 1) := by decide +kernel
theorem dX12_has_24 : decode cX12_has 24 = .ok (.baload, 1) := by decide +kernel
theorem dX12_has_25 : decode cX12_has 25 = .ok (.ireturn, 1) := by decide +kernel
theorem dX12_has_26 : decode cX12_has 26 = .ok (.iload_n 1, 1) := by decide +kernel
theorem dX12_has_27 : decode cX12_has 27 = .ok (.bipush 6, 2) := by decide +kernel
theorem dX12_has_29 : decode cX12_has 29 = .ok (.isub, 1) := by decide +kernel
theorem dX12_has_30 : decode cX12_has 30 = .ok (.istore_n 3, 1) := by decide +kernel
theorem dX12_has_31 : decode cX12_has 31 = .ok (.aload_n 0, 1) := by decide +kernel
theorem dX12_has_32 : decode cX12_has 32 = .ok (.getfield 16, 3) := by decide +kernel
theorem dX12_has_35 : decode cX12_has 35 = .ok (.iload_n 3, 1) := by decide +kernel
theorem dX12_has_36 : decode cX12_has 36 = .ok (.iaload, 1) := by decide +kernel
theorem dX12_has_37 : decode cX12_has 37 = .ok (.istore 4, 2) := by decide +kernel
theorem dX12_has_39 : decode cX12_has 39 = .ok (.aload_n 0, 1) := by decide +kernel
theorem dX12_has_40 : decode cX12_has 40 = .ok (.getfield 31, 3) := by decide +kernel
theorem dX12_has_43 : decode cX12_has 43 = .ok (.sipush 160, 3) := by decide +kernel
theorem dX12_has_46 : decode cX12_has 46 = .ok (.iload 4, 2) := by decide +kernel
theorem dX12_has_48 : decode cX12_has 48 = .ok (.imul, 1) := by decide +kernel
theorem dX12_has_49 : decode cX12_has 49 = .ok (.iload_n 2, 1) := by decide +kernel
theorem dX12_has_50 : decode cX12_has 50 = .ok (.iadd, 1) := by decide +kernel
theorem dX12_has_51 : decode cX12_has 51 = .ok (.iaload, 1) := by decide +kernel
theorem dX12_has_52 : decode cX12_has 52 = .ok (.iconst 0, 1) := by decide +kernel
theorem dX12_has_53 : decode cX12_has 53 = .ok (.aload_n 0, 1) := by decide +kernel
theorem dX12_has_54 : decode cX12_has 54 = .ok (.getfield 19, 3) := by decide +kernel
theorem dX12_has_57 : decode cX12_has 57 = .ok (.iload_n 3, 1) := by decide +kernel
theorem dX12_has_58 : decode cX12_has 58 = .ok (.iaload, 1) := by decide +kernel
theorem dX12_has_59 : decode cX12_has 59 = .ok (.invokestatic 124, 3) := by decide +kernel
theorem dX12_has_62 : decode cX12_has 62 = .ok (.ifCond .eq 23, 3) := by decide +kernel
theorem dX12_has_65 : decode cX12_has 65 = .ok (.aload_n 0, 1) := by decide +kernel
theorem dX12_has_66 : decode cX12_has 66 = .ok (.getfield 16, 3) := by decide +kernel
theorem dX12_has_69 : decode cX12_has 69 = .ok (.iload_n 2, 1) := by decide +kernel
theorem dX12_has_70 : decode cX12_has 70 = .ok (.iaload, 1) := by decide +kernel
theorem dX12_has_71 : decode cX12_has 71 = .ok (.iload 4, 2) := by decide +kernel
theorem dX12_has_73 : decode cX12_has 73 = .ok (.if_icmp .ne 8, 3) := by decide +kernel
theorem dX12_has_76 : decode cX12_has 76 = .ok (.iload_n 2, 1) := by decide +kernel
theorem dX12_has_77 : decode cX12_has 77 = .ok (.iload_n 3, 1) := by decide +kernel
theorem dX12_has_78 : decode cX12_has 78 = .ok (.if_icmp .ge 7, 3) := by decide +kernel
theorem dX12_has_81 : decode cX12_has 81 = .ok (.iconst 1, 1) := by decide +kernel
theorem dX12_has_82 : decode cX12_has 82 = .ok (.goto 4, 3) := by decide +kernel
theorem dX12_has_85 : decode cX12_has 85 = .ok (.iconst 0, 1) := by decide +kernel
theorem dX12_has_86 : decode cX12_has 86 = .ok (.ireturn, 1) := by decide +kernel
theorem dX12_isInLine_0 : decode cX12_isInLine 0 = .ok (.iload_n 2, 1) := by decide +kernel
theorem dX12_isInLine_1 : decode cX12_isInLine 1 = .ok (.istore_n 3, 1) := by decide +kernel
theorem dX12_isInLine_2 : decode cX12_isInLine 2 = .ok (.iload_n 3, 1) := by decide +kernel
theorem dX12_isInLine_3 : decode cX12_isInLine 3 = .ok (.iconst (-1), 1) := by decide +kernel
theorem dX12_isInLine_4 : decode cX12_isInLine 4 = .ok (.if_icmp .eq 18, 3) := by decide +kernel
theorem dX12_isInLine_7 : decode cX12_isInLine 7 = .ok (.iload_n 3, 1) := by decide +kernel
theorem dX12_isInLine_8 : decode cX12_isInLine 8 = .ok (.iload_n 1, 1) := by decide +kernel
theorem dX12_isInLine_9 : decode cX12_isInLine 9 = .ok (.if_icmp .eq 13, 3) := by decide +kernel
theorem dX12_isInLine_12 : decode cX12_isInLine 12 = .ok (.aload_n 0, 1) := by decide +kernel
theorem dX12_isInLine_13 : decode cX12_isInLine 13 = .ok (.getfield 47, 3) := by decide +kernel
theorem dX12_isInLine_16 : decode cX12_isInLine 16 = .ok (.iload_n 3, 1) := by decide +kernel
theorem dX12_isInLine_17 : decode cX12_isInLine 17 = .ok (.iaload, 1) := by decide +kernel
theorem dX12_isInLine_18 : decode cX12_isInLine 18 = .ok (.istore_n 3, 1) := by decide +kernel
theorem dX12_isInLine_19 : decode cX12_isInLine 19 = .ok (.goto (-17), 3) := by decide +kernel
theorem dX12_isInLine_22 : decode cX12_isInLine 22 = .ok (.iload_n 3, 1) := by decide +kernel
theorem dX12_isInLine_23 : decode cX12_isInLine 23 = .ok (.iload_n 1, 1) := by decide +kernel
theorem dX12_isInLine_24 : decode cX12_isInLine 24 = .ok (.if_icmp .ne 7, 3) := by decide +kernel
theorem dX12_isInLine_27 : decode cX12_isInLine 27 = .ok (.iconst 1, 1) := by decide +kernel
theorem dX12_isInLine_28 : decode cX12_isInLine 28 = .ok (.goto 4, 3) := by decide +kernel
theorem dX12_isInLine_31 : decode cX12_isInLine 31 = .ok (.iconst 0, 1) := by decide +kernel
theorem dX12_isInLine_32 : decode cX12_isInLine 32 = .ok (.ireturn, 1) := by decide +kernel
theorem dX12_isKnown_0 : decode cX12_isKnown 0 = .ok (.iload_n 2, 1) := by decide +kernel
theorem dX12_isKnown_1 : decode cX12_isKnown 1 = .ok (.istore_n 3, 1) := by decide +kernel
theorem dX12_isKnown_2 : decode cX12_isKnown 2 = .ok (.iload_n 3, 1) := by decide +kernel
theorem dX12_isKnown_3 : decode cX12_isKnown 3 = .ok (.iconst (-1), 1) := by decide +kernel
theorem dX12_isKnown_4 : decode cX12_isKnown 4 = .ok (.if_icmp .eq 29, 3) := by decide +kernel
theorem dX12_isKnown_7 : decode cX12_isKnown 7 = .ok (.aload_n 0, 1) := by decide +kernel
theorem dX12_isKnown_8 : decode cX12_isKnown 8 = .ok (.iload_n 1, 1) := by decide +kernel
theorem dX12_isKnown_9 : decode cX12_isKnown 9 = .ok (.aload_n 0, 1) := by decide +kernel
theorem dX12_isKnown_10 : decode cX12_isKnown 10 = .ok (.getfield 38, 3) := by decide +kernel
theorem dX12_isKnown_13 : decode cX12_isKnown 13 = .ok (.iload_n 3, 1) := by decide +kernel
theorem dX12_isKnown_14 : decode cX12_isKnown 14 = .ok (.iaload, 1) := by decide +kernel
theorem dX12_isKnown_15 : decode cX12_isKnown 15 = .ok (.invokevirtual 162, 3) := by decide +kernel
theorem dX12_isKnown_18 : decode cX12_isKnown 18 = .ok (.ifCond .ne 5, 3) := by decide +kernel
theorem dX12_isKnown_21 : decode cX12_isKnown 21 = .ok (.iconst 0, 1) := by decide +kernel
theorem dX12_isKnown_22 : decode cX12_isKnown 22 = .ok (.ireturn, 1) := by decide +kernel
theorem dX12_isKnown_23 : decode cX12_isKnown 23 = .ok (.aload_n 0, 1) := by decide +kernel
theorem dX12_isKnown_24 : decode cX12_isKnown 24 = .ok (.getfield 47, 3) := by decide +kernel
theorem dX12_isKnown_27 : decode cX12_isKnown 27 = .ok (.iload_n 3, 1) := by decide +kernel
theorem dX12_isKnown_28 : decode cX12_isKnown 28 = .ok (.iaload, 1) := by decide +kernel
theorem dX12_isKnown_29 : decode cX12_isKnown 29 = .ok (.istore_n 3, 1) := by decide +kernel
theorem dX12_isKnown_30 : decode cX12_isKnown 30 = .ok (.goto (-28), 3) := by decide +kernel
theorem dX12_isKnown_33 : decode cX12_isKnown 33 = .ok (.iconst 1, 1) := by decide +kernel
theorem dX12_isKnown_34 : decode cX12_isKnown 34 = .ok (.ireturn, 1) := by decide +kernel
theorem dX12_isRevoked_0 : decode cX12_isRevoked 0 = .ok (.iconst 0, 1) := by decide +kernel
theorem dX12_isRevoked_1 : decode cX12_isRevoked 1 = .ok (.istore_n 3, 1) := by decide +kernel
theorem dX12_isRevoked_2 : decode cX12_isRevoked 2 = .ok (.iload_n 3, 1) := by decide +kernel
theorem dX12_isRevoked_3 : decode cX12_isRevoked 3 = .ok (.aload_n 0, 1) := by decide +kernel
theorem dX12_isRevoked_4 : decode cX12_isRevoked 4 = .ok (.getfield 153, 3) := by decide +kernel
theorem dX12_isRevoked_7 : decode cX12_isRevoked 7 = .ok (.if_icmp .ge 44, 3) := by decide +kernel
theorem dX12_isRevoked_10 : decode cX12_isRevoked 10 = .ok (.aload_n 0, 1) := by decide +kernel
theorem dX12_isRevoked_11 : decode cX12_isRevoked 11 = .ok (.getfield 13, 3) := by decide +kernel
theorem dX12_isRevoked_14 : decode cX12_isRevoked 14 = .ok (.iload_n 3, 1) := by decide +kernel
theorem dX12_isRevoked_15 : decode cX12_isRevoked 15 = .ok (.iaload, 1) := by decide +kernel
theorem dX12_isRevoked_16 : decode cX12_isRevoked 16 = .ok (.iconst 1, 1) := by decide +kernel
theorem dX12_isRevoked_17 : decode cX12_isRevoked 17 = .ok (.if_icmp .ne 28, 3) := by decide +kernel
theorem dX12_isRevoked_20 : decode cX12_isRevoked 20 = .ok (.aload_n 0, 1) := by decide +kernel
theorem dX12_isRevoked_21 : decode cX12_isRevoked 21 = .ok (.aload_n 0, 1) := by decide +kernel
theorem dX12_isRevoked_22 : decode cX12_isRevoked 22 = .ok (.getfield 22, 3) := by decide +kernel
theorem dX12_isRevoked_25 : decode cX12_isRevoked 25 = .ok (.iload_n 3, 1) := by decide +kernel
theorem dX12_isRevoked_26 : decode cX12_isRevoked 26 = .ok (.iaload, 1) := by decide +kernel
theorem dX12_isRevoked_27 : decode cX12_isRevoked 27 = .ok (.iload_n 2, 1) := by decide +kernel
theorem dX12_isRevoked_28 : decode cX12_isRevoked 28 = .ok (.invokevirtual 166, 3) := by decide +kernel
theorem dX12_isRevoked_31 : decode cX12_isRevoked 31 = .ok (.ifCond .eq 14, 3) := by decide +kernel
theorem dX12_isRevoked_34 : decode cX12_isRevoked 34 = .ok (.aload_n 0, 1) := by decide +kernel
theorem dX12_isRevoked_35 : decode cX12_isRevoked 35 = .ok (.iload_n 1, 1) := by decide +kernel
theorem dX12_isRevoked_36 : decode cX12_isRevoked 36 = .ok (.iload_n 3, 1) := by decide +kernel
theorem dX12_isRevoked_37 : decode cX12_isRevoked 37 = .ok (.invokevirtual 162, 3) := by decide +kernel
theorem dX12_isRevoked_40 : decode cX12_isRevoked 40 = .ok (.ifCond .eq 5, 3) := by decide +kernel
theorem dX12_isRevoked_43 : decode cX12_isRevoked 43 = .ok (.iconst 1, 1) := by decide +kernel
theorem dX12_isRevoked_44 : decode cX12_isRevoked 44 = .ok (.ireturn, 1) := by decide +kernel
theorem dX12_isRevoked_45 : decode cX12_isRevoked 45 = .ok (.iinc 3 1, 3) := by decide +kernel
theorem dX12_isRevoked_48 : decode cX12_isRevoked 48 = .ok (.goto (-46), 3) := by decide +kernel
theorem dX12_isRevoked_51 : decode cX12_isRevoked 51 = .ok (.iconst 0, 1) := by decide +kernel
theorem dX12_isRevoked_52 : decode cX12_isRevoked 52 = .ok (.ireturn, 1) := by decide +kernel
theorem dX12_isOver_0 : decode cX12_isOver 0 = .ok (.iload_n 1, 1) := by decide +kernel
theorem dX12_isOver_1 : decode cX12_isOver 1 = .ok (.istore_n 3, 1) := by decide +kernel
theorem dX12_isOver_2 : decode cX12_isOver 2 = .ok (.iload_n 3, 1) := by decide +kernel
theorem dX12_isOver_3 : decode cX12_isOver 3 = .ok (.iconst (-1), 1) := by decide +kernel
theorem dX12_isOver_4 : decode cX12_isOver 4 = .ok (.if_icmp .eq 25, 3) := by decide +kernel
theorem dX12_isOver_7 : decode cX12_isOver 7 = .ok (.iload_n 2, 1) := by decide +kernel
theorem dX12_isOver_8 : decode cX12_isOver 8 = .ok (.aload_n 0, 1) := by decide +kernel
theorem dX12_isOver_9 : decode cX12_isOver 9 = .ok (.getfield 59, 3) := by decide +kernel
theorem dX12_isOver_12 : decode cX12_isOver 12 = .ok (.iload_n 3, 1) := by decide +kernel
theorem dX12_isOver_13 : decode cX12_isOver 13 = .ok (.iaload, 1) := by decide +kernel
theorem dX12_isOver_14 : decode cX12_isOver 14 = .ok (.if_icmp .le 5, 3) := by decide +kernel
theorem dX12_isOver_17 : decode cX12_isOver 17 = .ok (.iconst 1, 1) := by decide +kernel
theorem dX12_isOver_18 : decode cX12_isOver 18 = .ok (.ireturn, 1) := by decide +kernel
theorem dX12_isOver_19 : decode cX12_isOver 19 = .ok (.aload_n 0, 1) := by decide +kernel
theorem dX12_isOver_20 : decode cX12_isOver 20 = .ok (.getfield 47, 3) := by decide +kernel
theorem dX12_isOver_23 : decode cX12_isOver 23 = .ok (.iload_n 3, 1) := by decide +kernel
theorem dX12_isOver_24 : decode cX12_isOver 24 = .ok (.iaload, 1) := by decide +kernel
theorem dX12_isOver_25 : decode cX12_isOver 25 = .ok (.istore_n 3, 1) := by decide +kernel
theorem dX12_isOver_26 : decode cX12_isOver 26 = .ok (.goto (-24), 3) := by decide +kernel
theorem dX12_isOver_29 : decode cX12_isOver 29 = .ok (.iconst 0, 1) := by decide +kernel
theorem dX12_isOver_30 : decode cX12_isOver 30 = .ok (.ireturn, 1) := by decide +kernel
theorem dX12_doneWith_0 : decode cX12_doneWith 0 = .ok (.iconst 0, 1) := by decide +kernel
theorem dX12_doneWith_1 : decode cX12_doneWith 1 = .ok (.istore_n 3, 1) := by decide +kernel
theorem dX12_doneWith_2 : decode cX12_doneWith 2 = .ok (.iconst 0, 1) := by decide +kernel
theorem dX12_doneWith_3 : decode cX12_doneWith 3 = .ok (.istore 4, 2) := by decide +kernel
theorem dX12_doneWith_5 : decode cX12_doneWith 5 = .ok (.iload 4, 2) := by decide +kernel
theorem dX12_doneWith_7 : decode cX12_doneWith 7 = .ok (.aload_n 0, 1) := by decide +kernel
theorem dX12_doneWith_8 : decode cX12_doneWith 8 = .ok (.getfield 153, 3) := by decide +kernel
theorem dX12_doneWith_11 : decode cX12_doneWith 11 = .ok (.if_icmp .ge 70, 3) := by decide +kernel
theorem dX12_doneWith_14 : decode cX12_doneWith 14 = .ok (.aload_n 0, 1) := by decide +kernel
theorem dX12_doneWith_15 : decode cX12_doneWith 15 = .ok (.getfield 13, 3) := by decide +kernel
theorem dX12_doneWith_18 : decode cX12_doneWith 18 = .ok (.iload 4, 2) := by decide +kernel
theorem dX12_doneWith_20 : decode cX12_doneWith 20 = .ok (.iaload, 1) := by decide +kernel
theorem dX12_doneWith_21 : decode cX12_doneWith 21 = .ok (.iconst 3, 1) := by decide +kernel
theorem dX12_doneWith_22 : decode cX12_doneWith 22 = .ok (.if_icmp .ne 53, 3) := by decide +kernel
theorem dX12_doneWith_25 : decode cX12_doneWith 25 = .ok (.aload_n 0, 1) := by decide +kernel
theorem dX12_doneWith_26 : decode cX12_doneWith 26 = .ok (.iload_n 2, 1) := by decide +kernel
theorem dX12_doneWith_27 : decode cX12_doneWith 27 = .ok (.aload_n 0, 1) := by decide +kernel
theorem dX12_doneWith_28 : decode cX12_doneWith 28 = .ok (.getfield 88, 3) := by decide +kernel
theorem dX12_doneWith_31 : decode cX12_doneWith 31 = .ok (.bipush 6, 2) := by decide +kernel
theorem dX12_doneWith_33 : decode cX12_doneWith 33 = .ok (.aload_n 0, 1) := by decide +kernel
theorem dX12_doneWith_34 : decode cX12_doneWith 34 = .ok (.getfield 22, 3) := by decide +kernel
theorem dX12_doneWith_37 : decode cX12_doneWith 37 = .ok (.iload 4, 2) := by decide +kernel
theorem dX12_doneWith_39 : decode cX12_doneWith 39 = .ok (.iaload, 1) := by decide +kernel
theorem dX12_doneWith_40 : decode cX12_doneWith 40 = .ok (.imul, 1) := by decide +kernel
theorem dX12_doneWith_41 : decode cX12_doneWith 41 = .ok (.iconst 1, 1) := by decide +kernel
theorem dX12_doneWith_42 : decode cX12_doneWith 42 = .ok (.iadd, 1) := by decide +kernel
theorem dX12_doneWith_43 : decode cX12_doneWith 43 = .ok (.iaload, 1) := by decide +kernel
theorem dX12_doneWith_44 : decode cX12_doneWith 44 = .ok (.invokevirtual 166, 3) := by decide +kernel
theorem dX12_doneWith_47 : decode cX12_doneWith 47 = .ok (.ifCond .eq 28, 3) := by decide +kernel
theorem dX12_doneWith_50 : decode cX12_doneWith 50 = .ok (.aload_n 0, 1) := by decide +kernel
theorem dX12_doneWith_51 : decode cX12_doneWith 51 = .ok (.iload_n 1, 1) := by decide +kernel
theorem dX12_doneWith_52 : decode cX12_doneWith 52 = .ok (.iload 4, 2) := by decide +kernel
theorem dX12_doneWith_54 : decode cX12_doneWith 54 = .ok (.invokevirtual 162, 3) := by decide +kernel
theorem dX12_doneWith_57 : decode cX12_doneWith 57 = .ok (.ifCond .eq 18, 3) := by decide +kernel
theorem dX12_doneWith_60 : decode cX12_doneWith 60 = .ok (.iload_n 3, 1) := by decide +kernel
theorem dX12_doneWith_61 : decode cX12_doneWith 61 = .ok (.aload_n 0, 1) := by decide +kernel
theorem dX12_doneWith_62 : decode cX12_doneWith 62 = .ok (.getfield 91, 3) := by decide +kernel
theorem dX12_doneWith_65 : decode cX12_doneWith 65 = .ok (.aload_n 0, 1) := by decide +kernel
theorem dX12_doneWith_66 : decode cX12_doneWith 66 = .ok (.getfield 22, 3) := by decide +kernel
theorem dX12_doneWith_69 : decode cX12_doneWith 69 = .ok (.iload 4, 2) := by decide +kernel
theorem dX12_doneWith_71 : decode cX12_doneWith 71 = .ok (.iaload, 1) := by decide +kernel
theorem dX12_doneWith_72 : decode cX12_doneWith 72 = .ok (.iaload, 1) := by decide +kernel
theorem dX12_doneWith_73 : decode cX12_doneWith 73 = .ok (.iadd, 1) := by decide +kernel
theorem dX12_doneWith_74 : decode cX12_doneWith 74 = .ok (.istore_n 3, 1) := by decide +kernel
theorem dX12_doneWith_75 : decode cX12_doneWith 75 = .ok (.iinc 4 1, 3) := by decide +kernel
theorem dX12_doneWith_78 : decode cX12_doneWith 78 = .ok (.goto (-73), 3) := by decide +kernel
theorem dX12_doneWith_81 : decode cX12_doneWith 81 = .ok (.iload_n 3, 1) := by decide +kernel
theorem dX12_doneWith_82 : decode cX12_doneWith 82 = .ok (.ireturn, 1) := by decide +kernel
theorem dX12_isDeputy_0 : decode cX12_isDeputy 0 = .ok (.iconst 0, 1) := by decide +kernel
theorem dX12_isDeputy_1 : decode cX12_isDeputy 1 = .ok (.istore 4, 2) := by decide +kernel
theorem dX12_isDeputy_3 : decode cX12_isDeputy 3 = .ok (.iload 4, 2) := by decide +kernel
theorem dX12_isDeputy_5 : decode cX12_isDeputy 5 = .ok (.aload_n 0, 1) := by decide +kernel
theorem dX12_isDeputy_6 : decode cX12_isDeputy 6 = .ok (.getfield 153, 3) := by decide +kernel
theorem dX12_isDeputy_9 : decode cX12_isDeputy 9 = .ok (.if_icmp .ge 64, 3) := by decide +kernel
theorem dX12_isDeputy_12 : decode cX12_isDeputy 12 = .ok (.aload_n 0, 1) := by decide +kernel
theorem dX12_isDeputy_13 : decode cX12_isDeputy 13 = .ok (.getfield 13, 3) := by decide +kernel
theorem dX12_isDeputy_16 : decode cX12_isDeputy 16 = .ok (.iload 4, 2) := by decide +kernel
theorem dX12_isDeputy_18 : decode cX12_isDeputy 18 = .ok (.iaload, 1) := by decide +kernel
theorem dX12_isDeputy_19 : decode cX12_isDeputy 19 = .ok (.iconst 2, 1) := by decide +kernel
theorem dX12_isDeputy_20 : decode cX12_isDeputy 20 = .ok (.if_icmp .ne 47, 3) := by decide +kernel
theorem dX12_isDeputy_23 : decode cX12_isDeputy 23 = .ok (.aload_n 0, 1) := by decide +kernel
theorem dX12_isDeputy_24 : decode cX12_isDeputy 24 = .ok (.getfield 22, 3) := by decide +kernel
theorem dX12_isDeputy_27 : decode cX12_isDeputy 27 = .ok (.iload 4, 2) := by decide +kernel
theorem dX12_isDeputy_29 : decode cX12_isDeputy 29 = .ok (.iaload, 1) := by decide +kernel
theorem dX12_isDeputy_30 : decode cX12_isDeputy 30 = .ok (.iload_n 2, 1) := by decide +kernel
theorem dX12_isDeputy_31 : decode cX12_isDeputy 31 = .ok (.if_icmp .ne 36, 3) := by decide +kernel
theorem dX12_isDeputy_34 : decode cX12_isDeputy 34 = .ok (.iload_n 3, 1) := by decide +kernel
theorem dX12_isDeputy_35 : decode cX12_isDeputy 35 = .ok (.aload_n 0, 1) := by decide +kernel
theorem dX12_isDeputy_36 : decode cX12_isDeputy 36 = .ok (.getfield 25, 3) := by decide +kernel
theorem dX12_isDeputy_39 : decode cX12_isDeputy 39 = .ok (.iload 4, 2) := by decide +kernel
theorem dX12_isDeputy_41 : decode cX12_isDeputy 41 = .ok (.iaload, 1) := by decide +kernel
theorem dX12_isDeputy_42 : decode cX12_isDeputy 42 = .ok (.aload_n 0, 1) := by decide +kernel
theorem dX12_isDeputy_43 : decode cX12_isDeputy 43 = .ok (.getfield 28, 3) := by decide +kernel
theorem dX12_isDeputy_46 : decode cX12_isDeputy 46 = .ok (.iload 4, 2) := by decide +kernel
theorem dX12_isDeputy_48 : decode cX12_isDeputy 48 = .ok (.iaload, 1) := by decide +kernel
theorem dX12_isDeputy_49 : decode cX12_isDeputy 49 = .ok (.invokestatic 124, 3) := by decide +kernel
theorem dX12_isDeputy_52 : decode cX12_isDeputy 52 = .ok (.ifCond .eq 15, 3) := by decide +kernel
theorem dX12_isDeputy_55 : decode cX12_isDeputy 55 = .ok (.aload_n 0, 1) := by decide +kernel
theorem dX12_isDeputy_56 : decode cX12_isDeputy 56 = .ok (.iload_n 1, 1) := by decide +kernel
theorem dX12_isDeputy_57 : decode cX12_isDeputy 57 = .ok (.iload 4, 2) := by decide +kernel
theorem dX12_isDeputy_59 : decode cX12_isDeputy 59 = .ok (.invokevirtual 162, 3) := by decide +kernel
theorem dX12_isDeputy_62 : decode cX12_isDeputy 62 = .ok (.ifCond .eq 5, 3) := by decide +kernel
theorem dX12_isDeputy_65 : decode cX12_isDeputy 65 = .ok (.iconst 1, 1) := by decide +kernel
theorem dX12_isDeputy_66 : decode cX12_isDeputy 66 = .ok (.ireturn, 1) := by decide +kernel
theorem dX12_isDeputy_67 : decode cX12_isDeputy 67 = .ok (.iinc 4 1, 3) := by decide +kernel
theorem dX12_isDeputy_70 : decode cX12_isDeputy 70 = .ok (.goto (-67), 3) := by decide +kernel
theorem dX12_isDeputy_73 : decode cX12_isDeputy 73 = .ok (.iconst 0, 1) := by decide +kernel
theorem dX12_isDeputy_74 : decode cX12_isDeputy 74 = .ok (.ireturn, 1) := by decide +kernel
theorem dX12_isAboveLimits_0 : decode cX12_isAboveLimits 0 = .ok (.iload_n 1, 1) := by decide +kernel
theorem dX12_isAboveLimits_1 : decode cX12_isAboveLimits 1 = .ok (.istore_n 3, 1) := by decide +kernel
theorem dX12_isAboveLimits_2 : decode cX12_isAboveLimits 2 = .ok (.iload_n 3, 1) := by decide +kernel
theorem dX12_isAboveLimits_3 : decode cX12_isAboveLimits 3 = .ok (.iconst (-1), 1) := by decide +kernel
theorem dX12_isAboveLimits_4 : decode cX12_isAboveLimits 4 = .ok (.if_icmp .eq 25, 3) := by decide +kernel
theorem dX12_isAboveLimits_7 : decode cX12_isAboveLimits 7 = .ok (.iload_n 2, 1) := by decide +kernel
theorem dX12_isAboveLimits_8 : decode cX12_isAboveLimits 8 = .ok (.aload_n 0, 1) := by decide +kernel
theorem dX12_isAboveLimits_9 : decode cX12_isAboveLimits 9 = .ok (.getfield 53, 3) := by decide +kernel
theorem dX12_isAboveLimits_12 : decode cX12_isAboveLimits 12 = .ok (.iload_n 3, 1) := by decide +kernel
theorem dX12_isAboveLimits_13 : decode cX12_isAboveLimits 13 = .ok (.iaload, 1) := by decide +kernel
theorem dX12_isAboveLimits_14 : decode cX12_isAboveLimits 14 = .ok (.if_icmp .le 5, 3) := by decide +kernel
theorem dX12_isAboveLimits_17 : decode cX12_isAboveLimits 17 = .ok (.iconst 1, 1) := by decide +kernel
theorem dX12_isAboveLimits_18 : decode cX12_isAboveLimits 18 = .ok (.ireturn, 1) := by decide +kernel
theorem dX12_isAboveLimits_19 : decode cX12_isAboveLimits 19 = .ok (.aload_n 0, 1) := by decide +kernel
theorem dX12_isAboveLimits_20 : decode cX12_isAboveLimits 20 = .ok (.getfield 47, 3) := by decide +kernel
theorem dX12_isAboveLimits_23 : decode cX12_isAboveLimits 23 = .ok (.iload_n 3, 1) := by decide +kernel
theorem dX12_isAboveLimits_24 : decode cX12_isAboveLimits 24 = .ok (.iaload, 1) := by decide +kernel
theorem dX12_isAboveLimits_25 : decode cX12_isAboveLimits 25 = .ok (.istore_n 3, 1) := by decide +kernel
theorem dX12_isAboveLimits_26 : decode cX12_isAboveLimits 26 = .ok (.goto (-24), 3) := by decide +kernel
theorem dX12_isAboveLimits_29 : decode cX12_isAboveLimits 29 = .ok (.iconst 0, 1) := by decide +kernel
theorem dX12_isAboveLimits_30 : decode cX12_isAboveLimits 30 = .ok (.ireturn, 1) := by decide +kernel
theorem dX12_isAboveTotals_0 : decode cX12_isAboveTotals 0 = .ok (.iload_n 2, 1) := by decide +kernel
theorem dX12_isAboveTotals_1 : decode cX12_isAboveTotals 1 = .ok (.istore 4, 2) := by decide +kernel
theorem dX12_isAboveTotals_3 : decode cX12_isAboveTotals 3 = .ok (.iload 4, 2) := by decide +kernel
theorem dX12_isAboveTotals_5 : decode cX12_isAboveTotals 5 = .ok (.iconst (-1), 1) := by decide +kernel
theorem dX12_isAboveTotals_6 : decode cX12_isAboveTotals 6 = .ok (.if_icmp .eq 36, 3) := by decide +kernel
theorem dX12_isAboveTotals_9 : decode cX12_isAboveTotals 9 = .ok (.aload_n 0, 1) := by decide +kernel
theorem dX12_isAboveTotals_10 : decode cX12_isAboveTotals 10 = .ok (.iload_n 1, 1) := by decide +kernel
theorem dX12_isAboveTotals_11 : decode cX12_isAboveTotals 11 = .ok (.iload 4, 2) := by decide +kernel
theorem dX12_isAboveTotals_13 : decode cX12_isAboveTotals 13 = .ok (.invokevirtual 169, 3) := by decide +kernel
theorem dX12_isAboveTotals_16 : decode cX12_isAboveTotals 16 = .ok (.iload_n 3, 1) := by decide +kernel
theorem dX12_isAboveTotals_17 : decode cX12_isAboveTotals 17 = .ok (.iadd, 1) := by decide +kernel
theorem dX12_isAboveTotals_18 : decode cX12_isAboveTotals 18 = .ok (.aload_n 0, 1) := by decide +kernel
theorem dX12_isAboveTotals_19 : decode cX12_isAboveTotals 19 = .ok (.getfield 56, 3) := by decide +kernel
theorem dX12_isAboveTotals_22 : decode cX12_isAboveTotals 22 = .ok (.iload 4, 2) := by decide +kernel
theorem dX12_isAboveTotals_24 : decode cX12_isAboveTotals 24 = .ok (.iaload, 1) := by decide +kernel
theorem dX12_isAboveTotals_25 : decode cX12_isAboveTotals 25 = .ok (.if_icmp .le 5, 3) := by decide +kernel
theorem dX12_isAboveTotals_28 : decode cX12_isAboveTotals 28 = .ok (.iconst 1, 1) := by decide +kernel
theorem dX12_isAboveTotals_29 : decode cX12_isAboveTotals 29 = .ok (.ireturn, 1) := by decide +kernel
theorem dX12_isAboveTotals_30 : decode cX12_isAboveTotals 30 = .ok (.aload_n 0, 1) := by decide +kernel
theorem dX12_isAboveTotals_31 : decode cX12_isAboveTotals 31 = .ok (.getfield 47, 3) := by decide +kernel
theorem dX12_isAboveTotals_34 : decode cX12_isAboveTotals 34 = .ok (.iload 4, 2) := by decide +kernel
theorem dX12_isAboveTotals_36 : decode cX12_isAboveTotals 36 = .ok (.iaload, 1) := by decide +kernel
theorem dX12_isAboveTotals_37 : decode cX12_isAboveTotals 37 = .ok (.istore 4, 2) := by decide +kernel
theorem dX12_isAboveTotals_39 : decode cX12_isAboveTotals 39 = .ok (.goto (-36), 3) := by decide +kernel
theorem dX12_isAboveTotals_42 : decode cX12_isAboveTotals 42 = .ok (.iconst 0, 1) := by decide +kernel
theorem dX12_isAboveTotals_43 : decode cX12_isAboveTotals 43 = .ok (.ireturn, 1) := by decide +kernel
theorem dX12_reason_0 : decode cX12_reason 0 = .ok (.aload_n 0, 1) := by decide +kernel
theorem dX12_reason_1 : decode cX12_reason 1 = .ok (.iload_n 1, 1) := by decide +kernel
theorem dX12_reason_2 : decode cX12_reason 2 = .ok (.iload 5, 2) := by decide +kernel
theorem dX12_reason_4 : decode cX12_reason 4 = .ok (.invokevirtual 172, 3) := by decide +kernel
theorem dX12_reason_7 : decode cX12_reason 7 = .ok (.ifCond .ne 5, 3) := by decide +kernel
theorem dX12_reason_10 : decode cX12_reason 10 = .ok (.iconst 1, 1) := by decide +kernel
theorem dX12_reason_11 : decode cX12_reason 11 = .ok (.ireturn, 1) := by decide +kernel
theorem dX12_reason_12 : decode cX12_reason 12 = .ok (.aload_n 0, 1) := by decide +kernel
theorem dX12_reason_13 : decode cX12_reason 13 = .ok (.getfield 44, 3) := by decide +kernel
theorem dX12_reason_16 : decode cX12_reason 16 = .ok (.iload 5, 2) := by decide +kernel
theorem dX12_reason_18 : decode cX12_reason 18 = .ok (.iaload, 1) := by decide +kernel
theorem dX12_reason_19 : decode cX12_reason 19 = .ok (.iload 4, 2) := by decide +kernel
theorem dX12_reason_21 : decode cX12_reason 21 = .ok (.if_icmp .eq 5, 3) := by decide +kernel
theorem dX12_reason_24 : decode cX12_reason 24 = .ok (.iconst 2, 1) := by decide +kernel
theorem dX12_reason_25 : decode cX12_reason 25 = .ok (.ireturn, 1) := by decide +kernel
theorem dX12_reason_26 : decode cX12_reason 26 = .ok (.aload_n 0, 1) := by decide +kernel
theorem dX12_reason_27 : decode cX12_reason 27 = .ok (.iload_n 1, 1) := by decide +kernel
theorem dX12_reason_28 : decode cX12_reason 28 = .ok (.iload 5, 2) := by decide +kernel
theorem dX12_reason_30 : decode cX12_reason 30 = .ok (.invokevirtual 175, 3) := by decide +kernel
theorem dX12_reason_33 : decode cX12_reason 33 = .ok (.ifCond .eq 5, 3) := by decide +kernel
theorem dX12_reason_36 : decode cX12_reason 36 = .ok (.iconst 3, 1) := by decide +kernel
theorem dX12_reason_37 : decode cX12_reason 37 = .ok (.ireturn, 1) := by decide +kernel
theorem dX12_reason_38 : decode cX12_reason 38 = .ok (.aload_n 0, 1) := by decide +kernel
theorem dX12_reason_39 : decode cX12_reason 39 = .ok (.iload 5, 2) := by decide +kernel
theorem dX12_reason_41 : decode cX12_reason 41 = .ok (.iload_n 3, 1) := by decide +kernel
theorem dX12_reason_42 : decode cX12_reason 42 = .ok (.invokevirtual 178, 3) := by decide +kernel
theorem dX12_reason_45 : decode cX12_reason 45 = .ok (.ifCond .eq 5, 3) := by decide +kernel
theorem dX12_reason_48 : decode cX12_reason 48 = .ok (.iconst 4, 1) := by decide +kernel
theorem dX12_reason_49 : decode cX12_reason 49 = .ok (.ireturn, 1) := by decide +kernel
theorem dX12_reason_50 : decode cX12_reason 50 = .ok (.aload_n 0, 1) := by decide +kernel
theorem dX12_reason_51 : decode cX12_reason 51 = .ok (.getfield 50, 3) := by decide +kernel
theorem dX12_reason_54 : decode cX12_reason 54 = .ok (.iload 5, 2) := by decide +kernel
theorem dX12_reason_56 : decode cX12_reason 56 = .ok (.iaload, 1) := by decide +kernel
theorem dX12_reason_57 : decode cX12_reason 57 = .ok (.iload 6, 2) := by decide +kernel
theorem dX12_reason_59 : decode cX12_reason 59 = .ok (.ishr, 1) := by decide +kernel
theorem dX12_reason_60 : decode cX12_reason 60 = .ok (.iconst 1, 1) := by decide +kernel
theorem dX12_reason_61 : decode cX12_reason 61 = .ok (.iand, 1) := by decide +kernel
theorem dX12_reason_62 : decode cX12_reason 62 = .ok (.ifCond .ne 5, 3) := by decide +kernel
theorem dX12_reason_65 : decode cX12_reason 65 = .ok (.iconst 5, 1) := by decide +kernel
theorem dX12_reason_66 : decode cX12_reason 66 = .ok (.ireturn, 1) := by decide +kernel
theorem dX12_reason_67 : decode cX12_reason 67 = .ok (.aload_n 0, 1) := by decide +kernel
theorem dX12_reason_68 : decode cX12_reason 68 = .ok (.iload 5, 2) := by decide +kernel
theorem dX12_reason_70 : decode cX12_reason 70 = .ok (.iload 7, 2) := by decide +kernel
theorem dX12_reason_72 : decode cX12_reason 72 = .ok (.invokevirtual 181, 3) := by decide +kernel
theorem dX12_reason_75 : decode cX12_reason 75 = .ok (.ifCond .eq 6, 3) := by decide +kernel
theorem dX12_reason_78 : decode cX12_reason 78 = .ok (.bipush 6, 2) := by decide +kernel
theorem dX12_reason_80 : decode cX12_reason 80 = .ok (.ireturn, 1) := by decide +kernel
theorem dX12_reason_81 : decode cX12_reason 81 = .ok (.aload_n 0, 1) := by decide +kernel
theorem dX12_reason_82 : decode cX12_reason 82 = .ok (.iload_n 1, 1) := by decide +kernel
theorem dX12_reason_83 : decode cX12_reason 83 = .ok (.iload 5, 2) := by decide +kernel
theorem dX12_reason_85 : decode cX12_reason 85 = .ok (.iload 7, 2) := by decide +kernel
theorem dX12_reason_87 : decode cX12_reason 87 = .ok (.invokevirtual 184, 3) := by decide +kernel
theorem dX12_reason_90 : decode cX12_reason 90 = .ok (.ifCond .eq 8, 3) := by decide +kernel
theorem dX12_reason_93 : decode cX12_reason 93 = .ok (.bipush 7, 2) := by decide +kernel
theorem dX12_reason_95 : decode cX12_reason 95 = .ok (.goto 30, 3) := by decide +kernel
theorem dX12_reason_98 : decode cX12_reason 98 = .ok (.aload_n 0, 1) := by decide +kernel
theorem dX12_reason_99 : decode cX12_reason 99 = .ok (.iload_n 1, 1) := by decide +kernel
theorem dX12_reason_100 : decode cX12_reason 100 = .ok (.iload_n 2, 1) := by decide +kernel
theorem dX12_reason_101 : decode cX12_reason 101 = .ok (.iload_n 3, 1) := by decide +kernel
theorem dX12_reason_102 : decode cX12_reason 102 = .ok (.invokevirtual 187, 3) := by decide +kernel
theorem dX12_reason_105 : decode cX12_reason 105 = .ok (.iload 8, 2) := by decide +kernel
theorem dX12_reason_107 : decode cX12_reason 107 = .ok (.iconst 1, 1) := by decide +kernel
theorem dX12_reason_108 : decode cX12_reason 108 = .ok (.if_icmp .ne 7, 3) := by decide +kernel
theorem dX12_reason_111 : decode cX12_reason 111 = .ok (.iconst 1, 1) := by decide +kernel
theorem dX12_reason_112 : decode cX12_reason 112 = .ok (.goto 4, 3) := by decide +kernel
theorem dX12_reason_115 : decode cX12_reason 115 = .ok (.iconst 0, 1) := by decide +kernel
theorem dX12_reason_116 : decode cX12_reason 116 = .ok (.if_icmp .eq 8, 3) := by decide +kernel
theorem dX12_reason_119 : decode cX12_reason 119 = .ok (.bipush 8, 2) := by decide +kernel
theorem dX12_reason_121 : decode cX12_reason 121 = .ok (.goto 4, 3) := by decide +kernel
theorem dX12_reason_124 : decode cX12_reason 124 = .ok (.iconst 0, 1) := by decide +kernel
theorem dX12_reason_125 : decode cX12_reason 125 = .ok (.ireturn, 1) := by decide +kernel
theorem dX12_reasonNow_0 : decode cX12_reasonNow 0 = .ok (.aload_n 0, 1) := by decide +kernel
theorem dX12_reasonNow_1 : decode cX12_reasonNow 1 = .ok (.iload_n 1, 1) := by decide +kernel
theorem dX12_reasonNow_2 : decode cX12_reasonNow 2 = .ok (.iload_n 1, 1) := by decide +kernel
theorem dX12_reasonNow_3 : decode cX12_reasonNow 3 = .ok (.aload_n 0, 1) := by decide +kernel
theorem dX12_reasonNow_4 : decode cX12_reasonNow 4 = .ok (.getfield 150, 3) := by decide +kernel
theorem dX12_reasonNow_7 : decode cX12_reasonNow 7 = .ok (.iload_n 2, 1) := by decide +kernel
theorem dX12_reasonNow_8 : decode cX12_reasonNow 8 = .ok (.iload_n 3, 1) := by decide +kernel
theorem dX12_reasonNow_9 : decode cX12_reasonNow 9 = .ok (.aload_n 0, 1) := by decide +kernel
theorem dX12_reasonNow_10 : decode cX12_reasonNow 10 = .ok (.getfield 190, 3) := by decide +kernel
theorem dX12_reasonNow_13 : decode cX12_reasonNow 13 = .ok (.iload 4, 2) := by decide +kernel
theorem dX12_reasonNow_15 : decode cX12_reasonNow 15 = .ok (.aload_n 0, 1) := by decide +kernel
theorem dX12_reasonNow_16 : decode cX12_reasonNow 16 = .ok (.getfield 193, 3) := by decide +kernel
theorem dX12_reasonNow_19 : decode cX12_reasonNow 19 = .ok (.invokevirtual 196, 3) := by decide +kernel
theorem dX12_reasonNow_22 : decode cX12_reasonNow 22 = .ok (.ireturn, 1) := by decide +kernel
theorem dX12_isGoodAt_0 : decode cX12_isGoodAt 0 = .ok (.aload_n 0, 1) := by decide +kernel
theorem dX12_isGoodAt_1 : decode cX12_isGoodAt 1 = .ok (.iload_n 1, 1) := by decide +kernel
theorem dX12_isGoodAt_2 : decode cX12_isGoodAt 2 = .ok (.iload_n 2, 1) := by decide +kernel
theorem dX12_isGoodAt_3 : decode cX12_isGoodAt 3 = .ok (.invokevirtual 172, 3) := by decide +kernel
theorem dX12_isGoodAt_6 : decode cX12_isGoodAt 6 = .ok (.ifCond .eq 28, 3) := by decide +kernel
theorem dX12_isGoodAt_9 : decode cX12_isGoodAt 9 = .ok (.aload_n 0, 1) := by decide +kernel
theorem dX12_isGoodAt_10 : decode cX12_isGoodAt 10 = .ok (.iload_n 1, 1) := by decide +kernel
theorem dX12_isGoodAt_11 : decode cX12_isGoodAt 11 = .ok (.iload_n 2, 1) := by decide +kernel
theorem dX12_isGoodAt_12 : decode cX12_isGoodAt 12 = .ok (.invokevirtual 175, 3) := by decide +kernel
theorem dX12_isGoodAt_15 : decode cX12_isGoodAt 15 = .ok (.ifCond .ne 19, 3) := by decide +kernel
theorem dX12_isGoodAt_18 : decode cX12_isGoodAt 18 = .ok (.aload_n 0, 1) := by decide +kernel
theorem dX12_isGoodAt_19 : decode cX12_isGoodAt 19 = .ok (.iload_n 2, 1) := by decide +kernel
theorem dX12_isGoodAt_20 : decode cX12_isGoodAt 20 = .ok (.aload_n 0, 1) := by decide +kernel
theorem dX12_isGoodAt_21 : decode cX12_isGoodAt 21 = .ok (.getfield 150, 3) := by decide +kernel
theorem dX12_isGoodAt_24 : decode cX12_isGoodAt 24 = .ok (.invokevirtual 178, 3) := by decide +kernel
theorem dX12_isGoodAt_27 : decode cX12_isGoodAt 27 = .ok (.ifCond .ne 7, 3) := by decide +kernel
theorem dX12_isGoodAt_30 : decode cX12_isGoodAt 30 = .ok (.iconst 1, 1) := by decide +kernel
theorem dX12_isGoodAt_31 : decode cX12_isGoodAt 31 = .ok (.goto 4, 3) := by decide +kernel
theorem dX12_isGoodAt_34 : decode cX12_isGoodAt 34 = .ok (.iconst 0, 1) := by decide +kernel
theorem dX12_isGoodAt_35 : decode cX12_isGoodAt 35 = .ok (.ireturn, 1) := by decide +kernel
theorem dX12_draft_0 : decode cX12_draft 0 = .ok (.iload_n 1, 1) := by decide +kernel
theorem dX12_draft_1 : decode cX12_draft 1 = .ok (.iconst 1, 1) := by decide +kernel
theorem dX12_draft_2 : decode cX12_draft 2 = .ok (.bipush 63, 2) := by decide +kernel
theorem dX12_draft_4 : decode cX12_draft 4 = .ok (.invokestatic 124, 3) := by decide +kernel
theorem dX12_draft_7 : decode cX12_draft 7 = .ok (.ifCond .eq 28, 3) := by decide +kernel
theorem dX12_draft_10 : decode cX12_draft 10 = .ok (.iload_n 2, 1) := by decide +kernel
theorem dX12_draft_11 : decode cX12_draft 11 = .ok (.iconst 1, 1) := by decide +kernel
theorem dX12_draft_12 : decode cX12_draft 12 = .ok (.sipush 10000, 3) := by decide +kernel
theorem dX12_draft_15 : decode cX12_draft 15 = .ok (.invokestatic 124, 3) := by decide +kernel
theorem dX12_draft_18 : decode cX12_draft 18 = .ok (.ifCond .eq 17, 3) := by decide +kernel
theorem dX12_draft_21 : decode cX12_draft 21 = .ok (.iload_n 3, 1) := by decide +kernel
theorem dX12_draft_22 : decode cX12_draft 22 = .ok (.iconst 1, 1) := by decide +kernel
theorem dX12_draft_23 : decode cX12_draft 23 = .ok (.ldc 72, 2) := by decide +kernel
theorem dX12_draft_25 : decode cX12_draft 25 = .ok (.invokestatic 124, 3) := by decide +kernel
theorem dX12_draft_28 : decode cX12_draft 28 = .ok (.ifCond .eq 7, 3) := by decide +kernel
theorem dX12_draft_31 : decode cX12_draft 31 = .ok (.iconst 1, 1) := by decide +kernel
theorem dX12_draft_32 : decode cX12_draft 32 = .ok (.goto 4, 3) := by decide +kernel
theorem dX12_draft_35 : decode cX12_draft 35 = .ok (.iconst 0, 1) := by decide +kernel
theorem dX12_draft_36 : decode cX12_draft 36 = .ok (.istore 6, 2) := by decide +kernel
theorem dX12_draft_38 : decode cX12_draft 38 = .ok (.aload_n 0, 1) := by decide +kernel
theorem dX12_draft_39 : decode cX12_draft 39 = .ok (.iload 6, 2) := by decide +kernel
theorem dX12_draft_41 : decode cX12_draft 41 = .ok (.ifCond .eq 29, 3) := by decide +kernel
theorem dX12_draft_44 : decode cX12_draft 44 = .ok (.iload 4, 2) := by decide +kernel
theorem dX12_draft_46 : decode cX12_draft 46 = .ok (.iconst 0, 1) := by decide +kernel
theorem dX12_draft_47 : decode cX12_draft 47 = .ok (.sipush 400, 3) := by decide +kernel
theorem dX12_draft_50 : decode cX12_draft 50 = .ok (.invokestatic 124, 3) := by decide +kernel
theorem dX12_draft_53 : decode cX12_draft 53 = .ok (.ifCond .eq 17, 3) := by decide +kernel
theorem dX12_draft_56 : decode cX12_draft 56 = .ok (.iload 5, 2) := by decide +kernel
theorem dX12_draft_58 : decode cX12_draft 58 = .ok (.iconst 0, 1) := by decide +kernel
theorem dX12_draft_59 : decode cX12_draft 59 = .ok (.iconst 3, 1) := by decide +kernel
theorem dX12_draft_60 : decode cX12_draft 60 = .ok (.invokestatic 124, 3) := by decide +kernel
theorem dX12_draft_63 : decode cX12_draft 63 = .ok (.ifCond .eq 7, 3) := by decide +kernel
theorem dX12_draft_66 : decode cX12_draft 66 = .ok (.iconst 0, 1) := by decide +kernel
theorem dX12_draft_67 : decode cX12_draft 67 = .ok (.goto 4, 3) := by decide +kernel
theorem dX12_draft_70 : decode cX12_draft 70 = .ok (.iconst 1, 1) := by decide +kernel
theorem dX12_draft_71 : decode cX12_draft 71 = .ok (.invokevirtual 143, 3) := by decide +kernel
theorem dX12_draft_74 : decode cX12_draft 74 = .ok (.ifCond .eq 30, 3) := by decide +kernel
theorem dX12_draft_77 : decode cX12_draft 77 = .ok (.aload_n 0, 1) := by decide +kernel
theorem dX12_draft_78 : decode cX12_draft 78 = .ok (.iload_n 1, 1) := by decide +kernel
theorem dX12_draft_79 : decode cX12_draft 79 = .ok (.putfield 65, 3) := by decide +kernel
theorem dX12_draft_82 : decode cX12_draft 82 = .ok (.aload_n 0, 1) := by decide +kernel
theorem dX12_draft_83 : decode cX12_draft 83 = .ok (.iload_n 2, 1) := by decide +kernel
theorem dX12_draft_84 : decode cX12_draft 84 = .ok (.putfield 69, 3) := by decide +kernel
theorem dX12_draft_87 : decode cX12_draft 87 = .ok (.aload_n 0, 1) := by decide +kernel
theorem dX12_draft_88 : decode cX12_draft 88 = .ok (.iload_n 3, 1) := by decide +kernel
theorem dX12_draft_89 : decode cX12_draft 89 = .ok (.putfield 73, 3) := by decide +kernel
theorem dX12_draft_92 : decode cX12_draft 92 = .ok (.aload_n 0, 1) := by decide +kernel
theorem dX12_draft_93 : decode cX12_draft 93 = .ok (.iload 4, 2) := by decide +kernel
theorem dX12_draft_95 : decode cX12_draft 95 = .ok (.putfield 76, 3) := by decide +kernel
theorem dX12_draft_98 : decode cX12_draft 98 = .ok (.aload_n 0, 1) := by decide +kernel
theorem dX12_draft_99 : decode cX12_draft 99 = .ok (.iload 5, 2) := by decide +kernel
theorem dX12_draft_101 : decode cX12_draft 101 = .ok (.putfield 200, 3) := by decide +kernel
theorem dX12_draft_104 : decode cX12_draft 104 = .ok (.return_, 1) := by decide +kernel
theorem dX12_isFull_0 : decode cX12_isFull 0 = .ok (.aload_n 0, 1) := by decide +kernel
theorem dX12_isFull_1 : decode cX12_isFull 1 = .ok (.getfield 128, 3) := by decide +kernel
theorem dX12_isFull_4 : decode cX12_isFull 4 = .ok (.bipush 40, 2) := by decide +kernel
theorem dX12_isFull_6 : decode cX12_isFull 6 = .ok (.if_icmp .eq 13, 3) := by decide +kernel
theorem dX12_isFull_9 : decode cX12_isFull 9 = .ok (.aload_n 0, 1) := by decide +kernel
theorem dX12_isFull_10 : decode cX12_isFull 10 = .ok (.getfield 153, 3) := by decide +kernel
theorem dX12_isFull_13 : decode cX12_isFull 13 = .ok (.sipush 160, 3) := by decide +kernel
theorem dX12_isFull_16 : decode cX12_isFull 16 = .ok (.if_icmp .ne 7, 3) := by decide +kernel
theorem dX12_isFull_19 : decode cX12_isFull 19 = .ok (.iconst 1, 1) := by decide +kernel
theorem dX12_isFull_20 : decode cX12_isFull 20 = .ok (.goto 4, 3) := by decide +kernel
theorem dX12_isFull_23 : decode cX12_isFull 23 = .ok (.iconst 0, 1) := by decide +kernel
theorem dX12_isFull_24 : decode cX12_isFull 24 = .ok (.ireturn, 1) := by decide +kernel
theorem dX12_adds_0 : decode cX12_adds 0 = .ok (.aload_n 0, 1) := by decide +kernel
theorem dX12_adds_1 : decode cX12_adds 1 = .ok (.getfield 41, 3) := by decide +kernel
theorem dX12_adds_4 : decode cX12_adds 4 = .ok (.aload_n 0, 1) := by decide +kernel
theorem dX12_adds_5 : decode cX12_adds 5 = .ok (.getfield 128, 3) := by decide +kernel
theorem dX12_adds_8 : decode cX12_adds 8 = .ok (.iload_n 2, 1) := by decide +kernel
theorem dX12_adds_9 : decode cX12_adds 9 = .ok (.iastore, 1) := by decide +kernel
theorem dX12_adds_10 : decode cX12_adds 10 = .ok (.aload_n 0, 1) := by decide +kernel
theorem dX12_adds_11 : decode cX12_adds 11 = .ok (.getfield 44, 3) := by decide +kernel
theorem dX12_adds_14 : decode cX12_adds 14 = .ok (.aload_n 0, 1) := by decide +kernel
theorem dX12_adds_15 : decode cX12_adds 15 = .ok (.getfield 128, 3) := by decide +kernel
theorem dX12_adds_18 : decode cX12_adds 18 = .ok (.iload_n 3, 1) := by decide +kernel
theorem dX12_adds_19 : decode cX12_adds 19 = .ok (.iastore, 1) := by decide +kernel
theorem dX12_adds_20 : decode cX12_adds 20 = .ok (.aload_n 0, 1) := by decide +kernel
theorem dX12_adds_21 : decode cX12_adds 21 = .ok (.getfield 47, 3) := by decide +kernel
theorem dX12_adds_24 : decode cX12_adds 24 = .ok (.aload_n 0, 1) := by decide +kernel
theorem dX12_adds_25 : decode cX12_adds 25 = .ok (.getfield 128, 3) := by decide +kernel
theorem dX12_adds_28 : decode cX12_adds 28 = .ok (.iload 4, 2) := by decide +kernel
theorem dX12_adds_30 : decode cX12_adds 30 = .ok (.iastore, 1) := by decide +kernel
theorem dX12_adds_31 : decode cX12_adds 31 = .ok (.aload_n 0, 1) := by decide +kernel
theorem dX12_adds_32 : decode cX12_adds 32 = .ok (.getfield 50, 3) := by decide +kernel
theorem dX12_adds_35 : decode cX12_adds 35 = .ok (.aload_n 0, 1) := by decide +kernel
theorem dX12_adds_36 : decode cX12_adds 36 = .ok (.getfield 128, 3) := by decide +kernel
theorem dX12_adds_39 : decode cX12_adds 39 = .ok (.aload_n 0, 1) := by decide +kernel
theorem dX12_adds_40 : decode cX12_adds 40 = .ok (.getfield 65, 3) := by decide +kernel
theorem dX12_adds_43 : decode cX12_adds 43 = .ok (.iastore, 1) := by decide +kernel
theorem dX12_adds_44 : decode cX12_adds 44 = .ok (.aload_n 0, 1) := by decide +kernel
theorem dX12_adds_45 : decode cX12_adds 45 = .ok (.getfield 53, 3) := by decide +kernel
theorem dX12_adds_48 : decode cX12_adds 48 = .ok (.aload_n 0, 1) := by decide +kernel
theorem dX12_adds_49 : decode cX12_adds 49 = .ok (.getfield 128, 3) := by decide +kernel
theorem dX12_adds_52 : decode cX12_adds 52 = .ok (.aload_n 0, 1) := by decide +kernel
theorem dX12_adds_53 : decode cX12_adds 53 = .ok (.getfield 69, 3) := by decide +kernel
theorem dX12_adds_56 : decode cX12_adds 56 = .ok (.iastore, 1) := by decide +kernel
theorem dX12_adds_57 : decode cX12_adds 57 = .ok (.aload_n 0, 1) := by decide +kernel
theorem dX12_adds_58 : decode cX12_adds 58 = .ok (.getfield 56, 3) := by decide +kernel
theorem dX12_adds_61 : decode cX12_adds 61 = .ok (.aload_n 0, 1) := by decide +kernel
theorem dX12_adds_62 : decode cX12_adds 62 = .ok (.getfield 128, 3) := by decide +kernel
theorem dX12_adds_65 : decode cX12_adds 65 = .ok (.aload_n 0, 1) := by decide +kernel
theorem dX12_adds_66 : decode cX12_adds 66 = .ok (.getfield 73, 3) := by decide +kernel
theorem dX12_adds_69 : decode cX12_adds 69 = .ok (.iastore, 1) := by decide +kernel
theorem dX12_adds_70 : decode cX12_adds 70 = .ok (.aload_n 0, 1) := by decide +kernel
theorem dX12_adds_71 : decode cX12_adds 71 = .ok (.getfield 59, 3) := by decide +kernel
theorem dX12_adds_74 : decode cX12_adds 74 = .ok (.aload_n 0, 1) := by decide +kernel
theorem dX12_adds_75 : decode cX12_adds 75 = .ok (.getfield 128, 3) := by decide +kernel
theorem dX12_adds_78 : decode cX12_adds 78 = .ok (.aload_n 0, 1) := by decide +kernel
theorem dX12_adds_79 : decode cX12_adds 79 = .ok (.getfield 150, 3) := by decide +kernel
theorem dX12_adds_82 : decode cX12_adds 82 = .ok (.aload_n 0, 1) := by decide +kernel
theorem dX12_adds_83 : decode cX12_adds 83 = .ok (.getfield 76, 3) := by decide +kernel
theorem dX12_adds_86 : decode cX12_adds 86 = .ok (.iadd, 1) := by decide +kernel
theorem dX12_adds_87 : decode cX12_adds 87 = .ok (.iastore, 1) := by decide +kernel
theorem dX12_adds_88 : decode cX12_adds 88 = .ok (.aload_n 0, 1) := by decide +kernel
theorem dX12_adds_89 : decode cX12_adds 89 = .ok (.getfield 62, 3) := by decide +kernel
theorem dX12_adds_92 : decode cX12_adds 92 = .ok (.aload_n 0, 1) := by decide +kernel
theorem dX12_adds_93 : decode cX12_adds 93 = .ok (.getfield 128, 3) := by decide +kernel
theorem dX12_adds_96 : decode cX12_adds 96 = .ok (.aload_n 0, 1) := by decide +kernel
theorem dX12_adds_97 : decode cX12_adds 97 = .ok (.getfield 200, 3) := by decide +kernel
theorem dX12_adds_100 : decode cX12_adds 100 = .ok (.iastore, 1) := by decide +kernel
theorem dX12_adds_101 : decode cX12_adds 101 = .ok (.aload_n 0, 1) := by decide +kernel
theorem dX12_adds_102 : decode cX12_adds 102 = .ok (.getfield 38, 3) := by decide +kernel
theorem dX12_adds_105 : decode cX12_adds 105 = .ok (.aload_n 0, 1) := by decide +kernel
theorem dX12_adds_106 : decode cX12_adds 106 = .ok (.getfield 128, 3) := by decide +kernel
theorem dX12_adds_109 : decode cX12_adds 109 = .ok (.aload_n 0, 1) := by decide +kernel
theorem dX12_adds_110 : decode cX12_adds 110 = .ok (.iload_n 1, 1) := by decide +kernel
theorem dX12_adds_111 : decode cX12_adds 111 = .ok (.iconst 0, 1) := by decide +kernel
theorem dX12_adds_112 : decode cX12_adds 112 = .ok (.aload_n 0, 1) := by decide +kernel
theorem dX12_adds_113 : decode cX12_adds 113 = .ok (.getfield 128, 3) := by decide +kernel
theorem dX12_adds_116 : decode cX12_adds 116 = .ok (.invokevirtual 203, 3) := by decide +kernel
theorem dX12_adds_119 : decode cX12_adds 119 = .ok (.iastore, 1) := by decide +kernel
theorem dX12_adds_120 : decode cX12_adds 120 = .ok (.aload_n 0, 1) := by decide +kernel
theorem dX12_adds_121 : decode cX12_adds 121 = .ok (.dup, 1) := by decide +kernel
theorem dX12_adds_122 : decode cX12_adds 122 = .ok (.getfield 128, 3) := by decide +kernel
theorem dX12_adds_125 : decode cX12_adds 125 = .ok (.iconst 1, 1) := by decide +kernel
theorem dX12_adds_126 : decode cX12_adds 126 = .ok (.iadd, 1) := by decide +kernel
theorem dX12_adds_127 : decode cX12_adds 127 = .ok (.putfield 128, 3) := by decide +kernel
theorem dX12_adds_130 : decode cX12_adds 130 = .ok (.aload_n 0, 1) := by decide +kernel
theorem dX12_adds_131 : decode cX12_adds 131 = .ok (.getfield 128, 3) := by decide +kernel
theorem dX12_adds_134 : decode cX12_adds 134 = .ok (.iconst 1, 1) := by decide +kernel
theorem dX12_adds_135 : decode cX12_adds 135 = .ok (.isub, 1) := by decide +kernel
theorem dX12_adds_136 : decode cX12_adds 136 = .ok (.ireturn, 1) := by decide +kernel
theorem dX12_grant_0 : decode cX12_grant 0 = .ok (.iload_n 1, 1) := by decide +kernel
theorem dX12_grant_1 : decode cX12_grant 1 = .ok (.invokestatic 131, 3) := by decide +kernel
theorem dX12_grant_4 : decode cX12_grant 4 = .ok (.ifCond .eq 21, 3) := by decide +kernel
theorem dX12_grant_7 : decode cX12_grant 7 = .ok (.iload_n 2, 1) := by decide +kernel
theorem dX12_grant_8 : decode cX12_grant 8 = .ok (.invokestatic 206, 3) := by decide +kernel
theorem dX12_grant_11 : decode cX12_grant 11 = .ok (.ifCond .eq 14, 3) := by decide +kernel
theorem dX12_grant_14 : decode cX12_grant 14 = .ok (.iload_n 3, 1) := by decide +kernel
theorem dX12_grant_15 : decode cX12_grant 15 = .ok (.invokestatic 206, 3) := by decide +kernel
theorem dX12_grant_18 : decode cX12_grant 18 = .ok (.ifCond .eq 7, 3) := by decide +kernel
theorem dX12_grant_21 : decode cX12_grant 21 = .ok (.iconst 1, 1) := by decide +kernel
theorem dX12_grant_22 : decode cX12_grant 22 = .ok (.goto 4, 3) := by decide +kernel
theorem dX12_grant_25 : decode cX12_grant 25 = .ok (.iconst 0, 1) := by decide +kernel
theorem dX12_grant_26 : decode cX12_grant 26 = .ok (.istore 4, 2) := by decide +kernel
theorem dX12_grant_28 : decode cX12_grant 28 = .ok (.aload_n 0, 1) := by decide +kernel
theorem dX12_grant_29 : decode cX12_grant 29 = .ok (.iload 4, 2) := by decide +kernel
theorem dX12_grant_31 : decode cX12_grant 31 = .ok (.ifCond .ne 7, 3) := by decide +kernel
theorem dX12_grant_34 : decode cX12_grant 34 = .ok (.iconst 1, 1) := by decide +kernel
theorem dX12_grant_35 : decode cX12_grant 35 = .ok (.goto 24, 3) := by decide +kernel
theorem dX12_grant_38 : decode cX12_grant 38 = .ok (.iload_n 2, 1) := by decide +kernel
theorem dX12_grant_39 : decode cX12_grant 39 = .ok (.iload_n 3, 1) := by decide +kernel
theorem dX12_grant_40 : decode cX12_grant 40 = .ok (.if_icmp .ne 7, 3) := by decide +kernel
theorem dX12_grant_43 : decode cX12_grant 43 = .ok (.iconst 2, 1) := by decide +kernel
theorem dX12_grant_44 : decode cX12_grant 44 = .ok (.goto 15, 3) := by decide +kernel
theorem dX12_grant_47 : decode cX12_grant 47 = .ok (.aload_n 0, 1) := by decide +kernel
theorem dX12_grant_48 : decode cX12_grant 48 = .ok (.invokevirtual 209, 3) := by decide +kernel
theorem dX12_grant_51 : decode cX12_grant 51 = .ok (.ifCond .eq 7, 3) := by decide +kernel
theorem dX12_grant_54 : decode cX12_grant 54 = .ok (.iconst 3, 1) := by decide +kernel
theorem dX12_grant_55 : decode cX12_grant 55 = .ok (.goto 4, 3) := by decide +kernel
theorem dX12_grant_58 : decode cX12_grant 58 = .ok (.iconst 0, 1) := by decide +kernel
theorem dX12_grant_59 : decode cX12_grant 59 = .ok (.invokevirtual 143, 3) := by decide +kernel
theorem dX12_grant_62 : decode cX12_grant 62 = .ok (.ifCond .eq 14, 3) := by decide +kernel
theorem dX12_grant_65 : decode cX12_grant 65 = .ok (.aload_n 0, 1) := by decide +kernel
theorem dX12_grant_66 : decode cX12_grant 66 = .ok (.iload_n 1, 1) := by decide +kernel
theorem dX12_grant_67 : decode cX12_grant 67 = .ok (.iload_n 2, 1) := by decide +kernel
theorem dX12_grant_68 : decode cX12_grant 68 = .ok (.iload_n 3, 1) := by decide +kernel
theorem dX12_grant_69 : decode cX12_grant 69 = .ok (.iconst (-1), 1) := by decide +kernel
theorem dX12_grant_70 : decode cX12_grant 70 = .ok (.invokevirtual 213, 3) := by decide +kernel
theorem dX12_grant_73 : decode cX12_grant 73 = .ok (.goto 4, 3) := by decide +kernel
theorem dX12_grant_76 : decode cX12_grant 76 = .ok (.iconst 0, 1) := by decide +kernel
theorem dX12_grant_77 : decode cX12_grant 77 = .ok (.ireturn, 1) := by decide +kernel
theorem dX12_isWithin_0 : decode cX12_isWithin 0 = .ok (.aload_n 0, 1) := by decide +kernel
theorem dX12_isWithin_1 : decode cX12_isWithin 1 = .ok (.getfield 65, 3) := by decide +kernel
theorem dX12_isWithin_4 : decode cX12_isWithin 4 = .ok (.aload_n 0, 1) := by decide +kernel
theorem dX12_isWithin_5 : decode cX12_isWithin 5 = .ok (.getfield 50, 3) := by decide +kernel
theorem dX12_isWithin_8 : decode cX12_isWithin 8 = .ok (.iload_n 1, 1) := by decide +kernel
theorem dX12_isWithin_9 : decode cX12_isWithin 9 = .ok (.iaload, 1) := by decide +kernel
theorem dX12_isWithin_10 : decode cX12_isWithin 10 = .ok (.iconst (-1), 1) := by decide +kernel
theorem dX12_isWithin_11 : decode cX12_isWithin 11 = .ok (.ixor, 1) := by decide +kernel
theorem dX12_isWithin_12 : decode cX12_isWithin 12 = .ok (.iand, 1) := by decide +kernel
theorem dX12_isWithin_13 : decode cX12_isWithin 13 = .ok (.ifCond .ne 33, 3) := by decide +kernel
theorem dX12_isWithin_16 : decode cX12_isWithin 16 = .ok (.aload_n 0, 1) := by decide +kernel
theorem dX12_isWithin_17 : decode cX12_isWithin 17 = .ok (.getfield 69, 3) := by decide +kernel
theorem dX12_isWithin_20 : decode cX12_isWithin 20 = .ok (.aload_n 0, 1) := by decide +kernel
theorem dX12_isWithin_21 : decode cX12_isWithin 21 = .ok (.getfield 53, 3) := by decide +kernel
theorem dX12_isWithin_24 : decode cX12_isWithin 24 = .ok (.iload_n 1, 1) := by decide +kernel
theorem dX12_isWithin_25 : decode cX12_isWithin 25 = .ok (.iaload, 1) := by decide +kernel
theorem dX12_isWithin_26 : decode cX12_isWithin 26 = .ok (.if_icmp .gt 20, 3) := by decide +kernel
theorem dX12_isWithin_29 : decode cX12_isWithin 29 = .ok (.aload_n 0, 1) := by decide +kernel
theorem dX12_isWithin_30 : decode cX12_isWithin 30 = .ok (.getfield 73, 3) := by decide +kernel
theorem dX12_isWithin_33 : decode cX12_isWithin 33 = .ok (.aload_n 0, 1) := by decide +kernel
theorem dX12_isWithin_34 : decode cX12_isWithin 34 = .ok (.getfield 56, 3) := by decide +kernel
theorem dX12_isWithin_37 : decode cX12_isWithin 37 = .ok (.iload_n 1, 1) := by decide +kernel
theorem dX12_isWithin_38 : decode cX12_isWithin 38 = .ok (.iaload, 1) := by decide +kernel
theorem dX12_isWithin_39 : decode cX12_isWithin 39 = .ok (.if_icmp .gt 7, 3) := by decide +kernel
theorem dX12_isWithin_42 : decode cX12_isWithin 42 = .ok (.iconst 1, 1) := by decide +kernel
theorem dX12_isWithin_43 : decode cX12_isWithin 43 = .ok (.goto 4, 3) := by decide +kernel
theorem dX12_isWithin_46 : decode cX12_isWithin 46 = .ok (.iconst 0, 1) := by decide +kernel
theorem dX12_isWithin_47 : decode cX12_isWithin 47 = .ok (.istore_n 2, 1) := by decide +kernel
theorem dX12_isWithin_48 : decode cX12_isWithin 48 = .ok (.iload_n 2, 1) := by decide +kernel
theorem dX12_isWithin_49 : decode cX12_isWithin 49 = .ok (.ifCond .eq 38, 3) := by decide +kernel
theorem dX12_isWithin_52 : decode cX12_isWithin 52 = .ok (.aload_n 0, 1) := by decide +kernel
theorem dX12_isWithin_53 : decode cX12_isWithin 53 = .ok (.getfield 150, 3) := by decide +kernel
theorem dX12_isWithin_56 : decode cX12_isWithin 56 = .ok (.aload_n 0, 1) := by decide +kernel
theorem dX12_isWithin_57 : decode cX12_isWithin 57 = .ok (.getfield 76, 3) := by decide +kernel
theorem dX12_isWithin_60 : decode cX12_isWithin 60 = .ok (.iadd, 1) := by decide +kernel
theorem dX12_isWithin_61 : decode cX12_isWithin 61 = .ok (.aload_n 0, 1) := by decide +kernel
theorem dX12_isWithin_62 : decode cX12_isWithin 62 = .ok (.getfield 59, 3) := by decide +kernel
theorem dX12_isWithin_65 : decode cX12_isWithin 65 = .ok (.iload_n 1, 1) := by decide +kernel
theorem dX12_isWithin_66 : decode cX12_isWithin 66 = .ok (.iaload, 1) := by decide +kernel
theorem dX12_isWithin_67 : decode cX12_isWithin 67 = .ok (.if_icmp .gt 20, 3) := by decide +kernel
theorem dX12_isWithin_70 : decode cX12_isWithin 70 = .ok (.aload_n 0, 1) := by decide +kernel
theorem dX12_isWithin_71 : decode cX12_isWithin 71 = .ok (.getfield 200, 3) := by decide +kernel
theorem dX12_isWithin_74 : decode cX12_isWithin 74 = .ok (.aload_n 0, 1) := by decide +kernel
theorem dX12_isWithin_75 : decode cX12_isWithin 75 = .ok (.getfield 62, 3) := by decide +kernel
theorem dX12_isWithin_78 : decode cX12_isWithin 78 = .ok (.iload_n 1, 1) := by decide +kernel
theorem dX12_isWithin_79 : decode cX12_isWithin 79 = .ok (.iaload, 1) := by decide +kernel
theorem dX12_isWithin_80 : decode cX12_isWithin 80 = .ok (.if_icmp .ge 7, 3) := by decide +kernel
theorem dX12_isWithin_83 : decode cX12_isWithin 83 = .ok (.iconst 1, 1) := by decide +kernel
theorem dX12_isWithin_84 : decode cX12_isWithin 84 = .ok (.goto 4, 3) := by decide +kernel
theorem dX12_isWithin_87 : decode cX12_isWithin 87 = .ok (.iconst 0, 1) := by decide +kernel
theorem dX12_isWithin_88 : decode cX12_isWithin 88 = .ok (.ireturn, 1) := by decide +kernel
theorem dX12_errorOfPassOn_0 : decode cX12_errorOfPassOn 0 = .ok (.iload_n 1, 1) := by decide +kernel
theorem dX12_errorOfPassOn_1 : decode cX12_errorOfPassOn 1 = .ok (.invokestatic 131, 3) := by decide +kernel
theorem dX12_errorOfPassOn_4 : decode cX12_errorOfPassOn 4 = .ok (.ifCond .eq 18, 3) := by decide +kernel
theorem dX12_errorOfPassOn_7 : decode cX12_errorOfPassOn 7 = .ok (.aload_n 0, 1) := by decide +kernel
theorem dX12_errorOfPassOn_8 : decode cX12_errorOfPassOn 8 = .ok (.iload_n 2, 1) := by decide +kernel
theorem dX12_errorOfPassOn_9 : decode cX12_errorOfPassOn 9 = .ok (.invokevirtual 217, 3) := by decide +kernel
theorem dX12_errorOfPassOn_12 : decode cX12_errorOfPassOn 12 = .ok (.ifCond .eq 10, 3) := by decide +kernel
theorem dX12_errorOfPassOn_15 : decode cX12_errorOfPassOn 15 = .ok (.iload_n 3, 1) := by decide +kernel
theorem dX12_errorOfPassOn_16 : decode cX12_errorOfPassOn 16 = .ok (.invokestatic 206, 3) := by decide +kernel
theorem dX12_errorOfPassOn_19 : decode cX12_errorOfPassOn 19 = .ok (.ifCond .ne 5, 3) := by decide +kernel
theorem dX12_errorOfPassOn_22 : decode cX12_errorOfPassOn 22 = .ok (.iconst 1, 1) := by decide +kernel
theorem dX12_errorOfPassOn_23 : decode cX12_errorOfPassOn 23 = .ok (.ireturn, 1) := by decide +kernel
theorem dX12_errorOfPassOn_24 : decode cX12_errorOfPassOn 24 = .ok (.aload_n 0, 1) := by decide +kernel
theorem dX12_errorOfPassOn_25 : decode cX12_errorOfPassOn 25 = .ok (.getfield 44, 3) := by decide +kernel
theorem dX12_errorOfPassOn_28 : decode cX12_errorOfPassOn 28 = .ok (.iload_n 2, 1) := by decide +kernel
theorem dX12_errorOfPassOn_29 : decode cX12_errorOfPassOn 29 = .ok (.iaload, 1) := by decide +kernel
theorem dX12_errorOfPassOn_30 : decode cX12_errorOfPassOn 30 = .ok (.iload_n 3, 1) := by decide +kernel
theorem dX12_errorOfPassOn_31 : decode cX12_errorOfPassOn 31 = .ok (.if_icmp .eq 11, 3) := by decide +kernel
theorem dX12_errorOfPassOn_34 : decode cX12_errorOfPassOn 34 = .ok (.aload_n 0, 1) := by decide +kernel
theorem dX12_errorOfPassOn_35 : decode cX12_errorOfPassOn 35 = .ok (.iload_n 2, 1) := by decide +kernel
theorem dX12_errorOfPassOn_36 : decode cX12_errorOfPassOn 36 = .ok (.invokevirtual 220, 3) := by decide +kernel
theorem dX12_errorOfPassOn_39 : decode cX12_errorOfPassOn 39 = .ok (.ifCond .ne 7, 3) := by decide +kernel
theorem dX12_errorOfPassOn_42 : decode cX12_errorOfPassOn 42 = .ok (.iconst 2, 1) := by decide +kernel
theorem dX12_errorOfPassOn_43 : decode cX12_errorOfPassOn 43 = .ok (.goto 24, 3) := by decide +kernel
theorem dX12_errorOfPassOn_46 : decode cX12_errorOfPassOn 46 = .ok (.aload_n 0, 1) := by decide +kernel
theorem dX12_errorOfPassOn_47 : decode cX12_errorOfPassOn 47 = .ok (.invokevirtual 209, 3) := by decide +kernel
theorem dX12_errorOfPassOn_50 : decode cX12_errorOfPassOn 50 = .ok (.ifCond .ne 12, 3) := by decide +kernel
theorem dX12_errorOfPassOn_53 : decode cX12_errorOfPassOn 53 = .ok (.aload_n 0, 1) := by decide +kernel
theorem dX12_errorOfPassOn_54 : decode cX12_errorOfPassOn 54 = .ok (.iload_n 1, 1) := by decide +kernel
theorem dX12_errorOfPassOn_55 : decode cX12_errorOfPassOn 55 = .ok (.iload_n 2, 1) := by decide +kernel
theorem dX12_errorOfPassOn_56 : decode cX12_errorOfPassOn 56 = .ok (.invokevirtual 223, 3) := by decide +kernel
theorem dX12_errorOfPassOn_59 : decode cX12_errorOfPassOn 59 = .ok (.ifCond .ne 7, 3) := by decide +kernel
theorem dX12_errorOfPassOn_62 : decode cX12_errorOfPassOn 62 = .ok (.iconst 3, 1) := by decide +kernel
theorem dX12_errorOfPassOn_63 : decode cX12_errorOfPassOn 63 = .ok (.goto 4, 3) := by decide +kernel
theorem dX12_errorOfPassOn_66 : decode cX12_errorOfPassOn 66 = .ok (.iconst 0, 1) := by decide +kernel
theorem dX12_errorOfPassOn_67 : decode cX12_errorOfPassOn 67 = .ok (.ireturn, 1) := by decide +kernel
theorem dX12_passOn_0 : decode cX12_passOn 0 = .ok (.aload_n 0, 1) := by decide +kernel
theorem dX12_passOn_1 : decode cX12_passOn 1 = .ok (.aload_n 0, 1) := by decide +kernel
theorem dX12_passOn_2 : decode cX12_passOn 2 = .ok (.iload_n 1, 1) := by decide +kernel
theorem dX12_passOn_3 : decode cX12_passOn 3 = .ok (.iload_n 2, 1) := by decide +kernel
theorem dX12_passOn_4 : decode cX12_passOn 4 = .ok (.iload_n 3, 1) := by decide +kernel
theorem dX12_passOn_5 : decode cX12_passOn 5 = .ok (.invokevirtual 226, 3) := by decide +kernel
theorem dX12_passOn_8 : decode cX12_passOn 8 = .ok (.invokevirtual 143, 3) := by decide +kernel
theorem dX12_passOn_11 : decode cX12_passOn 11 = .ok (.ifCond .eq 19, 3) := by decide +kernel
theorem dX12_passOn_14 : decode cX12_passOn 14 = .ok (.aload_n 0, 1) := by decide +kernel
theorem dX12_passOn_15 : decode cX12_passOn 15 = .ok (.iload_n 1, 1) := by decide +kernel
theorem dX12_passOn_16 : decode cX12_passOn 16 = .ok (.aload_n 0, 1) := by decide +kernel
theorem dX12_passOn_17 : decode cX12_passOn 17 = .ok (.getfield 44, 3) := by decide +kernel
theorem dX12_passOn_20 : decode cX12_passOn 20 = .ok (.iload_n 2, 1) := by decide +kernel
theorem dX12_passOn_21 : decode cX12_passOn 21 = .ok (.iaload, 1) := by decide +kernel
theorem dX12_passOn_22 : decode cX12_passOn 22 = .ok (.iload_n 3, 1) := by decide +kernel
theorem dX12_passOn_23 : decode cX12_passOn 23 = .ok (.iload_n 2, 1) := by decide +kernel
theorem dX12_passOn_24 : decode cX12_passOn 24 = .ok (.invokevirtual 213, 3) := by decide +kernel
theorem dX12_passOn_27 : decode cX12_passOn 27 = .ok (.goto 4, 3) := by decide +kernel
theorem dX12_passOn_30 : decode cX12_passOn 30 = .ok (.iconst 0, 1) := by decide +kernel
theorem dX12_passOn_31 : decode cX12_passOn 31 = .ok (.ireturn, 1) := by decide +kernel
theorem dX12_isGiver_0 : decode cX12_isGiver 0 = .ok (.iload_n 2, 1) := by decide +kernel
theorem dX12_isGiver_1 : decode cX12_isGiver 1 = .ok (.istore_n 3, 1) := by decide +kernel
theorem dX12_isGiver_2 : decode cX12_isGiver 2 = .ok (.iload_n 3, 1) := by decide +kernel
theorem dX12_isGiver_3 : decode cX12_isGiver 3 = .ok (.iconst (-1), 1) := by decide +kernel
theorem dX12_isGiver_4 : decode cX12_isGiver 4 = .ok (.if_icmp .eq 25, 3) := by decide +kernel
theorem dX12_isGiver_7 : decode cX12_isGiver 7 = .ok (.aload_n 0, 1) := by decide +kernel
theorem dX12_isGiver_8 : decode cX12_isGiver 8 = .ok (.getfield 41, 3) := by decide +kernel
theorem dX12_isGiver_11 : decode cX12_isGiver 11 = .ok (.iload_n 3, 1) := by decide +kernel
theorem dX12_isGiver_12 : decode cX12_isGiver 12 = .ok (.iaload, 1) := by decide +kernel
theorem dX12_isGiver_13 : decode cX12_isGiver 13 = .ok (.iload_n 1, 1) := by decide +kernel
theorem dX12_isGiver_14 : decode cX12_isGiver 14 = .ok (.if_icmp .ne 5, 3) := by decide +kernel
theorem dX12_isGiver_17 : decode cX12_isGiver 17 = .ok (.iconst 1, 1) := by decide +kernel
theorem dX12_isGiver_18 : decode cX12_isGiver 18 = .ok (.ireturn, 1) := by decide +kernel
theorem dX12_isGiver_19 : decode cX12_isGiver 19 = .ok (.aload_n 0, 1) := by decide +kernel
theorem dX12_isGiver_20 : decode cX12_isGiver 20 = .ok (.getfield 47, 3) := by decide +kernel
theorem dX12_isGiver_23 : decode cX12_isGiver 23 = .ok (.iload_n 3, 1) := by decide +kernel
theorem dX12_isGiver_24 : decode cX12_isGiver 24 = .ok (.iaload, 1) := by decide +kernel
theorem dX12_isGiver_25 : decode cX12_isGiver 25 = .ok (.istore_n 3, 1) := by decide +kernel
theorem dX12_isGiver_26 : decode cX12_isGiver 26 = .ok (.goto (-24), 3) := by decide +kernel
theorem dX12_isGiver_29 : decode cX12_isGiver 29 = .ok (.iconst 0, 1) := by decide +kernel
theorem dX12_isGiver_30 : decode cX12_isGiver 30 = .ok (.ireturn, 1) := by decide +kernel
theorem dX12_errorOfRevoke_0 : decode cX12_errorOfRevoke 0 = .ok (.iload_n 1, 1) := by decide +kernel
theorem dX12_errorOfRevoke_1 : decode cX12_errorOfRevoke 1 = .ok (.invokestatic 131, 3) := by decide +kernel
theorem dX12_errorOfRevoke_4 : decode cX12_errorOfRevoke 4 = .ok (.ifCond .eq 18, 3) := by decide +kernel
theorem dX12_errorOfRevoke_7 : decode cX12_errorOfRevoke 7 = .ok (.iload_n 2, 1) := by decide +kernel
theorem dX12_errorOfRevoke_8 : decode cX12_errorOfRevoke 8 = .ok (.invokestatic 206, 3) := by decide +kernel
theorem dX12_errorOfRevoke_11 : decode cX12_errorOfRevoke 11 = .ok (.ifCond .eq 11, 3) := by decide +kernel
theorem dX12_errorOfRevoke_14 : decode cX12_errorOfRevoke 14 = .ok (.aload_n 0, 1) := by decide +kernel
theorem dX12_errorOfRevoke_15 : decode cX12_errorOfRevoke 15 = .ok (.iload_n 3, 1) := by decide +kernel
theorem dX12_errorOfRevoke_16 : decode cX12_errorOfRevoke 16 = .ok (.invokevirtual 217, 3) := by decide +kernel
theorem dX12_errorOfRevoke_19 : decode cX12_errorOfRevoke 19 = .ok (.ifCond .ne 5, 3) := by decide +kernel
theorem dX12_errorOfRevoke_22 : decode cX12_errorOfRevoke 22 = .ok (.iconst 1, 1) := by decide +kernel
theorem dX12_errorOfRevoke_23 : decode cX12_errorOfRevoke 23 = .ok (.ireturn, 1) := by decide +kernel
theorem dX12_errorOfRevoke_24 : decode cX12_errorOfRevoke 24 = .ok (.aload_n 0, 1) := by decide +kernel
theorem dX12_errorOfRevoke_25 : decode cX12_errorOfRevoke 25 = .ok (.iload_n 2, 1) := by decide +kernel
theorem dX12_errorOfRevoke_26 : decode cX12_errorOfRevoke 26 = .ok (.iload_n 3, 1) := by decide +kernel
theorem dX12_errorOfRevoke_27 : decode cX12_errorOfRevoke 27 = .ok (.invokevirtual 229, 3) := by decide +kernel
theorem dX12_errorOfRevoke_30 : decode cX12_errorOfRevoke 30 = .ok (.ifCond .ne 7, 3) := by decide +kernel
theorem dX12_errorOfRevoke_33 : decode cX12_errorOfRevoke 33 = .ok (.iconst 2, 1) := by decide +kernel
theorem dX12_errorOfRevoke_34 : decode cX12_errorOfRevoke 34 = .ok (.goto 36, 3) := by decide +kernel
theorem dX12_errorOfRevoke_37 : decode cX12_errorOfRevoke 37 = .ok (.aload_n 0, 1) := by decide +kernel
theorem dX12_errorOfRevoke_38 : decode cX12_errorOfRevoke 38 = .ok (.getfield 153, 3) := by decide +kernel
theorem dX12_errorOfRevoke_41 : decode cX12_errorOfRevoke 41 = .ok (.sipush 160, 3) := by decide +kernel
theorem dX12_errorOfRevoke_44 : decode cX12_errorOfRevoke 44 = .ok (.if_icmp .eq 21, 3) := by decide +kernel
theorem dX12_errorOfRevoke_47 : decode cX12_errorOfRevoke 47 = .ok (.aload_n 0, 1) := by decide +kernel
theorem dX12_errorOfRevoke_48 : decode cX12_errorOfRevoke 48 = .ok (.iload_n 1, 1) := by decide +kernel
theorem dX12_errorOfRevoke_49 : decode cX12_errorOfRevoke 49 = .ok (.iload_n 3, 1) := by decide +kernel
theorem dX12_errorOfRevoke_50 : decode cX12_errorOfRevoke 50 = .ok (.invokevirtual 172, 3) := by decide +kernel
theorem dX12_errorOfRevoke_53 : decode cX12_errorOfRevoke 53 = .ok (.ifCond .eq 12, 3) := by decide +kernel
theorem dX12_errorOfRevoke_56 : decode cX12_errorOfRevoke 56 = .ok (.aload_n 0, 1) := by decide +kernel
theorem dX12_errorOfRevoke_57 : decode cX12_errorOfRevoke 57 = .ok (.iload_n 1, 1) := by decide +kernel
theorem dX12_errorOfRevoke_58 : decode cX12_errorOfRevoke 58 = .ok (.iload_n 3, 1) := by decide +kernel
theorem dX12_errorOfRevoke_59 : decode cX12_errorOfRevoke 59 = .ok (.invokevirtual 175, 3) := by decide +kernel
theorem dX12_errorOfRevoke_62 : decode cX12_errorOfRevoke 62 = .ok (.ifCond .eq 7, 3) := by decide +kernel
theorem dX12_errorOfRevoke_65 : decode cX12_errorOfRevoke 65 = .ok (.iconst 3, 1) := by decide +kernel
theorem dX12_errorOfRevoke_66 : decode cX12_errorOfRevoke 66 = .ok (.goto 4, 3) := by decide +kernel
theorem dX12_errorOfRevoke_69 : decode cX12_errorOfRevoke 69 = .ok (.iconst 0, 1) := by decide +kernel
theorem dX12_errorOfRevoke_70 : decode cX12_errorOfRevoke 70 = .ok (.ireturn, 1) := by decide +kernel
theorem dX12_revoke_0 : decode cX12_revoke 0 = .ok (.aload_n 0, 1) := by decide +kernel
theorem dX12_revoke_1 : decode cX12_revoke 1 = .ok (.aload_n 0, 1) := by decide +kernel
theorem dX12_revoke_2 : decode cX12_revoke 2 = .ok (.iload_n 1, 1) := by decide +kernel
theorem dX12_revoke_3 : decode cX12_revoke 3 = .ok (.iload_n 2, 1) := by decide +kernel
theorem dX12_revoke_4 : decode cX12_revoke 4 = .ok (.iload_n 3, 1) := by decide +kernel
theorem dX12_revoke_5 : decode cX12_revoke 5 = .ok (.invokevirtual 232, 3) := by decide +kernel
theorem dX12_revoke_8 : decode cX12_revoke 8 = .ok (.invokevirtual 143, 3) := by decide +kernel
theorem dX12_revoke_11 : decode cX12_revoke 11 = .ok (.ifCond .eq 13, 3) := by decide +kernel
theorem dX12_revoke_14 : decode cX12_revoke 14 = .ok (.aload_n 0, 1) := by decide +kernel
theorem dX12_revoke_15 : decode cX12_revoke 15 = .ok (.iload_n 1, 1) := by decide +kernel
theorem dX12_revoke_16 : decode cX12_revoke 16 = .ok (.iconst 1, 1) := by decide +kernel
theorem dX12_revoke_17 : decode cX12_revoke 17 = .ok (.iload_n 3, 1) := by decide +kernel
theorem dX12_revoke_18 : decode cX12_revoke 18 = .ok (.invokevirtual 203, 3) := by decide +kernel
theorem dX12_revoke_21 : decode cX12_revoke 21 = .ok (.goto 4, 3) := by decide +kernel
theorem dX12_revoke_24 : decode cX12_revoke 24 = .ok (.iconst 0, 1) := by decide +kernel
theorem dX12_revoke_25 : decode cX12_revoke 25 = .ok (.ireturn, 1) := by decide +kernel
theorem dX12_isDeputed_0 : decode cX12_isDeputed 0 = .ok (.iconst 0, 1) := by decide +kernel
theorem dX12_isDeputed_1 : decode cX12_isDeputed 1 = .ok (.istore 4, 2) := by decide +kernel
theorem dX12_isDeputed_3 : decode cX12_isDeputed 3 = .ok (.iload 4, 2) := by decide +kernel
theorem dX12_isDeputed_5 : decode cX12_isDeputed 5 = .ok (.aload_n 0, 1) := by decide +kernel
theorem dX12_isDeputed_6 : decode cX12_isDeputed 6 = .ok (.getfield 153, 3) := by decide +kernel
theorem dX12_isDeputed_9 : decode cX12_isDeputed 9 = .ok (.if_icmp .ge 55, 3) := by decide +kernel
theorem dX12_isDeputed_12 : decode cX12_isDeputed 12 = .ok (.aload_n 0, 1) := by decide +kernel
theorem dX12_isDeputed_13 : decode cX12_isDeputed 13 = .ok (.getfield 13, 3) := by decide +kernel
theorem dX12_isDeputed_16 : decode cX12_isDeputed 16 = .ok (.iload 4, 2) := by decide +kernel
theorem dX12_isDeputed_18 : decode cX12_isDeputed 18 = .ok (.iaload, 1) := by decide +kernel
theorem dX12_isDeputed_19 : decode cX12_isDeputed 19 = .ok (.iconst 2, 1) := by decide +kernel
theorem dX12_isDeputed_20 : decode cX12_isDeputed 20 = .ok (.if_icmp .ne 38, 3) := by decide +kernel
theorem dX12_isDeputed_23 : decode cX12_isDeputed 23 = .ok (.aload_n 0, 1) := by decide +kernel
theorem dX12_isDeputed_24 : decode cX12_isDeputed 24 = .ok (.getfield 22, 3) := by decide +kernel
theorem dX12_isDeputed_27 : decode cX12_isDeputed 27 = .ok (.iload 4, 2) := by decide +kernel
theorem dX12_isDeputed_29 : decode cX12_isDeputed 29 = .ok (.iaload, 1) := by decide +kernel
theorem dX12_isDeputed_30 : decode cX12_isDeputed 30 = .ok (.iload_n 1, 1) := by decide +kernel
theorem dX12_isDeputed_31 : decode cX12_isDeputed 31 = .ok (.if_icmp .ne 27, 3) := by decide +kernel
theorem dX12_isDeputed_34 : decode cX12_isDeputed 34 = .ok (.aload_n 0, 1) := by decide +kernel
theorem dX12_isDeputed_35 : decode cX12_isDeputed 35 = .ok (.getfield 25, 3) := by decide +kernel
theorem dX12_isDeputed_38 : decode cX12_isDeputed 38 = .ok (.iload 4, 2) := by decide +kernel
theorem dX12_isDeputed_40 : decode cX12_isDeputed 40 = .ok (.iaload, 1) := by decide +kernel
theorem dX12_isDeputed_41 : decode cX12_isDeputed 41 = .ok (.iload_n 3, 1) := by decide +kernel
theorem dX12_isDeputed_42 : decode cX12_isDeputed 42 = .ok (.if_icmp .gt 16, 3) := by decide +kernel
theorem dX12_isDeputed_45 : decode cX12_isDeputed 45 = .ok (.aload_n 0, 1) := by decide +kernel
theorem dX12_isDeputed_46 : decode cX12_isDeputed 46 = .ok (.getfield 28, 3) := by decide +kernel
theorem dX12_isDeputed_49 : decode cX12_isDeputed 49 = .ok (.iload 4, 2) := by decide +kernel
theorem dX12_isDeputed_51 : decode cX12_isDeputed 51 = .ok (.iaload, 1) := by decide +kernel
theorem dX12_isDeputed_52 : decode cX12_isDeputed 52 = .ok (.iload_n 2, 1) := by decide +kernel
theorem dX12_isDeputed_53 : decode cX12_isDeputed 53 = .ok (.if_icmp .lt 5, 3) := by decide +kernel
theorem dX12_isDeputed_56 : decode cX12_isDeputed 56 = .ok (.iconst 1, 1) := by decide +kernel
theorem dX12_isDeputed_57 : decode cX12_isDeputed 57 = .ok (.ireturn, 1) := by decide +kernel
theorem dX12_isDeputed_58 : decode cX12_isDeputed 58 = .ok (.iinc 4 1, 3) := by decide +kernel
theorem dX12_isDeputed_61 : decode cX12_isDeputed 61 = .ok (.goto (-58), 3) := by decide +kernel
theorem dX12_isDeputed_64 : decode cX12_isDeputed 64 = .ok (.iconst 0, 1) := by decide +kernel
theorem dX12_isDeputed_65 : decode cX12_isDeputed 65 = .ok (.ireturn, 1) := by decide +kernel
theorem dX12_errorOfDepute_0 : decode cX12_errorOfDepute 0 = .ok (.iload_n 1, 1) := by decide +kernel
theorem dX12_errorOfDepute_1 : decode cX12_errorOfDepute 1 = .ok (.invokestatic 131, 3) := by decide +kernel
theorem dX12_errorOfDepute_4 : decode cX12_errorOfDepute 4 = .ok (.ifCond .ne 5, 3) := by decide +kernel
theorem dX12_errorOfDepute_7 : decode cX12_errorOfDepute 7 = .ok (.iconst 1, 1) := by decide +kernel
theorem dX12_errorOfDepute_8 : decode cX12_errorOfDepute 8 = .ok (.ireturn, 1) := by decide +kernel
theorem dX12_errorOfDepute_9 : decode cX12_errorOfDepute 9 = .ok (.iload_n 2, 1) := by decide +kernel
theorem dX12_errorOfDepute_10 : decode cX12_errorOfDepute 10 = .ok (.iconst 0, 1) := by decide +kernel
theorem dX12_errorOfDepute_11 : decode cX12_errorOfDepute 11 = .ok (.bipush 100, 2) := by decide +kernel
theorem dX12_errorOfDepute_13 : decode cX12_errorOfDepute 13 = .ok (.invokestatic 124, 3) := by decide +kernel
theorem dX12_errorOfDepute_16 : decode cX12_errorOfDepute 16 = .ok (.ifCond .eq 17, 3) := by decide +kernel
theorem dX12_errorOfDepute_19 : decode cX12_errorOfDepute 19 = .ok (.iload_n 3, 1) := by decide +kernel
theorem dX12_errorOfDepute_20 : decode cX12_errorOfDepute 20 = .ok (.iconst 0, 1) := by decide +kernel
theorem dX12_errorOfDepute_21 : decode cX12_errorOfDepute 21 = .ok (.bipush 100, 2) := by decide +kernel
theorem dX12_errorOfDepute_23 : decode cX12_errorOfDepute 23 = .ok (.invokestatic 124, 3) := by decide +kernel
theorem dX12_errorOfDepute_26 : decode cX12_errorOfDepute 26 = .ok (.ifCond .eq 7, 3) := by decide +kernel
theorem dX12_errorOfDepute_29 : decode cX12_errorOfDepute 29 = .ok (.iconst 1, 1) := by decide +kernel
theorem dX12_errorOfDepute_30 : decode cX12_errorOfDepute 30 = .ok (.goto 4, 3) := by decide +kernel
theorem dX12_errorOfDepute_33 : decode cX12_errorOfDepute 33 = .ok (.iconst 0, 1) := by decide +kernel
theorem dX12_errorOfDepute_34 : decode cX12_errorOfDepute 34 = .ok (.istore 4, 2) := by decide +kernel
theorem dX12_errorOfDepute_36 : decode cX12_errorOfDepute 36 = .ok (.iload 4, 2) := by decide +kernel
theorem dX12_errorOfDepute_38 : decode cX12_errorOfDepute 38 = .ok (.ifCond .ne 7, 3) := by decide +kernel
theorem dX12_errorOfDepute_41 : decode cX12_errorOfDepute 41 = .ok (.iconst 2, 1) := by decide +kernel
theorem dX12_errorOfDepute_42 : decode cX12_errorOfDepute 42 = .ok (.goto 40, 3) := by decide +kernel
theorem dX12_errorOfDepute_45 : decode cX12_errorOfDepute 45 = .ok (.aload_n 0, 1) := by decide +kernel
theorem dX12_errorOfDepute_46 : decode cX12_errorOfDepute 46 = .ok (.getfield 153, 3) := by decide +kernel
theorem dX12_errorOfDepute_49 : decode cX12_errorOfDepute 49 = .ok (.sipush 160, 3) := by decide +kernel
theorem dX12_errorOfDepute_52 : decode cX12_errorOfDepute 52 = .ok (.if_icmp .eq 25, 3) := by decide +kernel
theorem dX12_errorOfDepute_55 : decode cX12_errorOfDepute 55 = .ok (.aload_n 0, 1) := by decide +kernel
theorem dX12_errorOfDepute_56 : decode cX12_errorOfDepute 56 = .ok (.iload_n 1, 1) := by decide +kernel
theorem dX12_errorOfDepute_57 : decode cX12_errorOfDepute 57 = .ok (.aload_n 0, 1) := by decide +kernel
theorem dX12_errorOfDepute_58 : decode cX12_errorOfDepute 58 = .ok (.getfield 150, 3) := by decide +kernel
theorem dX12_errorOfDepute_61 : decode cX12_errorOfDepute 61 = .ok (.iload_n 2, 1) := by decide +kernel
theorem dX12_errorOfDepute_62 : decode cX12_errorOfDepute 62 = .ok (.iadd, 1) := by decide +kernel
theorem dX12_errorOfDepute_63 : decode cX12_errorOfDepute 63 = .ok (.aload_n 0, 1) := by decide +kernel
theorem dX12_errorOfDepute_64 : decode cX12_errorOfDepute 64 = .ok (.getfield 150, 3) := by decide +kernel
theorem dX12_errorOfDepute_67 : decode cX12_errorOfDepute 67 = .ok (.iload_n 2, 1) := by decide +kernel
theorem dX12_errorOfDepute_68 : decode cX12_errorOfDepute 68 = .ok (.iadd, 1) := by decide +kernel
theorem dX12_errorOfDepute_69 : decode cX12_errorOfDepute 69 = .ok (.iload_n 3, 1) := by decide +kernel
theorem dX12_errorOfDepute_70 : decode cX12_errorOfDepute 70 = .ok (.iadd, 1) := by decide +kernel
theorem dX12_errorOfDepute_71 : decode cX12_errorOfDepute 71 = .ok (.invokevirtual 235, 3) := by decide +kernel
theorem dX12_errorOfDepute_74 : decode cX12_errorOfDepute 74 = .ok (.ifCond .eq 7, 3) := by decide +kernel
theorem dX12_errorOfDepute_77 : decode cX12_errorOfDepute 77 = .ok (.iconst 3, 1) := by decide +kernel
theorem dX12_errorOfDepute_78 : decode cX12_errorOfDepute 78 = .ok (.goto 4, 3) := by decide +kernel
theorem dX12_errorOfDepute_81 : decode cX12_errorOfDepute 81 = .ok (.iconst 0, 1) := by decide +kernel
theorem dX12_errorOfDepute_82 : decode cX12_errorOfDepute 82 = .ok (.ireturn, 1) := by decide +kernel
theorem dX12_depute_0 : decode cX12_depute 0 = .ok (.aload_n 0, 1) := by decide +kernel
theorem dX12_depute_1 : decode cX12_depute 1 = .ok (.aload_n 0, 1) := by decide +kernel
theorem dX12_depute_2 : decode cX12_depute 2 = .ok (.iload_n 1, 1) := by decide +kernel
theorem dX12_depute_3 : decode cX12_depute 3 = .ok (.iload_n 2, 1) := by decide +kernel
theorem dX12_depute_4 : decode cX12_depute 4 = .ok (.iload_n 3, 1) := by decide +kernel
theorem dX12_depute_5 : decode cX12_depute 5 = .ok (.invokevirtual 238, 3) := by decide +kernel
theorem dX12_depute_8 : decode cX12_depute 8 = .ok (.invokevirtual 143, 3) := by decide +kernel
theorem dX12_depute_11 : decode cX12_depute 11 = .ok (.ifCond .ne 5, 3) := by decide +kernel
theorem dX12_depute_14 : decode cX12_depute 14 = .ok (.iconst 0, 1) := by decide +kernel
theorem dX12_depute_15 : decode cX12_depute 15 = .ok (.ireturn, 1) := by decide +kernel
theorem dX12_depute_16 : decode cX12_depute 16 = .ok (.aload_n 0, 1) := by decide +kernel
theorem dX12_depute_17 : decode cX12_depute 17 = .ok (.getfield 25, 3) := by decide +kernel
theorem dX12_depute_20 : decode cX12_depute 20 = .ok (.aload_n 0, 1) := by decide +kernel
theorem dX12_depute_21 : decode cX12_depute 21 = .ok (.getfield 153, 3) := by decide +kernel
theorem dX12_depute_24 : decode cX12_depute 24 = .ok (.aload_n 0, 1) := by decide +kernel
theorem dX12_depute_25 : decode cX12_depute 25 = .ok (.getfield 150, 3) := by decide +kernel
theorem dX12_depute_28 : decode cX12_depute 28 = .ok (.iload_n 2, 1) := by decide +kernel
theorem dX12_depute_29 : decode cX12_depute 29 = .ok (.iadd, 1) := by decide +kernel
theorem dX12_depute_30 : decode cX12_depute 30 = .ok (.iastore, 1) := by decide +kernel
theorem dX12_depute_31 : decode cX12_depute 31 = .ok (.aload_n 0, 1) := by decide +kernel
theorem dX12_depute_32 : decode cX12_depute 32 = .ok (.getfield 28, 3) := by decide +kernel
theorem dX12_depute_35 : decode cX12_depute 35 = .ok (.aload_n 0, 1) := by decide +kernel
theorem dX12_depute_36 : decode cX12_depute 36 = .ok (.getfield 153, 3) := by decide +kernel
theorem dX12_depute_39 : decode cX12_depute 39 = .ok (.aload_n 0, 1) := by decide +kernel
theorem dX12_depute_40 : decode cX12_depute 40 = .ok (.getfield 150, 3) := by decide +kernel
theorem dX12_depute_43 : decode cX12_depute 43 = .ok (.iload_n 2, 1) := by decide +kernel
theorem dX12_depute_44 : decode cX12_depute 44 = .ok (.iadd, 1) := by decide +kernel
theorem dX12_depute_45 : decode cX12_depute 45 = .ok (.iload_n 3, 1) := by decide +kernel
theorem dX12_depute_46 : decode cX12_depute 46 = .ok (.iadd, 1) := by decide +kernel
theorem dX12_depute_47 : decode cX12_depute 47 = .ok (.iastore, 1) := by decide +kernel
theorem dX12_depute_48 : decode cX12_depute 48 = .ok (.aload_n 0, 1) := by decide +kernel
theorem dX12_depute_49 : decode cX12_depute 49 = .ok (.iconst 0, 1) := by decide +kernel
theorem dX12_depute_50 : decode cX12_depute 50 = .ok (.iconst 2, 1) := by decide +kernel
theorem dX12_depute_51 : decode cX12_depute 51 = .ok (.iload_n 1, 1) := by decide +kernel
theorem dX12_depute_52 : decode cX12_depute 52 = .ok (.invokevirtual 203, 3) := by decide +kernel
theorem dX12_depute_55 : decode cX12_depute 55 = .ok (.ireturn, 1) := by decide +kernel
theorem dX12_sealed_0 : decode cX12_sealed 0 = .ok (.sipush 131, 3) := by decide +kernel
theorem dX12_sealed_3 : decode cX12_sealed 3 = .ok (.iload_n 0, 1) := by decide +kernel
theorem dX12_sealed_4 : decode cX12_sealed 4 = .ok (.imul, 1) := by decide +kernel
theorem dX12_sealed_5 : decode cX12_sealed 5 = .ok (.bipush 17, 2) := by decide +kernel
theorem dX12_sealed_7 : decode cX12_sealed 7 = .ok (.iload_n 1, 1) := by decide +kernel
theorem dX12_sealed_8 : decode cX12_sealed 8 = .ok (.imul, 1) := by decide +kernel
theorem dX12_sealed_9 : decode cX12_sealed 9 = .ok (.iadd, 1) := by decide +kernel
theorem dX12_sealed_10 : decode cX12_sealed 10 = .ok (.bipush 7, 2) := by decide +kernel
theorem dX12_sealed_12 : decode cX12_sealed 12 = .ok (.iadd, 1) := by decide +kernel
theorem dX12_sealed_13 : decode cX12_sealed 13 = .ok (.ldc 241, 2) := by decide +kernel
theorem dX12_sealed_15 : decode cX12_sealed 15 = .ok (.irem, 1) := by decide +kernel
theorem dX12_sealed_16 : decode cX12_sealed 16 = .ok (.ireturn, 1) := by decide +kernel
theorem dX12_markOf_0 : decode cX12_markOf 0 = .ok (.sipush 7919, 3) := by decide +kernel
theorem dX12_markOf_3 : decode cX12_markOf 3 = .ok (.iload_n 0, 1) := by decide +kernel
theorem dX12_markOf_4 : decode cX12_markOf 4 = .ok (.imul, 1) := by decide +kernel
theorem dX12_markOf_5 : decode cX12_markOf 5 = .ok (.sipush 613, 3) := by decide +kernel
theorem dX12_markOf_8 : decode cX12_markOf 8 = .ok (.iload_n 1, 1) := by decide +kernel
theorem dX12_markOf_9 : decode cX12_markOf 9 = .ok (.imul, 1) := by decide +kernel
theorem dX12_markOf_10 : decode cX12_markOf 10 = .ok (.iadd, 1) := by decide +kernel
theorem dX12_markOf_11 : decode cX12_markOf 11 = .ok (.bipush 97, 2) := by decide +kernel
theorem dX12_markOf_13 : decode cX12_markOf 13 = .ok (.iload_n 2, 1) := by decide +kernel
theorem dX12_markOf_14 : decode cX12_markOf 14 = .ok (.imul, 1) := by decide +kernel
theorem dX12_markOf_15 : decode cX12_markOf 15 = .ok (.iadd, 1) := by decide +kernel
theorem dX12_markOf_16 : decode cX12_markOf 16 = .ok (.iload_n 3, 1) := by decide +kernel
theorem dX12_markOf_17 : decode cX12_markOf 17 = .ok (.invokestatic 242, 3) := by decide +kernel
theorem dX12_markOf_20 : decode cX12_markOf 20 = .ok (.ireturn, 1) := by decide +kernel
theorem dX12_sealAhead_0 : decode cX12_sealAhead 0 = .ok (.iload_n 2, 1) := by decide +kernel
theorem dX12_sealAhead_1 : decode cX12_sealAhead 1 = .ok (.ifCond .ne 11, 3) := by decide +kernel
theorem dX12_sealAhead_4 : decode cX12_sealAhead 4 = .ok (.sipush 1000, 3) := by decide +kernel
theorem dX12_sealAhead_7 : decode cX12_sealAhead 7 = .ok (.iload_n 1, 1) := by decide +kernel
theorem dX12_sealAhead_8 : decode cX12_sealAhead 8 = .ok (.iadd, 1) := by decide +kernel
theorem dX12_sealAhead_9 : decode cX12_sealAhead 9 = .ok (.goto 22, 3) := by decide +kernel
theorem dX12_sealAhead_12 : decode cX12_sealAhead 12 = .ok (.aload_n 0, 1) := by decide +kernel
theorem dX12_sealAhead_13 : decode cX12_sealAhead 13 = .ok (.getfield 94, 3) := by decide +kernel
theorem dX12_sealAhead_16 : decode cX12_sealAhead 16 = .ok (.aload_n 0, 1) := by decide +kernel
theorem dX12_sealAhead_17 : decode cX12_sealAhead 17 = .ok (.getfield 82, 3) := by decide +kernel
theorem dX12_sealAhead_20 : decode cX12_sealAhead 20 = .ok (.sipush 160, 3) := by decide +kernel
theorem dX12_sealAhead_23 : decode cX12_sealAhead 23 = .ok (.iload_n 1, 1) := by decide +kernel
theorem dX12_sealAhead_24 : decode cX12_sealAhead 24 = .ok (.imul, 1) := by decide +kernel
theorem dX12_sealAhead_25 : decode cX12_sealAhead 25 = .ok (.iload_n 2, 1) := by decide +kernel
theorem dX12_sealAhead_26 : decode cX12_sealAhead 26 = .ok (.iadd, 1) := by decide +kernel
theorem dX12_sealAhead_27 : decode cX12_sealAhead 27 = .ok (.iconst 1, 1) := by decide +kernel
theorem dX12_sealAhead_28 : decode cX12_sealAhead 28 = .ok (.isub, 1) := by decide +kernel
theorem dX12_sealAhead_29 : decode cX12_sealAhead 29 = .ok (.iaload, 1) := by decide +kernel
theorem dX12_sealAhead_30 : decode cX12_sealAhead 30 = .ok (.iaload, 1) := by decide +kernel
theorem dX12_sealAhead_31 : decode cX12_sealAhead 31 = .ok (.ireturn, 1) := by decide +kernel
theorem dX12_sealNow_0 : decode cX12_sealNow 0 = .ok (.iconst 1, 1) := by decide +kernel
theorem dX12_sealNow_1 : decode cX12_sealNow 1 = .ok (.istore_n 3, 1) := by decide +kernel
theorem dX12_sealNow_2 : decode cX12_sealNow 2 = .ok (.iconst 0, 1) := by decide +kernel
theorem dX12_sealNow_3 : decode cX12_sealNow 3 = .ok (.istore 4, 2) := by decide +kernel
theorem dX12_sealNow_5 : decode cX12_sealNow 5 = .ok (.iload 4, 2) := by decide +kernel
theorem dX12_sealNow_7 : decode cX12_sealNow 7 = .ok (.bipush 6, 2) := by decide +kernel
theorem dX12_sealNow_9 : decode cX12_sealNow 9 = .ok (.if_icmp .ge 44, 3) := by decide +kernel
theorem dX12_sealNow_12 : decode cX12_sealNow 12 = .ok (.iload_n 3, 1) := by decide +kernel
theorem dX12_sealNow_13 : decode cX12_sealNow 13 = .ok (.iload_n 1, 1) := by decide +kernel
theorem dX12_sealNow_14 : decode cX12_sealNow 14 = .ok (.iload_n 2, 1) := by decide +kernel
theorem dX12_sealNow_15 : decode cX12_sealNow 15 = .ok (.iload 4, 2) := by decide +kernel
theorem dX12_sealNow_17 : decode cX12_sealNow 17 = .ok (.aload_n 0, 1) := by decide +kernel
theorem dX12_sealNow_18 : decode cX12_sealNow 18 = .ok (.getfield 88, 3) := by decide +kernel
theorem dX12_sealNow_21 : decode cX12_sealNow 21 = .ok (.bipush 6, 2) := by decide +kernel
theorem dX12_sealNow_23 : decode cX12_sealNow 23 = .ok (.aload_n 0, 1) := by decide +kernel
theorem dX12_sealNow_24 : decode cX12_sealNow 24 = .ok (.getfield 82, 3) := by decide +kernel
theorem dX12_sealNow_27 : decode cX12_sealNow 27 = .ok (.sipush 160, 3) := by decide +kernel
theorem dX12_sealNow_30 : decode cX12_sealNow 30 = .ok (.iload_n 1, 1) := by decide +kernel
theorem dX12_sealNow_31 : decode cX12_sealNow 31 = .ok (.imul, 1) := by decide +kernel
theorem dX12_sealNow_32 : decode cX12_sealNow 32 = .ok (.iload_n 2, 1) := by decide +kernel
theorem dX12_sealNow_33 : decode cX12_sealNow 33 = .ok (.iadd, 1) := by decide +kernel
theorem dX12_sealNow_34 : decode cX12_sealNow 34 = .ok (.iaload, 1) := by decide +kernel
theorem dX12_sealNow_35 : decode cX12_sealNow 35 = .ok (.imul, 1) := by decide +kernel
theorem dX12_sealNow_36 : decode cX12_sealNow 36 = .ok (.iload 4, 2) := by decide +kernel
theorem dX12_sealNow_38 : decode cX12_sealNow 38 = .ok (.iadd, 1) := by decide +kernel
theorem dX12_sealNow_39 : decode cX12_sealNow 39 = .ok (.iaload, 1) := by decide +kernel
theorem dX12_sealNow_40 : decode cX12_sealNow 40 = .ok (.invokestatic 245, 3) := by decide +kernel
theorem dX12_sealNow_43 : decode cX12_sealNow 43 = .ok (.invokestatic 242, 3) := by decide +kernel
theorem dX12_sealNow_46 : decode cX12_sealNow 46 = .ok (.istore_n 3, 1) := by decide +kernel
theorem dX12_sealNow_47 : decode cX12_sealNow 47 = .ok (.iinc 4 1, 3) := by decide +kernel
theorem dX12_sealNow_50 : decode cX12_sealNow 50 = .ok (.goto (-45), 3) := by decide +kernel
theorem dX12_sealNow_53 : decode cX12_sealNow 53 = .ok (.aload_n 0, 1) := by decide +kernel
theorem dX12_sealNow_54 : decode cX12_sealNow 54 = .ok (.iload_n 1, 1) := by decide +kernel
theorem dX12_sealNow_55 : decode cX12_sealNow 55 = .ok (.iload_n 2, 1) := by decide +kernel
theorem dX12_sealNow_56 : decode cX12_sealNow 56 = .ok (.invokevirtual 248, 3) := by decide +kernel
theorem dX12_sealNow_59 : decode cX12_sealNow 59 = .ok (.iload_n 3, 1) := by decide +kernel
theorem dX12_sealNow_60 : decode cX12_sealNow 60 = .ok (.invokestatic 242, 3) := by decide +kernel
theorem dX12_sealNow_63 : decode cX12_sealNow 63 = .ok (.ireturn, 1) := by decide +kernel
theorem dX12_prepare_0 : decode cX12_prepare 0 = .ok (.aload_n 0, 1) := by decide +kernel
theorem dX12_prepare_1 : decode cX12_prepare 1 = .ok (.iload_n 1, 1) := by decide +kernel
theorem dX12_prepare_2 : decode cX12_prepare 2 = .ok (.iconst 0, 1) := by decide +kernel
theorem dX12_prepare_3 : decode cX12_prepare 3 = .ok (.iconst 1, 1) := by decide +kernel
theorem dX12_prepare_4 : decode cX12_prepare 4 = .ok (.invokestatic 124, 3) := by decide +kernel
theorem dX12_prepare_7 : decode cX12_prepare 7 = .ok (.ifCond .eq 16, 3) := by decide +kernel
theorem dX12_prepare_10 : decode cX12_prepare 10 = .ok (.iload_n 2, 1) := by decide +kernel
theorem dX12_prepare_11 : decode cX12_prepare 11 = .ok (.iconst 0, 1) := by decide +kernel
theorem dX12_prepare_12 : decode cX12_prepare 12 = .ok (.iconst 5, 1) := by decide +kernel
theorem dX12_prepare_13 : decode cX12_prepare 13 = .ok (.invokestatic 124, 3) := by decide +kernel
theorem dX12_prepare_16 : decode cX12_prepare 16 = .ok (.ifCond .eq 7, 3) := by decide +kernel
theorem dX12_prepare_19 : decode cX12_prepare 19 = .ok (.iconst 0, 1) := by decide +kernel
theorem dX12_prepare_20 : decode cX12_prepare 20 = .ok (.goto 4, 3) := by decide +kernel
theorem dX12_prepare_23 : decode cX12_prepare 23 = .ok (.iconst 1, 1) := by decide +kernel
theorem dX12_prepare_24 : decode cX12_prepare 24 = .ok (.invokevirtual 143, 3) := by decide +kernel
theorem dX12_prepare_27 : decode cX12_prepare 27 = .ok (.ifCond .eq 13, 3) := by decide +kernel
theorem dX12_prepare_30 : decode cX12_prepare 30 = .ok (.aload_n 0, 1) := by decide +kernel
theorem dX12_prepare_31 : decode cX12_prepare 31 = .ok (.iload_n 1, 1) := by decide +kernel
theorem dX12_prepare_32 : decode cX12_prepare 32 = .ok (.putfield 193, 3) := by decide +kernel
theorem dX12_prepare_35 : decode cX12_prepare 35 = .ok (.aload_n 0, 1) := by decide +kernel
theorem dX12_prepare_36 : decode cX12_prepare 36 = .ok (.iload_n 2, 1) := by decide +kernel
theorem dX12_prepare_37 : decode cX12_prepare 37 = .ok (.putfield 190, 3) := by decide +kernel
theorem dX12_prepare_40 : decode cX12_prepare 40 = .ok (.return_, 1) := by decide +kernel
theorem dX12_areThere_0 : decode cX12_areThere 0 = .ok (.iload_n 1, 1) := by decide +kernel
theorem dX12_areThere_1 : decode cX12_areThere 1 = .ok (.invokestatic 131, 3) := by decide +kernel
theorem dX12_areThere_4 : decode cX12_areThere 4 = .ok (.ifCond .eq 22, 3) := by decide +kernel
theorem dX12_areThere_7 : decode cX12_areThere 7 = .ok (.iload_n 2, 1) := by decide +kernel
theorem dX12_areThere_8 : decode cX12_areThere 8 = .ok (.invokestatic 206, 3) := by decide +kernel
theorem dX12_areThere_11 : decode cX12_areThere 11 = .ok (.ifCond .eq 15, 3) := by decide +kernel
theorem dX12_areThere_14 : decode cX12_areThere 14 = .ok (.aload_n 0, 1) := by decide +kernel
theorem dX12_areThere_15 : decode cX12_areThere 15 = .ok (.iload_n 3, 1) := by decide +kernel
theorem dX12_areThere_16 : decode cX12_areThere 16 = .ok (.invokevirtual 217, 3) := by decide +kernel
theorem dX12_areThere_19 : decode cX12_areThere 19 = .ok (.ifCond .eq 7, 3) := by decide +kernel
theorem dX12_areThere_22 : decode cX12_areThere 22 = .ok (.iconst 1, 1) := by decide +kernel
theorem dX12_areThere_23 : decode cX12_areThere 23 = .ok (.goto 4, 3) := by decide +kernel
theorem dX12_areThere_26 : decode cX12_areThere 26 = .ok (.iconst 0, 1) := by decide +kernel
theorem dX12_areThere_27 : decode cX12_areThere 27 = .ok (.ireturn, 1) := by decide +kernel
theorem dX12_errorOfAct_0 : decode cX12_errorOfAct 0 = .ok (.aload_n 0, 1) := by decide +kernel
theorem dX12_errorOfAct_1 : decode cX12_errorOfAct 1 = .ok (.iload_n 1, 1) := by decide +kernel
theorem dX12_errorOfAct_2 : decode cX12_errorOfAct 2 = .ok (.iload_n 2, 1) := by decide +kernel
theorem dX12_errorOfAct_3 : decode cX12_errorOfAct 3 = .ok (.iload_n 3, 1) := by decide +kernel
theorem dX12_errorOfAct_4 : decode cX12_errorOfAct 4 = .ok (.invokevirtual 251, 3) := by decide +kernel
theorem dX12_errorOfAct_7 : decode cX12_errorOfAct 7 = .ok (.ifCond .ne 5, 3) := by decide +kernel
theorem dX12_errorOfAct_10 : decode cX12_errorOfAct 10 = .ok (.iconst 1, 1) := by decide +kernel
theorem dX12_errorOfAct_11 : decode cX12_errorOfAct 11 = .ok (.ireturn, 1) := by decide +kernel
theorem dX12_errorOfAct_12 : decode cX12_errorOfAct 12 = .ok (.iload 4, 2) := by decide +kernel
theorem dX12_errorOfAct_14 : decode cX12_errorOfAct 14 = .ok (.iconst 1, 1) := by decide +kernel
theorem dX12_errorOfAct_15 : decode cX12_errorOfAct 15 = .ok (.sipush 10000, 3) := by decide +kernel
theorem dX12_errorOfAct_18 : decode cX12_errorOfAct 18 = .ok (.invokestatic 124, 3) := by decide +kernel
theorem dX12_errorOfAct_21 : decode cX12_errorOfAct 21 = .ok (.ifCond .ne 7, 3) := by decide +kernel
theorem dX12_errorOfAct_24 : decode cX12_errorOfAct 24 = .ok (.iconst 2, 1) := by decide +kernel
theorem dX12_errorOfAct_25 : decode cX12_errorOfAct 25 = .ok (.goto 30, 3) := by decide +kernel
theorem dX12_errorOfAct_28 : decode cX12_errorOfAct 28 = .ok (.aload_n 0, 1) := by decide +kernel
theorem dX12_errorOfAct_29 : decode cX12_errorOfAct 29 = .ok (.getfield 153, 3) := by decide +kernel
theorem dX12_errorOfAct_32 : decode cX12_errorOfAct 32 = .ok (.sipush 160, 3) := by decide +kernel
theorem dX12_errorOfAct_35 : decode cX12_errorOfAct 35 = .ok (.if_icmp .eq 15, 3) := by decide +kernel
theorem dX12_errorOfAct_38 : decode cX12_errorOfAct 38 = .ok (.aload_n 0, 1) := by decide +kernel
theorem dX12_errorOfAct_39 : decode cX12_errorOfAct 39 = .ok (.iload_n 1, 1) := by decide +kernel
theorem dX12_errorOfAct_40 : decode cX12_errorOfAct 40 = .ok (.iload_n 2, 1) := by decide +kernel
theorem dX12_errorOfAct_41 : decode cX12_errorOfAct 41 = .ok (.iload_n 3, 1) := by decide +kernel
theorem dX12_errorOfAct_42 : decode cX12_errorOfAct 42 = .ok (.iload 4, 2) := by decide +kernel
theorem dX12_errorOfAct_44 : decode cX12_errorOfAct 44 = .ok (.invokevirtual 254, 3) := by decide +kernel
theorem dX12_errorOfAct_47 : decode cX12_errorOfAct 47 = .ok (.ifCond .le 7, 3) := by decide +kernel
theorem dX12_errorOfAct_50 : decode cX12_errorOfAct 50 = .ok (.iconst 3, 1) := by decide +kernel
theorem dX12_errorOfAct_51 : decode cX12_errorOfAct 51 = .ok (.goto 4, 3) := by decide +kernel
theorem dX12_errorOfAct_54 : decode cX12_errorOfAct 54 = .ok (.iconst 0, 1) := by decide +kernel
theorem dX12_errorOfAct_55 : decode cX12_errorOfAct 55 = .ok (.ireturn, 1) := by decide +kernel
theorem dX12_faultOf_0 : decode cX12_faultOf 0 = .ok (.aload_n 0, 1) := by decide +kernel
