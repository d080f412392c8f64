theorem dX12_init_0 : decode cX12_init 0 = .ok (.aload_n 0, 1) := by decide +kernel
theorem dX12_init_1 : decode cX12_init 1 = .ok (.invokespecial 3, 3) := by decide +kernel
theorem dX12_init_4 : decode cX12_init 4 = .ok (.aload_n 0, 1) := by decide +kernel
theorem dX12_init_5 : decode cX12_init 5 = .ok (.bipush 8, 2) := by decide +kernel
theorem dX12_init_7 : decode cX12_init 7 = .ok (.newarray .int, 2) := by decide +kernel
theorem dX12_init_9 : decode cX12_init 9 = .ok (.putfield 9, 3) := by decide +kernel
theorem dX12_init_12 : decode cX12_init 12 = .ok (.aload_n 0, 1) := by decide +kernel
theorem dX12_init_13 : decode cX12_init 13 = .ok (.bipush 60, 2) := by decide +kernel
theorem dX12_init_15 : decode cX12_init 15 = .ok (.newarray .int, 2) := by decide +kernel
theorem dX12_init_17 : decode cX12_init 17 = .ok (.putfield 13, 3) := by decide +kernel
theorem dX12_init_20 : decode cX12_init 20 = .ok (.aload_n 0, 1) := by decide +kernel
theorem dX12_init_21 : decode cX12_init 21 = .ok (.sipush 200, 3) := by decide +kernel
theorem dX12_init_24 : decode cX12_init 24 = .ok (.newarray .int, 2) := by decide +kernel
theorem dX12_init_26 : decode cX12_init 26 = .ok (.putfield 16, 3) := by decide +kernel
theorem dX12_init_29 : decode cX12_init 29 = .ok (.aload_n 0, 1) := by decide +kernel
theorem dX12_init_30 : decode cX12_init 30 = .ok (.sipush 200, 3) := by decide +kernel
theorem dX12_init_33 : decode cX12_init 33 = .ok (.newarray .int, 2) := by decide +kernel
theorem dX12_init_35 : decode cX12_init 35 = .ok (.putfield 19, 3) := by decide +kernel
theorem dX12_init_38 : decode cX12_init 38 = .ok (.aload_n 0, 1) := by decide +kernel
theorem dX12_init_39 : decode cX12_init 39 = .ok (.sipush 200, 3) := by decide +kernel
theorem dX12_init_42 : decode cX12_init 42 = .ok (.newarray .int, 2) := by decide +kernel
theorem dX12_init_44 : decode cX12_init 44 = .ok (.putfield 22, 3) := by decide +kernel
theorem dX12_init_47 : decode cX12_init 47 = .ok (.aload_n 0, 1) := by decide +kernel
theorem dX12_init_48 : decode cX12_init 48 = .ok (.ldc 25, 2) := by decide +kernel
theorem dX12_init_50 : decode cX12_init 50 = .ok (.newarray .boolean, 2) := by decide +kernel
theorem dX12_init_52 : decode cX12_init 52 = .ok (.putfield 26, 3) := by decide +kernel
theorem dX12_init_55 : decode cX12_init 55 = .ok (.aload_n 0, 1) := by decide +kernel
theorem dX12_init_56 : decode cX12_init 56 = .ok (.ldc 25, 2) := by decide +kernel
theorem dX12_init_58 : decode cX12_init 58 = .ok (.newarray .boolean, 2) := by decide +kernel
theorem dX12_init_60 : decode cX12_init 60 = .ok (.putfield 30, 3) := by decide +kernel
theorem dX12_init_63 : decode cX12_init 63 = .ok (.aload_n 0, 1) := by decide +kernel
theorem dX12_init_64 : decode cX12_init 64 = .ok (.sipush 8000, 3) := by decide +kernel
theorem dX12_init_67 : decode cX12_init 67 = .ok (.newarray .boolean, 2) := by decide +kernel
theorem dX12_init_69 : decode cX12_init 69 = .ok (.putfield 33, 3) := by decide +kernel
theorem dX12_init_72 : decode cX12_init 72 = .ok (.aload_n 0, 1) := by decide +kernel
theorem dX12_init_73 : decode cX12_init 73 = .ok (.sipush 12000, 3) := by decide +kernel
theorem dX12_init_76 : decode cX12_init 76 = .ok (.newarray .int, 2) := by decide +kernel
theorem dX12_init_78 : decode cX12_init 78 = .ok (.putfield 36, 3) := by decide +kernel
theorem dX12_init_81 : decode cX12_init 81 = .ok (.aload_n 0, 1) := by decide +kernel
theorem dX12_init_82 : decode cX12_init 82 = .ok (.sipush 12000, 3) := by decide +kernel
theorem dX12_init_85 : decode cX12_init 85 = .ok (.newarray .int, 2) := by decide +kernel
theorem dX12_init_87 : decode cX12_init 87 = .ok (.putfield 39, 3) := by decide +kernel
theorem dX12_init_90 : decode cX12_init 90 = .ok (.aload_n 0, 1) := by decide +kernel
theorem dX12_init_91 : decode cX12_init 91 = .ok (.sipush 200, 3) := by decide +kernel
theorem dX12_init_94 : decode cX12_init 94 = .ok (.newarray .int, 2) := by decide +kernel
theorem dX12_init_96 : decode cX12_init 96 = .ok (.putfield 42, 3) := by decide +kernel
theorem dX12_init_99 : decode cX12_init 99 = .ok (.aload_n 0, 1) := by decide +kernel
theorem dX12_init_100 : decode cX12_init 100 = .ok (.sipush 200, 3) := by decide +kernel
theorem dX12_init_103 : decode cX12_init 103 = .ok (.newarray .int, 2) := by decide +kernel
theorem dX12_init_105 : decode cX12_init 105 = .ok (.putfield 45, 3) := by decide +kernel
theorem dX12_init_108 : decode cX12_init 108 = .ok (.aload_n 0, 1) := by decide +kernel
theorem dX12_init_109 : decode cX12_init 109 = .ok (.sipush 200, 3) := by decide +kernel
theorem dX12_init_112 : decode cX12_init 112 = .ok (.newarray .int, 2) := by decide +kernel
theorem dX12_init_114 : decode cX12_init 114 = .ok (.putfield 48, 3) := by decide +kernel
theorem dX12_init_117 : decode cX12_init 117 = .ok (.aload_n 0, 1) := by decide +kernel
theorem dX12_init_118 : decode cX12_init 118 = .ok (.sipush 6000, 3) := by decide +kernel
theorem dX12_init_121 : decode cX12_init 121 = .ok (.newarray .int, 2) := by decide +kernel
theorem dX12_init_123 : decode cX12_init 123 = .ok (.putfield 51, 3) := by decide +kernel
theorem dX12_init_126 : decode cX12_init 126 = .ok (.aload_n 0, 1) := by decide +kernel
theorem dX12_init_127 : decode cX12_init 127 = .ok (.sipush 200, 3) := by decide +kernel
theorem dX12_init_130 : decode cX12_init 130 = .ok (.newarray .int, 2) := by decide +kernel
theorem dX12_init_132 : decode cX12_init 132 = .ok (.putfield 54, 3) := by decide +kernel
theorem dX12_init_135 : decode cX12_init 135 = .ok (.aload_n 0, 1) := by decide +kernel
theorem dX12_init_136 : decode cX12_init 136 = .ok (.sipush 200, 3) := by decide +kernel
theorem dX12_init_139 : decode cX12_init 139 = .ok (.newarray .int, 2) := by decide +kernel
theorem dX12_init_141 : decode cX12_init 141 = .ok (.putfield 57, 3) := by decide +kernel
theorem dX12_init_144 : decode cX12_init 144 = .ok (.aload_n 0, 1) := by decide +kernel
theorem dX12_init_145 : decode cX12_init 145 = .ok (.sipush 200, 3) := by decide +kernel
theorem dX12_init_148 : decode cX12_init 148 = .ok (.newarray .int, 2) := by decide +kernel
theorem dX12_init_150 : decode cX12_init 150 = .ok (.putfield 60, 3) := by decide +kernel
theorem dX12_init_153 : decode cX12_init 153 = .ok (.aload_n 0, 1) := by decide +kernel
theorem dX12_init_154 : decode cX12_init 154 = .ok (.sipush 200, 3) := by decide +kernel
theorem dX12_init_157 : decode cX12_init 157 = .ok (.newarray .int, 2) := by decide +kernel
theorem dX12_init_159 : decode cX12_init 159 = .ok (.putfield 63, 3) := by decide +kernel
theorem dX12_init_162 : decode cX12_init 162 = .ok (.aload_n 0, 1) := by decide +kernel
theorem dX12_init_163 : decode cX12_init 163 = .ok (.sipush 200, 3) := by decide +kernel
theorem dX12_init_166 : decode cX12_init 166 = .ok (.newarray .int, 2) := by decide +kernel
theorem dX12_init_168 : decode cX12_init 168 = .ok (.putfield 66, 3) := by decide +kernel
theorem dX12_init_171 : decode cX12_init 171 = .ok (.aload_n 0, 1) := by decide +kernel
theorem dX12_init_172 : decode cX12_init 172 = .ok (.sipush 200, 3) := by decide +kernel
theorem dX12_init_175 : decode cX12_init 175 = .ok (.newarray .int, 2) := by decide +kernel
theorem dX12_init_177 : decode cX12_init 177 = .ok (.putfield 69, 3) := by decide +kernel
theorem dX12_init_180 : decode cX12_init 180 = .ok (.aload_n 0, 1) := by decide +kernel
theorem dX12_init_181 : decode cX12_init 181 = .ok (.sipush 200, 3) := by decide +kernel
theorem dX12_init_184 : decode cX12_init 184 = .ok (.newarray .int, 2) := by decide +kernel
theorem dX12_init_186 : decode cX12_init 186 = .ok (.putfield 72, 3) := by decide +kernel
theorem dX12_init_189 : decode cX12_init 189 = .ok (.aload_n 0, 1) := by decide +kernel
theorem dX12_init_190 : decode cX12_init 190 = .ok (.sipush 200, 3) := by decide +kernel
theorem dX12_init_193 : decode cX12_init 193 = .ok (.newarray .int, 2) := by decide +kernel
theorem dX12_init_195 : decode cX12_init 195 = .ok (.putfield 75, 3) := by decide +kernel
theorem dX12_init_198 : decode cX12_init 198 = .ok (.aload_n 0, 1) := by decide +kernel
theorem dX12_init_199 : decode cX12_init 199 = .ok (.sipush 200, 3) := by decide +kernel
theorem dX12_init_202 : decode cX12_init 202 = .ok (.newarray .int, 2) := by decide +kernel
theorem dX12_init_204 : decode cX12_init 204 = .ok (.putfield 78, 3) := by decide +kernel
theorem dX12_init_207 : decode cX12_init 207 = .ok (.aload_n 0, 1) := by decide +kernel
theorem dX12_init_208 : decode cX12_init 208 = .ok (.bipush 32, 2) := by decide +kernel
theorem dX12_init_210 : decode cX12_init 210 = .ok (.newarray .int, 2) := by decide +kernel
theorem dX12_init_212 : decode cX12_init 212 = .ok (.putfield 81, 3) := by decide +kernel
theorem dX12_init_215 : decode cX12_init 215 = .ok (.aload_n 0, 1) := by decide +kernel
theorem dX12_init_216 : decode cX12_init 216 = .ok (.bipush 40, 2) := by decide +kernel
theorem dX12_init_218 : decode cX12_init 218 = .ok (.newarray .int, 2) := by decide +kernel
theorem dX12_init_220 : decode cX12_init 220 = .ok (.putfield 84, 3) := by decide +kernel
theorem dX12_init_223 : decode cX12_init 223 = .ok (.aload_n 0, 1) := by decide +kernel
theorem dX12_init_224 : decode cX12_init 224 = .ok (.bipush 40, 2) := by decide +kernel
theorem dX12_init_226 : decode cX12_init 226 = .ok (.newarray .int, 2) := by decide +kernel
theorem dX12_init_228 : decode cX12_init 228 = .ok (.putfield 87, 3) := by decide +kernel
theorem dX12_init_231 : decode cX12_init 231 = .ok (.aload_n 0, 1) := by decide +kernel
theorem dX12_init_232 : decode cX12_init 232 = .ok (.bipush 60, 2) := by decide +kernel
theorem dX12_init_234 : decode cX12_init 234 = .ok (.newarray .long, 2) := by decide +kernel
theorem dX12_init_236 : decode cX12_init 236 = .ok (.putfield 90, 3) := by decide +kernel
theorem dX12_init_239 : decode cX12_init 239 = .ok (.aload_n 0, 1) := by decide +kernel
theorem dX12_init_240 : decode cX12_init 240 = .ok (.sipush 600, 3) := by decide +kernel
theorem dX12_init_243 : decode cX12_init 243 = .ok (.newarray .int, 2) := by decide +kernel
theorem dX12_init_245 : decode cX12_init 245 = .ok (.putfield 94, 3) := by decide +kernel
theorem dX12_init_248 : decode cX12_init 248 = .ok (.aload_n 0, 1) := by decide +kernel
theorem dX12_init_249 : decode cX12_init 249 = .ok (.sipush 600, 3) := by decide +kernel
theorem dX12_init_252 : decode cX12_init 252 = .ok (.newarray .int, 2) := by decide +kernel
theorem dX12_init_254 : decode cX12_init 254 = .ok (.putfield 97, 3) := by decide +kernel
theorem dX12_init_257 : decode cX12_init 257 = .ok (.aload_n 0, 1) := by decide +kernel
theorem dX12_init_258 : decode cX12_init 258 = .ok (.sipush 600, 3) := by decide +kernel
theorem dX12_init_261 : decode cX12_init 261 = .ok (.newarray .int, 2) := by decide +kernel
theorem dX12_init_263 : decode cX12_init 263 = .ok (.putfield 100, 3) := by decide +kernel
theorem dX12_init_266 : decode cX12_init 266 = .ok (.aload_n 0, 1) := by decide +kernel
theorem dX12_init_267 : decode cX12_init 267 = .ok (.bipush 30, 2) := by decide +kernel
theorem dX12_init_269 : decode cX12_init 269 = .ok (.newarray .long, 2) := by decide +kernel
theorem dX12_init_271 : decode cX12_init 271 = .ok (.putfield 103, 3) := by decide +kernel
theorem dX12_init_274 : decode cX12_init 274 = .ok (.aload_n 0, 1) := by decide +kernel
theorem dX12_init_275 : decode cX12_init 275 = .ok (.bipush 30, 2) := by decide +kernel
theorem dX12_init_277 : decode cX12_init 277 = .ok (.newarray .boolean, 2) := by decide +kernel
theorem dX12_init_279 : decode cX12_init 279 = .ok (.putfield 106, 3) := by decide +kernel
theorem dX12_init_282 : decode cX12_init 282 = .ok (.aload_n 0, 1) := by decide +kernel
theorem dX12_init_283 : decode cX12_init 283 = .ok (.bipush 30, 2) := by decide +kernel
theorem dX12_init_285 : decode cX12_init 285 = .ok (.newarray .long, 2) := by decide +kernel
theorem dX12_init_287 : decode cX12_init 287 = .ok (.putfield 109, 3) := by decide +kernel
theorem dX12_init_290 : decode cX12_init 290 = .ok (.aload_n 0, 1) := by decide +kernel
theorem dX12_init_291 : decode cX12_init 291 = .ok (.sipush 200, 3) := by decide +kernel
theorem dX12_init_294 : decode cX12_init 294 = .ok (.newarray .boolean, 2) := by decide +kernel
theorem dX12_init_296 : decode cX12_init 296 = .ok (.putfield 112, 3) := by decide +kernel
theorem dX12_init_299 : decode cX12_init 299 = .ok (.aload_n 0, 1) := by decide +kernel
theorem dX12_init_300 : decode cX12_init 300 = .ok (.sipush 200, 3) := by decide +kernel
theorem dX12_init_303 : decode cX12_init 303 = .ok (.newarray .boolean, 2) := by decide +kernel
theorem dX12_init_305 : decode cX12_init 305 = .ok (.putfield 115, 3) := by decide +kernel
theorem dX12_init_308 : decode cX12_init 308 = .ok (.aload_n 0, 1) := by decide +kernel
theorem dX12_init_309 : decode cX12_init 309 = .ok (.sipush 200, 3) := by decide +kernel
theorem dX12_init_312 : decode cX12_init 312 = .ok (.newarray .int, 2) := by decide +kernel
theorem dX12_init_314 : decode cX12_init 314 = .ok (.putfield 118, 3) := by decide +kernel
theorem dX12_init_317 : decode cX12_init 317 = .ok (.aload_n 0, 1) := by decide +kernel
theorem dX12_init_318 : decode cX12_init 318 = .ok (.sipush 200, 3) := by decide +kernel
theorem dX12_init_321 : decode cX12_init 321 = .ok (.newarray .int, 2) := by decide +kernel
theorem dX12_init_323 : decode cX12_init 323 = .ok (.putfield 121, 3) := by decide +kernel
theorem dX12_init_326 : decode cX12_init 326 = .ok (.return_, 1) := by decide +kernel
theorem dX12_thrown_0 : decode cX12_thrown 0 = .ok (.aload_n 0, 1) := by decide +kernel
theorem dX12_thrown_1 : decode cX12_thrown 1 = .ok (.getfield 124, 3) := by decide +kernel
theorem dX12_thrown_4 : decode cX12_thrown 4 = .ok (.ireturn, 1) := by decide +kernel
theorem dX12_isJob_0 : decode cX12_isJob 0 = .ok (.iload_n 1, 1) := by decide +kernel
theorem dX12_isJob_1 : decode cX12_isJob 1 = .ok (.ifCond .lt 15, 3) := by decide +kernel
theorem dX12_isJob_4 : decode cX12_isJob 4 = .ok (.iload_n 1, 1) := by decide +kernel
theorem dX12_isJob_5 : decode cX12_isJob 5 = .ok (.aload_n 0, 1) := by decide +kernel
theorem dX12_isJob_6 : decode cX12_isJob 6 = .ok (.getfield 128, 3) := by decide +kernel
theorem dX12_isJob_9 : decode cX12_isJob 9 = .ok (.if_icmp .ge 7, 3) := by decide +kernel
theorem dX12_isJob_12 : decode cX12_isJob 12 = .ok (.iconst 1, 1) := by decide +kernel
theorem dX12_isJob_13 : decode cX12_isJob 13 = .ok (.goto 4, 3) := by decide +kernel
theorem dX12_isJob_16 : decode cX12_isJob 16 = .ok (.iconst 0, 1) := by decide +kernel
theorem dX12_isJob_17 : decode cX12_isJob 17 = .ok (.ireturn, 1) := by decide +kernel
theorem dX12_isStock_0 : decode cX12_isStock 0 = .ok (.iload_n 0, 1) := by decide +kernel
theorem dX12_isStock_1 : decode cX12_isStock 1 = .ok (.ifCond .lt 13, 3) := by decide +kernel
theorem dX12_isStock_4 : decode cX12_isStock 4 = .ok (.iload_n 0, 1) := by decide +kernel
theorem dX12_isStock_5 : decode cX12_isStock 5 = .ok (.bipush 60, 2) := by decide +kernel
theorem dX12_isStock_7 : decode cX12_isStock 7 = .ok (.if_icmp .ge 7, 3) := by decide +kernel
theorem dX12_isStock_10 : decode cX12_isStock 10 = .ok (.iconst 1, 1) := by decide +kernel
theorem dX12_isStock_11 : decode cX12_isStock 11 = .ok (.goto 4, 3) := by decide +kernel
theorem dX12_isStock_14 : decode cX12_isStock 14 = .ok (.iconst 0, 1) := by decide +kernel
theorem dX12_isStock_15 : decode cX12_isStock 15 = .ok (.ireturn, 1) := by decide +kernel
theorem dX12_done_0 : decode cX12_done 0 = .ok (.aload_n 0, 1) := by decide +kernel
theorem dX12_done_1 : decode cX12_done 1 = .ok (.iconst 0, 1) := by decide +kernel
theorem dX12_done_2 : decode cX12_done 2 = .ok (.putfield 131, 3) := by decide +kernel
theorem dX12_done_5 : decode cX12_done 5 = .ok (.iload_n 1, 1) := by decide +kernel
theorem dX12_done_6 : decode cX12_done 6 = .ok (.ireturn, 1) := by decide +kernel
theorem dX12_craft_0 : decode cX12_craft 0 = .ok (.aload_n 0, 1) := by decide +kernel
theorem dX12_craft_1 : decode cX12_craft 1 = .ok (.iconst 0, 1) := by decide +kernel
theorem dX12_craft_2 : decode cX12_craft 2 = .ok (.putfield 124, 3) := by decide +kernel
theorem dX12_craft_5 : decode cX12_craft 5 = .ok (.iload_n 1, 1) := by decide +kernel
theorem dX12_craft_6 : decode cX12_craft 6 = .ok (.ifCond .lt 9, 3) := by decide +kernel
theorem dX12_craft_9 : decode cX12_craft 9 = .ok (.iload_n 1, 1) := by decide +kernel
theorem dX12_craft_10 : decode cX12_craft 10 = .ok (.bipush 32, 2) := by decide +kernel
theorem dX12_craft_12 : decode cX12_craft 12 = .ok (.if_icmp .le 6, 3) := by decide +kernel
theorem dX12_craft_15 : decode cX12_craft 15 = .ok (.bipush (-2), 2) := by decide +kernel
theorem dX12_craft_17 : decode cX12_craft 17 = .ok (.ireturn, 1) := by decide +kernel
theorem dX12_craft_18 : decode cX12_craft 18 = .ok (.aload_n 0, 1) := by decide +kernel
theorem dX12_craft_19 : decode cX12_craft 19 = .ok (.getfield 135, 3) := by decide +kernel
theorem dX12_craft_22 : decode cX12_craft 22 = .ok (.bipush 8, 2) := by decide +kernel
theorem dX12_craft_24 : decode cX12_craft 24 = .ok (.if_icmp .eq 14, 3) := by decide +kernel
theorem dX12_craft_27 : decode cX12_craft 27 = .ok (.aload_n 0, 1) := by decide +kernel
theorem dX12_craft_28 : decode cX12_craft 28 = .ok (.getfield 138, 3) := by decide +kernel
theorem dX12_craft_31 : decode cX12_craft 31 = .ok (.iload_n 1, 1) := by decide +kernel
theorem dX12_craft_32 : decode cX12_craft 32 = .ok (.iadd, 1) := by decide +kernel
theorem dX12_craft_33 : decode cX12_craft 33 = .ok (.bipush 32, 2) := by decide +kernel
theorem dX12_craft_35 : decode cX12_craft 35 = .ok (.if_icmp .le 6, 3) := by decide +kernel
theorem dX12_craft_38 : decode cX12_craft 38 = .ok (.bipush (-8), 2) := by decide +kernel
theorem dX12_craft_40 : decode cX12_craft 40 = .ok (.ireturn, 1) := by decide +kernel
theorem dX12_craft_41 : decode cX12_craft 41 = .ok (.aload_n 0, 1) := by decide +kernel
theorem dX12_craft_42 : decode cX12_craft 42 = .ok (.getfield 9, 3) := by decide +kernel
theorem dX12_craft_45 : decode cX12_craft 45 = .ok (.aload_n 0, 1) := by decide +kernel
theorem dX12_craft_46 : decode cX12_craft 46 = .ok (.getfield 135, 3) := by decide +kernel
theorem dX12_craft_49 : decode cX12_craft 49 = .ok (.iload_n 1, 1) := by decide +kernel
theorem dX12_craft_50 : decode cX12_craft 50 = .ok (.iastore, 1) := by decide +kernel
theorem dX12_craft_51 : decode cX12_craft 51 = .ok (.aload_n 0, 1) := by decide +kernel
theorem dX12_craft_52 : decode cX12_craft 52 = .ok (.dup, 1) := by decide +kernel
theorem dX12_craft_53 : decode cX12_craft 53 = .ok (.getfield 138, 3) := by decide +kernel
theorem dX12_craft_56 : decode cX12_craft 56 = .ok (.iload_n 1, 1) := by decide +kernel
theorem dX12_craft_57 : decode cX12_craft 57 = .ok (.iadd, 1) := by decide +kernel
theorem dX12_craft_58 : decode cX12_craft 58 = .ok (.putfield 138, 3) := by decide +kernel
theorem dX12_craft_61 : decode cX12_craft 61 = .ok (.aload_n 0, 1) := by decide +kernel
theorem dX12_craft_62 : decode cX12_craft 62 = .ok (.dup, 1) := by decide +kernel
theorem dX12_craft_63 : decode cX12_craft 63 = .ok (.getfield 135, 3) := by decide +kernel
theorem dX12_craft_66 : decode cX12_craft 66 = .ok (.iconst 1, 1) := by decide +kernel
theorem dX12_craft_67 : decode cX12_craft 67 = .ok (.iadd, 1) := by decide +kernel
theorem dX12_craft_68 : decode cX12_craft 68 = .ok (.putfield 135, 3) := by decide +kernel
theorem dX12_craft_71 : decode cX12_craft 71 = .ok (.aload_n 0, 1) := by decide +kernel
theorem dX12_craft_72 : decode cX12_craft 72 = .ok (.aload_n 0, 1) := by decide +kernel
theorem dX12_craft_73 : decode cX12_craft 73 = .ok (.getfield 135, 3) := by decide +kernel
theorem dX12_craft_76 : decode cX12_craft 76 = .ok (.iconst 1, 1) := by decide +kernel
theorem dX12_craft_77 : decode cX12_craft 77 = .ok (.isub, 1) := by decide +kernel
theorem dX12_craft_78 : decode cX12_craft 78 = .ok (.invokevirtual 141, 3) := by decide +kernel
theorem dX12_craft_81 : decode cX12_craft 81 = .ok (.ireturn, 1) := by decide +kernel
theorem dX12_machine_0 : decode cX12_machine 0 = .ok (.aload_n 0, 1) := by decide +kernel
theorem dX12_machine_1 : decode cX12_machine 1 = .ok (.iconst 0, 1) := by decide +kernel
theorem dX12_machine_2 : decode cX12_machine 2 = .ok (.putfield 124, 3) := by decide +kernel
theorem dX12_machine_5 : decode cX12_machine 5 = .ok (.aload_n 0, 1) := by decide +kernel
theorem dX12_machine_6 : decode cX12_machine 6 = .ok (.getfield 145, 3) := by decide +kernel
theorem dX12_machine_9 : decode cX12_machine 9 = .ok (.bipush 40, 2) := by decide +kernel
theorem dX12_machine_11 : decode cX12_machine 11 = .ok (.if_icmp .ne 6, 3) := by decide +kernel
theorem dX12_machine_14 : decode cX12_machine 14 = .ok (.bipush (-8), 2) := by decide +kernel
theorem dX12_machine_16 : decode cX12_machine 16 = .ok (.ireturn, 1) := by decide +kernel
theorem dX12_machine_17 : decode cX12_machine 17 = .ok (.aload_n 0, 1) := by decide +kernel
theorem dX12_machine_18 : decode cX12_machine 18 = .ok (.dup, 1) := by decide +kernel
theorem dX12_machine_19 : decode cX12_machine 19 = .ok (.getfield 145, 3) := by decide +kernel
theorem dX12_machine_22 : decode cX12_machine 22 = .ok (.iconst 1, 1) := by decide +kernel
theorem dX12_machine_23 : decode cX12_machine 23 = .ok (.iadd, 1) := by decide +kernel
theorem dX12_machine_24 : decode cX12_machine 24 = .ok (.putfield 145, 3) := by decide +kernel
theorem dX12_machine_27 : decode cX12_machine 27 = .ok (.aload_n 0, 1) := by decide +kernel
theorem dX12_machine_28 : decode cX12_machine 28 = .ok (.aload_n 0, 1) := by decide +kernel
theorem dX12_machine_29 : decode cX12_machine 29 = .ok (.getfield 145, 3) := by decide +kernel
theorem dX12_machine_32 : decode cX12_machine 32 = .ok (.iconst 1, 1) := by decide +kernel
theorem dX12_machine_33 : decode cX12_machine 33 = .ok (.isub, 1) := by decide +kernel
theorem dX12_machine_34 : decode cX12_machine 34 = .ok (.invokevirtual 141, 3) := by decide +kernel
theorem dX12_machine_37 : decode cX12_machine 37 = .ok (.ireturn, 1) := by decide +kernel
theorem dX12_stock_0 : decode cX12_stock 0 = .ok (.aload_n 0, 1) := by decide +kernel
theorem dX12_stock_1 : decode cX12_stock 1 = .ok (.iconst 0, 1) := by decide +kernel
theorem dX12_stock_2 : decode cX12_stock 2 = .ok (.putfield 124, 3) := by decide +kernel
theorem dX12_stock_5 : decode cX12_stock 5 = .ok (.iload_n 1, 1) := by decide +kernel
theorem dX12_stock_6 : decode cX12_stock 6 = .ok (.invokestatic 148, 3) := by decide +kernel
theorem dX12_stock_9 : decode cX12_stock 9 = .ok (.ifCond .ne 5, 3) := by decide +kernel
theorem dX12_stock_12 : decode cX12_stock 12 = .ok (.iconst (-1), 1) := by decide +kernel
theorem dX12_stock_13 : decode cX12_stock 13 = .ok (.ireturn, 1) := by decide +kernel
theorem dX12_stock_14 : decode cX12_stock 14 = .ok (.iload_n 2, 1) := by decide +kernel
theorem dX12_stock_15 : decode cX12_stock 15 = .ok (.ifCond .lt 9, 3) := by decide +kernel
theorem dX12_stock_18 : decode cX12_stock 18 = .ok (.iload_n 2, 1) := by decide +kernel
theorem dX12_stock_19 : decode cX12_stock 19 = .ok (.ldc 152, 2) := by decide +kernel
theorem dX12_stock_21 : decode cX12_stock 21 = .ok (.if_icmp .le 6, 3) := by decide +kernel
theorem dX12_stock_24 : decode cX12_stock 24 = .ok (.bipush (-2), 2) := by decide +kernel
theorem dX12_stock_26 : decode cX12_stock 26 = .ok (.ireturn, 1) := by decide +kernel
theorem dX12_stock_27 : decode cX12_stock 27 = .ok (.aload_n 0, 1) := by decide +kernel
theorem dX12_stock_28 : decode cX12_stock 28 = .ok (.getfield 13, 3) := by decide +kernel
theorem dX12_stock_31 : decode cX12_stock 31 = .ok (.iload_n 1, 1) := by decide +kernel
theorem dX12_stock_32 : decode cX12_stock 32 = .ok (.iaload, 1) := by decide +kernel
theorem dX12_stock_33 : decode cX12_stock 33 = .ok (.iload_n 2, 1) := by decide +kernel
theorem dX12_stock_34 : decode cX12_stock 34 = .ok (.iadd, 1) := by decide +kernel
theorem dX12_stock_35 : decode cX12_stock 35 = .ok (.ldc 153, 2) := by decide +kernel
theorem dX12_stock_37 : decode cX12_stock 37 = .ok (.if_icmp .le 6, 3) := by decide +kernel
theorem dX12_stock_40 : decode cX12_stock 40 = .ok (.bipush (-8), 2) := by decide +kernel
theorem dX12_stock_42 : decode cX12_stock 42 = .ok (.ireturn, 1) := by decide +kernel
theorem dX12_stock_43 : decode cX12_stock 43 = .ok (.aload_n 0, 1) := by decide +kernel
theorem dX12_stock_44 : decode cX12_stock 44 = .ok (.getfield 13, 3) := by decide +kernel
theorem dX12_stock_47 : decode cX12_stock 47 = .ok (.iload_n 1, 1) := by decide +kernel
theorem dX12_stock_48 : decode cX12_stock 48 = .ok (.dup2, 1) := by decide +kernel
theorem dX12_stock_49 : decode cX12_stock 49 = .ok (.iaload, 1) := by decide +kernel
theorem dX12_stock_50 : decode cX12_stock 50 = .ok (.iload_n 2, 1) := by decide +kernel
theorem dX12_stock_51 : decode cX12_stock 51 = .ok (.iadd, 1) := by decide +kernel
theorem dX12_stock_52 : decode cX12_stock 52 = .ok (.iastore, 1) := by decide +kernel
theorem dX12_stock_53 : decode cX12_stock 53 = .ok (.aload_n 0, 1) := by decide +kernel
theorem dX12_stock_54 : decode cX12_stock 54 = .ok (.iconst 0, 1) := by decide +kernel
theorem dX12_stock_55 : decode cX12_stock 55 = .ok (.invokevirtual 141, 3) := by decide +kernel
theorem dX12_stock_58 : decode cX12_stock 58 = .ok (.ireturn, 1) := by decide +kernel
theorem dX12_job_0 : decode cX12_job 0 = .ok (.aload_n 0, 1) := by decide +kernel
theorem dX12_job_1 : decode cX12_job 1 = .ok (.iconst 0, 1) := by decide +kernel
theorem dX12_job_2 : decode cX12_job 2 = .ok (.putfield 124, 3) := by decide +kernel
theorem dX12_job_5 : decode cX12_job 5 = .ok (.iload_n 1, 1) := by decide +kernel
theorem dX12_job_6 : decode cX12_job 6 = .ok (.ifCond .lt 11, 3) := by decide +kernel
theorem dX12_job_9 : decode cX12_job 9 = .ok (.iload_n 1, 1) := by decide +kernel
theorem dX12_job_10 : decode cX12_job 10 = .ok (.aload_n 0, 1) := by decide +kernel
theorem dX12_job_11 : decode cX12_job 11 = .ok (.getfield 135, 3) := by decide +kernel
theorem dX12_job_14 : decode cX12_job 14 = .ok (.if_icmp .lt 5, 3) := by decide +kernel
theorem dX12_job_17 : decode cX12_job 17 = .ok (.iconst (-1), 1) := by decide +kernel
theorem dX12_job_18 : decode cX12_job 18 = .ok (.ireturn, 1) := by decide +kernel
theorem dX12_job_19 : decode cX12_job 19 = .ok (.iload_n 2, 1) := by decide +kernel
theorem dX12_job_20 : decode cX12_job 20 = .ok (.iconst 1, 1) := by decide +kernel
theorem dX12_job_21 : decode cX12_job 21 = .ok (.if_icmp .lt 21, 3) := by decide +kernel
theorem dX12_job_24 : decode cX12_job 24 = .ok (.iload_n 2, 1) := by decide +kernel
theorem dX12_job_25 : decode cX12_job 25 = .ok (.sipush 10000, 3) := by decide +kernel
theorem dX12_job_28 : decode cX12_job 28 = .ok (.if_icmp .gt 14, 3) := by decide +kernel
theorem dX12_job_31 : decode cX12_job 31 = .ok (.iload_n 3, 1) := by decide +kernel
theorem dX12_job_32 : decode cX12_job 32 = .ok (.ifCond .lt 10, 3) := by decide +kernel
theorem dX12_job_35 : decode cX12_job 35 = .ok (.iload_n 3, 1) := by decide +kernel
theorem dX12_job_36 : decode cX12_job 36 = .ok (.sipush 1000, 3) := by decide +kernel
theorem dX12_job_39 : decode cX12_job 39 = .ok (.if_icmp .le 6, 3) := by decide +kernel
theorem dX12_job_42 : decode cX12_job 42 = .ok (.bipush (-2), 2) := by decide +kernel
theorem dX12_job_44 : decode cX12_job 44 = .ok (.ireturn, 1) := by decide +kernel
theorem dX12_job_45 : decode cX12_job 45 = .ok (.aload_n 0, 1) := by decide +kernel
theorem dX12_job_46 : decode cX12_job 46 = .ok (.getfield 128, 3) := by decide +kernel
theorem dX12_job_49 : decode cX12_job 49 = .ok (.sipush 200, 3) := by decide +kernel
theorem dX12_job_52 : decode cX12_job 52 = .ok (.if_icmp .ne 6, 3) := by decide +kernel
theorem dX12_job_55 : decode cX12_job 55 = .ok (.bipush (-8), 2) := by decide +kernel
theorem dX12_job_57 : decode cX12_job 57 = .ok (.ireturn, 1) := by decide +kernel
theorem dX12_job_58 : decode cX12_job 58 = .ok (.aload_n 0, 1) := by decide +kernel
theorem dX12_job_59 : decode cX12_job 59 = .ok (.getfield 128, 3) := by decide +kernel
theorem dX12_job_62 : decode cX12_job 62 = .ok (.istore 4, 2) := by decide +kernel
theorem dX12_job_64 : decode cX12_job 64 = .ok (.aload_n 0, 1) := by decide +kernel
theorem dX12_job_65 : decode cX12_job 65 = .ok (.dup, 1) := by decide +kernel
theorem dX12_job_66 : decode cX12_job 66 = .ok (.getfield 128, 3) := by decide +kernel
theorem dX12_job_69 : decode cX12_job 69 = .ok (.iconst 1, 1) := by decide +kernel
theorem dX12_job_70 : decode cX12_job 70 = .ok (.iadd, 1) := by decide +kernel
theorem dX12_job_71 : decode cX12_job 71 = .ok (.putfield 128, 3) := by decide +kernel
theorem dX12_job_74 : decode cX12_job 74 = .ok (.aload_n 0, 1) := by decide +kernel
theorem dX12_job_75 : decode cX12_job 75 = .ok (.getfield 16, 3) := by decide +kernel
theorem dX12_job_78 : decode cX12_job 78 = .ok (.iload 4, 2) := by decide +kernel
theorem dX12_job_80 : decode cX12_job 80 = .ok (.iload_n 1, 1) := by decide +kernel
theorem dX12_job_81 : decode cX12_job 81 = .ok (.iastore, 1) := by decide +kernel
theorem dX12_job_82 : decode cX12_job 82 = .ok (.aload_n 0, 1) := by decide +kernel
theorem dX12_job_83 : decode cX12_job 83 = .ok (.getfield 19, 3) := by decide +kernel
theorem dX12_job_86 : decode cX12_job 86 = .ok (.iload 4, 2) := by decide +kernel
theorem dX12_job_88 : decode cX12_job 88 = .ok (.iload_n 2, 1) := by decide +kernel
theorem dX12_job_89 : decode cX12_job 89 = .ok (.iastore, 1) := by decide +kernel
theorem dX12_job_90 : decode cX12_job 90 = .ok (.aload_n 0, 1) := by decide +kernel
theorem dX12_job_91 : decode cX12_job 91 = .ok (.getfield 22, 3) := by decide +kernel
theorem dX12_job_94 : decode cX12_job 94 = .ok (.iload 4, 2) := by decide +kernel
theorem dX12_job_96 : decode cX12_job 96 = .ok (.iload_n 3, 1) := by decide +kernel
theorem dX12_job_97 : decode cX12_job 97 = .ok (.iastore, 1) := by decide +kernel
theorem dX12_job_98 : decode cX12_job 98 = .ok (.aload_n 0, 1) := by decide +kernel
theorem dX12_job_99 : decode cX12_job 99 = .ok (.getfield 42, 3) := by decide +kernel
theorem dX12_job_102 : decode cX12_job 102 = .ok (.iload 4, 2) := by decide +kernel
theorem dX12_job_104 : decode cX12_job 104 = .ok (.iconst 0, 1) := by decide +kernel
theorem dX12_job_105 : decode cX12_job 105 = .ok (.iastore, 1) := by decide +kernel
theorem dX12_job_106 : decode cX12_job 106 = .ok (.aload_n 0, 1) := by decide +kernel
theorem dX12_job_107 : decode cX12_job 107 = .ok (.getfield 54, 3) := by decide +kernel
theorem dX12_job_110 : decode cX12_job 110 = .ok (.iload 4, 2) := by decide +kernel
theorem dX12_job_112 : decode cX12_job 112 = .ok (.iconst (-1), 1) := by decide +kernel
theorem dX12_job_113 : decode cX12_job 113 = .ok (.iastore, 1) := by decide +kernel
theorem dX12_job_114 : decode cX12_job 114 = .ok (.aload_n 0, 1) := by decide +kernel
theorem dX12_job_115 : decode cX12_job 115 = .ok (.getfield 57, 3) := by decide +kernel
theorem dX12_job_118 : decode cX12_job 118 = .ok (.iload 4, 2) := by decide +kernel
theorem dX12_job_120 : decode cX12_job 120 = .ok (.iconst 0, 1) := by decide +kernel
theorem dX12_job_121 : decode cX12_job 121 = .ok (.iastore, 1) := by decide +kernel
theorem dX12_job_122 : decode cX12_job 122 = .ok (.aload_n 0, 1) := by decide +kernel
theorem dX12_job_123 : decode cX12_job 123 = .ok (.iload 4, 2) := by decide +kernel
theorem dX12_job_125 : decode cX12_job 125 = .ok (.invokevirtual 141, 3) := by decide +kernel
theorem dX12_job_128 : decode cX12_job 128 = .ok (.ireturn, 1) := by decide +kernel
theorem dX12_after_0 : decode cX12_after 0 = .ok (.aload_n 0, 1) := by decide +kernel
theorem dX12_after_1 : decode cX12_after 1 = .ok (.iconst 0, 1) := by decide +kernel
theorem dX12_after_2 : decode cX12_after 2 = .ok (.putfield 124, 3) := by decide +kernel
theorem dX12_after_5 : decode cX12_after 5 = .ok (.aload_n 0, 1) := by decide +kernel
theorem dX12_after_6 : decode cX12_after 6 = .ok (.iload_n 1, 1) := by decide +kernel
theorem dX12_after_7 : decode cX12_after 7 = .ok (.invokevirtual 154, 3) := by decide +kernel
theorem dX12_after_10 : decode cX12_after 10 = .ok (.ifCond .eq 11, 3) := by decide +kernel
theorem dX12_after_13 : decode cX12_after 13 = .ok (.aload_n 0, 1) := by decide +kernel
theorem dX12_after_14 : decode cX12_after 14 = .ok (.iload_n 2, 1) := by decide +kernel
theorem dX12_after_15 : decode cX12_after 15 = .ok (.invokevirtual 154, 3) := by decide +kernel
theorem dX12_after_18 : decode cX12_after 18 = .ok (.ifCond .ne 5, 3) := by decide +kernel
theorem dX12_after_21 : decode cX12_after 21 = .ok (.iconst (-1), 1) := by decide +kernel
theorem dX12_after_22 : decode cX12_after 22 = .ok (.ireturn, 1) := by decide +kernel
theorem dX12_after_23 : decode cX12_after 23 = .ok (.aload_n 0, 1) := by decide +kernel
theorem dX12_after_24 : decode cX12_after 24 = .ok (.getfield 26, 3) := by decide +kernel
theorem dX12_after_27 : decode cX12_after 27 = .ok (.sipush 200, 3) := by decide +kernel
theorem dX12_after_30 : decode cX12_after 30 = .ok (.iload_n 1, 1) := by decide +kernel
theorem dX12_after_31 : decode cX12_after 31 = .ok (.imul, 1) := by decide +kernel
theorem dX12_after_32 : decode cX12_after 32 = .ok (.iload_n 2, 1) := by decide +kernel
theorem dX12_after_33 : decode cX12_after 33 = .ok (.iadd, 1) := by decide +kernel
theorem dX12_after_34 : decode cX12_after 34 = .ok (.baload, 1) := by decide +kernel
theorem dX12_after_35 : decode cX12_after 35 = .ok (.ifCond .eq 6, 3) := by decide +kernel
theorem dX12_after_38 : decode cX12_after 38 = .ok (.bipush (-3), 2) := by decide +kernel
theorem dX12_after_40 : decode cX12_after 40 = .ok (.ireturn, 1) := by decide +kernel
theorem dX12_after_41 : decode cX12_after 41 = .ok (.iload_n 1, 1) := by decide +kernel
theorem dX12_after_42 : decode cX12_after 42 = .ok (.iload_n 2, 1) := by decide +kernel
theorem dX12_after_43 : decode cX12_after 43 = .ok (.if_icmp .eq 18, 3) := by decide +kernel
theorem dX12_after_46 : decode cX12_after 46 = .ok (.aload_n 0, 1) := by decide +kernel
theorem dX12_after_47 : decode cX12_after 47 = .ok (.getfield 30, 3) := by decide +kernel
theorem dX12_after_50 : decode cX12_after 50 = .ok (.sipush 200, 3) := by decide +kernel
theorem dX12_after_53 : decode cX12_after 53 = .ok (.iload_n 2, 1) := by decide +kernel
theorem dX12_after_54 : decode cX12_after 54 = .ok (.imul, 1) := by decide +kernel
theorem dX12_after_55 : decode cX12_after 55 = .ok (.iload_n 1, 1) := by decide +kernel
theorem dX12_after_56 : decode cX12_after 56 = .ok (.iadd, 1) := by decide +kernel
theorem dX12_after_57 : decode cX12_after 57 = .ok (.baload, 1) := by decide +kernel
theorem dX12_after_58 : decode cX12_after 58 = .ok (.ifCond .eq 6, 3) := by decide +kernel
theorem dX12_after_61 : decode cX12_after 61 = .ok (.bipush (-4), 2) := by decide +kernel
theorem dX12_after_63 : decode cX12_after 63 = .ok (.ireturn, 1) := by decide +kernel
theorem dX12_after_64 : decode cX12_after 64 = .ok (.aload_n 0, 1) := by decide +kernel
theorem dX12_after_65 : decode cX12_after 65 = .ok (.getfield 26, 3) := by decide +kernel
theorem dX12_after_68 : decode cX12_after 68 = .ok (.sipush 200, 3) := by decide +kernel
theorem dX12_after_71 : decode cX12_after 71 = .ok (.iload_n 1, 1) := by decide +kernel
theorem dX12_after_72 : decode cX12_after 72 = .ok (.imul, 1) := by decide +kernel
theorem dX12_after_73 : decode cX12_after 73 = .ok (.iload_n 2, 1) := by decide +kernel
theorem dX12_after_74 : decode cX12_after 74 = .ok (.iadd, 1) := by decide +kernel
theorem dX12_after_75 : decode cX12_after 75 = .ok (.iconst 1, 1) := by decide +kernel
theorem dX12_after_76 : decode cX12_after 76 = .ok (.bastore, 1) := by decide +kernel
theorem dX12_after_77 : decode cX12_after 77 = .ok (.iconst 0, 1) := by decide +kernel
theorem dX12_after_78 : decode cX12_after 78 = .ok (.istore_n 3, 1) := by decide +kernel
theorem dX12_after_79 : decode cX12_after 79 = .ok (.iload_n 3, 1) := by decide +kernel
theorem dX12_after_80 : decode cX12_after 80 = .ok (.aload_n 0, 1) := by decide +kernel
theorem dX12_after_81 : decode cX12_after 81 = .ok (.getfield 128, 3) := by decide +kernel
theorem dX12_after_84 : decode cX12_after 84 = .ok (.if_icmp .ge 86, 3) := by decide +kernel
theorem dX12_after_87 : decode cX12_after 87 = .ok (.iload_n 3, 1) := by decide +kernel
theorem dX12_after_88 : decode cX12_after 88 = .ok (.iload_n 1, 1) := by decide +kernel
theorem dX12_after_89 : decode cX12_after 89 = .ok (.if_icmp .eq 21, 3) := by decide +kernel
theorem dX12_after_92 : decode cX12_after 92 = .ok (.aload_n 0, 1) := by decide +kernel
theorem dX12_after_93 : decode cX12_after 93 = .ok (.getfield 30, 3) := by decide +kernel
theorem dX12_after_96 : decode cX12_after 96 = .ok (.sipush 200, 3) := by decide +kernel
theorem dX12_after_99 : decode cX12_after 99 = .ok (.iload_n 3, 1) := by decide +kernel
theorem dX12_after_100 : decode cX12_after 100 = .ok (.imul, 1) := by decide +kernel
theorem dX12_after_101 : decode cX12_after 101 = .ok (.iload_n 1, 1) := by decide +kernel
theorem dX12_after_102 : decode cX12_after 102 = .ok (.iadd, 1) := by decide +kernel
theorem dX12_after_103 : decode cX12_after 103 = .ok (.baload, 1) := by decide +kernel
theorem dX12_after_104 : decode cX12_after 104 = .ok (.ifCond .ne 6, 3) := by decide +kernel
theorem dX12_after_107 : decode cX12_after 107 = .ok (.goto 57, 3) := by decide +kernel
theorem dX12_after_110 : decode cX12_after 110 = .ok (.iconst 0, 1) := by decide +kernel
theorem dX12_after_111 : decode cX12_after 111 = .ok (.istore 4, 2) := by decide +kernel
theorem dX12_after_113 : decode cX12_after 113 = .ok (.iload 4, 2) := by decide +kernel
theorem dX12_after_115 : decode cX12_after 115 = .ok (.aload_n 0, 1) := by decide +kernel
theorem dX12_after_116 : decode cX12_after 116 = .ok (.getfield 128, 3) := by decide +kernel
theorem dX12_after_119 : decode cX12_after 119 = .ok (.if_icmp .ge 45, 3) := by decide +kernel
theorem dX12_after_122 : decode cX12_after 122 = .ok (.iload 4, 2) := by decide +kernel
theorem dX12_after_124 : decode cX12_after 124 = .ok (.iload_n 2, 1) := by decide +kernel
theorem dX12_after_125 : decode cX12_after 125 = .ok (.if_icmp .eq 19, 3) := by decide +kernel
theorem dX12_after_128 : decode cX12_after 128 = .ok (.aload_n 0, 1) := by decide +kernel
theorem dX12_after_129 : decode cX12_after 129 = .ok (.getfield 30, 3) := by decide +kernel
theorem dX12_after_132 : decode cX12_after 132 = .ok (.sipush 200, 3) := by decide +kernel
theorem dX12_after_135 : decode cX12_after 135 = .ok (.iload_n 2, 1) := by decide +kernel
theorem dX12_after_136 : decode cX12_after 136 = .ok (.imul, 1) := by decide +kernel
theorem dX12_after_137 : decode cX12_after 137 = .ok (.iload 4, 2) := by decide +kernel
theorem dX12_after_139 : decode cX12_after 139 = .ok (.iadd, 1) := by decide +kernel
theorem dX12_after_140 : decode cX12_after 140 = .ok (.baload, 1) := by decide +kernel
theorem dX12_after_141 : decode cX12_after 141 = .ok (.ifCond .eq 17, 3) := by decide +kernel
theorem dX12_after_144 : decode cX12_after 144 = .ok (.aload_n 0, 1) := by decide +kernel
theorem dX12_after_145 : decode cX12_after 145 = .ok (.getfield 30, 3) := by decide +kernel
theorem dX12_after_148 : decode cX12_after 148 = .ok (.sipush 200, 3) := by decide +kernel
theorem dX12_after_151 : decode cX12_after 151 = .ok (.iload_n 3, 1) := by decide +kernel
theorem dX12_after_152 : decode cX12_after 152 = .ok (.imul, 1) := by decide +kernel
theorem dX12_after_153 : decode cX12_after 153 = .ok (.iload 4, 2) := by decide +kernel
theorem dX12_after_155 : decode cX12_after 155 = .ok (.iadd, 1) := by decide +kernel
theorem dX12_after_156 : decode cX12_after 156 = .ok (.iconst 1, 1) := by decide +kernel
theorem dX12_after_157 : decode cX12_after 157 = .ok (.bastore, 1) := by decide +kernel
theorem dX12_after_158 : decode cX12_after 158 = .ok (.iinc 4 1, 3) := by decide +kernel
theorem dX12_after_161 : decode cX12_after 161 = .ok (.goto (-48), 3) := by decide +kernel
theorem dX12_after_164 : decode cX12_after 164 = .ok (.iinc 3 1, 3) := by decide +kernel
theorem dX12_after_167 : decode cX12_after 167 = .ok (.goto (-88), 3) := by decide +kernel
theorem dX12_after_170 : decode cX12_after 170 = .ok (.aload_n 0, 1) := by decide +kernel
theorem dX12_after_171 : decode cX12_after 171 = .ok (.iconst 0, 1) := by decide +kernel
theorem dX12_after_172 : decode cX12_after 172 = .ok (.invokevirtual 141, 3) := by decide +kernel
theorem dX12_after_175 : decode cX12_after 175 = .ok (.ireturn, 1) := by decide +kernel
theorem dX12_needs_0 : decode cX12_needs 0 = .ok (.aload_n 0, 1) := by decide +kernel
theorem dX12_needs_1 : decode cX12_needs 1 = .ok (.iconst 0, 1) := by decide +kernel
theorem dX12_needs_2 : decode cX12_needs 2 = .ok (.putfield 124, 3) := by decide +kernel
theorem dX12_needs_5 : decode cX12_needs 5 = .ok (.aload_n 0, 1) := by decide +kernel
theorem dX12_needs_6 : decode cX12_needs 6 = .ok (.iload_n 1, 1) := by decide +kernel
theorem dX12_needs_7 : decode cX12_needs 7 = .ok (.invokevirtual 154, 3) := by decide +kernel
theorem dX12_needs_10 : decode cX12_needs 10 = .ok (.ifCond .eq 15, 3) := by decide +kernel
theorem dX12_needs_13 : decode cX12_needs 13 = .ok (.iload_n 2, 1) := by decide +kernel
theorem dX12_needs_14 : decode cX12_needs 14 = .ok (.ifCond .lt 11, 3) := by decide +kernel
theorem dX12_needs_17 : decode cX12_needs 17 = .ok (.iload_n 2, 1) := by decide +kernel
theorem dX12_needs_18 : decode cX12_needs 18 = .ok (.aload_n 0, 1) := by decide +kernel
theorem dX12_needs_19 : decode cX12_needs 19 = .ok (.getfield 145, 3) := by decide +kernel
theorem dX12_needs_22 : decode cX12_needs 22 = .ok (.if_icmp .lt 5, 3) := by decide +kernel
theorem dX12_needs_25 : decode cX12_needs 25 = .ok (.iconst (-1), 1) := by decide +kernel
theorem dX12_needs_26 : decode cX12_needs 26 = .ok (.ireturn, 1) := by decide +kernel
theorem dX12_needs_27 : decode cX12_needs 27 = .ok (.aload_n 0, 1) := by decide +kernel
theorem dX12_needs_28 : decode cX12_needs 28 = .ok (.getfield 33, 3) := by decide +kernel
theorem dX12_needs_31 : decode cX12_needs 31 = .ok (.bipush 40, 2) := by decide +kernel
theorem dX12_needs_33 : decode cX12_needs 33 = .ok (.iload_n 1, 1) := by decide +kernel
theorem dX12_needs_34 : decode cX12_needs 34 = .ok (.imul, 1) := by decide +kernel
theorem dX12_needs_35 : decode cX12_needs 35 = .ok (.iload_n 2, 1) := by decide +kernel
theorem dX12_needs_36 : decode cX12_needs 36 = .ok (.iadd, 1) := by decide +kernel
theorem dX12_needs_37 : decode cX12_needs 37 = .ok (.baload, 1) := by decide +kernel
theorem dX12_needs_38 : decode cX12_needs 38 = .ok (.ifCond .eq 6, 3) := by decide +kernel
theorem dX12_needs_41 : decode cX12_needs 41 = .ok (.bipush (-3), 2) := by decide +kernel
theorem dX12_needs_43 : decode cX12_needs 43 = .ok (.ireturn, 1) := by decide +kernel
theorem dX12_needs_44 : decode cX12_needs 44 = .ok (.aload_n 0, 1) := by decide +kernel
theorem dX12_needs_45 : decode cX12_needs 45 = .ok (.getfield 33, 3) := by decide +kernel
theorem dX12_needs_48 : decode cX12_needs 48 = .ok (.bipush 40, 2) := by decide +kernel
theorem dX12_needs_50 : decode cX12_needs 50 = .ok (.iload_n 1, 1) := by decide +kernel
theorem dX12_needs_51 : decode cX12_needs 51 = .ok (.imul, 1) := by decide +kernel
theorem dX12_needs_52 : decode cX12_needs 52 = .ok (.iload_n 2, 1) := by decide +kernel
theorem dX12_needs_53 : decode cX12_needs 53 = .ok (.iadd, 1) := by decide +kernel
theorem dX12_needs_54 : decode cX12_needs 54 = .ok (.iconst 1, 1) := by decide +kernel
theorem dX12_needs_55 : decode cX12_needs 55 = .ok (.bastore, 1) := by decide +kernel
theorem dX12_needs_56 : decode cX12_needs 56 = .ok (.aload_n 0, 1) := by decide +kernel
theorem dX12_needs_57 : decode cX12_needs 57 = .ok (.iconst 0, 1) := by decide +kernel
theorem dX12_needs_58 : decode cX12_needs 58 = .ok (.invokevirtual 141, 3) := by decide +kernel
theorem dX12_needs_61 : decode cX12_needs 61 = .ok (.ireturn, 1) := by decide +kernel
theorem dX12_uses_0 : decode cX12_uses 0 = .ok (.aload_n 0, 1) := by decide +kernel
theorem dX12_uses_1 : decode cX12_uses 1 = .ok (.iconst 0, 1) := by decide +kernel
theorem dX12_uses_2 : decode cX12_uses 2 = .ok (.putfield 124, 3) := by decide +kernel
theorem dX12_uses_5 : decode cX12_uses 5 = .ok (.aload_n 0, 1) := by decide +kernel
theorem dX12_uses_6 : decode cX12_uses 6 = .ok (.iload_n 1, 1) := by decide +kernel
theorem dX12_uses_7 : decode cX12_uses 7 = .ok (.invokevirtual 154, 3) := by decide +kernel
theorem dX12_uses_10 : decode cX12_uses 10 = .ok (.ifCond .eq 10, 3) := by decide +kernel
theorem dX12_uses_13 : decode cX12_uses 13 = .ok (.iload_n 2, 1) := by decide +kernel
theorem dX12_uses_14 : decode cX12_uses 14 = .ok (.invokestatic 148, 3) := by decide +kernel
theorem dX12_uses_17 : decode cX12_uses 17 = .ok (.ifCond .ne 5, 3) := by decide +kernel
theorem dX12_uses_20 : decode cX12_uses 20 = .ok (.iconst (-1), 1) := by decide +kernel
theorem dX12_uses_21 : decode cX12_uses 21 = .ok (.ireturn, 1) := by decide +kernel
theorem dX12_uses_22 : decode cX12_uses 22 = .ok (.iload_n 3, 1) := by decide +kernel
theorem dX12_uses_23 : decode cX12_uses 23 = .ok (.iconst 1, 1) := by decide +kernel
theorem dX12_uses_24 : decode cX12_uses 24 = .ok (.if_icmp .lt 9, 3) := by decide +kernel
theorem dX12_uses_27 : decode cX12_uses 27 = .ok (.iload_n 3, 1) := by decide +kernel
theorem dX12_uses_28 : decode cX12_uses 28 = .ok (.ldc 152, 2) := by decide +kernel
theorem dX12_uses_30 : decode cX12_uses 30 = .ok (.if_icmp .le 6, 3) := by decide +kernel
theorem dX12_uses_33 : decode cX12_uses 33 = .ok (.bipush (-2), 2) := by decide +kernel
theorem dX12_uses_35 : decode cX12_uses 35 = .ok (.ireturn, 1) := by decide +kernel
theorem dX12_uses_36 : decode cX12_uses 36 = .ok (.aload_n 0, 1) := by decide +kernel
theorem dX12_uses_37 : decode cX12_uses 37 = .ok (.getfield 36, 3) := by decide +kernel
theorem dX12_uses_40 : decode cX12_uses 40 = .ok (.bipush 60, 2) := by decide +kernel
theorem dX12_uses_42 : decode cX12_uses 42 = .ok (.iload_n 1, 1) := by decide +kernel
theorem dX12_uses_43 : decode cX12_uses 43 = .ok (.imul, 1) := by decide +kernel
theorem dX12_uses_44 : decode cX12_uses 44 = .ok (.iload_n 2, 1) := by decide +kernel
theorem dX12_uses_45 : decode cX12_uses 45 = .ok (.iadd, 1) := by decide +kernel
theorem dX12_uses_46 : decode cX12_uses 46 = .ok (.iload_n 3, 1) := by decide +kernel
theorem dX12_uses_47 : decode cX12_uses 47 = .ok (.iastore, 1) := by decide +kernel
theorem dX12_uses_48 : decode cX12_uses 48 = .ok (.aload_n 0, 1) := by decide +kernel
theorem dX12_uses_49 : decode cX12_uses 49 = .ok (.iconst 0, 1) := by decide +kernel
theorem dX12_uses_50 : decode cX12_uses 50 = .ok (.invokevirtual 141, 3) := by decide +kernel
theorem dX12_uses_53 : decode cX12_uses 53 = .ok (.ireturn, 1) := by decide +kernel
theorem dX12_gives_0 : decode cX12_gives 0 = .ok (.aload_n 0, 1) := by decide +kernel
theorem dX12_gives_1 : decode cX12_gives 1 = .ok (.iconst 0, 1) := by decide +kernel
theorem dX12_gives_2 : decode cX12_gives 2 = .ok (.putfield 124, 3) := by decide +kernel
theorem dX12_gives_5 : decode cX12_gives 5 = .ok (.aload_n 0, 1) := by decide +kernel
theorem dX12_gives_6 : decode cX12_gives 6 = .ok (.iload_n 1, 1) := by decide +kernel
theorem dX12_gives_7 : decode cX12_gives 7 = .ok (.invokevirtual 154, 3) := by decide +kernel
theorem dX12_gives_10 : decode cX12_gives 10 = .ok (.ifCond .eq 10, 3) := by decide +kernel
theorem dX12_gives_13 : decode cX12_gives 13 = .ok (.iload_n 2, 1) := by decide +kernel
theorem dX12_gives_14 : decode cX12_gives 14 = .ok (.invokestatic 148, 3) := by decide +kernel
theorem dX12_gives_17 : decode cX12_gives 17 = .ok (.ifCond .ne 5, 3) := by decide +kernel
theorem dX12_gives_20 : decode cX12_gives 20 = .ok (.iconst (-1), 1) := by decide +kernel
theorem dX12_gives_21 : decode cX12_gives 21 = .ok (.ireturn, 1) := by decide +kernel
theorem dX12_gives_22 : decode cX12_gives 22 = .ok (.iload_n 3, 1) := by decide +kernel
theorem dX12_gives_23 : decode cX12_gives 23 = .ok (.iconst 1, 1) := by decide +kernel
theorem dX12_gives_24 : decode cX12_gives 24 = .ok (.if_icmp .lt 9, 3) := by decide +kernel
theorem dX12_gives_27 : decode cX12_gives 27 = .ok (.iload_n 3, 1) := by decide +kernel
theorem dX12_gives_28 : decode cX12_gives 28 = .ok (.ldc 152, 2) := by decide +kernel
theorem dX12_gives_30 : decode cX12_gives 30 = .ok (.if_icmp .le 6, 3) := by decide +kernel
theorem dX12_gives_33 : decode cX12_gives 33 = .ok (.bipush (-2), 2) := by decide +kernel
theorem dX12_gives_35 : decode cX12_gives 35 = .ok (.ireturn, 1) := by decide +kernel
theorem dX12_gives_36 : decode cX12_gives 36 = .ok (.aload_n 0, 1) := by decide +kernel
theorem dX12_gives_37 : decode cX12_gives 37 = .ok (.getfield 39, 3) := by decide +kernel
theorem dX12_gives_40 : decode cX12_gives 40 = .ok (.bipush 60, 2) := by decide +kernel
theorem dX12_gives_42 : decode cX12_gives 42 = .ok (.iload_n 1, 1) := by decide +kernel
theorem dX12_gives_43 : decode cX12_gives 43 = .ok (.imul, 1) := by decide +kernel
theorem dX12_gives_44 : decode cX12_gives 44 = .ok (.iload_n 2, 1) := by decide +kernel
theorem dX12_gives_45 : decode cX12_gives 45 = .ok (.iadd, 1) := by decide +kernel
theorem dX12_gives_46 : decode cX12_gives 46 = .ok (.iload_n 3, 1) := by decide +kernel
theorem dX12_gives_47 : decode cX12_gives 47 = .ok (.iastore, 1) := by decide +kernel
theorem dX12_gives_48 : decode cX12_gives 48 = .ok (.aload_n 0, 1) := by decide +kernel
theorem dX12_gives_49 : decode cX12_gives 49 = .ok (.iconst 0, 1) := by decide +kernel
theorem dX12_gives_50 : decode cX12_gives 50 = .ok (.invokevirtual 141, 3) := by decide +kernel
theorem dX12_gives_53 : decode cX12_gives 53 = .ok (.ireturn, 1) := by decide +kernel
theorem dX12_body_0 : decode cX12_body 0 = .ok (.aload_n 0, 1) := by decide +kernel
theorem dX12_body_1 : decode cX12_body 1 = .ok (.iconst 0, 1) := by decide +kernel
theorem dX12_body_2 : decode cX12_body 2 = .ok (.putfield 124, 3) := by decide +kernel
theorem dX12_body_5 : decode cX12_body 5 = .ok (.aload_n 0, 1) := by decide +kernel
theorem dX12_body_6 : decode cX12_body 6 = .ok (.iload_n 1, 1) := by decide +kernel
theorem dX12_body_7 : decode cX12_body 7 = .ok (.invokevirtual 154, 3) := by decide +kernel
theorem dX12_body_10 : decode cX12_body 10 = .ok (.ifCond .ne 5, 3) := by decide +kernel
theorem dX12_body_13 : decode cX12_body 13 = .ok (.iconst (-1), 1) := by decide +kernel
theorem dX12_body_14 : decode cX12_body 14 = .ok (.ireturn, 1) := by decide +kernel
theorem dX12_body_15 : decode cX12_body 15 = .ok (.iload_n 2, 1) := by decide +kernel
theorem dX12_body_16 : decode cX12_body 16 = .ok (.ifCond .lt 8, 3) := by decide +kernel
theorem dX12_body_19 : decode cX12_body 19 = .ok (.iload_n 2, 1) := by decide +kernel
theorem dX12_body_20 : decode cX12_body 20 = .ok (.iconst 5, 1) := by decide +kernel
theorem dX12_body_21 : decode cX12_body 21 = .ok (.if_icmp .le 6, 3) := by decide +kernel
theorem dX12_body_24 : decode cX12_body 24 = .ok (.bipush (-2), 2) := by decide +kernel
theorem dX12_body_26 : decode cX12_body 26 = .ok (.ireturn, 1) := by decide +kernel
theorem dX12_body_27 : decode cX12_body 27 = .ok (.aload_n 0, 1) := by decide +kernel
theorem dX12_body_28 : decode cX12_body 28 = .ok (.getfield 42, 3) := by decide +kernel
theorem dX12_body_31 : decode cX12_body 31 = .ok (.iload_n 1, 1) := by decide +kernel
theorem dX12_body_32 : decode cX12_body 32 = .ok (.iload_n 2, 1) := by decide +kernel
theorem dX12_body_33 : decode cX12_body 33 = .ok (.iastore, 1) := by decide +kernel
theorem dX12_body_34 : decode cX12_body 34 = .ok (.aload_n 0, 1) := by decide +kernel
theorem dX12_body_35 : decode cX12_body 35 = .ok (.getfield 45, 3) := by decide +kernel
theorem dX12_body_38 : decode cX12_body 38 = .ok (.iload_n 1, 1) := by decide +kernel
theorem dX12_body_39 : decode cX12_body 39 = .ok (.iload_n 3, 1) := by decide +kernel
theorem dX12_body_40 : decode cX12_body 40 = .ok (.iastore, 1) := by decide +kernel
theorem dX12_body_41 : decode cX12_body 41 = .ok (.aload_n 0, 1) := by decide +kernel
theorem dX12_body_42 : decode cX12_body 42 = .ok (.getfield 48, 3) := by decide +kernel
theorem dX12_body_45 : decode cX12_body 45 = .ok (.iload_n 1, 1) := by decide +kernel
theorem dX12_body_46 : decode cX12_body 46 = .ok (.iload 4, 2) := by decide +kernel
theorem dX12_body_48 : decode cX12_body 48 = .ok (.iastore, 1) := by decide +kernel
theorem dX12_body_49 : decode cX12_body 49 = .ok (.aload_n 0, 1) := by decide +kernel
theorem dX12_body_50 : decode cX12_body 50 = .ok (.iconst 0, 1) := by decide +kernel
theorem dX12_body_51 : decode cX12_body 51 = .ok (.invokevirtual 141, 3) := by decide +kernel
theorem dX12_body_54 : decode cX12_body 54 = .ok (.ireturn, 1) := by decide +kernel
theorem dX12_piece_0 : decode cX12_piece 0 = .ok (.aload_n 0, 1) := by decide +kernel
theorem dX12_piece_1 : decode cX12_piece 1 = .ok (.iconst 0, 1) := by decide +kernel
theorem dX12_piece_2 : decode cX12_piece 2 = .ok (.putfield 124, 3) := by decide +kernel
theorem dX12_piece_5 : decode cX12_piece 5 = .ok (.aload_n 0, 1) := by decide +kernel
theorem dX12_piece_6 : decode cX12_piece 6 = .ok (.iload_n 1, 1) := by decide +kernel
theorem dX12_piece_7 : decode cX12_piece 7 = .ok (.invokevirtual 154, 3) := by decide +kernel
theorem dX12_piece_10 : decode cX12_piece 10 = .ok (.ifCond .ne 5, 3) := by decide +kernel
theorem dX12_piece_13 : decode cX12_piece 13 = .ok (.iconst (-1), 1) := by decide +kernel
theorem dX12_piece_14 : decode cX12_piece 14 = .ok (.ireturn, 1) := by decide +kernel
theorem dX12_piece_15 : decode cX12_piece 15 = .ok (.iconst 0, 1) := by decide +kernel
theorem dX12_piece_16 : decode cX12_piece 16 = .ok (.aload_n 0, 1) := by decide +kernel
theorem dX12_piece_17 : decode cX12_piece 17 = .ok (.getfield 54, 3) := by decide +kernel
theorem dX12_piece_20 : decode cX12_piece 20 = .ok (.iload_n 1, 1) := by decide +kernel
theorem dX12_piece_21 : decode cX12_piece 21 = .ok (.iaload, 1) := by decide +kernel
theorem dX12_piece_22 : decode cX12_piece 22 = .ok (.invokestatic 157, 3) := by decide +kernel
theorem dX12_piece_25 : decode cX12_piece 25 = .ok (.istore_n 3, 1) := by decide +kernel
theorem dX12_piece_26 : decode cX12_piece 26 = .ok (.iload_n 3, 1) := by decide +kernel
theorem dX12_piece_27 : decode cX12_piece 27 = .ok (.bipush 30, 2) := by decide +kernel
theorem dX12_piece_29 : decode cX12_piece 29 = .ok (.if_icmp .ne 6, 3) := by decide +kernel
theorem dX12_piece_32 : decode cX12_piece 32 = .ok (.bipush (-8), 2) := by decide +kernel
theorem dX12_piece_34 : decode cX12_piece 34 = .ok (.ireturn, 1) := by decide +kernel
theorem dX12_piece_35 : decode cX12_piece 35 = .ok (.aload_n 0, 1) := by decide +kernel
theorem dX12_piece_36 : decode cX12_piece 36 = .ok (.getfield 51, 3) := by decide +kernel
theorem dX12_piece_39 : decode cX12_piece 39 = .ok (.bipush 30, 2) := by decide +kernel
theorem dX12_piece_41 : decode cX12_piece 41 = .ok (.iload_n 1, 1) := by decide +kernel
theorem dX12_piece_42 : decode cX12_piece 42 = .ok (.imul, 1) := by decide +kernel
theorem dX12_piece_43 : decode cX12_piece 43 = .ok (.iload_n 3, 1) := by decide +kernel
theorem dX12_piece_44 : decode cX12_piece 44 = .ok (.iadd, 1) := by decide +kernel
theorem dX12_piece_45 : decode cX12_piece 45 = .ok (.iload_n 2, 1) := by decide +kernel
theorem dX12_piece_46 : decode cX12_piece 46 = .ok (.iastore, 1) := by decide +kernel
theorem dX12_piece_47 : decode cX12_piece 47 = .ok (.aload_n 0, 1) := by decide +kernel
theorem dX12_piece_48 : decode cX12_piece 48 = .ok (.getfield 54, 3) := by decide +kernel
theorem dX12_piece_51 : decode cX12_piece 51 = .ok (.iload_n 1, 1) := by decide +kernel
theorem dX12_piece_52 : decode cX12_piece 52 = .ok (.iload_n 3, 1) := by decide +kernel
theorem dX12_piece_53 : decode cX12_piece 53 = .ok (.iconst 1, 1) := by decide +kernel
theorem dX12_piece_54 : decode cX12_piece 54 = .ok (.iadd, 1) := by decide +kernel
theorem dX12_piece_55 : decode cX12_piece 55 = .ok (.iastore, 1) := by decide +kernel
theorem dX12_piece_56 : decode cX12_piece 56 = .ok (.aload_n 0, 1) := by decide +kernel
theorem dX12_piece_57 : decode cX12_piece 57 = .ok (.iconst 0, 1) := by decide +kernel
theorem dX12_piece_58 : decode cX12_piece 58 = .ok (.invokevirtual 141, 3) := by decide +kernel
theorem dX12_piece_61 : decode cX12_piece 61 = .ok (.ireturn, 1) := by decide +kernel
theorem dX12_strip_0 : decode cX12_strip 0 = .ok (.aload_n 0, 1) := by decide +kernel
theorem dX12_strip_1 : decode cX12_strip 1 = .ok (.iconst 0, 1) := by decide +kernel
theorem dX12_strip_2 : decode cX12_strip 2 = .ok (.putfield 124, 3) := by decide +kernel
theorem dX12_strip_5 : decode cX12_strip 5 = .ok (.aload_n 0, 1) := by decide +kernel
theorem dX12_strip_6 : decode cX12_strip 6 = .ok (.iload_n 1, 1) := by decide +kernel
theorem dX12_strip_7 : decode cX12_strip 7 = .ok (.invokevirtual 154, 3) := by decide +kernel
theorem dX12_strip_10 : decode cX12_strip 10 = .ok (.ifCond .ne 5, 3) := by decide +kernel
theorem dX12_strip_13 : decode cX12_strip 13 = .ok (.iconst (-1), 1) := by decide +kernel
theorem dX12_strip_14 : decode cX12_strip 14 = .ok (.ireturn, 1) := by decide +kernel
theorem dX12_strip_15 : decode cX12_strip 15 = .ok (.aload_n 0, 1) := by decide +kernel
theorem dX12_strip_16 : decode cX12_strip 16 = .ok (.getfield 54, 3) := by decide +kernel
theorem dX12_strip_19 : decode cX12_strip 19 = .ok (.iload_n 1, 1) := by decide +kernel
theorem dX12_strip_20 : decode cX12_strip 20 = .ok (.iaload, 1) := by decide +kernel
theorem dX12_strip_21 : decode cX12_strip 21 = .ok (.iconst (-1), 1) := by decide +kernel
theorem dX12_strip_22 : decode cX12_strip 22 = .ok (.if_icmp .ne 6, 3) := by decide +kernel
theorem dX12_strip_25 : decode cX12_strip 25 = .ok (.bipush (-3), 2) := by decide +kernel
theorem dX12_strip_27 : decode cX12_strip 27 = .ok (.ireturn, 1) := by decide +kernel
theorem dX12_strip_28 : decode cX12_strip 28 = .ok (.aload_n 0, 1) := by decide +kernel
theorem dX12_strip_29 : decode cX12_strip 29 = .ok (.getfield 54, 3) := by decide +kernel
theorem dX12_strip_32 : decode cX12_strip 32 = .ok (.iload_n 1, 1) := by decide +kernel
theorem dX12_strip_33 : decode cX12_strip 33 = .ok (.iconst (-1), 1) := by decide +kernel
theorem dX12_strip_34 : decode cX12_strip 34 = .ok (.iastore, 1) := by decide +kernel
theorem dX12_strip_35 : decode cX12_strip 35 = .ok (.aload_n 0, 1) := by decide +kernel
theorem dX12_strip_36 : decode cX12_strip 36 = .ok (.iconst 0, 1) := by decide +kernel
theorem dX12_strip_37 : decode cX12_strip 37 = .ok (.invokevirtual 141, 3) := by decide +kernel
theorem dX12_strip_40 : decode cX12_strip 40 = .ok (.ireturn, 1) := by decide +kernel
theorem dX12_plan_0 : decode cX12_plan 0 = .ok (.aload_n 0, 1) := by decide +kernel
theorem dX12_plan_1 : decode cX12_plan 1 = .ok (.iconst 0, 1) := by decide +kernel
theorem dX12_plan_2 : decode cX12_plan 2 = .ok (.putfield 124, 3) := by decide +kernel
theorem dX12_plan_5 : decode cX12_plan 5 = .ok (.aload_n 0, 1) := by decide +kernel
theorem dX12_plan_6 : decode cX12_plan 6 = .ok (.iload_n 1, 1) := by decide +kernel
theorem dX12_plan_7 : decode cX12_plan 7 = .ok (.invokevirtual 154, 3) := by decide +kernel
theorem dX12_plan_10 : decode cX12_plan 10 = .ok (.ifCond .ne 5, 3) := by decide +kernel
theorem dX12_plan_13 : decode cX12_plan 13 = .ok (.iconst (-1), 1) := by decide +kernel
theorem dX12_plan_14 : decode cX12_plan 14 = .ok (.ireturn, 1) := by decide +kernel
theorem dX12_plan_15 : decode cX12_plan 15 = .ok (.iload_n 2, 1) := by decide +kernel
theorem dX12_plan_16 : decode cX12_plan 16 = .ok (.iconst 1, 1) := by decide +kernel
theorem dX12_plan_17 : decode cX12_plan 17 = .ok (.if_icmp .lt 24, 3) := by decide +kernel
theorem dX12_plan_20 : decode cX12_plan 20 = .ok (.iload_n 2, 1) := by decide +kernel
theorem dX12_plan_21 : decode cX12_plan 21 = .ok (.aload_n 0, 1) := by decide +kernel
theorem dX12_plan_22 : decode cX12_plan 22 = .ok (.getfield 19, 3) := by decide +kernel
theorem dX12_plan_25 : decode cX12_plan 25 = .ok (.iload_n 1, 1) := by decide +kernel
theorem dX12_plan_26 : decode cX12_plan 26 = .ok (.iaload, 1) := by decide +kernel
theorem dX12_plan_27 : decode cX12_plan 27 = .ok (.if_icmp .gt 14, 3) := by decide +kernel
theorem dX12_plan_30 : decode cX12_plan 30 = .ok (.iload_n 3, 1) := by decide +kernel
theorem dX12_plan_31 : decode cX12_plan 31 = .ok (.iconst 1, 1) := by decide +kernel
theorem dX12_plan_32 : decode cX12_plan 32 = .ok (.if_icmp .lt 9, 3) := by decide +kernel
theorem dX12_plan_35 : decode cX12_plan 35 = .ok (.iload_n 3, 1) := by decide +kernel
theorem dX12_plan_36 : decode cX12_plan 36 = .ok (.bipush 9, 2) := by decide +kernel
theorem dX12_plan_38 : decode cX12_plan 38 = .ok (.if_icmp .le 6, 3) := by decide +kernel
theorem dX12_plan_41 : decode cX12_plan 41 = .ok (.bipush (-2), 2) := by decide +kernel
theorem dX12_plan_43 : decode cX12_plan 43 = .ok (.ireturn, 1) := by decide +kernel
theorem dX12_plan_44 : decode cX12_plan 44 = .ok (.aload_n 0, 1) := by decide +kernel
theorem dX12_plan_45 : decode cX12_plan 45 = .ok (.getfield 57, 3) := by decide +kernel
theorem dX12_plan_48 : decode cX12_plan 48 = .ok (.iload_n 1, 1) := by decide +kernel
theorem dX12_plan_49 : decode cX12_plan 49 = .ok (.iload_n 2, 1) := by decide +kernel
theorem dX12_plan_50 : decode cX12_plan 50 = .ok (.iastore, 1) := by decide +kernel
theorem dX12_plan_51 : decode cX12_plan 51 = .ok (.aload_n 0, 1) := by decide +kernel
theorem dX12_plan_52 : decode cX12_plan 52 = .ok (.getfield 60, 3) := by decide +kernel
theorem dX12_plan_55 : decode cX12_plan 55 = .ok (.iload_n 1, 1) := by decide +kernel
theorem dX12_plan_56 : decode cX12_plan 56 = .ok (.iload_n 3, 1) := by decide +kernel
theorem dX12_plan_57 : decode cX12_plan 57 = .ok (.iastore, 1) := by decide +kernel
theorem dX12_plan_58 : decode cX12_plan 58 = .ok (.aload_n 0, 1) := by decide +kernel
theorem dX12_plan_59 : decode cX12_plan 59 = .ok (.iconst 0, 1) := by decide +kernel
theorem dX12_plan_60 : decode cX12_plan 60 = .ok (.invokevirtual 141, 3) := by decide +kernel
theorem dX12_plan_63 : decode cX12_plan 63 = .ok (.ireturn, 1) := by decide +kernel
theorem dX12_clearPlan_0 : decode cX12_clearPlan 0 = .ok (.aload_n 0, 1) := by decide +kernel
theorem dX12_clearPlan_1 : decode cX12_clearPlan 1 = .ok (.iconst 0, 1) := by decide +kernel
theorem dX12_clearPlan_2 : decode cX12_clearPlan 2 = .ok (.putfield 124, 3) := by decide +kernel
theorem dX12_clearPlan_5 : decode cX12_clearPlan 5 = .ok (.iconst 0, 1) := by decide +kernel
theorem dX12_clearPlan_6 : decode cX12_clearPlan 6 = .ok (.istore_n 1, 1) := by decide +kernel
theorem dX12_clearPlan_7 : decode cX12_clearPlan 7 = .ok (.iconst 0, 1) := by decide +kernel
theorem dX12_clearPlan_8 : decode cX12_clearPlan 8 = .ok (.istore_n 2, 1) := by decide +kernel
theorem dX12_clearPlan_9 : decode cX12_clearPlan 9 = .ok (.iload_n 2, 1) := by decide +kernel
theorem dX12_clearPlan_10 : decode cX12_clearPlan 10 = .ok (.aload_n 0, 1) := by decide +kernel
theorem dX12_clearPlan_11 : decode cX12_clearPlan 11 = .ok (.getfield 128, 3) := by decide +kernel
theorem dX12_clearPlan_14 : decode cX12_clearPlan 14 = .ok (.if_icmp .ge 33, 3) := by decide +kernel
theorem dX12_clearPlan_17 : decode cX12_clearPlan 17 = .ok (.iload_n 1, 1) := by decide +kernel
theorem dX12_clearPlan_18 : decode cX12_clearPlan 18 = .ok (.aload_n 0, 1) := by decide +kernel
theorem dX12_clearPlan_19 : decode cX12_clearPlan 19 = .ok (.getfield 57, 3) := by decide +kernel
theorem dX12_clearPlan_22 : decode cX12_clearPlan 22 = .ok (.iload_n 2, 1) := by decide +kernel
theorem dX12_clearPlan_23 : decode cX12_clearPlan 23 = .ok (.iaload, 1) := by decide +kernel
theorem dX12_clearPlan_24 : decode cX12_clearPlan 24 = .ok (.ifCond .le 7, 3) := by decide +kernel
theorem dX12_clearPlan_27 : decode cX12_clearPlan 27 = .ok (.iconst 1, 1) := by decide +kernel
theorem dX12_clearPlan_28 : decode cX12_clearPlan 28 = .ok (.goto 4, 3) := by decide +kernel
theorem dX12_clearPlan_31 : decode cX12_clearPlan 31 = .ok (.iconst 0, 1) := by decide +kernel
theorem dX12_clearPlan_32 : decode cX12_clearPlan 32 = .ok (.iadd, 1) := by decide +kernel
theorem dX12_clearPlan_33 : decode cX12_clearPlan 33 = .ok (.istore_n 1, 1) := by decide +kernel
theorem dX12_clearPlan_34 : decode cX12_clearPlan 34 = .ok (.aload_n 0, 1) := by decide +kernel
theorem dX12_clearPlan_35 : decode cX12_clearPlan 35 = .ok (.getfield 57, 3) := by decide +kernel
theorem dX12_clearPlan_38 : decode cX12_clearPlan 38 = .ok (.iload_n 2, 1) := by decide +kernel
theorem dX12_clearPlan_39 : decode cX12_clearPlan 39 = .ok (.iconst 0, 1) := by decide +kernel
theorem dX12_clearPlan_40 : decode cX12_clearPlan 40 = .ok (.iastore, 1) := by decide +kernel
theorem dX12_clearPlan_41 : decode cX12_clearPlan 41 = .ok (.iinc 2 1, 3) := by decide +kernel
theorem dX12_clearPlan_44 : decode cX12_clearPlan 44 = .ok (.goto (-35), 3) := by decide +kernel
theorem dX12_clearPlan_47 : decode cX12_clearPlan 47 = .ok (.aload_n 0, 1) := by decide +kernel
theorem dX12_clearPlan_48 : decode cX12_clearPlan 48 = .ok (.iload_n 1, 1) := by decide +kernel
theorem dX12_clearPlan_49 : decode cX12_clearPlan 49 = .ok (.invokevirtual 141, 3) := by decide +kernel
theorem dX12_clearPlan_52 : decode cX12_clearPlan 52 = .ok (.ireturn, 1) := by decide +kernel
theorem dX12_number_0 : decode cX12_number 0 = .ok (.aload_n 0, 1) := by decide +kernel
theorem dX12_number_1 : decode cX12_number 1 = .ok (.getfield 51, 3) := by decide +kernel
theorem dX12_number_4 : decode cX12_number 4 = .ok (.bipush 30, 2) := by decide +kernel
theorem dX12_number_6 : decode cX12_number 6 = .ok (.iload_n 1, 1) := by decide +kernel
theorem dX12_number_7 : decode cX12_number 7 = .ok (.imul, 1) := by decide +kernel
theorem dX12_number_8 : decode cX12_number 8 = .ok (.iload_n 2, 1) := by decide +kernel
theorem dX12_number_9 : decode cX12_number 9 = .ok (.iadd, 1) := by decide +kernel
theorem dX12_number_10 : decode cX12_number 10 = .ok (.iaload, 1) := by decide +kernel
theorem dX12_number_11 : decode cX12_number 11 = .ok (.ireturn, 1) := by decide +kernel
theorem dX12_bodyOf_0 : decode cX12_bodyOf 0 = .ok (.aload_n 0, 1) := by decide +kernel
theorem dX12_bodyOf_1 : decode cX12_bodyOf 1 = .ok (.iconst 0, 1) := by decide +kernel
theorem dX12_bodyOf_2 : decode cX12_bodyOf 2 = .ok (.putfield 163, 3) := by decide +kernel
theorem dX12_bodyOf_5 : decode cX12_bodyOf 5 = .ok (.iconst 0, 1) := by decide +kernel
theorem dX12_bodyOf_6 : decode cX12_bodyOf 6 = .ok (.istore_n 2, 1) := by decide +kernel
theorem dX12_bodyOf_7 : decode cX12_bodyOf 7 = .ok (.iload_n 2, 1) := by decide +kernel
theorem dX12_bodyOf_8 : decode cX12_bodyOf 8 = .ok (.bipush 30, 2) := by decide +kernel
theorem dX12_bodyOf_10 : decode cX12_bodyOf 10 = .ok (.if_icmp .ge 16, 3) := by decide +kernel
theorem dX12_bodyOf_13 : decode cX12_bodyOf 13 = .ok (.aload_n 0, 1) := by decide +kernel
theorem dX12_bodyOf_14 : decode cX12_bodyOf 14 = .ok (.getfield 103, 3) := by decide +kernel
theorem dX12_bodyOf_17 : decode cX12_bodyOf 17 = .ok (.iload_n 2, 1) := by decide +kernel
theorem dX12_bodyOf_18 : decode cX12_bodyOf 18 = .ok (.lconst 0, 1) := by decide +kernel
theorem dX12_bodyOf_19 : decode cX12_bodyOf 19 = .ok (.lastore, 1) := by decide +kernel
theorem dX12_bodyOf_20 : decode cX12_bodyOf 20 = .ok (.iinc 2 1, 3) := by decide +kernel
theorem dX12_bodyOf_23 : decode cX12_bodyOf 23 = .ok (.goto (-16), 3) := by decide +kernel
theorem dX12_bodyOf_26 : decode cX12_bodyOf 26 = .ok (.aload_n 0, 1) := by decide +kernel
theorem dX12_bodyOf_27 : decode cX12_bodyOf 27 = .ok (.getfield 42, 3) := by decide +kernel
theorem dX12_bodyOf_30 : decode cX12_bodyOf 30 = .ok (.iload_n 1, 1) := by decide +kernel
theorem dX12_bodyOf_31 : decode cX12_bodyOf 31 = .ok (.iaload, 1) := by decide +kernel
theorem dX12_bodyOf_32 : decode cX12_bodyOf 32 = .ok (.ifCond .ne 5, 3) := by decide +kernel
theorem dX12_bodyOf_35 : decode cX12_bodyOf 35 = .ok (.iconst 0, 1) := by decide +kernel
theorem dX12_bodyOf_36 : decode cX12_bodyOf 36 = .ok (.ireturn, 1) := by decide +kernel
theorem dX12_bodyOf_37 : decode cX12_bodyOf 37 = .ok (.aload_n 0, 1) := by decide +kernel
theorem dX12_bodyOf_38 : decode cX12_bodyOf 38 = .ok (.getfield 54, 3) := by decide +kernel
theorem dX12_bodyOf_41 : decode cX12_bodyOf 41 = .ok (.iload_n 1, 1) := by decide +kernel
theorem dX12_bodyOf_42 : decode cX12_bodyOf 42 = .ok (.iaload, 1) := by decide +kernel
theorem dX12_bodyOf_43 : decode cX12_bodyOf 43 = .ok (.iconst (-1), 1) := by decide +kernel
theorem dX12_bodyOf_44 : decode cX12_bodyOf 44 = .ok (.if_icmp .ne 6, 3) := by decide +kernel
theorem dX12_bodyOf_47 : decode cX12_bodyOf 47 = .ok (.bipush 13, 2) := by decide +kernel
theorem dX12_bodyOf_49 : decode cX12_bodyOf 49 = .ok (.ireturn, 1) := by decide +kernel
theorem dX12_bodyOf_50 : decode cX12_bodyOf 50 = .ok (.aload_n 0, 1) := by decide +kernel
theorem dX12_bodyOf_51 : decode cX12_bodyOf 51 = .ok (.getfield 42, 3) := by decide +kernel
theorem dX12_bodyOf_54 : decode cX12_bodyOf 54 = .ok (.iload_n 1, 1) := by decide +kernel
theorem dX12_bodyOf_55 : decode cX12_bodyOf 55 = .ok (.iaload, 1) := by decide +kernel
theorem dX12_bodyOf_56 : decode cX12_bodyOf 56 = .ok (.tableswitch 56 1 4 #[32, 38, 44, 50], 32) := by decide +kernel
theorem dX12_bodyOf_88 : decode cX12_bodyOf 88 = .ok (.aload_n 0, 1) := by decide +kernel
theorem dX12_bodyOf_89 : decode cX12_bodyOf 89 = .ok (.iload_n 1, 1) := by decide +kernel
theorem dX12_bodyOf_90 : decode cX12_bodyOf 90 = .ok (.invokevirtual 166, 3) := by decide +kernel
theorem dX12_bodyOf_93 : decode cX12_bodyOf 93 = .ok (.ireturn, 1) := by decide +kernel
theorem dX12_bodyOf_94 : decode cX12_bodyOf 94 = .ok (.aload_n 0, 1) := by decide +kernel
theorem dX12_bodyOf_95 : decode cX12_bodyOf 95 = .ok (.iload_n 1, 1) := by decide +kernel
theorem dX12_bodyOf_96 : decode cX12_bodyOf 96 = .ok (.invokevirtual 169, 3) := by decide +kernel
theorem dX12_bodyOf_99 : decode cX12_bodyOf 99 = .ok (.ireturn, 1) := by decide +kernel
theorem dX12_bodyOf_100 : decode cX12_bodyOf 100 = .ok (.aload_n 0, 1) := by decide +kernel
theorem dX12_bodyOf_101 : decode cX12_bodyOf 101 = .ok (.iload_n 1, 1) := by decide +kernel
theorem dX12_bodyOf_102 : decode cX12_bodyOf 102 = .ok (.invokevirtual 172, 3) := by decide +kernel
theorem dX12_bodyOf_105 : decode cX12_bodyOf 105 = .ok (.ireturn, 1) := by decide +kernel
theorem dX12_bodyOf_106 : decode cX12_bodyOf 106 = .ok (.aload_n 0, 1) := by decide +kernel
theorem dX12_bodyOf_107 : decode cX12_bodyOf 107 = .ok (.iload_n 1, 1) := by decide +kernel
theorem dX12_bodyOf_108 : decode cX12_bodyOf 108 = .ok (.invokevirtual 175, 3) := by decide +kernel
theorem dX12_bodyOf_111 : decode cX12_bodyOf 111 = .ok (.ireturn, 1) := by decide +kernel
theorem dX12_bodyOf_112 : decode cX12_bodyOf 112 = .ok (.aload_n 0, 1) := by decide +kernel
theorem dX12_bodyOf_113 : decode cX12_bodyOf 113 = .ok (.iload_n 1, 1) := by decide +kernel
theorem dX12_bodyOf_114 : decode cX12_bodyOf 114 = .ok (.invokevirtual 178, 3) := by decide +kernel
theorem dX12_bodyOf_117 : decode cX12_bodyOf 117 = .ok (.ireturn, 1) := by decide +kernel
theorem dX12_cuts_0 : decode cX12_cuts 0 = .ok (.aload_n 0, 1) := by decide +kernel
theorem dX12_cuts_1 : decode cX12_cuts 1 = .ok (.getfield 54, 3) := by decide +kernel
theorem dX12_cuts_4 : decode cX12_cuts 4 = .ok (.iload_n 1, 1) := by decide +kernel
theorem dX12_cuts_5 : decode cX12_cuts 5 = .ok (.iaload, 1) := by decide +kernel
theorem dX12_cuts_6 : decode cX12_cuts 6 = .ok (.istore_n 2, 1) := by decide +kernel
theorem dX12_cuts_7 : decode cX12_cuts 7 = .ok (.aload_n 0, 1) := by decide +kernel
theorem dX12_cuts_8 : decode cX12_cuts 8 = .ok (.getfield 45, 3) := by decide +kernel
theorem dX12_cuts_11 : decode cX12_cuts 11 = .ok (.iload_n 1, 1) := by decide +kernel
theorem dX12_cuts_12 : decode cX12_cuts 12 = .ok (.iaload, 1) := by decide +kernel
theorem dX12_cuts_13 : decode cX12_cuts 13 = .ok (.i2l, 1) := by decide +kernel
theorem dX12_cuts_14 : decode cX12_cuts 14 = .ok (.lstore_n 3, 1) := by decide +kernel
theorem dX12_cuts_15 : decode cX12_cuts 15 = .ok (.aload_n 0, 1) := by decide +kernel
theorem dX12_cuts_16 : decode cX12_cuts 16 = .ok (.getfield 48, 3) := by decide +kernel
theorem dX12_cuts_19 : decode cX12_cuts 19 = .ok (.iload_n 1, 1) := by decide +kernel
theorem dX12_cuts_20 : decode cX12_cuts 20 = .ok (.iaload, 1) := by decide +kernel
theorem dX12_cuts_21 : decode cX12_cuts 21 = .ok (.i2l, 1) := by decide +kernel
theorem dX12_cuts_22 : decode cX12_cuts 22 = .ok (.lstore 5, 2) := by decide +kernel
theorem dX12_cuts_24 : decode cX12_cuts 24 = .ok (.iconst 0, 1) := by decide +kernel
theorem dX12_cuts_25 : decode cX12_cuts 25 = .ok (.istore 7, 2) := by decide +kernel
theorem dX12_cuts_27 : decode cX12_cuts 27 = .ok (.iload 7, 2) := by decide +kernel
theorem dX12_cuts_29 : decode cX12_cuts 29 = .ok (.iload_n 2, 1) := by decide +kernel
theorem dX12_cuts_30 : decode cX12_cuts 30 = .ok (.if_icmp .ge 36, 3) := by decide +kernel
theorem dX12_cuts_33 : decode cX12_cuts 33 = .ok (.aload_n 0, 1) := by decide +kernel
theorem dX12_cuts_34 : decode cX12_cuts 34 = .ok (.iload_n 1, 1) := by decide +kernel
theorem dX12_cuts_35 : decode cX12_cuts 35 = .ok (.iload 7, 2) := by decide +kernel
theorem dX12_cuts_37 : decode cX12_cuts 37 = .ok (.invokevirtual 181, 3) := by decide +kernel
theorem dX12_cuts_40 : decode cX12_cuts 40 = .ok (.iconst 1, 1) := by decide +kernel
theorem dX12_cuts_41 : decode cX12_cuts 41 = .ok (.if_icmp .lt 16, 3) := by decide +kernel
theorem dX12_cuts_44 : decode cX12_cuts 44 = .ok (.aload_n 0, 1) := by decide +kernel
theorem dX12_cuts_45 : decode cX12_cuts 45 = .ok (.iload_n 1, 1) := by decide +kernel
theorem dX12_cuts_46 : decode cX12_cuts 46 = .ok (.iload 7, 2) := by decide +kernel
theorem dX12_cuts_48 : decode cX12_cuts 48 = .ok (.invokevirtual 181, 3) := by decide +kernel
theorem dX12_cuts_51 : decode cX12_cuts 51 = .ok (.i2l, 1) := by decide +kernel
theorem dX12_cuts_52 : decode cX12_cuts 52 = .ok (.lload_n 3, 1) := by decide +kernel
theorem dX12_cuts_53 : decode cX12_cuts 53 = .ok (.lcmp, 1) := by decide +kernel
theorem dX12_cuts_54 : decode cX12_cuts 54 = .ok (.ifCond .le 6, 3) := by decide +kernel
theorem dX12_cuts_57 : decode cX12_cuts 57 = .ok (.bipush 20, 2) := by decide +kernel
theorem dX12_cuts_59 : decode cX12_cuts 59 = .ok (.ireturn, 1) := by decide +kernel
theorem dX12_cuts_60 : decode cX12_cuts 60 = .ok (.iinc 7 1, 3) := by decide +kernel
theorem dX12_cuts_63 : decode cX12_cuts 63 = .ok (.goto (-36), 3) := by decide +kernel
theorem dX12_cuts_66 : decode cX12_cuts 66 = .ok (.lload 5, 2) := by decide +kernel
theorem dX12_cuts_68 : decode cX12_cuts 68 = .ok (.lconst 0, 1) := by decide +kernel
theorem dX12_cuts_69 : decode cX12_cuts 69 = .ok (.lcmp, 1) := by decide +kernel
theorem dX12_cuts_70 : decode cX12_cuts 70 = .ok (.ifCond .ge 6, 3) := by decide +kernel
theorem dX12_cuts_73 : decode cX12_cuts 73 = .ok (.bipush 20, 2) := by decide +kernel
theorem dX12_cuts_75 : decode cX12_cuts 75 = .ok (.ireturn, 1) := by decide +kernel
theorem dX12_cuts_76 : decode cX12_cuts 76 = .ok (.iconst 0, 1) := by decide +kernel
theorem dX12_cuts_77 : decode cX12_cuts 77 = .ok (.istore 7, 2) := by decide +kernel
theorem dX12_cuts_79 : decode cX12_cuts 79 = .ok (.iload 7, 2) := by decide +kernel
theorem dX12_cuts_81 : decode cX12_cuts 81 = .ok (.bipush 30, 2) := by decide +kernel
theorem dX12_cuts_83 : decode cX12_cuts 83 = .ok (.if_icmp .ge 25, 3) := by decide +kernel
theorem dX12_cuts_86 : decode cX12_cuts 86 = .ok (.aload_n 0, 1) := by decide +kernel
theorem dX12_cuts_87 : decode cX12_cuts 87 = .ok (.getfield 106, 3) := by decide +kernel
theorem dX12_cuts_90 : decode cX12_cuts 90 = .ok (.iload 7, 2) := by decide +kernel
theorem dX12_cuts_92 : decode cX12_cuts 92 = .ok (.iconst 0, 1) := by decide +kernel
theorem dX12_cuts_93 : decode cX12_cuts 93 = .ok (.bastore, 1) := by decide +kernel
theorem dX12_cuts_94 : decode cX12_cuts 94 = .ok (.aload_n 0, 1) := by decide +kernel
theorem dX12_cuts_95 : decode cX12_cuts 95 = .ok (.getfield 109, 3) := by decide +kernel
theorem dX12_cuts_98 : decode cX12_cuts 98 = .ok (.iload 7, 2) := by decide +kernel
theorem dX12_cuts_100 : decode cX12_cuts 100 = .ok (.lconst 0, 1) := by decide +kernel
theorem dX12_cuts_101 : decode cX12_cuts 101 = .ok (.lastore, 1) := by decide +kernel
theorem dX12_cuts_102 : decode cX12_cuts 102 = .ok (.iinc 7 1, 3) := by decide +kernel
theorem dX12_cuts_105 : decode cX12_cuts 105 = .ok (.goto (-26), 3) := by decide +kernel
theorem dX12_cuts_108 : decode cX12_cuts 108 = .ok (.iconst 0, 1) := by decide +kernel
theorem dX12_cuts_109 : decode cX12_cuts 109 = .ok (.istore 7, 2) := by decide +kernel
theorem dX12_cuts_111 : decode cX12_cuts 111 = .ok (.iconst 0, 1) := by decide +kernel
theorem dX12_cuts_112 : decode cX12_cuts 112 = .ok (.istore 8, 2) := by decide +kernel
theorem dX12_cuts_114 : decode cX12_cuts 114 = .ok (.iload 8, 2) := by decide +kernel
theorem dX12_cuts_116 : decode cX12_cuts 116 = .ok (.iload_n 2, 1) := by decide +kernel
theorem dX12_cuts_117 : decode cX12_cuts 117 = .ok (.if_icmp .ge 164, 3) := by decide +kernel
theorem dX12_cuts_120 : decode cX12_cuts 120 = .ok (.iconst (-1), 1) := by decide +kernel
theorem dX12_cuts_121 : decode cX12_cuts 121 = .ok (.istore 9, 2) := by decide +kernel
theorem dX12_cuts_123 : decode cX12_cuts 123 = .ok (.iconst 0, 1) := by decide +kernel
theorem dX12_cuts_124 : decode cX12_cuts 124 = .ok (.istore 10, 2) := by decide +kernel
theorem dX12_cuts_126 : decode cX12_cuts 126 = .ok (.iload 10, 2) := by decide +kernel
theorem dX12_cuts_128 : decode cX12_cuts 128 = .ok (.iload_n 2, 1) := by decide +kernel
theorem dX12_cuts_129 : decode cX12_cuts 129 = .ok (.if_icmp .ge 46, 3) := by decide +kernel
theorem dX12_cuts_132 : decode cX12_cuts 132 = .ok (.aload_n 0, 1) := by decide +kernel
theorem dX12_cuts_133 : decode cX12_cuts 133 = .ok (.getfield 106, 3) := by decide +kernel
theorem dX12_cuts_136 : decode cX12_cuts 136 = .ok (.iload 10, 2) := by decide +kernel
theorem dX12_cuts_138 : decode cX12_cuts 138 = .ok (.baload, 1) := by decide +kernel
theorem dX12_cuts_139 : decode cX12_cuts 139 = .ok (.ifCond .ne 30, 3) := by decide +kernel
theorem dX12_cuts_142 : decode cX12_cuts 142 = .ok (.iload 9, 2) := by decide +kernel
theorem dX12_cuts_144 : decode cX12_cuts 144 = .ok (.iconst (-1), 1) := by decide +kernel
theorem dX12_cuts_145 : decode cX12_cuts 145 = .ok (.if_icmp .eq 20, 3) := by decide +kernel
theorem dX12_cuts_148 : decode cX12_cuts 148 = .ok (.aload_n 0, 1) := by decide +kernel
theorem dX12_cuts_149 : decode cX12_cuts 149 = .ok (.iload_n 1, 1) := by decide +kernel
theorem dX12_cuts_150 : decode cX12_cuts 150 = .ok (.iload 10, 2) := by decide +kernel
theorem dX12_cuts_152 : decode cX12_cuts 152 = .ok (.invokevirtual 181, 3) := by decide +kernel
theorem dX12_cuts_155 : decode cX12_cuts 155 = .ok (.aload_n 0, 1) := by decide +kernel
theorem dX12_cuts_156 : decode cX12_cuts 156 = .ok (.iload_n 1, 1) := by decide +kernel
theorem dX12_cuts_157 : decode cX12_cuts 157 = .ok (.iload 9, 2) := by decide +kernel
theorem dX12_cuts_159 : decode cX12_cuts 159 = .ok (.invokevirtual 181, 3) := by decide +kernel
theorem dX12_cuts_162 : decode cX12_cuts 162 = .ok (.if_icmp .le 7, 3) := by decide +kernel
theorem dX12_cuts_165 : decode cX12_cuts 165 = .ok (.iload 10, 2) := by decide +kernel
theorem dX12_cuts_167 : decode cX12_cuts 167 = .ok (.istore 9, 2) := by decide +kernel
theorem dX12_cuts_169 : decode cX12_cuts 169 = .ok (.iinc 10 1, 3) := by decide +kernel
theorem dX12_cuts_172 : decode cX12_cuts 172 = .ok (.goto (-46), 3) := by decide +kernel
theorem dX12_cuts_175 : decode cX12_cuts 175 = .ok (.aload_n 0, 1) := by decide +kernel
theorem dX12_cuts_176 : decode cX12_cuts 176 = .ok (.getfield 106, 3) := by decide +kernel
theorem dX12_cuts_179 : decode cX12_cuts 179 = .ok (.iload 9, 2) := by decide +kernel
theorem dX12_cuts_181 : decode cX12_cuts 181 = .ok (.iconst 1, 1) := by decide +kernel
theorem dX12_cuts_182 : decode cX12_cuts 182 = .ok (.bastore, 1) := by decide +kernel
theorem dX12_cuts_183 : decode cX12_cuts 183 = .ok (.iconst 0, 1) := by decide +kernel
theorem dX12_cuts_184 : decode cX12_cuts 184 = .ok (.istore 10, 2) := by decide +kernel
theorem dX12_cuts_186 : decode cX12_cuts 186 = .ok (.iload 10, 2) := by decide +kernel
theorem dX12_cuts_188 : decode cX12_cuts 188 = .ok (.iload 7, 2) := by decide +kernel
theorem dX12_cuts_190 : decode cX12_cuts 190 = .ok (.if_icmp .ge 33, 3) := by decide +kernel
theorem dX12_cuts_193 : decode cX12_cuts 193 = .ok (.aload_n 0, 1) := by decide +kernel
theorem dX12_cuts_194 : decode cX12_cuts 194 = .ok (.getfield 109, 3) := by decide +kernel
theorem dX12_cuts_197 : decode cX12_cuts 197 = .ok (.iload 10, 2) := by decide +kernel
theorem dX12_cuts_199 : decode cX12_cuts 199 = .ok (.laload, 1) := by decide +kernel
theorem dX12_cuts_200 : decode cX12_cuts 200 = .ok (.lload 5, 2) := by decide +kernel
theorem dX12_cuts_202 : decode cX12_cuts 202 = .ok (.ladd, 1) := by decide +kernel
theorem dX12_cuts_203 : decode cX12_cuts 203 = .ok (.aload_n 0, 1) := by decide +kernel
theorem dX12_cuts_204 : decode cX12_cuts 204 = .ok (.iload_n 1, 1) := by decide +kernel
theorem dX12_cuts_205 : decode cX12_cuts 205 = .ok (.iload 9, 2) := by decide +kernel
theorem dX12_cuts_207 : decode cX12_cuts 207 = .ok (.invokevirtual 181, 3) := by decide +kernel
theorem dX12_cuts_210 : decode cX12_cuts 210 = .ok (.i2l, 1) := by decide +kernel
theorem dX12_cuts_211 : decode cX12_cuts 211 = .ok (.ladd, 1) := by decide +kernel
theorem dX12_cuts_212 : decode cX12_cuts 212 = .ok (.lload_n 3, 1) := by decide +kernel
theorem dX12_cuts_213 : decode cX12_cuts 213 = .ok (.lcmp, 1) := by decide +kernel
theorem dX12_cuts_214 : decode cX12_cuts 214 = .ok (.ifCond .le 9, 3) := by decide +kernel
theorem dX12_cuts_217 : decode cX12_cuts 217 = .ok (.iinc 10 1, 3) := by decide +kernel
theorem dX12_cuts_220 : decode cX12_cuts 220 = .ok (.goto (-34), 3) := by decide +kernel
theorem dX12_cuts_223 : decode cX12_cuts 223 = .ok (.aload_n 0, 1) := by decide +kernel
theorem dX12_cuts_224 : decode cX12_cuts 224 = .ok (.getfield 109, 3) := by decide +kernel
theorem dX12_cuts_227 : decode cX12_cuts 227 = .ok (.iload 10, 2) := by decide +kernel
theorem dX12_cuts_229 : decode cX12_cuts 229 = .ok (.dup2, 1) := by decide +kernel
theorem dX12_cuts_230 : decode cX12_cuts 230 = .ok (.laload, 1) := by decide +kernel
theorem dX12_cuts_231 : decode cX12_cuts 231 = .ok (.aload_n 0, 1) := by decide +kernel
theorem dX12_cuts_232 : decode cX12_cuts 232 = .ok (.iload_n 1, 1) := by decide +kernel
theorem dX12_cuts_233 : decode cX12_cuts 233 = .ok (.iload 9, 2) := by decide +kernel
theorem dX12_cuts_235 : decode cX12_cuts 235 = .ok (.invokevirtual 181, 3) := by decide +kernel
theorem dX12_cuts_238 : decode cX12_cuts 238 = .ok (.i2l, 1) := by decide +kernel
theorem dX12_cuts_239 : decode cX12_cuts 239 = .ok (.iload 10, 2) := by decide +kernel
theorem dX12_cuts_241 : decode cX12_cuts 241 = .ok (.iload 7, 2) := by decide +kernel
theorem dX12_cuts_243 : decode cX12_cuts 243 = .ok (.if_icmp .ne 7, 3) := by decide +kernel
theorem dX12_cuts_246 : decode cX12_cuts 246 = .ok (.lconst 0, 1) := by decide +kernel
theorem dX12_cuts_247 : decode cX12_cuts 247 = .ok (.goto 5, 3) := by decide +kernel
theorem dX12_cuts_250 : decode cX12_cuts 250 = .ok (.lload 5, 2) := by decide +kernel
theorem dX12_cuts_252 : decode cX12_cuts 252 = .ok (.ladd, 1) := by decide +kernel
theorem dX12_cuts_253 : decode cX12_cuts 253 = .ok (.ladd, 1) := by decide +kernel
theorem dX12_cuts_254 : decode cX12_cuts 254 = .ok (.lastore, 1) := by decide +kernel
theorem dX12_cuts_255 : decode cX12_cuts 255 = .ok (.iload 10, 2) := by decide +kernel
theorem dX12_cuts_257 : decode cX12_cuts 257 = .ok (.iload 7, 2) := by decide +kernel
theorem dX12_cuts_259 : decode cX12_cuts 259 = .ok (.if_icmp .ne 6, 3) := by decide +kernel
theorem dX12_cuts_262 : decode cX12_cuts 262 = .ok (.iinc 7 1, 3) := by decide +kernel
theorem dX12_cuts_265 : decode cX12_cuts 265 = .ok (.aload_n 0, 1) := by decide +kernel
theorem dX12_cuts_266 : decode cX12_cuts 266 = .ok (.getfield 103, 3) := by decide +kernel
theorem dX12_cuts_269 : decode cX12_cuts 269 = .ok (.iload 9, 2) := by decide +kernel
theorem dX12_cuts_271 : decode cX12_cuts 271 = .ok (.iload 10, 2) := by decide +kernel
theorem dX12_cuts_273 : decode cX12_cuts 273 = .ok (.i2l, 1) := by decide +kernel
theorem dX12_cuts_274 : decode cX12_cuts 274 = .ok (.lastore, 1) := by decide +kernel
theorem dX12_cuts_275 : decode cX12_cuts 275 = .ok (.iinc 8 1, 3) := by decide +kernel
theorem dX12_cuts_278 : decode cX12_cuts 278 = .ok (.goto (-164), 3) := by decide +kernel
theorem dX12_cuts_281 : decode cX12_cuts 281 = .ok (.aload_n 0, 1) := by decide +kernel
theorem dX12_cuts_282 : decode cX12_cuts 282 = .ok (.iload 7, 2) := by decide +kernel
theorem dX12_cuts_284 : decode cX12_cuts 284 = .ok (.putfield 163, 3) := by decide +kernel
theorem dX12_cuts_287 : decode cX12_cuts 287 = .ok (.iconst 0, 1) := by decide +kernel
theorem dX12_cuts_288 : decode cX12_cuts 288 = .ok (.ireturn, 1) := by decide +kernel
theorem dX12_sumOf_0 : decode cX12_sumOf 0 = .ok (.lconst 0, 1) := by decide +kernel
theorem dX12_sumOf_1 : decode cX12_sumOf 1 = .ok (.lstore_n 2, 1) := by decide +kernel
theorem dX12_sumOf_2 : decode cX12_sumOf 2 = .ok (.iconst 0, 1) := by decide +kernel
theorem dX12_sumOf_3 : decode cX12_sumOf 3 = .ok (.istore 4, 2) := by decide +kernel
theorem dX12_sumOf_5 : decode cX12_sumOf 5 = .ok (.iload 4, 2) := by decide +kernel
theorem dX12_sumOf_7 : decode cX12_sumOf 7 = .ok (.aload_n 0, 1) := by decide +kernel
theorem dX12_sumOf_8 : decode cX12_sumOf 8 = .ok (.getfield 54, 3) := by decide +kernel
theorem dX12_sumOf_11 : decode cX12_sumOf 11 = .ok (.iload_n 1, 1) := by decide +kernel
theorem dX12_sumOf_12 : decode cX12_sumOf 12 = .ok (.iaload, 1) := by decide +kernel
theorem dX12_sumOf_13 : decode cX12_sumOf 13 = .ok (.if_icmp .ge 20, 3) := by decide +kernel
theorem dX12_sumOf_16 : decode cX12_sumOf 16 = .ok (.lload_n 2, 1) := by decide +kernel
theorem dX12_sumOf_17 : decode cX12_sumOf 17 = .ok (.aload_n 0, 1) := by decide +kernel
theorem dX12_sumOf_18 : decode cX12_sumOf 18 = .ok (.iload_n 1, 1) := by decide +kernel
theorem dX12_sumOf_19 : decode cX12_sumOf 19 = .ok (.iload 4, 2) := by decide +kernel
theorem dX12_sumOf_21 : decode cX12_sumOf 21 = .ok (.invokevirtual 181, 3) := by decide +kernel
theorem dX12_sumOf_24 : decode cX12_sumOf 24 = .ok (.i2l, 1) := by decide +kernel
theorem dX12_sumOf_25 : decode cX12_sumOf 25 = .ok (.ladd, 1) := by decide +kernel
theorem dX12_sumOf_26 : decode cX12_sumOf 26 = .ok (.lstore_n 2, 1) := by decide +kernel
theorem dX12_sumOf_27 : decode cX12_sumOf 27 = .ok (.iinc 4 1, 3) := by decide +kernel
theorem dX12_sumOf_30 : decode cX12_sumOf 30 = .ok (.goto (-25), 3) := by decide +kernel
theorem dX12_sumOf_33 : decode cX12_sumOf 33 = .ok (.lload_n 2, 1) := by decide +kernel
theorem dX12_sumOf_34 : decode cX12_sumOf 34 = .ok (.lreturn, 1) := by decide +kernel
theorem dX12_isBelow_0 : decode cX12_isBelow 0 = .ok (.iconst 0, 1) := by decide +kernel
theorem dX12_isBelow_1 : decode cX12_isBelow 1 = .ok (.istore_n 2, 1) := by decide +kernel
theorem dX12_isBelow_2 : decode cX12_isBelow 2 = .ok (.iload_n 2, 1) := by decide +kernel
theorem dX12_isBelow_3 : decode cX12_isBelow 3 = .ok (.aload_n 0, 1) := by decide +kernel
theorem dX12_isBelow_4 : decode cX12_isBelow 4 = .ok (.getfield 54, 3) := by decide +kernel
theorem dX12_isBelow_7 : decode cX12_isBelow 7 = .ok (.iload_n 1, 1) := by decide +kernel
theorem dX12_isBelow_8 : decode cX12_isBelow 8 = .ok (.iaload, 1) := by decide +kernel
theorem dX12_isBelow_9 : decode cX12_isBelow 9 = .ok (.if_icmp .ge 20, 3) := by decide +kernel
theorem dX12_isBelow_12 : decode cX12_isBelow 12 = .ok (.aload_n 0, 1) := by decide +kernel
theorem dX12_isBelow_13 : decode cX12_isBelow 13 = .ok (.iload_n 1, 1) := by decide +kernel
theorem dX12_isBelow_14 : decode cX12_isBelow 14 = .ok (.iload_n 2, 1) := by decide +kernel
theorem dX12_isBelow_15 : decode cX12_isBelow 15 = .ok (.invokevirtual 181, 3) := by decide +kernel
theorem dX12_isBelow_18 : decode cX12_isBelow 18 = .ok (.ifCond .ge 5, 3) := by decide +kernel
theorem dX12_isBelow_21 : decode cX12_isBelow 21 = .ok (.iconst 1, 1) := by decide +kernel
theorem dX12_isBelow_22 : decode cX12_isBelow 22 = .ok (.ireturn, 1) := by decide +kernel
theorem dX12_isBelow_23 : decode cX12_isBelow 23 = .ok (.iinc 2 1, 3) := by decide +kernel
theorem dX12_isBelow_26 : decode cX12_isBelow 26 = .ok (.goto (-24), 3) := by decide +kernel
theorem dX12_isBelow_29 : decode cX12_isBelow 29 = .ok (.aload_n 0, 1) := by decide +kernel
theorem dX12_isBelow_30 : decode cX12_isBelow 30 = .ok (.getfield 45, 3) := by decide +kernel
theorem dX12_isBelow_33 : decode cX12_isBelow 33 = .ok (.iload_n 1, 1) := by decide +kernel
theorem dX12_isBelow_34 : decode cX12_isBelow 34 = .ok (.iaload, 1) := by decide +kernel
theorem dX12_isBelow_35 : decode cX12_isBelow 35 = .ok (.ifCond .ge 7, 3) := by decide +kernel
theorem dX12_isBelow_38 : decode cX12_isBelow 38 = .ok (.iconst 1, 1) := by decide +kernel
theorem dX12_isBelow_39 : decode cX12_isBelow 39 = .ok (.goto 4, 3) := by decide +kernel
theorem dX12_isBelow_42 : decode cX12_isBelow 42 = .ok (.iconst 0, 1) := by decide +kernel
theorem dX12_isBelow_43 : decode cX12_isBelow 43 = .ok (.ireturn, 1) := by decide +kernel
theorem dX12_shares_0 : decode cX12_shares 0 = .ok (.aload_n 0, 1) := by decide +kernel
theorem dX12_shares_1 : decode cX12_shares 1 = .ok (.getfield 45, 3) := by decide +kernel
theorem dX12_shares_4 : decode cX12_shares 4 = .ok (.iload_n 1, 1) := by decide +kernel
theorem dX12_shares_5 : decode cX12_shares 5 = .ok (.iaload, 1) := by decide +kernel
theorem dX12_shares_6 : decode cX12_shares 6 = .ok (.i2l, 1) := by decide +kernel
theorem dX12_shares_7 : decode cX12_shares 7 = .ok (.lstore 4, 2) := by decide +kernel
theorem dX12_shares_9 : decode cX12_shares 9 = .ok (.iconst 0, 1) := by decide +kernel
theorem dX12_shares_10 : decode cX12_shares 10 = .ok (.istore 6, 2) := by decide +kernel
theorem dX12_shares_12 : decode cX12_shares 12 = .ok (.iload 6, 2) := by decide +kernel
theorem dX12_shares_14 : decode cX12_shares 14 = .ok (.aload_n 0, 1) := by decide +kernel
theorem dX12_shares_15 : decode cX12_shares 15 = .ok (.getfield 54, 3) := by decide +kernel
theorem dX12_shares_18 : decode cX12_shares 18 = .ok (.iload_n 1, 1) := by decide +kernel
theorem dX12_shares_19 : decode cX12_shares 19 = .ok (.iaload, 1) := by decide +kernel
theorem dX12_shares_20 : decode cX12_shares 20 = .ok (.if_icmp .ge 46, 3) := by decide +kernel
theorem dX12_shares_23 : decode cX12_shares 23 = .ok (.aload_n 0, 1) := by decide +kernel
theorem dX12_shares_24 : decode cX12_shares 24 = .ok (.getfield 103, 3) := by decide +kernel
theorem dX12_shares_27 : decode cX12_shares 27 = .ok (.iload 6, 2) := by decide +kernel
theorem dX12_shares_29 : decode cX12_shares 29 = .ok (.aload_n 0, 1) := by decide +kernel
theorem dX12_shares_30 : decode cX12_shares 30 = .ok (.getfield 45, 3) := by decide +kernel
theorem dX12_shares_33 : decode cX12_shares 33 = .ok (.iload_n 1, 1) := by decide +kernel
theorem dX12_shares_34 : decode cX12_shares 34 = .ok (.iaload, 1) := by decide +kernel
theorem dX12_shares_35 : decode cX12_shares 35 = .ok (.i2l, 1) := by decide +kernel
theorem dX12_shares_36 : decode cX12_shares 36 = .ok (.aload_n 0, 1) := by decide +kernel
theorem dX12_shares_37 : decode cX12_shares 37 = .ok (.iload_n 1, 1) := by decide +kernel
theorem dX12_shares_38 : decode cX12_shares 38 = .ok (.iload 6, 2) := by decide +kernel
theorem dX12_shares_40 : decode cX12_shares 40 = .ok (.invokevirtual 181, 3) := by decide +kernel
theorem dX12_shares_43 : decode cX12_shares 43 = .ok (.i2l, 1) := by decide +kernel
theorem dX12_shares_44 : decode cX12_shares 44 = .ok (.lmul, 1) := by decide +kernel
theorem dX12_shares_45 : decode cX12_shares 45 = .ok (.lload_n 2, 1) := by decide +kernel
theorem dX12_shares_46 : decode cX12_shares 46 = .ok (.ldiv, 1) := by decide +kernel
theorem dX12_shares_47 : decode cX12_shares 47 = .ok (.lastore, 1) := by decide +kernel
theorem dX12_shares_48 : decode cX12_shares 48 = .ok (.lload 4, 2) := by decide +kernel
theorem dX12_shares_50 : decode cX12_shares 50 = .ok (.aload_n 0, 1) := by decide +kernel
theorem dX12_shares_51 : decode cX12_shares 51 = .ok (.getfield 103, 3) := by decide +kernel
theorem dX12_shares_54 : decode cX12_shares 54 = .ok (.iload 6, 2) := by decide +kernel
theorem dX12_shares_56 : decode cX12_shares 56 = .ok (.laload, 1) := by decide +kernel
theorem dX12_shares_57 : decode cX12_shares 57 = .ok (.lsub, 1) := by decide +kernel
theorem dX12_shares_58 : decode cX12_shares 58 = .ok (.lstore 4, 2) := by decide +kernel
theorem dX12_shares_60 : decode cX12_shares 60 = .ok (.iinc 6 1, 3) := by decide +kernel
theorem dX12_shares_63 : decode cX12_shares 63 = .ok (.goto (-51), 3) := by decide +kernel
theorem dX12_shares_66 : decode cX12_shares 66 = .ok (.lload 4, 2) := by decide +kernel
theorem dX12_shares_68 : decode cX12_shares 68 = .ok (.lreturn, 1) := by decide +kernel
theorem dX12_mixes_0 : decode cX12_mixes 0 = .ok (.aload_n 0, 1) := by decide +kernel
theorem dX12_mixes_1 : decode cX12_mixes 1 = .ok (.iload_n 1, 1) := by decide +kernel
theorem dX12_mixes_2 : decode cX12_mixes 2 = .ok (.invokevirtual 184, 3) := by decide +kernel
theorem dX12_mixes_5 : decode cX12_mixes 5 = .ok (.ifCond .eq 6, 3) := by decide +kernel
theorem dX12_mixes_8 : decode cX12_mixes 8 = .ok (.bipush 21, 2) := by decide +kernel
theorem dX12_mixes_10 : decode cX12_mixes 10 = .ok (.ireturn, 1) := by decide +kernel
theorem dX12_mixes_11 : decode cX12_mixes 11 = .ok (.aload_n 0, 1) := by decide +kernel
theorem dX12_mixes_12 : decode cX12_mixes 12 = .ok (.iload_n 1, 1) := by decide +kernel
theorem dX12_mixes_13 : decode cX12_mixes 13 = .ok (.invokevirtual 187, 3) := by decide +kernel
theorem dX12_mixes_16 : decode cX12_mixes 16 = .ok (.lstore_n 2, 1) := by decide +kernel
theorem dX12_mixes_17 : decode cX12_mixes 17 = .ok (.lload_n 2, 1) := by decide +kernel
theorem dX12_mixes_18 : decode cX12_mixes 18 = .ok (.lconst 0, 1) := by decide +kernel
theorem dX12_mixes_19 : decode cX12_mixes 19 = .ok (.lcmp, 1) := by decide +kernel
theorem dX12_mixes_20 : decode cX12_mixes 20 = .ok (.ifCond .ne 6, 3) := by decide +kernel
theorem dX12_mixes_23 : decode cX12_mixes 23 = .ok (.bipush 11, 2) := by decide +kernel
theorem dX12_mixes_25 : decode cX12_mixes 25 = .ok (.ireturn, 1) := by decide +kernel
theorem dX12_mixes_26 : decode cX12_mixes 26 = .ok (.aload_n 0, 1) := by decide +kernel
theorem dX12_mixes_27 : decode cX12_mixes 27 = .ok (.iload_n 1, 1) := by decide +kernel
theorem dX12_mixes_28 : decode cX12_mixes 28 = .ok (.lload_n 2, 1) := by decide +kernel
theorem dX12_mixes_29 : decode cX12_mixes 29 = .ok (.invokevirtual 191, 3) := by decide +kernel
theorem dX12_mixes_32 : decode cX12_mixes 32 = .ok (.lstore 4, 2) := by decide +kernel
theorem dX12_mixes_34 : decode cX12_mixes 34 = .ok (.iconst 0, 1) := by decide +kernel
theorem dX12_mixes_35 : decode cX12_mixes 35 = .ok (.istore 6, 2) := by decide +kernel
theorem dX12_mixes_37 : decode cX12_mixes 37 = .ok (.iload 6, 2) := by decide +kernel
theorem dX12_mixes_39 : decode cX12_mixes 39 = .ok (.bipush 30, 2) := by decide +kernel
theorem dX12_mixes_41 : decode cX12_mixes 41 = .ok (.if_icmp .ge 17, 3) := by decide +kernel
theorem dX12_mixes_44 : decode cX12_mixes 44 = .ok (.aload_n 0, 1) := by decide +kernel
theorem dX12_mixes_45 : decode cX12_mixes 45 = .ok (.getfield 106, 3) := by decide +kernel
theorem dX12_mixes_48 : decode cX12_mixes 48 = .ok (.iload 6, 2) := by decide +kernel
theorem dX12_mixes_50 : decode cX12_mixes 50 = .ok (.iconst 0, 1) := by decide +kernel
theorem dX12_mixes_51 : decode cX12_mixes 51 = .ok (.bastore, 1) := by decide +kernel
theorem dX12_mixes_52 : decode cX12_mixes 52 = .ok (.iinc 6 1, 3) := by decide +kernel
theorem dX12_mixes_55 : decode cX12_mixes 55 = .ok (.goto (-18), 3) := by decide +kernel
theorem dX12_mixes_58 : decode cX12_mixes 58 = .ok (.lload 4, 2) := by decide +kernel
theorem dX12_mixes_60 : decode cX12_mixes 60 = .ok (.lconst 0, 1) := by decide +kernel
theorem dX12_mixes_61 : decode cX12_mixes 61 = .ok (.lcmp, 1) := by decide +kernel
theorem dX12_mixes_62 : decode cX12_mixes 62 = .ok (.ifCond .le 114, 3) := by decide +kernel
theorem dX12_mixes_65 : decode cX12_mixes 65 = .ok (.iconst (-1), 1) := by decide +kernel
theorem dX12_mixes_66 : decode cX12_mixes 66 = .ok (.istore 6, 2) := by decide +kernel
theorem dX12_mixes_68 : decode cX12_mixes 68 = .ok (.iconst 0, 1) := by decide +kernel
theorem dX12_mixes_69 : decode cX12_mixes 69 = .ok (.istore 7, 2) := by decide +kernel
theorem dX12_mixes_71 : decode cX12_mixes 71 = .ok (.iload 7, 2) := by decide +kernel
theorem dX12_mixes_73 : decode cX12_mixes 73 = .ok (.aload_n 0, 1) := by decide +kernel
theorem dX12_mixes_74 : decode cX12_mixes 74 = .ok (.getfield 54, 3) := by decide +kernel
theorem dX12_mixes_77 : decode cX12_mixes 77 = .ok (.iload_n 1, 1) := by decide +kernel
theorem dX12_mixes_78 : decode cX12_mixes 78 = .ok (.iaload, 1) := by decide +kernel
theorem dX12_mixes_79 : decode cX12_mixes 79 = .ok (.if_icmp .ge 69, 3) := by decide +kernel
theorem dX12_mixes_82 : decode cX12_mixes 82 = .ok (.aload_n 0, 1) := by decide +kernel
theorem dX12_mixes_83 : decode cX12_mixes 83 = .ok (.getfield 106, 3) := by decide +kernel
theorem dX12_mixes_86 : decode cX12_mixes 86 = .ok (.iload 7, 2) := by decide +kernel
theorem dX12_mixes_88 : decode cX12_mixes 88 = .ok (.baload, 1) := by decide +kernel
theorem dX12_mixes_89 : decode cX12_mixes 89 = .ok (.ifCond .ne 53, 3) := by decide +kernel
theorem dX12_mixes_92 : decode cX12_mixes 92 = .ok (.iload 6, 2) := by decide +kernel
theorem dX12_mixes_94 : decode cX12_mixes 94 = .ok (.iconst (-1), 1) := by decide +kernel
theorem dX12_mixes_95 : decode cX12_mixes 95 = .ok (.if_icmp .eq 43, 3) := by decide +kernel
theorem dX12_mixes_98 : decode cX12_mixes 98 = .ok (.aload_n 0, 1) := by decide +kernel
theorem dX12_mixes_99 : decode cX12_mixes 99 = .ok (.getfield 45, 3) := by decide +kernel
theorem dX12_mixes_102 : decode cX12_mixes 102 = .ok (.iload_n 1, 1) := by decide +kernel
theorem dX12_mixes_103 : decode cX12_mixes 103 = .ok (.iaload, 1) := by decide +kernel
theorem dX12_mixes_104 : decode cX12_mixes 104 = .ok (.i2l, 1) := by decide +kernel
theorem dX12_mixes_105 : decode cX12_mixes 105 = .ok (.aload_n 0, 1) := by decide +kernel
theorem dX12_mixes_106 : decode cX12_mixes 106 = .ok (.iload_n 1, 1) := by decide +kernel
theorem dX12_mixes_107 : decode cX12_mixes 107 = .ok (.iload 7, 2) := by decide +kernel
theorem dX12_mixes_109 : decode cX12_mixes 109 = .ok (.invokevirtual 181, 3) := by decide +kernel
theorem dX12_mixes_112 : decode cX12_mixes 112 = .ok (.i2l, 1) := by decide +kernel
theorem dX12_mixes_113 : decode cX12_mixes 113 = .ok (.lmul, 1) := by decide +kernel
theorem dX12_mixes_114 : decode cX12_mixes 114 = .ok (.lload_n 2, 1) := by decide +kernel
theorem dX12_mixes_115 : decode cX12_mixes 115 = .ok (.lrem, 1) := by decide +kernel
theorem dX12_mixes_116 : decode cX12_mixes 116 = .ok (.aload_n 0, 1) := by decide +kernel
theorem dX12_mixes_117 : decode cX12_mixes 117 = .ok (.getfield 45, 3) := by decide +kernel
theorem dX12_mixes_120 : decode cX12_mixes 120 = .ok (.iload_n 1, 1) := by decide +kernel
theorem dX12_mixes_121 : decode cX12_mixes 121 = .ok (.iaload, 1) := by decide +kernel
theorem dX12_mixes_122 : decode cX12_mixes 122 = .ok (.i2l, 1) := by decide +kernel
theorem dX12_mixes_123 : decode cX12_mixes 123 = .ok (.aload_n 0, 1) := by decide +kernel
theorem dX12_mixes_124 : decode cX12_mixes 124 = .ok (.iload_n 1, 1) := by decide +kernel
theorem dX12_mixes_125 : decode cX12_mixes 125 = .ok (.iload 6, 2) := by decide +kernel
theorem dX12_mixes_127 : decode cX12_mixes 127 = .ok (.invokevirtual 181, 3) := by decide +kernel
theorem dX12_mixes_130 : decode cX12_mixes 130 = .ok (.i2l, 1) := by decide +kernel
theorem dX12_mixes_131 : decode cX12_mixes 131 = .ok (.lmul, 1) := by decide +kernel
theorem dX12_mixes_132 : decode cX12_mixes 132 = .ok (.lload_n 2, 1) := by decide +kernel
theorem dX12_mixes_133 : decode cX12_mixes 133 = .ok (.lrem, 1) := by decide +kernel
theorem dX12_mixes_134 : decode cX12_mixes 134 = .ok (.lcmp, 1) := by decide +kernel
theorem dX12_mixes_135 : decode cX12_mixes 135 = .ok (.ifCond .le 7, 3) := by decide +kernel
theorem dX12_mixes_138 : decode cX12_mixes 138 = .ok (.iload 7, 2) := by decide +kernel
theorem dX12_mixes_140 : decode cX12_mixes 140 = .ok (.istore 6, 2) := by decide +kernel
theorem dX12_mixes_142 : decode cX12_mixes 142 = .ok (.iinc 7 1, 3) := by decide +kernel
theorem dX12_mixes_145 : decode cX12_mixes 145 = .ok (.goto (-74), 3) := by decide +kernel
theorem dX12_mixes_148 : decode cX12_mixes 148 = .ok (.aload_n 0, 1) := by decide +kernel
theorem dX12_mixes_149 : decode cX12_mixes 149 = .ok (.getfield 106, 3) := by decide +kernel
theorem dX12_mixes_152 : decode cX12_mixes 152 = .ok (.iload 6, 2) := by decide +kernel
theorem dX12_mixes_154 : decode cX12_mixes 154 = .ok (.iconst 1, 1) := by decide +kernel
theorem dX12_mixes_155 : decode cX12_mixes 155 = .ok (.bastore, 1) := by decide +kernel
theorem dX12_mixes_156 : decode cX12_mixes 156 = .ok (.aload_n 0, 1) := by decide +kernel
theorem dX12_mixes_157 : decode cX12_mixes 157 = .ok (.getfield 103, 3) := by decide +kernel
theorem dX12_mixes_160 : decode cX12_mixes 160 = .ok (.iload 6, 2) := by decide +kernel
theorem dX12_mixes_162 : decode cX12_mixes 162 = .ok (.dup2, 1) := by decide +kernel
theorem dX12_mixes_163 : decode cX12_mixes 163 = .ok (.laload, 1) := by decide +kernel
theorem dX12_mixes_164 : decode cX12_mixes 164 = .ok (.lconst 1, 1) := by decide +kernel
theorem dX12_mixes_165 : decode cX12_mixes 165 = .ok (.ladd, 1) := by decide +kernel
theorem dX12_mixes_166 : decode cX12_mixes 166 = .ok (.lastore, 1) := by decide +kernel
theorem dX12_mixes_167 : decode cX12_mixes 167 = .ok (.lload 4, 2) := by decide +kernel
theorem dX12_mixes_169 : decode cX12_mixes 169 = .ok (.lconst 1, 1) := by decide +kernel
theorem dX12_mixes_170 : decode cX12_mixes 170 = .ok (.lsub, 1) := by decide +kernel
theorem dX12_mixes_171 : decode cX12_mixes 171 = .ok (.lstore 4, 2) := by decide +kernel
theorem dX12_mixes_173 : decode cX12_mixes 173 = .ok (.goto (-115), 3) := by decide +kernel
theorem dX12_mixes_176 : decode cX12_mixes 176 = .ok (.iconst 0, 1) := by decide +kernel
theorem dX12_mixes_177 : decode cX12_mixes 177 = .ok (.istore 6, 2) := by decide +kernel
theorem dX12_mixes_179 : decode cX12_mixes 179 = .ok (.iload 6, 2) := by decide +kernel
theorem dX12_mixes_181 : decode cX12_mixes 181 = .ok (.aload_n 0, 1) := by decide +kernel
theorem dX12_mixes_182 : decode cX12_mixes 182 = .ok (.getfield 54, 3) := by decide +kernel
theorem dX12_mixes_185 : decode cX12_mixes 185 = .ok (.iload_n 1, 1) := by decide +kernel
theorem dX12_mixes_186 : decode cX12_mixes 186 = .ok (.iaload, 1) := by decide +kernel
theorem dX12_mixes_187 : decode cX12_mixes 187 = .ok (.if_icmp .ge 35, 3) := by decide +kernel
theorem dX12_mixes_190 : decode cX12_mixes 190 = .ok (.aload_n 0, 1) := by decide +kernel
theorem dX12_mixes_191 : decode cX12_mixes 191 = .ok (.dup, 1) := by decide +kernel
theorem dX12_mixes_192 : decode cX12_mixes 192 = .ok (.getfield 163, 3) := by decide +kernel
theorem dX12_mixes_195 : decode cX12_mixes 195 = .ok (.aload_n 0, 1) := by decide +kernel
theorem dX12_mixes_196 : decode cX12_mixes 196 = .ok (.getfield 103, 3) := by decide +kernel
theorem dX12_mixes_199 : decode cX12_mixes 199 = .ok (.iload 6, 2) := by decide +kernel
theorem dX12_mixes_201 : decode cX12_mixes 201 = .ok (.laload, 1) := by decide +kernel
theorem dX12_mixes_202 : decode cX12_mixes 202 = .ok (.lconst 0, 1) := by decide +kernel
theorem dX12_mixes_203 : decode cX12_mixes 203 = .ok (.lcmp, 1) := by decide +kernel
theorem dX12_mixes_204 : decode cX12_mixes 204 = .ok (.ifCond .le 7, 3) := by decide +kernel
theorem dX12_mixes_207 : decode cX12_mixes 207 = .ok (.iconst 1, 1) := by decide +kernel
theorem dX12_mixes_208 : decode cX12_mixes 208 = .ok (.goto 4, 3) := by decide +kernel
theorem dX12_mixes_211 : decode cX12_mixes 211 = .ok (.iconst 0, 1) := by decide +kernel
theorem dX12_mixes_212 : decode cX12_mixes 212 = .ok (.iadd, 1) := by decide +kernel
theorem dX12_mixes_213 : decode cX12_mixes 213 = .ok (.putfield 163, 3) := by decide +kernel
theorem dX12_mixes_216 : decode cX12_mixes 216 = .ok (.iinc 6 1, 3) := by decide +kernel
theorem dX12_mixes_219 : decode cX12_mixes 219 = .ok (.goto (-40), 3) := by decide +kernel
theorem dX12_mixes_222 : decode cX12_mixes 222 = .ok (.iconst 0, 1) := by decide +kernel
theorem dX12_mixes_223 : decode cX12_mixes 223 = .ok (.ireturn, 1) := by decide +kernel
theorem dX12_loads_0 : decode cX12_loads 0 = .ok (.aload_n 0, 1) := by decide +kernel
theorem dX12_loads_1 : decode cX12_loads 1 = .ok (.iload_n 1, 1) := by decide +kernel
theorem dX12_loads_2 : decode cX12_loads 2 = .ok (.invokevirtual 184, 3) := by decide +kernel
theorem dX12_loads_5 : decode cX12_loads 5 = .ok (.ifCond .eq 6, 3) := by decide +kernel
theorem dX12_loads_8 : decode cX12_loads 8 = .ok (.bipush 21, 2) := by decide +kernel
theorem dX12_loads_10 : decode cX12_loads 10 = .ok (.ireturn, 1) := by decide +kernel
theorem dX12_loads_11 : decode cX12_loads 11 = .ok (.aload_n 0, 1) := by decide +kernel
theorem dX12_loads_12 : decode cX12_loads 12 = .ok (.iload_n 1, 1) := by decide +kernel
theorem dX12_loads_13 : decode cX12_loads 13 = .ok (.invokevirtual 187, 3) := by decide +kernel
theorem dX12_loads_16 : decode cX12_loads 16 = .ok (.lstore_n 2, 1) := by decide +kernel
theorem dX12_loads_17 : decode cX12_loads 17 = .ok (.lload_n 2, 1) := by decide +kernel
theorem dX12_loads_18 : decode cX12_loads 18 = .ok (.lconst 0, 1) := by decide +kernel
theorem dX12_loads_19 : decode cX12_loads 19 = .ok (.lcmp, 1) := by decide +kernel
theorem dX12_loads_20 : decode cX12_loads 20 = .ok (.ifCond .ne 6, 3) := by decide +kernel
theorem dX12_loads_23 : decode cX12_loads 23 = .ok (.bipush 11, 2) := by decide +kernel
theorem dX12_loads_25 : decode cX12_loads 25 = .ok (.ireturn, 1) := by decide +kernel
theorem dX12_loads_26 : decode cX12_loads 26 = .ok (.aload_n 0, 1) := by decide +kernel
theorem dX12_loads_27 : decode cX12_loads 27 = .ok (.getfield 48, 3) := by decide +kernel
theorem dX12_loads_30 : decode cX12_loads 30 = .ok (.iload_n 1, 1) := by decide +kernel
theorem dX12_loads_31 : decode cX12_loads 31 = .ok (.iaload, 1) := by decide +kernel
theorem dX12_loads_32 : decode cX12_loads 32 = .ok (.ifCond .lt 18, 3) := by decide +kernel
theorem dX12_loads_35 : decode cX12_loads 35 = .ok (.aload_n 0, 1) := by decide +kernel
theorem dX12_loads_36 : decode cX12_loads 36 = .ok (.getfield 48, 3) := by decide +kernel
theorem dX12_loads_39 : decode cX12_loads 39 = .ok (.iload_n 1, 1) := by decide +kernel
theorem dX12_loads_40 : decode cX12_loads 40 = .ok (.iaload, 1) := by decide +kernel
theorem dX12_loads_41 : decode cX12_loads 41 = .ok (.aload_n 0, 1) := by decide +kernel
theorem dX12_loads_42 : decode cX12_loads 42 = .ok (.getfield 54, 3) := by decide +kernel
theorem dX12_loads_45 : decode cX12_loads 45 = .ok (.iload_n 1, 1) := by decide +kernel
theorem dX12_loads_46 : decode cX12_loads 46 = .ok (.iaload, 1) := by decide +kernel
theorem dX12_loads_47 : decode cX12_loads 47 = .ok (.if_icmp .lt 6, 3) := by decide +kernel
theorem dX12_loads_50 : decode cX12_loads 50 = .ok (.bipush 12, 2) := by decide +kernel
theorem dX12_loads_52 : decode cX12_loads 52 = .ok (.ireturn, 1) := by decide +kernel
theorem dX12_loads_53 : decode cX12_loads 53 = .ok (.aload_n 0, 1) := by decide +kernel
theorem dX12_loads_54 : decode cX12_loads 54 = .ok (.iload_n 1, 1) := by decide +kernel
theorem dX12_loads_55 : decode cX12_loads 55 = .ok (.lload_n 2, 1) := by decide +kernel
theorem dX12_loads_56 : decode cX12_loads 56 = .ok (.invokevirtual 191, 3) := by decide +kernel
theorem dX12_loads_59 : decode cX12_loads 59 = .ok (.lstore 4, 2) := by decide +kernel
theorem dX12_loads_61 : decode cX12_loads 61 = .ok (.iconst 0, 1) := by decide +kernel
theorem dX12_loads_62 : decode cX12_loads 62 = .ok (.istore 6, 2) := by decide +kernel
theorem dX12_loads_64 : decode cX12_loads 64 = .ok (.lload 4, 2) := by decide +kernel
theorem dX12_loads_66 : decode cX12_loads 66 = .ok (.lconst 0, 1) := by decide +kernel
theorem dX12_loads_67 : decode cX12_loads 67 = .ok (.lcmp, 1) := by decide +kernel
theorem dX12_loads_68 : decode cX12_loads 68 = .ok (.ifCond .le 36, 3) := by decide +kernel
theorem dX12_loads_71 : decode cX12_loads 71 = .ok (.aload_n 0, 1) := by decide +kernel
theorem dX12_loads_72 : decode cX12_loads 72 = .ok (.getfield 103, 3) := by decide +kernel
theorem dX12_loads_75 : decode cX12_loads 75 = .ok (.iload 6, 2) := by decide +kernel
theorem dX12_loads_77 : decode cX12_loads 77 = .ok (.dup2, 1) := by decide +kernel
theorem dX12_loads_78 : decode cX12_loads 78 = .ok (.laload, 1) := by decide +kernel
theorem dX12_loads_79 : decode cX12_loads 79 = .ok (.lconst 1, 1) := by decide +kernel
theorem dX12_loads_80 : decode cX12_loads 80 = .ok (.ladd, 1) := by decide +kernel
theorem dX12_loads_81 : decode cX12_loads 81 = .ok (.lastore, 1) := by decide +kernel
theorem dX12_loads_82 : decode cX12_loads 82 = .ok (.iload 6, 2) := by decide +kernel
theorem dX12_loads_84 : decode cX12_loads 84 = .ok (.iconst 1, 1) := by decide +kernel
theorem dX12_loads_85 : decode cX12_loads 85 = .ok (.iadd, 1) := by decide +kernel
theorem dX12_loads_86 : decode cX12_loads 86 = .ok (.aload_n 0, 1) := by decide +kernel
theorem dX12_loads_87 : decode cX12_loads 87 = .ok (.getfield 54, 3) := by decide +kernel
theorem dX12_loads_90 : decode cX12_loads 90 = .ok (.iload_n 1, 1) := by decide +kernel
theorem dX12_loads_91 : decode cX12_loads 91 = .ok (.iaload, 1) := by decide +kernel
theorem dX12_loads_92 : decode cX12_loads 92 = .ok (.irem, 1) := by decide +kernel
theorem dX12_loads_93 : decode cX12_loads 93 = .ok (.istore 6, 2) := by decide +kernel
theorem dX12_loads_95 : decode cX12_loads 95 = .ok (.lload 4, 2) := by decide +kernel
theorem dX12_loads_97 : decode cX12_loads 97 = .ok (.lconst 1, 1) := by decide +kernel
theorem dX12_loads_98 : decode cX12_loads 98 = .ok (.lsub, 1) := by decide +kernel
theorem dX12_loads_99 : decode cX12_loads 99 = .ok (.lstore 4, 2) := by decide +kernel
theorem dX12_loads_101 : decode cX12_loads 101 = .ok (.goto (-37), 3) := by decide +kernel
theorem dX12_loads_104 : decode cX12_loads 104 = .ok (.aload_n 0, 1) := by decide +kernel
theorem dX12_loads_105 : decode cX12_loads 105 = .ok (.aload_n 0, 1) := by decide +kernel
theorem dX12_loads_106 : decode cX12_loads 106 = .ok (.getfield 103, 3) := by decide +kernel
theorem dX12_loads_109 : decode cX12_loads 109 = .ok (.aload_n 0, 1) := by decide +kernel
theorem dX12_loads_110 : decode cX12_loads 110 = .ok (.getfield 48, 3) := by decide +kernel
theorem dX12_loads_113 : decode cX12_loads 113 = .ok (.iload_n 1, 1) := by decide +kernel
theorem dX12_loads_114 : decode cX12_loads 114 = .ok (.iaload, 1) := by decide +kernel
theorem dX12_loads_115 : decode cX12_loads 115 = .ok (.laload, 1) := by decide +kernel
theorem dX12_loads_116 : decode cX12_loads 116 = .ok (.l2i, 1) := by decide +kernel
theorem dX12_loads_117 : decode cX12_loads 117 = .ok (.putfield 163, 3) := by decide +kernel
theorem dX12_loads_120 : decode cX12_loads 120 = .ok (.iconst 0, 1) := by decide +kernel
theorem dX12_loads_121 : decode cX12_loads 121 = .ok (.ireturn, 1) := by decide +kernel
theorem dX12_checks_0 : decode cX12_checks 0 = .ok (.aload_n 0, 1) := by decide +kernel
theorem dX12_checks_1 : decode cX12_checks 1 = .ok (.getfield 54, 3) := by decide +kernel
theorem dX12_checks_4 : decode cX12_checks 4 = .ok (.iload_n 1, 1) := by decide +kernel
theorem dX12_checks_5 : decode cX12_checks 5 = .ok (.iaload, 1) := by decide +kernel
theorem dX12_checks_6 : decode cX12_checks 6 = .ok (.istore_n 2, 1) := by decide +kernel
theorem dX12_checks_7 : decode cX12_checks 7 = .ok (.iconst 0, 1) := by decide +kernel
theorem dX12_checks_8 : decode cX12_checks 8 = .ok (.istore_n 3, 1) := by decide +kernel
theorem dX12_checks_9 : decode cX12_checks 9 = .ok (.iload_n 3, 1) := by decide +kernel
theorem dX12_checks_10 : decode cX12_checks 10 = .ok (.iload_n 2, 1) := by decide +kernel
theorem dX12_checks_11 : decode cX12_checks 11 = .ok (.if_icmp .ge 62, 3) := by decide +kernel
theorem dX12_checks_14 : decode cX12_checks 14 = .ok (.iload_n 3, 1) := by decide +kernel
theorem dX12_checks_15 : decode cX12_checks 15 = .ok (.iconst 1, 1) := by decide +kernel
theorem dX12_checks_16 : decode cX12_checks 16 = .ok (.iadd, 1) := by decide +kernel
theorem dX12_checks_17 : decode cX12_checks 17 = .ok (.iload_n 2, 1) := by decide +kernel
theorem dX12_checks_18 : decode cX12_checks 18 = .ok (.if_icmp .ge 23, 3) := by decide +kernel
theorem dX12_checks_21 : decode cX12_checks 21 = .ok (.aload_n 0, 1) := by decide +kernel
theorem dX12_checks_22 : decode cX12_checks 22 = .ok (.iload_n 1, 1) := by decide +kernel
theorem dX12_checks_23 : decode cX12_checks 23 = .ok (.iload_n 3, 1) := by decide +kernel
theorem dX12_checks_24 : decode cX12_checks 24 = .ok (.iconst 1, 1) := by decide +kernel
theorem dX12_checks_25 : decode cX12_checks 25 = .ok (.iadd, 1) := by decide +kernel
theorem dX12_checks_26 : decode cX12_checks 26 = .ok (.invokevirtual 181, 3) := by decide +kernel
theorem dX12_checks_29 : decode cX12_checks 29 = .ok (.i2l, 1) := by decide +kernel
theorem dX12_checks_30 : decode cX12_checks 30 = .ok (.aload_n 0, 1) := by decide +kernel
theorem dX12_checks_31 : decode cX12_checks 31 = .ok (.iload_n 1, 1) := by decide +kernel
theorem dX12_checks_32 : decode cX12_checks 32 = .ok (.iload_n 3, 1) := by decide +kernel
theorem dX12_checks_33 : decode cX12_checks 33 = .ok (.invokevirtual 181, 3) := by decide +kernel
theorem dX12_checks_36 : decode cX12_checks 36 = .ok (.i2l, 1) := by decide +kernel
theorem dX12_checks_37 : decode cX12_checks 37 = .ok (.lsub, 1) := by decide +kernel
theorem dX12_checks_38 : decode cX12_checks 38 = .ok (.goto 4, 3) := by decide +kernel
theorem dX12_checks_41 : decode cX12_checks 41 = .ok (.lconst 0, 1) := by decide +kernel
theorem dX12_checks_42 : decode cX12_checks 42 = .ok (.lstore 4, 2) := by decide +kernel
theorem dX12_checks_44 : decode cX12_checks 44 = .ok (.lload 4, 2) := by decide +kernel
theorem dX12_checks_46 : decode cX12_checks 46 = .ok (.lconst 0, 1) := by decide +kernel
theorem dX12_checks_47 : decode cX12_checks 47 = .ok (.lcmp, 1) := by decide +kernel
theorem dX12_checks_48 : decode cX12_checks 48 = .ok (.ifCond .lt 16, 3) := by decide +kernel
theorem dX12_checks_51 : decode cX12_checks 51 = .ok (.lload 4, 2) := by decide +kernel
theorem dX12_checks_53 : decode cX12_checks 53 = .ok (.aload_n 0, 1) := by decide +kernel
theorem dX12_checks_54 : decode cX12_checks 54 = .ok (.getfield 45, 3) := by decide +kernel
theorem dX12_checks_57 : decode cX12_checks 57 = .ok (.iload_n 1, 1) := by decide +kernel
theorem dX12_checks_58 : decode cX12_checks 58 = .ok (.iaload, 1) := by decide +kernel
theorem dX12_checks_59 : decode cX12_checks 59 = .ok (.i2l, 1) := by decide +kernel
theorem dX12_checks_60 : decode cX12_checks 60 = .ok (.lcmp, 1) := by decide +kernel
theorem dX12_checks_61 : decode cX12_checks 61 = .ok (.ifCond .le 6, 3) := by decide +kernel
theorem dX12_checks_64 : decode cX12_checks 64 = .ok (.bipush 22, 2) := by decide +kernel
theorem dX12_checks_66 : decode cX12_checks 66 = .ok (.ireturn, 1) := by decide +kernel
theorem dX12_checks_67 : decode cX12_checks 67 = .ok (.iinc 3 2, 3) := by decide +kernel
theorem dX12_checks_70 : decode cX12_checks 70 = .ok (.goto (-61), 3) := by decide +kernel
theorem dX12_checks_73 : decode cX12_checks 73 = .ok (.aload_n 0, 1) := by decide +kernel
theorem dX12_checks_74 : decode cX12_checks 74 = .ok (.iload_n 2, 1) := by decide +kernel
theorem dX12_checks_75 : decode cX12_checks 75 = .ok (.iconst 1, 1) := by decide +kernel
theorem dX12_checks_76 : decode cX12_checks 76 = .ok (.iadd, 1) := by decide +kernel
theorem dX12_checks_77 : decode cX12_checks 77 = .ok (.iconst 2, 1) := by decide +kernel
theorem dX12_checks_78 : decode cX12_checks 78 = .ok (.idiv, 1) := by decide +kernel
theorem dX12_checks_79 : decode cX12_checks 79 = .ok (.putfield 163, 3) := by decide +kernel
theorem dX12_checks_82 : decode cX12_checks 82 = .ok (.iconst 0, 1) := by decide +kernel
theorem dX12_checks_83 : decode cX12_checks 83 = .ok (.ireturn, 1) := by decide +kernel
theorem dX12_counts_0 : decode cX12_counts 0 = .ok (.aload_n 0, 1) := by decide +kernel
theorem dX12_counts_1 : decode cX12_counts 1 = .ok (.iload_n 1, 1) := by decide +kernel
theorem dX12_counts_2 : decode cX12_counts 2 = .ok (.invokevirtual 184, 3) := by decide +kernel
theorem dX12_counts_5 : decode cX12_counts 5 = .ok (.ifCond .eq 6, 3) := by decide +kernel
theorem dX12_counts_8 : decode cX12_counts 8 = .ok (.bipush 21, 2) := by decide +kernel
theorem dX12_counts_10 : decode cX12_counts 10 = .ok (.ireturn, 1) := by decide +kernel
theorem dX12_counts_11 : decode cX12_counts 11 = .ok (.lconst 0, 1) := by decide +kernel
theorem dX12_counts_12 : decode cX12_counts 12 = .ok (.lstore_n 2, 1) := by decide +kernel
theorem dX12_counts_13 : decode cX12_counts 13 = .ok (.iconst 0, 1) := by decide +kernel
theorem dX12_counts_14 : decode cX12_counts 14 = .ok (.istore 4, 2) := by decide +kernel
theorem dX12_counts_16 : decode cX12_counts 16 = .ok (.iload 4, 2) := by decide +kernel
theorem dX12_counts_18 : decode cX12_counts 18 = .ok (.aload_n 0, 1) := by decide +kernel
theorem dX12_counts_19 : decode cX12_counts 19 = .ok (.getfield 54, 3) := by decide +kernel
theorem dX12_counts_22 : decode cX12_counts 22 = .ok (.iload_n 1, 1) := by decide +kernel
theorem dX12_counts_23 : decode cX12_counts 23 = .ok (.iaload, 1) := by decide +kernel
theorem dX12_counts_24 : decode cX12_counts 24 = .ok (.if_icmp .ge 54, 3) := by decide +kernel
theorem dX12_counts_27 : decode cX12_counts 27 = .ok (.aload_n 0, 1) := by decide +kernel
theorem dX12_counts_28 : decode cX12_counts 28 = .ok (.getfield 103, 3) := by decide +kernel
theorem dX12_counts_31 : decode cX12_counts 31 = .ok (.iload 4, 2) := by decide +kernel
theorem dX12_counts_33 : decode cX12_counts 33 = .ok (.aload_n 0, 1) := by decide +kernel
theorem dX12_counts_34 : decode cX12_counts 34 = .ok (.iload_n 1, 1) := by decide +kernel
theorem dX12_counts_35 : decode cX12_counts 35 = .ok (.iload 4, 2) := by decide +kernel
theorem dX12_counts_37 : decode cX12_counts 37 = .ok (.invokevirtual 181, 3) := by decide +kernel
theorem dX12_counts_40 : decode cX12_counts 40 = .ok (.i2l, 1) := by decide +kernel
theorem dX12_counts_41 : decode cX12_counts 41 = .ok (.ldc2_w 195, 3) := by decide +kernel
theorem dX12_counts_44 : decode cX12_counts 44 = .ok (.aload_n 0, 1) := by decide +kernel
theorem dX12_counts_45 : decode cX12_counts 45 = .ok (.getfield 45, 3) := by decide +kernel
theorem dX12_counts_48 : decode cX12_counts 48 = .ok (.iload_n 1, 1) := by decide +kernel
theorem dX12_counts_49 : decode cX12_counts 49 = .ok (.iaload, 1) := by decide +kernel
theorem dX12_counts_50 : decode cX12_counts 50 = .ok (.i2l, 1) := by decide +kernel
theorem dX12_counts_51 : decode cX12_counts 51 = .ok (.ladd, 1) := by decide +kernel
theorem dX12_counts_52 : decode cX12_counts 52 = .ok (.lmul, 1) := by decide +kernel
theorem dX12_counts_53 : decode cX12_counts 53 = .ok (.ldc2_w 197, 3) := by decide +kernel
theorem dX12_counts_56 : decode cX12_counts 56 = .ok (.ladd, 1) := by decide +kernel
theorem dX12_counts_57 : decode cX12_counts 57 = .ok (.ldc2_w 195, 3) := by decide +kernel
theorem dX12_counts_60 : decode cX12_counts 60 = .ok (.ldiv, 1) := by decide +kernel
theorem dX12_counts_61 : decode cX12_counts 61 = .ok (.lastore, 1) := by decide +kernel
theorem dX12_counts_62 : decode cX12_counts 62 = .ok (.lload_n 2, 1) := by decide +kernel
theorem dX12_counts_63 : decode cX12_counts 63 = .ok (.aload_n 0, 1) := by decide +kernel
theorem dX12_counts_64 : decode cX12_counts 64 = .ok (.getfield 103, 3) := by decide +kernel
theorem dX12_counts_67 : decode cX12_counts 67 = .ok (.iload 4, 2) := by decide +kernel
theorem dX12_counts_69 : decode cX12_counts 69 = .ok (.laload, 1) := by decide +kernel
theorem dX12_counts_70 : decode cX12_counts 70 = .ok (.ladd, 1) := by decide +kernel
theorem dX12_counts_71 : decode cX12_counts 71 = .ok (.lstore_n 2, 1) := by decide +kernel
theorem dX12_counts_72 : decode cX12_counts 72 = .ok (.iinc 4 1, 3) := by decide +kernel
theorem dX12_counts_75 : decode cX12_counts 75 = .ok (.goto (-59), 3) := by decide +kernel
theorem dX12_counts_78 : decode cX12_counts 78 = .ok (.aload_n 0, 1) := by decide +kernel
theorem dX12_counts_79 : decode cX12_counts 79 = .ok (.lload_n 2, 1) := by decide +kernel
theorem dX12_counts_80 : decode cX12_counts 80 = .ok (.l2i, 1) := by decide +kernel
theorem dX12_counts_81 : decode cX12_counts 81 = .ok (.putfield 163, 3) := by decide +kernel
theorem dX12_counts_84 : decode cX12_counts 84 = .ok (.iconst 0, 1) := by decide +kernel
theorem dX12_counts_85 : decode cX12_counts 85 = .ok (.ireturn, 1) := by decide +kernel
theorem dX12_tells_0 : decode cX12_tells 0 = .ok (.aload_n 0, 1) := by decide +kernel
theorem dX12_tells_1 : decode cX12_tells 1 = .ok (.getfield 94, 3) := by decide +kernel
theorem dX12_tells_4 : decode cX12_tells 4 = .ok (.aload_n 0, 1) := by decide +kernel
theorem dX12_tells_5 : decode cX12_tells 5 = .ok (.getfield 199, 3) := by decide +kernel
theorem dX12_tells_8 : decode cX12_tells 8 = .ok (.aload_n 0, 1) := by decide +kernel
theorem dX12_tells_9 : decode cX12_tells 9 = .ok (.getfield 202, 3) := by decide +kernel
theorem dX12_tells_12 : decode cX12_tells 12 = .ok (.iastore, 1) := by decide +kernel
theorem dX12_tells_13 : decode cX12_tells 13 = .ok (.aload_n 0, 1) := by decide +kernel
theorem dX12_tells_14 : decode cX12_tells 14 = .ok (.getfield 97, 3) := by decide +kernel
theorem dX12_tells_17 : decode cX12_tells 17 = .ok (.aload_n 0, 1) := by decide +kernel
theorem dX12_tells_18 : decode cX12_tells 18 = .ok (.getfield 199, 3) := by decide +kernel
theorem dX12_tells_21 : decode cX12_tells 21 = .ok (.iload_n 1, 1) := by decide +kernel
theorem dX12_tells_22 : decode cX12_tells 22 = .ok (.iastore, 1) := by decide +kernel
theorem dX12_tells_23 : decode cX12_tells 23 = .ok (.aload_n 0, 1) := by decide +kernel
theorem dX12_tells_24 : decode cX12_tells 24 = .ok (.getfield 100, 3) := by decide +kernel
theorem dX12_tells_27 : decode cX12_tells 27 = .ok (.aload_n 0, 1) := by decide +kernel
theorem dX12_tells_28 : decode cX12_tells 28 = .ok (.getfield 199, 3) := by decide +kernel
theorem dX12_tells_31 : decode cX12_tells 31 = .ok (.iload_n 2, 1) := by decide +kernel
theorem dX12_tells_32 : decode cX12_tells 32 = .ok (.iastore, 1) := by decide +kernel
theorem dX12_tells_33 : decode cX12_tells 33 = .ok (.aload_n 0, 1) := by decide +kernel
theorem dX12_tells_34 : decode cX12_tells 34 = .ok (.dup, 1) := by decide +kernel
theorem dX12_tells_35 : decode cX12_tells 35 = .ok (.getfield 199, 3) := by decide +kernel
theorem dX12_tells_38 : decode cX12_tells 38 = .ok (.iconst 1, 1) := by decide +kernel
theorem dX12_tells_39 : decode cX12_tells 39 = .ok (.iadd, 1) := by decide +kernel
theorem dX12_tells_40 : decode cX12_tells 40 = .ok (.putfield 199, 3) := by decide +kernel
theorem dX12_tells_43 : decode cX12_tells 43 = .ok (.return_, 1) := by decide +kernel
theorem dX12_isHopeless_0 : decode cX12_isHopeless 0 = .ok (.aload_n 0, 1) := by decide +kernel
theorem dX12_isHopeless_1 : decode cX12_isHopeless 1 = .ok (.getfield 9, 3) := by decide +kernel
theorem dX12_isHopeless_4 : decode cX12_isHopeless 4 = .ok (.aload_n 0, 1) := by decide +kernel
theorem dX12_isHopeless_5 : decode cX12_isHopeless 5 = .ok (.getfield 16, 3) := by decide +kernel
theorem dX12_isHopeless_8 : decode cX12_isHopeless 8 = .ok (.iload_n 1, 1) := by decide +kernel
theorem dX12_isHopeless_9 : decode cX12_isHopeless 9 = .ok (.iaload, 1) := by decide +kernel
theorem dX12_isHopeless_10 : decode cX12_isHopeless 10 = .ok (.iaload, 1) := by decide +kernel
theorem dX12_isHopeless_11 : decode cX12_isHopeless 11 = .ok (.ifCond .ne 5, 3) := by decide +kernel
theorem dX12_isHopeless_14 : decode cX12_isHopeless 14 = .ok (.iconst 1, 1) := by decide +kernel
theorem dX12_isHopeless_15 : decode cX12_isHopeless 15 = .ok (.ireturn, 1) := by decide +kernel
theorem dX12_isHopeless_16 : decode cX12_isHopeless 16 = .ok (.iconst 0, 1) := by decide +kernel
theorem dX12_isHopeless_17 : decode cX12_isHopeless 17 = .ok (.istore_n 2, 1) := by decide +kernel
theorem dX12_isHopeless_18 : decode cX12_isHopeless 18 = .ok (.iload_n 2, 1) := by decide +kernel
theorem dX12_isHopeless_19 : decode cX12_isHopeless 19 = .ok (.bipush 60, 2) := by decide +kernel
theorem dX12_isHopeless_21 : decode cX12_isHopeless 21 = .ok (.if_icmp .ge 80, 3) := by decide +kernel
theorem dX12_isHopeless_24 : decode cX12_isHopeless 24 = .ok (.aload_n 0, 1) := by decide +kernel
theorem dX12_isHopeless_25 : decode cX12_isHopeless 25 = .ok (.getfield 13, 3) := by decide +kernel
theorem dX12_isHopeless_28 : decode cX12_isHopeless 28 = .ok (.iload_n 2, 1) := by decide +kernel
theorem dX12_isHopeless_29 : decode cX12_isHopeless 29 = .ok (.iaload, 1) := by decide +kernel
theorem dX12_isHopeless_30 : decode cX12_isHopeless 30 = .ok (.i2l, 1) := by decide +kernel
theorem dX12_isHopeless_31 : decode cX12_isHopeless 31 = .ok (.lstore_n 3, 1) := by decide +kernel
theorem dX12_isHopeless_32 : decode cX12_isHopeless 32 = .ok (.iconst 0, 1) := by decide +kernel
theorem dX12_isHopeless_33 : decode cX12_isHopeless 33 = .ok (.istore 5, 2) := by decide +kernel
theorem dX12_isHopeless_35 : decode cX12_isHopeless 35 = .ok (.iload 5, 2) := by decide +kernel
theorem dX12_isHopeless_37 : decode cX12_isHopeless 37 = .ok (.aload_n 0, 1) := by decide +kernel
theorem dX12_isHopeless_38 : decode cX12_isHopeless 38 = .ok (.getfield 128, 3) := by decide +kernel
theorem dX12_isHopeless_41 : decode cX12_isHopeless 41 = .ok (.if_icmp .ge 35, 3) := by decide +kernel
theorem dX12_isHopeless_44 : decode cX12_isHopeless 44 = .ok (.lload_n 3, 1) := by decide +kernel
theorem dX12_isHopeless_45 : decode cX12_isHopeless 45 = .ok (.iload 5, 2) := by decide +kernel
theorem dX12_isHopeless_47 : decode cX12_isHopeless 47 = .ok (.iload_n 1, 1) := by decide +kernel
theorem dX12_isHopeless_48 : decode cX12_isHopeless 48 = .ok (.if_icmp .ne 7, 3) := by decide +kernel
theorem dX12_isHopeless_51 : decode cX12_isHopeless 51 = .ok (.lconst 0, 1) := by decide +kernel
theorem dX12_isHopeless_52 : decode cX12_isHopeless 52 = .ok (.goto 16, 3) := by decide +kernel
theorem dX12_isHopeless_55 : decode cX12_isHopeless 55 = .ok (.aload_n 0, 1) := by decide +kernel
theorem dX12_isHopeless_56 : decode cX12_isHopeless 56 = .ok (.getfield 39, 3) := by decide +kernel
theorem dX12_isHopeless_59 : decode cX12_isHopeless 59 = .ok (.bipush 60, 2) := by decide +kernel
theorem dX12_isHopeless_61 : decode cX12_isHopeless 61 = .ok (.iload 5, 2) := by decide +kernel
theorem dX12_isHopeless_63 : decode cX12_isHopeless 63 = .ok (.imul, 1) := by decide +kernel
theorem dX12_isHopeless_64 : decode cX12_isHopeless 64 = .ok (.iload_n 2, 1) := by decide +kernel
theorem dX12_isHopeless_65 : decode cX12_isHopeless 65 = .ok (.iadd, 1) := by decide +kernel
theorem dX12_isHopeless_66 : decode cX12_isHopeless 66 = .ok (.iaload, 1) := by decide +kernel
theorem dX12_isHopeless_67 : decode cX12_isHopeless 67 = .ok (.i2l, 1) := by decide +kernel
theorem dX12_isHopeless_68 : decode cX12_isHopeless 68 = .ok (.ladd, 1) := by decide +kernel
theorem dX12_isHopeless_69 : decode cX12_isHopeless 69 = .ok (.lstore_n 3, 1) := by decide +kernel
theorem dX12_isHopeless_70 : decode cX12_isHopeless 70 = .ok (.iinc 5 1, 3) := by decide +kernel
theorem dX12_isHopeless_73 : decode cX12_isHopeless 73 = .ok (.goto (-38), 3) := by decide +kernel
theorem dX12_isHopeless_76 : decode cX12_isHopeless 76 = .ok (.aload_n 0, 1) := by decide +kernel
theorem dX12_isHopeless_77 : decode cX12_isHopeless 77 = .ok (.getfield 36, 3) := by decide +kernel
theorem dX12_isHopeless_80 : decode cX12_isHopeless 80 = .ok (.bipush 60, 2) := by decide +kernel
theorem dX12_isHopeless_82 : decode cX12_isHopeless 82 = .ok (.iload_n 1, 1) := by decide +kernel
theorem dX12_isHopeless_83 : decode cX12_isHopeless 83 = .ok (.imul, 1) := by decide +kernel
theorem dX12_isHopeless_84 : decode cX12_isHopeless 84 = .ok (.iload_n 2, 1) := by decide +kernel
theorem dX12_isHopeless_85 : decode cX12_isHopeless 85 = .ok (.iadd, 1) := by decide +kernel
theorem dX12_isHopeless_86 : decode cX12_isHopeless 86 = .ok (.iaload, 1) := by decide +kernel
theorem dX12_isHopeless_87 : decode cX12_isHopeless 87 = .ok (.i2l, 1) := by decide +kernel
theorem dX12_isHopeless_88 : decode cX12_isHopeless 88 = .ok (.lload_n 3, 1) := by decide +kernel
theorem dX12_isHopeless_89 : decode cX12_isHopeless 89 = .ok (.lcmp, 1) := by decide +kernel
theorem dX12_isHopeless_90 : decode cX12_isHopeless 90 = .ok (.ifCond .le 5, 3) := by decide +kernel
theorem dX12_isHopeless_93 : decode cX12_isHopeless 93 = .ok (.iconst 1, 1) := by decide +kernel
theorem dX12_isHopeless_94 : decode cX12_isHopeless 94 = .ok (.ireturn, 1) := by decide +kernel
theorem dX12_isHopeless_95 : decode cX12_isHopeless 95 = .ok (.iinc 2 1, 3) := by decide +kernel
theorem dX12_isHopeless_98 : decode cX12_isHopeless 98 = .ok (.goto (-80), 3) := by decide +kernel
theorem dX12_isHopeless_101 : decode cX12_isHopeless 101 = .ok (.iconst 0, 1) := by decide +kernel
theorem dX12_isHopeless_102 : decode cX12_isHopeless 102 = .ok (.ireturn, 1) := by decide +kernel
theorem dX12_begins_0 : decode cX12_begins 0 = .ok (.aload_n 0, 1) := by decide +kernel
theorem dX12_begins_1 : decode cX12_begins 1 = .ok (.iconst 0, 1) := by decide +kernel
theorem dX12_begins_2 : decode cX12_begins 2 = .ok (.putfield 199, 3) := by decide +kernel
theorem dX12_begins_5 : decode cX12_begins 5 = .ok (.aload_n 0, 1) := by decide +kernel
theorem dX12_begins_6 : decode cX12_begins 6 = .ok (.iconst 0, 1) := by decide +kernel
theorem dX12_begins_7 : decode cX12_begins 7 = .ok (.putfield 202, 3) := by decide +kernel
theorem dX12_begins_10 : decode cX12_begins 10 = .ok (.aload_n 0, 1) := by decide +kernel
theorem dX12_begins_11 : decode cX12_begins 11 = .ok (.iconst 0, 1) := by decide +kernel
theorem dX12_begins_12 : decode cX12_begins 12 = .ok (.putfield 205, 3) := by decide +kernel
theorem dX12_begins_15 : decode cX12_begins 15 = .ok (.iconst 0, 1) := by decide +kernel
theorem dX12_begins_16 : decode cX12_begins 16 = .ok (.istore_n 1, 1) := by decide +kernel
theorem dX12_begins_17 : decode cX12_begins 17 = .ok (.iload_n 1, 1) := by decide +kernel
theorem dX12_begins_18 : decode cX12_begins 18 = .ok (.bipush 32, 2) := by decide +kernel
theorem dX12_begins_20 : decode cX12_begins 20 = .ok (.if_icmp .ge 16, 3) := by decide +kernel
theorem dX12_begins_23 : decode cX12_begins 23 = .ok (.aload_n 0, 1) := by decide +kernel
theorem dX12_begins_24 : decode cX12_begins 24 = .ok (.getfield 81, 3) := by decide +kernel
theorem dX12_begins_27 : decode cX12_begins 27 = .ok (.iload_n 1, 1) := by decide +kernel
theorem dX12_begins_28 : decode cX12_begins 28 = .ok (.iconst (-1), 1) := by decide +kernel
theorem dX12_begins_29 : decode cX12_begins 29 = .ok (.iastore, 1) := by decide +kernel
theorem dX12_begins_30 : decode cX12_begins 30 = .ok (.iinc 1 1, 3) := by decide +kernel
theorem dX12_begins_33 : decode cX12_begins 33 = .ok (.goto (-16), 3) := by decide +kernel
theorem dX12_begins_36 : decode cX12_begins 36 = .ok (.iconst 0, 1) := by decide +kernel
theorem dX12_begins_37 : decode cX12_begins 37 = .ok (.istore_n 1, 1) := by decide +kernel
theorem dX12_begins_38 : decode cX12_begins 38 = .ok (.iload_n 1, 1) := by decide +kernel
theorem dX12_begins_39 : decode cX12_begins 39 = .ok (.bipush 40, 2) := by decide +kernel
theorem dX12_begins_41 : decode cX12_begins 41 = .ok (.if_icmp .ge 23, 3) := by decide +kernel
theorem dX12_begins_44 : decode cX12_begins 44 = .ok (.aload_n 0, 1) := by decide +kernel
theorem dX12_begins_45 : decode cX12_begins 45 = .ok (.getfield 84, 3) := by decide +kernel
theorem dX12_begins_48 : decode cX12_begins 48 = .ok (.iload_n 1, 1) := by decide +kernel
theorem dX12_begins_49 : decode cX12_begins 49 = .ok (.iconst (-1), 1) := by decide +kernel
theorem dX12_begins_50 : decode cX12_begins 50 = .ok (.iastore, 1) := by decide +kernel
theorem dX12_begins_51 : decode cX12_begins 51 = .ok (.aload_n 0, 1) := by decide +kernel
theorem dX12_begins_52 : decode cX12_begins 52 = .ok (.getfield 87, 3) := by decide +kernel
theorem dX12_begins_55 : decode cX12_begins 55 = .ok (.iload_n 1, 1) := by decide +kernel
theorem dX12_begins_56 : decode cX12_begins 56 = .ok (.iconst (-1), 1) := by decide +kernel
theorem dX12_begins_57 : decode cX12_begins 57 = .ok (.iastore, 1) := by decide +kernel
theorem dX12_begins_58 : decode cX12_begins 58 = .ok (.iinc 1 1, 3) := by decide +kernel
theorem dX12_begins_61 : decode cX12_begins 61 = .ok (.goto (-23), 3) := by decide +kernel
theorem dX12_begins_64 : decode cX12_begins 64 = .ok (.iconst 0, 1) := by decide +kernel
theorem dX12_begins_65 : decode cX12_begins 65 = .ok (.istore_n 1, 1) := by decide +kernel
theorem dX12_begins_66 : decode cX12_begins 66 = .ok (.iload_n 1, 1) := by decide +kernel
theorem dX12_begins_67 : decode cX12_begins 67 = .ok (.bipush 60, 2) := by decide +kernel
theorem dX12_begins_69 : decode cX12_begins 69 = .ok (.if_icmp .ge 22, 3) := by decide +kernel
theorem dX12_begins_72 : decode cX12_begins 72 = .ok (.aload_n 0, 1) := by decide +kernel
theorem dX12_begins_73 : decode cX12_begins 73 = .ok (.getfield 90, 3) := by decide +kernel
theorem dX12_begins_76 : decode cX12_begins 76 = .ok (.iload_n 1, 1) := by decide +kernel
theorem dX12_begins_77 : decode cX12_begins 77 = .ok (.aload_n 0, 1) := by decide +kernel
theorem dX12_begins_78 : decode cX12_begins 78 = .ok (.getfield 13, 3) := by decide +kernel
theorem dX12_begins_81 : decode cX12_begins 81 = .ok (.iload_n 1, 1) := by decide +kernel
theorem dX12_begins_82 : decode cX12_begins 82 = .ok (.iaload, 1) := by decide +kernel
theorem dX12_begins_83 : decode cX12_begins 83 = .ok (.i2l, 1) := by decide +kernel
theorem dX12_begins_84 : decode cX12_begins 84 = .ok (.lastore, 1) := by decide +kernel
theorem dX12_begins_85 : decode cX12_begins 85 = .ok (.iinc 1 1, 3) := by decide +kernel
theorem dX12_begins_88 : decode cX12_begins 88 = .ok (.goto (-22), 3) := by decide +kernel
theorem dX12_begins_91 : decode cX12_begins 91 = .ok (.iconst 0, 1) := by decide +kernel
theorem dX12_begins_92 : decode cX12_begins 92 = .ok (.istore_n 1, 1) := by decide +kernel
theorem dX12_begins_93 : decode cX12_begins 93 = .ok (.iload_n 1, 1) := by decide +kernel
theorem dX12_begins_94 : decode cX12_begins 94 = .ok (.aload_n 0, 1) := by decide +kernel
theorem dX12_begins_95 : decode cX12_begins 95 = .ok (.getfield 128, 3) := by decide +kernel
theorem dX12_begins_98 : decode cX12_begins 98 = .ok (.if_icmp .ge 51, 3) := by decide +kernel
theorem dX12_begins_101 : decode cX12_begins 101 = .ok (.aload_n 0, 1) := by decide +kernel
theorem dX12_begins_102 : decode cX12_begins 102 = .ok (.getfield 63, 3) := by decide +kernel
theorem dX12_begins_105 : decode cX12_begins 105 = .ok (.iload_n 1, 1) := by decide +kernel
theorem dX12_begins_106 : decode cX12_begins 106 = .ok (.iconst 0, 1) := by decide +kernel
theorem dX12_begins_107 : decode cX12_begins 107 = .ok (.iastore, 1) := by decide +kernel
theorem dX12_begins_108 : decode cX12_begins 108 = .ok (.aload_n 0, 1) := by decide +kernel
theorem dX12_begins_109 : decode cX12_begins 109 = .ok (.getfield 66, 3) := by decide +kernel
theorem dX12_begins_112 : decode cX12_begins 112 = .ok (.iload_n 1, 1) := by decide +kernel
theorem dX12_begins_113 : decode cX12_begins 113 = .ok (.iconst (-1), 1) := by decide +kernel
theorem dX12_begins_114 : decode cX12_begins 114 = .ok (.iastore, 1) := by decide +kernel
theorem dX12_begins_115 : decode cX12_begins 115 = .ok (.aload_n 0, 1) := by decide +kernel
theorem dX12_begins_116 : decode cX12_begins 116 = .ok (.getfield 69, 3) := by decide +kernel
theorem dX12_begins_119 : decode cX12_begins 119 = .ok (.iload_n 1, 1) := by decide +kernel
theorem dX12_begins_120 : decode cX12_begins 120 = .ok (.iconst (-1), 1) := by decide +kernel
theorem dX12_begins_121 : decode cX12_begins 121 = .ok (.iastore, 1) := by decide +kernel
theorem dX12_begins_122 : decode cX12_begins 122 = .ok (.aload_n 0, 1) := by decide +kernel
theorem dX12_begins_123 : decode cX12_begins 123 = .ok (.getfield 72, 3) := by decide +kernel
theorem dX12_begins_126 : decode cX12_begins 126 = .ok (.iload_n 1, 1) := by decide +kernel
theorem dX12_begins_127 : decode cX12_begins 127 = .ok (.iconst (-1), 1) := by decide +kernel
theorem dX12_begins_128 : decode cX12_begins 128 = .ok (.iastore, 1) := by decide +kernel
theorem dX12_begins_129 : decode cX12_begins 129 = .ok (.aload_n 0, 1) := by decide +kernel
theorem dX12_begins_130 : decode cX12_begins 130 = .ok (.getfield 75, 3) := by decide +kernel
theorem dX12_begins_133 : decode cX12_begins 133 = .ok (.iload_n 1, 1) := by decide +kernel
theorem dX12_begins_134 : decode cX12_begins 134 = .ok (.iconst 0, 1) := by decide +kernel
theorem dX12_begins_135 : decode cX12_begins 135 = .ok (.iastore, 1) := by decide +kernel
theorem dX12_begins_136 : decode cX12_begins 136 = .ok (.aload_n 0, 1) := by decide +kernel
theorem dX12_begins_137 : decode cX12_begins 137 = .ok (.getfield 78, 3) := by decide +kernel
theorem dX12_begins_140 : decode cX12_begins 140 = .ok (.iload_n 1, 1) := by decide +kernel
theorem dX12_begins_141 : decode cX12_begins 141 = .ok (.iconst 0, 1) := by decide +kernel
theorem dX12_begins_142 : decode cX12_begins 142 = .ok (.iastore, 1) := by decide +kernel
theorem dX12_begins_143 : decode cX12_begins 143 = .ok (.iinc 1 1, 3) := by decide +kernel
theorem dX12_begins_146 : decode cX12_begins 146 = .ok (.goto (-53), 3) := by decide +kernel
theorem dX12_begins_149 : decode cX12_begins 149 = .ok (.iconst 0, 1) := by decide +kernel
theorem dX12_begins_150 : decode cX12_begins 150 = .ok (.istore_n 1, 1) := by decide +kernel
theorem dX12_begins_151 : decode cX12_begins 151 = .ok (.iload_n 1, 1) := by decide +kernel
theorem dX12_begins_152 : decode cX12_begins 152 = .ok (.aload_n 0, 1) := by decide +kernel
theorem dX12_begins_153 : decode cX12_begins 153 = .ok (.getfield 128, 3) := by decide +kernel
theorem dX12_begins_156 : decode cX12_begins 156 = .ok (.if_icmp .ge 20, 3) := by decide +kernel
theorem dX12_begins_159 : decode cX12_begins 159 = .ok (.aload_n 0, 1) := by decide +kernel
theorem dX12_begins_160 : decode cX12_begins 160 = .ok (.getfield 112, 3) := by decide +kernel
theorem dX12_begins_163 : decode cX12_begins 163 = .ok (.iload_n 1, 1) := by decide +kernel
theorem dX12_begins_164 : decode cX12_begins 164 = .ok (.aload_n 0, 1) := by decide +kernel
theorem dX12_begins_165 : decode cX12_begins 165 = .ok (.iload_n 1, 1) := by decide +kernel
theorem dX12_begins_166 : decode cX12_begins 166 = .ok (.invokevirtual 208, 3) := by decide +kernel
theorem dX12_begins_169 : decode cX12_begins 169 = .ok (.bastore, 1) := by decide +kernel
theorem dX12_begins_170 : decode cX12_begins 170 = .ok (.iinc 1 1, 3) := by decide +kernel
theorem dX12_begins_173 : decode cX12_begins 173 = .ok (.goto (-22), 3) := by decide +kernel
theorem dX12_begins_176 : decode cX12_begins 176 = .ok (.iconst 0, 1) := by decide +kernel
theorem dX12_begins_177 : decode cX12_begins 177 = .ok (.istore_n 1, 1) := by decide +kernel
theorem dX12_begins_178 : decode cX12_begins 178 = .ok (.iload_n 1, 1) := by decide +kernel
theorem dX12_begins_179 : decode cX12_begins 179 = .ok (.aload_n 0, 1) := by decide +kernel
theorem dX12_begins_180 : decode cX12_begins 180 = .ok (.getfield 128, 3) := by decide +kernel
theorem dX12_begins_183 : decode cX12_begins 183 = .ok (.if_icmp .ge 81, 3) := by decide +kernel
theorem dX12_begins_186 : decode cX12_begins 186 = .ok (.aload_n 0, 1) := by decide +kernel
theorem dX12_begins_187 : decode cX12_begins 187 = .ok (.getfield 112, 3) := by decide +kernel
theorem dX12_begins_190 : decode cX12_begins 190 = .ok (.iload_n 1, 1) := by decide +kernel
theorem dX12_begins_191 : decode cX12_begins 191 = .ok (.baload, 1) := by decide +kernel
theorem dX12_begins_192 : decode cX12_begins 192 = .ok (.ifCond .eq 10, 3) := by decide +kernel
theorem dX12_begins_195 : decode cX12_begins 195 = .ok (.aload_n 0, 1) := by decide +kernel
theorem dX12_begins_196 : decode cX12_begins 196 = .ok (.getfield 63, 3) := by decide +kernel
theorem dX12_begins_199 : decode cX12_begins 199 = .ok (.iload_n 1, 1) := by decide +kernel
theorem dX12_begins_200 : decode cX12_begins 200 = .ok (.iconst 5, 1) := by decide +kernel
theorem dX12_begins_201 : decode cX12_begins 201 = .ok (.iastore, 1) := by decide +kernel
theorem dX12_begins_202 : decode cX12_begins 202 = .ok (.iconst 0, 1) := by decide +kernel
theorem dX12_begins_203 : decode cX12_begins 203 = .ok (.istore_n 2, 1) := by decide +kernel
theorem dX12_begins_204 : decode cX12_begins 204 = .ok (.iload_n 2, 1) := by decide +kernel
theorem dX12_begins_205 : decode cX12_begins 205 = .ok (.aload_n 0, 1) := by decide +kernel
theorem dX12_begins_206 : decode cX12_begins 206 = .ok (.getfield 128, 3) := by decide +kernel
theorem dX12_begins_209 : decode cX12_begins 209 = .ok (.if_icmp .ge 49, 3) := by decide +kernel
theorem dX12_begins_212 : decode cX12_begins 212 = .ok (.aload_n 0, 1) := by decide +kernel
theorem dX12_begins_213 : decode cX12_begins 213 = .ok (.getfield 63, 3) := by decide +kernel
theorem dX12_begins_216 : decode cX12_begins 216 = .ok (.iload_n 1, 1) := by decide +kernel
theorem dX12_begins_217 : decode cX12_begins 217 = .ok (.iaload, 1) := by decide +kernel
theorem dX12_begins_218 : decode cX12_begins 218 = .ok (.ifCond .ne 40, 3) := by decide +kernel
theorem dX12_begins_221 : decode cX12_begins 221 = .ok (.aload_n 0, 1) := by decide +kernel
theorem dX12_begins_222 : decode cX12_begins 222 = .ok (.getfield 30, 3) := by decide +kernel
theorem dX12_begins_225 : decode cX12_begins 225 = .ok (.sipush 200, 3) := by decide +kernel
theorem dX12_begins_228 : decode cX12_begins 228 = .ok (.iload_n 1, 1) := by decide +kernel
theorem dX12_begins_229 : decode cX12_begins 229 = .ok (.imul, 1) := by decide +kernel
theorem dX12_begins_230 : decode cX12_begins 230 = .ok (.iload_n 2, 1) := by decide +kernel
theorem dX12_begins_231 : decode cX12_begins 231 = .ok (.iadd, 1) := by decide +kernel
theorem dX12_begins_232 : decode cX12_begins 232 = .ok (.baload, 1) := by decide +kernel
theorem dX12_begins_233 : decode cX12_begins 233 = .ok (.ifCond .eq 19, 3) := by decide +kernel
theorem dX12_begins_236 : decode cX12_begins 236 = .ok (.aload_n 0, 1) := by decide +kernel
theorem dX12_begins_237 : decode cX12_begins 237 = .ok (.getfield 112, 3) := by decide +kernel
theorem dX12_begins_240 : decode cX12_begins 240 = .ok (.iload_n 2, 1) := by decide +kernel
theorem dX12_begins_241 : decode cX12_begins 241 = .ok (.baload, 1) := by decide +kernel
theorem dX12_begins_242 : decode cX12_begins 242 = .ok (.ifCond .eq 10, 3) := by decide +kernel
theorem dX12_begins_245 : decode cX12_begins 245 = .ok (.aload_n 0, 1) := by decide +kernel
theorem dX12_begins_246 : decode cX12_begins 246 = .ok (.getfield 63, 3) := by decide +kernel
theorem dX12_begins_249 : decode cX12_begins 249 = .ok (.iload_n 1, 1) := by decide +kernel
theorem dX12_begins_250 : decode cX12_begins 250 = .ok (.iconst 5, 1) := by decide +kernel
theorem dX12_begins_251 : decode cX12_begins 251 = .ok (.iastore, 1) := by decide +kernel
theorem dX12_begins_252 : decode cX12_begins 252 = .ok (.iinc 2 1, 3) := by decide +kernel
theorem dX12_begins_255 : decode cX12_begins 255 = .ok (.goto (-51), 3) := by decide +kernel
theorem dX12_begins_258 : decode cX12_begins 258 = .ok (.iinc 1 1, 3) := by decide +kernel
theorem dX12_begins_261 : decode cX12_begins 261 = .ok (.goto (-83), 3) := by decide +kernel
theorem dX12_begins_264 : decode cX12_begins 264 = .ok (.iconst 0, 1) := by decide +kernel
theorem dX12_begins_265 : decode cX12_begins 265 = .ok (.istore_n 1, 1) := by decide +kernel
theorem dX12_begins_266 : decode cX12_begins 266 = .ok (.iload_n 1, 1) := by decide +kernel
theorem dX12_begins_267 : decode cX12_begins 267 = .ok (.aload_n 0, 1) := by decide +kernel
theorem dX12_begins_268 : decode cX12_begins 268 = .ok (.getfield 128, 3) := by decide +kernel
theorem dX12_begins_271 : decode cX12_begins 271 = .ok (.if_icmp .ge 26, 3) := by decide +kernel
theorem dX12_begins_274 : decode cX12_begins 274 = .ok (.aload_n 0, 1) := by decide +kernel
theorem dX12_begins_275 : decode cX12_begins 275 = .ok (.getfield 63, 3) := by decide +kernel
theorem dX12_begins_278 : decode cX12_begins 278 = .ok (.iload_n 1, 1) := by decide +kernel
theorem dX12_begins_279 : decode cX12_begins 279 = .ok (.iaload, 1) := by decide +kernel
theorem dX12_begins_280 : decode cX12_begins 280 = .ok (.iconst 5, 1) := by decide +kernel
theorem dX12_begins_281 : decode cX12_begins 281 = .ok (.if_icmp .ne 10, 3) := by decide +kernel
theorem dX12_begins_284 : decode cX12_begins 284 = .ok (.aload_n 0, 1) := by decide +kernel
theorem dX12_begins_285 : decode cX12_begins 285 = .ok (.iload_n 1, 1) := by decide +kernel
theorem dX12_begins_286 : decode cX12_begins 286 = .ok (.bipush 6, 2) := by decide +kernel
theorem dX12_begins_288 : decode cX12_begins 288 = .ok (.invokevirtual 211, 3) := by decide +kernel
theorem dX12_begins_291 : decode cX12_begins 291 = .ok (.iinc 1 1, 3) := by decide +kernel
theorem dX12_begins_294 : decode cX12_begins 294 = .ok (.goto (-28), 3) := by decide +kernel
theorem dX12_begins_297 : decode cX12_begins 297 = .ok (.return_, 1) := by decide +kernel
theorem dX12_endOf_0 : decode cX12_endOf 0 = .ok (.aload_n 0, 1) := by decide +kernel
theorem dX12_endOf_1 : decode cX12_endOf 1 = .ok (.getfield 66, 3) := by decide +kernel
theorem dX12_endOf_4 : decode cX12_endOf 4 = .ok (.iload_n 1, 1) := by decide +kernel
theorem dX12_endOf_5 : decode cX12_endOf 5 = .ok (.iaload, 1) := by decide +kernel
theorem dX12_endOf_6 : decode cX12_endOf 6 = .ok (.aload_n 0, 1) := by decide +kernel
theorem dX12_endOf_7 : decode cX12_endOf 7 = .ok (.getfield 57, 3) := by decide +kernel
theorem dX12_endOf_10 : decode cX12_endOf 10 = .ok (.iload_n 1, 1) := by decide +kernel
theorem dX12_endOf_11 : decode cX12_endOf 11 = .ok (.iaload, 1) := by decide +kernel
theorem dX12_endOf_12 : decode cX12_endOf 12 = .ok (.ifCond .le 12, 3) := by decide +kernel
theorem dX12_endOf_15 : decode cX12_endOf 15 = .ok (.aload_n 0, 1) := by decide +kernel
theorem dX12_endOf_16 : decode cX12_endOf 16 = .ok (.getfield 57, 3) := by decide +kernel
theorem dX12_endOf_19 : decode cX12_endOf 19 = .ok (.iload_n 1, 1) := by decide +kernel
theorem dX12_endOf_20 : decode cX12_endOf 20 = .ok (.iaload, 1) := by decide +kernel
theorem dX12_endOf_21 : decode cX12_endOf 21 = .ok (.goto 9, 3) := by decide +kernel
theorem dX12_endOf_24 : decode cX12_endOf 24 = .ok (.aload_n 0, 1) := by decide +kernel
theorem dX12_endOf_25 : decode cX12_endOf 25 = .ok (.getfield 19, 3) := by decide +kernel
theorem dX12_endOf_28 : decode cX12_endOf 28 = .ok (.iload_n 1, 1) := by decide +kernel
theorem dX12_endOf_29 : decode cX12_endOf 29 = .ok (.iaload, 1) := by decide +kernel
theorem dX12_endOf_30 : decode cX12_endOf 30 = .ok (.iadd, 1) := by decide +kernel
theorem dX12_endOf_31 : decode cX12_endOf 31 = .ok (.ireturn, 1) := by decide +kernel
theorem dX12_frees_0 : decode cX12_frees 0 = .ok (.aload_n 0, 1) := by decide +kernel
theorem dX12_frees_1 : decode cX12_frees 1 = .ok (.getfield 81, 3) := by decide +kernel
theorem dX12_frees_4 : decode cX12_frees 4 = .ok (.aload_n 0, 1) := by decide +kernel
theorem dX12_frees_5 : decode cX12_frees 5 = .ok (.getfield 72, 3) := by decide +kernel
theorem dX12_frees_8 : decode cX12_frees 8 = .ok (.iload_n 1, 1) := by decide +kernel
theorem dX12_frees_9 : decode cX12_frees 9 = .ok (.iaload, 1) := by decide +kernel
theorem dX12_frees_10 : decode cX12_frees 10 = .ok (.iconst (-1), 1) := by decide +kernel
theorem dX12_frees_11 : decode cX12_frees 11 = .ok (.iastore, 1) := by decide +kernel
theorem dX12_frees_12 : decode cX12_frees 12 = .ok (.iconst 0, 1) := by decide +kernel
theorem dX12_frees_13 : decode cX12_frees 13 = .ok (.istore_n 2, 1) := by decide +kernel
theorem dX12_frees_14 : decode cX12_frees 14 = .ok (.iload_n 2, 1) := by decide +kernel
theorem dX12_frees_15 : decode cX12_frees 15 = .ok (.aload_n 0, 1) := by decide +kernel
theorem dX12_frees_16 : decode cX12_frees 16 = .ok (.getfield 145, 3) := by decide +kernel
theorem dX12_frees_19 : decode cX12_frees 19 = .ok (.if_icmp .ge 30, 3) := by decide +kernel
theorem dX12_frees_22 : decode cX12_frees 22 = .ok (.aload_n 0, 1) := by decide +kernel
theorem dX12_frees_23 : decode cX12_frees 23 = .ok (.getfield 33, 3) := by decide +kernel
theorem dX12_frees_26 : decode cX12_frees 26 = .ok (.bipush 40, 2) := by decide +kernel
theorem dX12_frees_28 : decode cX12_frees 28 = .ok (.iload_n 1, 1) := by decide +kernel
theorem dX12_frees_29 : decode cX12_frees 29 = .ok (.imul, 1) := by decide +kernel
theorem dX12_frees_30 : decode cX12_frees 30 = .ok (.iload_n 2, 1) := by decide +kernel
theorem dX12_frees_31 : decode cX12_frees 31 = .ok (.iadd, 1) := by decide +kernel
theorem dX12_frees_32 : decode cX12_frees 32 = .ok (.baload, 1) := by decide +kernel
theorem dX12_frees_33 : decode cX12_frees 33 = .ok (.ifCond .eq 10, 3) := by decide +kernel
theorem dX12_frees_36 : decode cX12_frees 36 = .ok (.aload_n 0, 1) := by decide +kernel
theorem dX12_frees_37 : decode cX12_frees 37 = .ok (.getfield 84, 3) := by decide +kernel
theorem dX12_frees_40 : decode cX12_frees 40 = .ok (.iload_n 2, 1) := by decide +kernel
theorem dX12_frees_41 : decode cX12_frees 41 = .ok (.iconst (-1), 1) := by decide +kernel
theorem dX12_frees_42 : decode cX12_frees 42 = .ok (.iastore, 1) := by decide +kernel
theorem dX12_frees_43 : decode cX12_frees 43 = .ok (.iinc 2 1, 3) := by decide +kernel
theorem dX12_frees_46 : decode cX12_frees 46 = .ok (.goto (-32), 3) := by decide +kernel
theorem dX12_frees_49 : decode cX12_frees 49 = .ok (.aload_n 0, 1) := by decide +kernel
theorem dX12_frees_50 : decode cX12_frees 50 = .ok (.getfield 69, 3) := by decide +kernel
theorem dX12_frees_53 : decode cX12_frees 53 = .ok (.iload_n 1, 1) := by decide +kernel
theorem dX12_frees_54 : decode cX12_frees 54 = .ok (.aload_n 0, 1) := by decide +kernel
theorem dX12_frees_55 : decode cX12_frees 55 = .ok (.getfield 202, 3) := by decide +kernel
theorem dX12_frees_58 : decode cX12_frees 58 = .ok (.iastore, 1) := by decide +kernel
theorem dX12_frees_59 : decode cX12_frees 59 = .ok (.return_, 1) := by decide +kernel
theorem dX12_farOf_0 : decode cX12_farOf 0 = .ok (.aload_n 0, 1) := by decide +kernel
theorem dX12_farOf_1 : decode cX12_farOf 1 = .ok (.getfield 66, 3) := by decide +kernel
theorem dX12_farOf_4 : decode cX12_farOf 4 = .ok (.iload_n 1, 1) := by decide +kernel
theorem dX12_farOf_5 : decode cX12_farOf 5 = .ok (.iaload, 1) := by decide +kernel
theorem dX12_farOf_6 : decode cX12_farOf 6 = .ok (.iconst (-1), 1) := by decide +kernel
theorem dX12_farOf_7 : decode cX12_farOf 7 = .ok (.if_icmp .eq 13, 3) := by decide +kernel
theorem dX12_farOf_10 : decode cX12_farOf 10 = .ok (.aload_n 0, 1) := by decide +kernel
theorem dX12_farOf_11 : decode cX12_farOf 11 = .ok (.getfield 69, 3) := by decide +kernel
theorem dX12_farOf_14 : decode cX12_farOf 14 = .ok (.iload_n 1, 1) := by decide +kernel
theorem dX12_farOf_15 : decode cX12_farOf 15 = .ok (.iaload, 1) := by decide +kernel
theorem dX12_farOf_16 : decode cX12_farOf 16 = .ok (.iconst (-1), 1) := by decide +kernel
theorem dX12_farOf_17 : decode cX12_farOf 17 = .ok (.if_icmp .ne 7, 3) := by decide +kernel
theorem dX12_farOf_20 : decode cX12_farOf 20 = .ok (.iconst 0, 1) := by decide +kernel
theorem dX12_farOf_21 : decode cX12_farOf 21 = .ok (.goto 16, 3) := by decide +kernel
theorem dX12_farOf_24 : decode cX12_farOf 24 = .ok (.aload_n 0, 1) := by decide +kernel
theorem dX12_farOf_25 : decode cX12_farOf 25 = .ok (.getfield 69, 3) := by decide +kernel
theorem dX12_farOf_28 : decode cX12_farOf 28 = .ok (.iload_n 1, 1) := by decide +kernel
theorem dX12_farOf_29 : decode cX12_farOf 29 = .ok (.iaload, 1) := by decide +kernel
theorem dX12_farOf_30 : decode cX12_farOf 30 = .ok (.aload_n 0, 1) := by decide +kernel
theorem dX12_farOf_31 : decode cX12_farOf 31 = .ok (.getfield 66, 3) := by decide +kernel
theorem dX12_farOf_34 : decode cX12_farOf 34 = .ok (.iload_n 1, 1) := by decide +kernel
theorem dX12_farOf_35 : decode cX12_farOf 35 = .ok (.iaload, 1) := by decide +kernel
theorem dX12_farOf_36 : decode cX12_farOf 36 = .ok (.isub, 1) := by decide +kernel
theorem dX12_farOf_37 : decode cX12_farOf 37 = .ok (.ireturn, 1) := by decide +kernel
theorem dX12_restBack_0 : decode cX12_restBack 0 = .ok (.iconst 0, 1) := by decide +kernel
theorem dX12_restBack_1 : decode cX12_restBack 1 = .ok (.istore_n 2, 1) := by decide +kernel
theorem dX12_restBack_2 : decode cX12_restBack 2 = .ok (.iload_n 2, 1) := by decide +kernel
theorem dX12_restBack_3 : decode cX12_restBack 3 = .ok (.bipush 60, 2) := by decide +kernel
theorem dX12_restBack_5 : decode cX12_restBack 5 = .ok (.if_icmp .ge 49, 3) := by decide +kernel
theorem dX12_restBack_8 : decode cX12_restBack 8 = .ok (.aload_n 0, 1) := by decide +kernel
theorem dX12_restBack_9 : decode cX12_restBack 9 = .ok (.getfield 36, 3) := by decide +kernel
theorem dX12_restBack_12 : decode cX12_restBack 12 = .ok (.bipush 60, 2) := by decide +kernel
theorem dX12_restBack_14 : decode cX12_restBack 14 = .ok (.iload_n 1, 1) := by decide +kernel
theorem dX12_restBack_15 : decode cX12_restBack 15 = .ok (.imul, 1) := by decide +kernel
theorem dX12_restBack_16 : decode cX12_restBack 16 = .ok (.iload_n 2, 1) := by decide +kernel
theorem dX12_restBack_17 : decode cX12_restBack 17 = .ok (.iadd, 1) := by decide +kernel
theorem dX12_restBack_18 : decode cX12_restBack 18 = .ok (.iaload, 1) := by decide +kernel
theorem dX12_restBack_19 : decode cX12_restBack 19 = .ok (.i2l, 1) := by decide +kernel
theorem dX12_restBack_20 : decode cX12_restBack 20 = .ok (.lstore_n 3, 1) := by decide +kernel
theorem dX12_restBack_21 : decode cX12_restBack 21 = .ok (.aload_n 0, 1) := by decide +kernel
theorem dX12_restBack_22 : decode cX12_restBack 22 = .ok (.getfield 90, 3) := by decide +kernel
theorem dX12_restBack_25 : decode cX12_restBack 25 = .ok (.iload_n 2, 1) := by decide +kernel
theorem dX12_restBack_26 : decode cX12_restBack 26 = .ok (.dup2, 1) := by decide +kernel
theorem dX12_restBack_27 : decode cX12_restBack 27 = .ok (.laload, 1) := by decide +kernel
theorem dX12_restBack_28 : decode cX12_restBack 28 = .ok (.lload_n 3, 1) := by decide +kernel
theorem dX12_restBack_29 : decode cX12_restBack 29 = .ok (.lload_n 3, 1) := by decide +kernel
theorem dX12_restBack_30 : decode cX12_restBack 30 = .ok (.aload_n 0, 1) := by decide +kernel
theorem dX12_restBack_31 : decode cX12_restBack 31 = .ok (.iload_n 1, 1) := by decide +kernel
theorem dX12_restBack_32 : decode cX12_restBack 32 = .ok (.invokevirtual 215, 3) := by decide +kernel
theorem dX12_restBack_35 : decode cX12_restBack 35 = .ok (.i2l, 1) := by decide +kernel
theorem dX12_restBack_36 : decode cX12_restBack 36 = .ok (.lmul, 1) := by decide +kernel
theorem dX12_restBack_37 : decode cX12_restBack 37 = .ok (.aload_n 0, 1) := by decide +kernel
theorem dX12_restBack_38 : decode cX12_restBack 38 = .ok (.getfield 19, 3) := by decide +kernel
theorem dX12_restBack_41 : decode cX12_restBack 41 = .ok (.iload_n 1, 1) := by decide +kernel
theorem dX12_restBack_42 : decode cX12_restBack 42 = .ok (.iaload, 1) := by decide +kernel
theorem dX12_restBack_43 : decode cX12_restBack 43 = .ok (.i2l, 1) := by decide +kernel
theorem dX12_restBack_44 : decode cX12_restBack 44 = .ok (.ldiv, 1) := by decide +kernel
theorem dX12_restBack_45 : decode cX12_restBack 45 = .ok (.lsub, 1) := by decide +kernel
theorem dX12_restBack_46 : decode cX12_restBack 46 = .ok (.ladd, 1) := by decide +kernel
theorem dX12_restBack_47 : decode cX12_restBack 47 = .ok (.lastore, 1) := by decide +kernel
theorem dX12_restBack_48 : decode cX12_restBack 48 = .ok (.iinc 2 1, 3) := by decide +kernel
theorem dX12_restBack_51 : decode cX12_restBack 51 = .ok (.goto (-49), 3) := by decide +kernel
theorem dX12_restBack_54 : decode cX12_restBack 54 = .ok (.return_, 1) := by decide +kernel
theorem dX12_ends_0 : decode cX12_ends 0 = .ok (.aload_n 0, 1) := by decide +kernel
theorem dX12_ends_1 : decode cX12_ends 1 = .ok (.iload_n 1, 1) := by decide +kernel
theorem dX12_ends_2 : decode cX12_ends 2 = .ok (.invokevirtual 218, 3) := by decide +kernel
theorem dX12_ends_5 : decode cX12_ends 5 = .ok (.aload_n 0, 1) := by decide +kernel
theorem dX12_ends_6 : decode cX12_ends 6 = .ok (.getfield 78, 3) := by decide +kernel
theorem dX12_ends_9 : decode cX12_ends 9 = .ok (.iload_n 1, 1) := by decide +kernel
theorem dX12_ends_10 : decode cX12_ends 10 = .ok (.aload_n 0, 1) := by decide +kernel
theorem dX12_ends_11 : decode cX12_ends 11 = .ok (.getfield 57, 3) := by decide +kernel
theorem dX12_ends_14 : decode cX12_ends 14 = .ok (.iload_n 1, 1) := by decide +kernel
theorem dX12_ends_15 : decode cX12_ends 15 = .ok (.iaload, 1) := by decide +kernel
theorem dX12_ends_16 : decode cX12_ends 16 = .ok (.ifCond .le 12, 3) := by decide +kernel
theorem dX12_ends_19 : decode cX12_ends 19 = .ok (.aload_n 0, 1) := by decide +kernel
theorem dX12_ends_20 : decode cX12_ends 20 = .ok (.getfield 60, 3) := by decide +kernel
theorem dX12_ends_23 : decode cX12_ends 23 = .ok (.iload_n 1, 1) := by decide +kernel
theorem dX12_ends_24 : decode cX12_ends 24 = .ok (.iaload, 1) := by decide +kernel
theorem dX12_ends_25 : decode cX12_ends 25 = .ok (.goto 8, 3) := by decide +kernel
theorem dX12_ends_28 : decode cX12_ends 28 = .ok (.aload_n 0, 1) := by decide +kernel
theorem dX12_ends_29 : decode cX12_ends 29 = .ok (.iload_n 1, 1) := by decide +kernel
theorem dX12_ends_30 : decode cX12_ends 30 = .ok (.invokevirtual 222, 3) := by decide +kernel
theorem dX12_ends_33 : decode cX12_ends 33 = .ok (.iastore, 1) := by decide +kernel
theorem dX12_ends_34 : decode cX12_ends 34 = .ok (.aload_n 0, 1) := by decide +kernel
theorem dX12_ends_35 : decode cX12_ends 35 = .ok (.getfield 78, 3) := by decide +kernel
theorem dX12_ends_38 : decode cX12_ends 38 = .ok (.iload_n 1, 1) := by decide +kernel
theorem dX12_ends_39 : decode cX12_ends 39 = .ok (.iaload, 1) := by decide +kernel
theorem dX12_ends_40 : decode cX12_ends 40 = .ok (.ifCond .le 22, 3) := by decide +kernel
theorem dX12_ends_43 : decode cX12_ends 43 = .ok (.aload_n 0, 1) := by decide +kernel
theorem dX12_ends_44 : decode cX12_ends 44 = .ok (.getfield 63, 3) := by decide +kernel
theorem dX12_ends_47 : decode cX12_ends 47 = .ok (.iload_n 1, 1) := by decide +kernel
theorem dX12_ends_48 : decode cX12_ends 48 = .ok (.iconst 2, 1) := by decide +kernel
theorem dX12_ends_49 : decode cX12_ends 49 = .ok (.iastore, 1) := by decide +kernel
theorem dX12_ends_50 : decode cX12_ends 50 = .ok (.aload_n 0, 1) := by decide +kernel
theorem dX12_ends_51 : decode cX12_ends 51 = .ok (.iload_n 1, 1) := by decide +kernel
theorem dX12_ends_52 : decode cX12_ends 52 = .ok (.invokevirtual 225, 3) := by decide +kernel
theorem dX12_ends_55 : decode cX12_ends 55 = .ok (.aload_n 0, 1) := by decide +kernel
theorem dX12_ends_56 : decode cX12_ends 56 = .ok (.iload_n 1, 1) := by decide +kernel
theorem dX12_ends_57 : decode cX12_ends 57 = .ok (.iconst 2, 1) := by decide +kernel
theorem dX12_ends_58 : decode cX12_ends 58 = .ok (.invokevirtual 211, 3) := by decide +kernel
theorem dX12_ends_61 : decode cX12_ends 61 = .ok (.return_, 1) := by decide +kernel
theorem dX12_ends_62 : decode cX12_ends 62 = .ok (.aload_n 0, 1) := by decide +kernel
theorem dX12_ends_63 : decode cX12_ends 63 = .ok (.getfield 63, 3) := by decide +kernel
theorem dX12_ends_66 : decode cX12_ends 66 = .ok (.iload_n 1, 1) := by decide +kernel
theorem dX12_ends_67 : decode cX12_ends 67 = .ok (.iconst 1, 1) := by decide +kernel
theorem dX12_ends_68 : decode cX12_ends 68 = .ok (.iastore, 1) := by decide +kernel
theorem dX12_ends_69 : decode cX12_ends 69 = .ok (.iconst 0, 1) := by decide +kernel
theorem dX12_ends_70 : decode cX12_ends 70 = .ok (.istore_n 2, 1) := by decide +kernel
theorem dX12_ends_71 : decode cX12_ends 71 = .ok (.iload_n 2, 1) := by decide +kernel
theorem dX12_ends_72 : decode cX12_ends 72 = .ok (.bipush 60, 2) := by decide +kernel
theorem dX12_ends_74 : decode cX12_ends 74 = .ok (.if_icmp .ge 30, 3) := by decide +kernel
theorem dX12_ends_77 : decode cX12_ends 77 = .ok (.aload_n 0, 1) := by decide +kernel
theorem dX12_ends_78 : decode cX12_ends 78 = .ok (.getfield 90, 3) := by decide +kernel
theorem dX12_ends_81 : decode cX12_ends 81 = .ok (.iload_n 2, 1) := by decide +kernel
theorem dX12_ends_82 : decode cX12_ends 82 = .ok (.dup2, 1) := by decide +kernel
theorem dX12_ends_83 : decode cX12_ends 83 = .ok (.laload, 1) := by decide +kernel
theorem dX12_ends_84 : decode cX12_ends 84 = .ok (.aload_n 0, 1) := by decide +kernel
theorem dX12_ends_85 : decode cX12_ends 85 = .ok (.getfield 39, 3) := by decide +kernel
theorem dX12_ends_88 : decode cX12_ends 88 = .ok (.bipush 60, 2) := by decide +kernel
theorem dX12_ends_90 : decode cX12_ends 90 = .ok (.iload_n 1, 1) := by decide +kernel
theorem dX12_ends_91 : decode cX12_ends 91 = .ok (.imul, 1) := by decide +kernel
theorem dX12_ends_92 : decode cX12_ends 92 = .ok (.iload_n 2, 1) := by decide +kernel
theorem dX12_ends_93 : decode cX12_ends 93 = .ok (.iadd, 1) := by decide +kernel
theorem dX12_ends_94 : decode cX12_ends 94 = .ok (.iaload, 1) := by decide +kernel
theorem dX12_ends_95 : decode cX12_ends 95 = .ok (.i2l, 1) := by decide +kernel
theorem dX12_ends_96 : decode cX12_ends 96 = .ok (.ladd, 1) := by decide +kernel
theorem dX12_ends_97 : decode cX12_ends 97 = .ok (.lastore, 1) := by decide +kernel
theorem dX12_ends_98 : decode cX12_ends 98 = .ok (.iinc 2 1, 3) := by decide +kernel
theorem dX12_ends_101 : decode cX12_ends 101 = .ok (.goto (-30), 3) := by decide +kernel
theorem dX12_ends_104 : decode cX12_ends 104 = .ok (.aload_n 0, 1) := by decide +kernel
theorem dX12_ends_105 : decode cX12_ends 105 = .ok (.iload_n 1, 1) := by decide +kernel
theorem dX12_ends_106 : decode cX12_ends 106 = .ok (.iconst 1, 1) := by decide +kernel
theorem dX12_ends_107 : decode cX12_ends 107 = .ok (.invokevirtual 211, 3) := by decide +kernel
theorem dX12_ends_110 : decode cX12_ends 110 = .ok (.return_, 1) := by decide +kernel
theorem dX12_cancels_0 : decode cX12_cancels 0 = .ok (.iconst 0, 1) := by decide +kernel
theorem dX12_cancels_1 : decode cX12_cancels 1 = .ok (.istore_n 1, 1) := by decide +kernel
theorem dX12_cancels_2 : decode cX12_cancels 2 = .ok (.iload_n 1, 1) := by decide +kernel
theorem dX12_cancels_3 : decode cX12_cancels 3 = .ok (.aload_n 0, 1) := by decide +kernel
theorem dX12_cancels_4 : decode cX12_cancels 4 = .ok (.getfield 128, 3) := by decide +kernel
theorem dX12_cancels_7 : decode cX12_cancels 7 = .ok (.if_icmp .ge 88, 3) := by decide +kernel
theorem dX12_cancels_10 : decode cX12_cancels 10 = .ok (.iconst 0, 1) := by decide +kernel
theorem dX12_cancels_11 : decode cX12_cancels 11 = .ok (.istore_n 2, 1) := by decide +kernel
theorem dX12_cancels_12 : decode cX12_cancels 12 = .ok (.iload_n 2, 1) := by decide +kernel
theorem dX12_cancels_13 : decode cX12_cancels 13 = .ok (.aload_n 0, 1) := by decide +kernel
theorem dX12_cancels_14 : decode cX12_cancels 14 = .ok (.getfield 128, 3) := by decide +kernel
theorem dX12_cancels_17 : decode cX12_cancels 17 = .ok (.if_icmp .ge 72, 3) := by decide +kernel
theorem dX12_cancels_20 : decode cX12_cancels 20 = .ok (.aload_n 0, 1) := by decide +kernel
theorem dX12_cancels_21 : decode cX12_cancels 21 = .ok (.getfield 63, 3) := by decide +kernel
theorem dX12_cancels_24 : decode cX12_cancels 24 = .ok (.iload_n 1, 1) := by decide +kernel
theorem dX12_cancels_25 : decode cX12_cancels 25 = .ok (.iaload, 1) := by decide +kernel
theorem dX12_cancels_26 : decode cX12_cancels 26 = .ok (.ifCond .ne 63, 3) := by decide +kernel
theorem dX12_cancels_29 : decode cX12_cancels 29 = .ok (.aload_n 0, 1) := by decide +kernel
theorem dX12_cancels_30 : decode cX12_cancels 30 = .ok (.getfield 30, 3) := by decide +kernel
theorem dX12_cancels_33 : decode cX12_cancels 33 = .ok (.sipush 200, 3) := by decide +kernel
theorem dX12_cancels_36 : decode cX12_cancels 36 = .ok (.iload_n 1, 1) := by decide +kernel
theorem dX12_cancels_37 : decode cX12_cancels 37 = .ok (.imul, 1) := by decide +kernel
theorem dX12_cancels_38 : decode cX12_cancels 38 = .ok (.iload_n 2, 1) := by decide +kernel
theorem dX12_cancels_39 : decode cX12_cancels 39 = .ok (.iadd, 1) := by decide +kernel
theorem dX12_cancels_40 : decode cX12_cancels 40 = .ok (.baload, 1) := by decide +kernel
theorem dX12_cancels_41 : decode cX12_cancels 41 = .ok (.ifCond .eq 42, 3) := by decide +kernel
theorem dX12_cancels_44 : decode cX12_cancels 44 = .ok (.aload_n 0, 1) := by decide +kernel
theorem dX12_cancels_45 : decode cX12_cancels 45 = .ok (.getfield 63, 3) := by decide +kernel
theorem dX12_cancels_48 : decode cX12_cancels 48 = .ok (.iload_n 2, 1) := by decide +kernel
theorem dX12_cancels_49 : decode cX12_cancels 49 = .ok (.iaload, 1) := by decide +kernel
theorem dX12_cancels_50 : decode cX12_cancels 50 = .ok (.iconst 2, 1) := by decide +kernel
theorem dX12_cancels_51 : decode cX12_cancels 51 = .ok (.if_icmp .ne 32, 3) := by decide +kernel
theorem dX12_cancels_54 : decode cX12_cancels 54 = .ok (.aload_n 0, 1) := by decide +kernel
theorem dX12_cancels_55 : decode cX12_cancels 55 = .ok (.getfield 69, 3) := by decide +kernel
theorem dX12_cancels_58 : decode cX12_cancels 58 = .ok (.iload_n 2, 1) := by decide +kernel
theorem dX12_cancels_59 : decode cX12_cancels 59 = .ok (.iaload, 1) := by decide +kernel
theorem dX12_cancels_60 : decode cX12_cancels 60 = .ok (.aload_n 0, 1) := by decide +kernel
theorem dX12_cancels_61 : decode cX12_cancels 61 = .ok (.getfield 202, 3) := by decide +kernel
theorem dX12_cancels_64 : decode cX12_cancels 64 = .ok (.if_icmp .eq 6, 3) := by decide +kernel
theorem dX12_cancels_67 : decode cX12_cancels 67 = .ok (.goto 16, 3) := by decide +kernel
theorem dX12_cancels_70 : decode cX12_cancels 70 = .ok (.aload_n 0, 1) := by decide +kernel
theorem dX12_cancels_71 : decode cX12_cancels 71 = .ok (.getfield 63, 3) := by decide +kernel
theorem dX12_cancels_74 : decode cX12_cancels 74 = .ok (.iload_n 1, 1) := by decide +kernel
theorem dX12_cancels_75 : decode cX12_cancels 75 = .ok (.iconst 3, 1) := by decide +kernel
theorem dX12_cancels_76 : decode cX12_cancels 76 = .ok (.iastore, 1) := by decide +kernel
theorem dX12_cancels_77 : decode cX12_cancels 77 = .ok (.aload_n 0, 1) := by decide +kernel
theorem dX12_cancels_78 : decode cX12_cancels 78 = .ok (.iload_n 1, 1) := by decide +kernel
theorem dX12_cancels_79 : decode cX12_cancels 79 = .ok (.iconst 3, 1) := by decide +kernel
theorem dX12_cancels_80 : decode cX12_cancels 80 = .ok (.invokevirtual 211, 3) := by decide +kernel
theorem dX12_cancels_83 : decode cX12_cancels 83 = .ok (.iinc 2 1, 3) := by decide +kernel
theorem dX12_cancels_86 : decode cX12_cancels 86 = .ok (.goto (-74), 3) := by decide +kernel
theorem dX12_cancels_89 : decode cX12_cancels 89 = .ok (.iinc 1 1, 3) := by decide +kernel
theorem dX12_cancels_92 : decode cX12_cancels 92 = .ok (.goto (-90), 3) := by decide +kernel
theorem dX12_cancels_95 : decode cX12_cancels 95 = .ok (.return_, 1) := by decide +kernel
theorem dX12_interrupts_0 : decode cX12_interrupts 0 = .ok (.aload_n 0, 1) := by decide +kernel
theorem dX12_interrupts_1 : decode cX12_interrupts 1 = .ok (.iload_n 1, 1) := by decide +kernel
theorem dX12_interrupts_2 : decode cX12_interrupts 2 = .ok (.invokevirtual 218, 3) := by decide +kernel
theorem dX12_interrupts_5 : decode cX12_interrupts 5 = .ok (.aload_n 0, 1) := by decide +kernel
theorem dX12_interrupts_6 : decode cX12_interrupts 6 = .ok (.getfield 63, 3) := by decide +kernel
theorem dX12_interrupts_9 : decode cX12_interrupts 9 = .ok (.iload_n 1, 1) := by decide +kernel
theorem dX12_interrupts_10 : decode cX12_interrupts 10 = .ok (.iconst 4, 1) := by decide +kernel
theorem dX12_interrupts_11 : decode cX12_interrupts 11 = .ok (.iastore, 1) := by decide +kernel
theorem dX12_interrupts_12 : decode cX12_interrupts 12 = .ok (.aload_n 0, 1) := by decide +kernel
theorem dX12_interrupts_13 : decode cX12_interrupts 13 = .ok (.getfield 75, 3) := by decide +kernel
theorem dX12_interrupts_16 : decode cX12_interrupts 16 = .ok (.iload_n 1, 1) := by decide +kernel
theorem dX12_interrupts_17 : decode cX12_interrupts 17 = .ok (.aload_n 0, 1) := by decide +kernel
theorem dX12_interrupts_18 : decode cX12_interrupts 18 = .ok (.getfield 42, 3) := by decide +kernel
theorem dX12_interrupts_21 : decode cX12_interrupts 21 = .ok (.iload_n 1, 1) := by decide +kernel
theorem dX12_interrupts_22 : decode cX12_interrupts 22 = .ok (.iaload, 1) := by decide +kernel
theorem dX12_interrupts_23 : decode cX12_interrupts 23 = .ok (.ifCond .le 23, 3) := by decide +kernel
theorem dX12_interrupts_26 : decode cX12_interrupts 26 = .ok (.aload_n 0, 1) := by decide +kernel
theorem dX12_interrupts_27 : decode cX12_interrupts 27 = .ok (.iload_n 1, 1) := by decide +kernel
theorem dX12_interrupts_28 : decode cX12_interrupts 28 = .ok (.invokevirtual 215, 3) := by decide +kernel
theorem dX12_interrupts_31 : decode cX12_interrupts 31 = .ok (.aload_n 0, 1) := by decide +kernel
theorem dX12_interrupts_32 : decode cX12_interrupts 32 = .ok (.getfield 19, 3) := by decide +kernel
theorem dX12_interrupts_35 : decode cX12_interrupts 35 = .ok (.iload_n 1, 1) := by decide +kernel
theorem dX12_interrupts_36 : decode cX12_interrupts 36 = .ok (.iaload, 1) := by decide +kernel
theorem dX12_interrupts_37 : decode cX12_interrupts 37 = .ok (.iconst 2, 1) := by decide +kernel
theorem dX12_interrupts_38 : decode cX12_interrupts 38 = .ok (.idiv, 1) := by decide +kernel
theorem dX12_interrupts_39 : decode cX12_interrupts 39 = .ok (.if_icmp .ge 7, 3) := by decide +kernel
theorem dX12_interrupts_42 : decode cX12_interrupts 42 = .ok (.iconst 2, 1) := by decide +kernel
theorem dX12_interrupts_43 : decode cX12_interrupts 43 = .ok (.goto 4, 3) := by decide +kernel
theorem dX12_interrupts_46 : decode cX12_interrupts 46 = .ok (.iconst 1, 1) := by decide +kernel
theorem dX12_interrupts_47 : decode cX12_interrupts 47 = .ok (.iastore, 1) := by decide +kernel
theorem dX12_interrupts_48 : decode cX12_interrupts 48 = .ok (.aload_n 0, 1) := by decide +kernel
theorem dX12_interrupts_49 : decode cX12_interrupts 49 = .ok (.iload_n 1, 1) := by decide +kernel
theorem dX12_interrupts_50 : decode cX12_interrupts 50 = .ok (.invokevirtual 225, 3) := by decide +kernel
theorem dX12_interrupts_53 : decode cX12_interrupts 53 = .ok (.aload_n 0, 1) := by decide +kernel
theorem dX12_interrupts_54 : decode cX12_interrupts 54 = .ok (.iload_n 1, 1) := by decide +kernel
theorem dX12_interrupts_55 : decode cX12_interrupts 55 = .ok (.iconst 4, 1) := by decide +kernel
theorem dX12_interrupts_56 : decode cX12_interrupts 56 = .ok (.invokevirtual 211, 3) := by decide +kernel
theorem dX12_interrupts_59 : decode cX12_interrupts 59 = .ok (.return_, 1) := by decide +kernel
theorem dX12_isReady_0 : decode cX12_isReady 0 = .ok (.aload_n 0, 1) := by decide +kernel
theorem dX12_isReady_1 : decode cX12_isReady 1 = .ok (.getfield 63, 3) := by decide +kernel
theorem dX12_isReady_4 : decode cX12_isReady 4 = .ok (.iload_n 1, 1) := by decide +kernel
theorem dX12_isReady_5 : decode cX12_isReady 5 = .ok (.iaload, 1) := by decide +kernel
theorem dX12_isReady_6 : decode cX12_isReady 6 = .ok (.ifCond .eq 5, 3) := by decide +kernel
theorem dX12_isReady_9 : decode cX12_isReady 9 = .ok (.iconst 0, 1) := by decide +kernel
theorem dX12_isReady_10 : decode cX12_isReady 10 = .ok (.ireturn, 1) := by decide +kernel
theorem dX12_isReady_11 : decode cX12_isReady 11 = .ok (.iconst 0, 1) := by decide +kernel
theorem dX12_isReady_12 : decode cX12_isReady 12 = .ok (.istore_n 2, 1) := by decide +kernel
theorem dX12_isReady_13 : decode cX12_isReady 13 = .ok (.iload_n 2, 1) := by decide +kernel
theorem dX12_isReady_14 : decode cX12_isReady 14 = .ok (.aload_n 0, 1) := by decide +kernel
theorem dX12_isReady_15 : decode cX12_isReady 15 = .ok (.getfield 128, 3) := by decide +kernel
theorem dX12_isReady_18 : decode cX12_isReady 18 = .ok (.if_icmp .ge 36, 3) := by decide +kernel
theorem dX12_isReady_21 : decode cX12_isReady 21 = .ok (.aload_n 0, 1) := by decide +kernel
theorem dX12_isReady_22 : decode cX12_isReady 22 = .ok (.getfield 26, 3) := by decide +kernel
theorem dX12_isReady_25 : decode cX12_isReady 25 = .ok (.sipush 200, 3) := by decide +kernel
theorem dX12_isReady_28 : decode cX12_isReady 28 = .ok (.iload_n 1, 1) := by decide +kernel
theorem dX12_isReady_29 : decode cX12_isReady 29 = .ok (.imul, 1) := by decide +kernel
theorem dX12_isReady_30 : decode cX12_isReady 30 = .ok (.iload_n 2, 1) := by decide +kernel
theorem dX12_isReady_31 : decode cX12_isReady 31 = .ok (.iadd, 1) := by decide +kernel
theorem dX12_isReady_32 : decode cX12_isReady 32 = .ok (.baload, 1) := by decide +kernel
theorem dX12_isReady_33 : decode cX12_isReady 33 = .ok (.ifCond .eq 15, 3) := by decide +kernel
theorem dX12_isReady_36 : decode cX12_isReady 36 = .ok (.aload_n 0, 1) := by decide +kernel
theorem dX12_isReady_37 : decode cX12_isReady 37 = .ok (.getfield 63, 3) := by decide +kernel
theorem dX12_isReady_40 : decode cX12_isReady 40 = .ok (.iload_n 2, 1) := by decide +kernel
theorem dX12_isReady_41 : decode cX12_isReady 41 = .ok (.iaload, 1) := by decide +kernel
theorem dX12_isReady_42 : decode cX12_isReady 42 = .ok (.iconst 1, 1) := by decide +kernel
theorem dX12_isReady_43 : decode cX12_isReady 43 = .ok (.if_icmp .eq 5, 3) := by decide +kernel
theorem dX12_isReady_46 : decode cX12_isReady 46 = .ok (.iconst 0, 1) := by decide +kernel
theorem dX12_isReady_47 : decode cX12_isReady 47 = .ok (.ireturn, 1) := by decide +kernel
theorem dX12_isReady_48 : decode cX12_isReady 48 = .ok (.iinc 2 1, 3) := by decide +kernel
theorem dX12_isReady_51 : decode cX12_isReady 51 = .ok (.goto (-38), 3) := by decide +kernel
theorem dX12_isReady_54 : decode cX12_isReady 54 = .ok (.iconst 1, 1) := by decide +kernel
theorem dX12_isReady_55 : decode cX12_isReady 55 = .ok (.ireturn, 1) := by decide +kernel
theorem dX12_freeWorker_0 : decode cX12_freeWorker 0 = .ok (.iconst 0, 1) := by decide +kernel
theorem dX12_freeWorker_1 : decode cX12_freeWorker 1 = .ok (.istore_n 2, 1) := by decide +kernel
theorem dX12_freeWorker_2 : decode cX12_freeWorker 2 = .ok (.iconst 0, 1) := by decide +kernel
theorem dX12_freeWorker_3 : decode cX12_freeWorker 3 = .ok (.istore_n 3, 1) := by decide +kernel
theorem dX12_freeWorker_4 : decode cX12_freeWorker 4 = .ok (.iload_n 3, 1) := by decide +kernel
theorem dX12_freeWorker_5 : decode cX12_freeWorker 5 = .ok (.iload_n 1, 1) := by decide +kernel
theorem dX12_freeWorker_6 : decode cX12_freeWorker 6 = .ok (.if_icmp .ge 18, 3) := by decide +kernel
theorem dX12_freeWorker_9 : decode cX12_freeWorker 9 = .ok (.iload_n 2, 1) := by decide +kernel
theorem dX12_freeWorker_10 : decode cX12_freeWorker 10 = .ok (.aload_n 0, 1) := by decide +kernel
theorem dX12_freeWorker_11 : decode cX12_freeWorker 11 = .ok (.getfield 9, 3) := by decide +kernel
theorem dX12_freeWorker_14 : decode cX12_freeWorker 14 = .ok (.iload_n 3, 1) := by decide +kernel
theorem dX12_freeWorker_15 : decode cX12_freeWorker 15 = .ok (.iaload, 1) := by decide +kernel
theorem dX12_freeWorker_16 : decode cX12_freeWorker 16 = .ok (.iadd, 1) := by decide +kernel
theorem dX12_freeWorker_17 : decode cX12_freeWorker 17 = .ok (.istore_n 2, 1) := by decide +kernel
theorem dX12_freeWorker_18 : decode cX12_freeWorker 18 = .ok (.iinc 3 1, 3) := by decide +kernel
theorem dX12_freeWorker_21 : decode cX12_freeWorker 21 = .ok (.goto (-17), 3) := by decide +kernel
theorem dX12_freeWorker_24 : decode cX12_freeWorker 24 = .ok (.iconst 0, 1) := by decide +kernel
theorem dX12_freeWorker_25 : decode cX12_freeWorker 25 = .ok (.istore_n 3, 1) := by decide +kernel
theorem dX12_freeWorker_26 : decode cX12_freeWorker 26 = .ok (.iload_n 3, 1) := by decide +kernel
theorem dX12_freeWorker_27 : decode cX12_freeWorker 27 = .ok (.aload_n 0, 1) := by decide +kernel
theorem dX12_freeWorker_28 : decode cX12_freeWorker 28 = .ok (.getfield 9, 3) := by decide +kernel
theorem dX12_freeWorker_31 : decode cX12_freeWorker 31 = .ok (.iload_n 1, 1) := by decide +kernel
theorem dX12_freeWorker_32 : decode cX12_freeWorker 32 = .ok (.iaload, 1) := by decide +kernel
theorem dX12_freeWorker_33 : decode cX12_freeWorker 33 = .ok (.if_icmp .ge 25, 3) := by decide +kernel
theorem dX12_freeWorker_36 : decode cX12_freeWorker 36 = .ok (.aload_n 0, 1) := by decide +kernel
theorem dX12_freeWorker_37 : decode cX12_freeWorker 37 = .ok (.getfield 81, 3) := by decide +kernel
theorem dX12_freeWorker_40 : decode cX12_freeWorker 40 = .ok (.iload_n 2, 1) := by decide +kernel
theorem dX12_freeWorker_41 : decode cX12_freeWorker 41 = .ok (.iload_n 3, 1) := by decide +kernel
theorem dX12_freeWorker_42 : decode cX12_freeWorker 42 = .ok (.iadd, 1) := by decide +kernel
theorem dX12_freeWorker_43 : decode cX12_freeWorker 43 = .ok (.iaload, 1) := by decide +kernel
theorem dX12_freeWorker_44 : decode cX12_freeWorker 44 = .ok (.iconst (-1), 1) := by decide +kernel
theorem dX12_freeWorker_45 : decode cX12_freeWorker 45 = .ok (.if_icmp .ne 7, 3) := by decide +kernel
theorem dX12_freeWorker_48 : decode cX12_freeWorker 48 = .ok (.iload_n 2, 1) := by decide +kernel
theorem dX12_freeWorker_49 : decode cX12_freeWorker 49 = .ok (.iload_n 3, 1) := by decide +kernel
theorem dX12_freeWorker_50 : decode cX12_freeWorker 50 = .ok (.iadd, 1) := by decide +kernel
theorem dX12_freeWorker_51 : decode cX12_freeWorker 51 = .ok (.ireturn, 1) := by decide +kernel
theorem dX12_freeWorker_52 : decode cX12_freeWorker 52 = .ok (.iinc 3 1, 3) := by decide +kernel
theorem dX12_freeWorker_55 : decode cX12_freeWorker 55 = .ok (.goto (-29), 3) := by decide +kernel
theorem dX12_freeWorker_58 : decode cX12_freeWorker 58 = .ok (.iconst (-1), 1) := by decide +kernel
theorem dX12_freeWorker_59 : decode cX12_freeWorker 59 = .ok (.ireturn, 1) := by decide +kernel
theorem dX12_canBegin_0 : decode cX12_canBegin 0 = .ok (.aload_n 0, 1) := by decide +kernel
theorem dX12_canBegin_1 : decode cX12_canBegin 1 = .ok (.aload_n 0, 1) := by decide +kernel
theorem dX12_canBegin_2 : decode cX12_canBegin 2 = .ok (.getfield 16, 3) := by decide +kernel
theorem dX12_canBegin_5 : decode cX12_canBegin 5 = .ok (.iload_n 1, 1) := by decide +kernel
theorem dX12_canBegin_6 : decode cX12_canBegin 6 = .ok (.iaload, 1) := by decide +kernel
theorem dX12_canBegin_7 : decode cX12_canBegin 7 = .ok (.invokevirtual 228, 3) := by decide +kernel
theorem dX12_canBegin_10 : decode cX12_canBegin 10 = .ok (.iconst (-1), 1) := by decide +kernel
