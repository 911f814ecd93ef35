theorem dX8_measure_61 : decode cX8_measure 61 = .ok (.iload 11, 2) := by decide +kernel
theorem dX8_measure_63 : decode cX8_measure 63 = .ok (.ifCond .eq 7, 3) := by decide +kernel
theorem dX8_measure_66 : decode cX8_measure 66 = .ok (.lconst 1, 1) := by decide +kernel
theorem dX8_measure_67 : decode cX8_measure 67 = .ok (.goto 4, 3) := by decide +kernel
theorem dX8_measure_70 : decode cX8_measure 70 = .ok (.lconst 0, 1) := by decide +kernel
theorem dX8_measure_71 : decode cX8_measure 71 = .ok (.ladd, 1) := by decide +kernel
theorem dX8_measure_72 : decode cX8_measure 72 = .ok (.lstore 6, 2) := by decide +kernel
theorem dX8_measure_74 : decode cX8_measure 74 = .ok (.lload 8, 2) := by decide +kernel
theorem dX8_measure_76 : decode cX8_measure 76 = .ok (.iload 12, 2) := by decide +kernel
theorem dX8_measure_78 : decode cX8_measure 78 = .ok (.ifCond .eq 7, 3) := by decide +kernel
theorem dX8_measure_81 : decode cX8_measure 81 = .ok (.lconst 1, 1) := by decide +kernel
theorem dX8_measure_82 : decode cX8_measure 82 = .ok (.goto 4, 3) := by decide +kernel
theorem dX8_measure_85 : decode cX8_measure 85 = .ok (.lconst 0, 1) := by decide +kernel
theorem dX8_measure_86 : decode cX8_measure 86 = .ok (.ladd, 1) := by decide +kernel
theorem dX8_measure_87 : decode cX8_measure 87 = .ok (.lstore 8, 2) := by decide +kernel
theorem dX8_measure_89 : decode cX8_measure 89 = .ok (.iinc 10 1, 3) := by decide +kernel
theorem dX8_measure_92 : decode cX8_measure 92 = .ok (.goto (-80), 3) := by decide +kernel
theorem dX8_measure_95 : decode cX8_measure 95 = .ok (.iload_n 3, 1) := by decide +kernel
theorem dX8_measure_96 : decode cX8_measure 96 = .ok (.tableswitch 277 0 9 #[56, 66, 83, 101, 125, 149, 217, 238, 253, 268], 56) := by decide +kernel
theorem dX8_measure_152 : decode cX8_measure 152 = .ok (.aload_n 0, 1) := by decide +kernel
theorem dX8_measure_153 : decode cX8_measure 153 = .ok (.lload 4, 2) := by decide +kernel
theorem dX8_measure_155 : decode cX8_measure 155 = .ok (.lconst 1, 1) := by decide +kernel
theorem dX8_measure_156 : decode cX8_measure 156 = .ok (.invokevirtual 146, 3) := by decide +kernel
theorem dX8_measure_159 : decode cX8_measure 159 = .ok (.goto 220, 3) := by decide +kernel
theorem dX8_measure_162 : decode cX8_measure 162 = .ok (.aload_n 0, 1) := by decide +kernel
theorem dX8_measure_163 : decode cX8_measure 163 = .ok (.lload 4, 2) := by decide +kernel
theorem dX8_measure_165 : decode cX8_measure 165 = .ok (.lload 6, 2) := by decide +kernel
theorem dX8_measure_167 : decode cX8_measure 167 = .ok (.lload 8, 2) := by decide +kernel
theorem dX8_measure_169 : decode cX8_measure 169 = .ok (.ladd, 1) := by decide +kernel
theorem dX8_measure_170 : decode cX8_measure 170 = .ok (.lload 4, 2) := by decide +kernel
theorem dX8_measure_172 : decode cX8_measure 172 = .ok (.lsub, 1) := by decide +kernel
theorem dX8_measure_173 : decode cX8_measure 173 = .ok (.invokevirtual 146, 3) := by decide +kernel
theorem dX8_measure_176 : decode cX8_measure 176 = .ok (.goto 203, 3) := by decide +kernel
theorem dX8_measure_179 : decode cX8_measure 179 = .ok (.aload_n 0, 1) := by decide +kernel
theorem dX8_measure_180 : decode cX8_measure 180 = .ok (.ldc2_w 164, 3) := by decide +kernel
theorem dX8_measure_183 : decode cX8_measure 183 = .ok (.lload 4, 2) := by decide +kernel
theorem dX8_measure_185 : decode cX8_measure 185 = .ok (.lmul, 1) := by decide +kernel
theorem dX8_measure_186 : decode cX8_measure 186 = .ok (.lload 6, 2) := by decide +kernel
theorem dX8_measure_188 : decode cX8_measure 188 = .ok (.lload 8, 2) := by decide +kernel
theorem dX8_measure_190 : decode cX8_measure 190 = .ok (.ladd, 1) := by decide +kernel
theorem dX8_measure_191 : decode cX8_measure 191 = .ok (.invokevirtual 146, 3) := by decide +kernel
theorem dX8_measure_194 : decode cX8_measure 194 = .ok (.goto 185, 3) := by decide +kernel
theorem dX8_measure_197 : decode cX8_measure 197 = .ok (.aload_n 0, 1) := by decide +kernel
theorem dX8_measure_198 : decode cX8_measure 198 = .ok (.lload 4, 2) := by decide +kernel
theorem dX8_measure_200 : decode cX8_measure 200 = .ok (.lload 6, 2) := by decide +kernel
theorem dX8_measure_202 : decode cX8_measure 202 = .ok (.lload 8, 2) := by decide +kernel
theorem dX8_measure_204 : decode cX8_measure 204 = .ok (.lcmp, 1) := by decide +kernel
theorem dX8_measure_205 : decode cX8_measure 205 = .ok (.ifCond .ge 8, 3) := by decide +kernel
theorem dX8_measure_208 : decode cX8_measure 208 = .ok (.lload 6, 2) := by decide +kernel
theorem dX8_measure_210 : decode cX8_measure 210 = .ok (.goto 5, 3) := by decide +kernel
theorem dX8_measure_213 : decode cX8_measure 213 = .ok (.lload 8, 2) := by decide +kernel
theorem dX8_measure_215 : decode cX8_measure 215 = .ok (.invokevirtual 146, 3) := by decide +kernel
theorem dX8_measure_218 : decode cX8_measure 218 = .ok (.goto 161, 3) := by decide +kernel
theorem dX8_measure_221 : decode cX8_measure 221 = .ok (.aload_n 0, 1) := by decide +kernel
theorem dX8_measure_222 : decode cX8_measure 222 = .ok (.lload 4, 2) := by decide +kernel
theorem dX8_measure_224 : decode cX8_measure 224 = .ok (.lload 6, 2) := by decide +kernel
theorem dX8_measure_226 : decode cX8_measure 226 = .ok (.lload 8, 2) := by decide +kernel
theorem dX8_measure_228 : decode cX8_measure 228 = .ok (.lcmp, 1) := by decide +kernel
theorem dX8_measure_229 : decode cX8_measure 229 = .ok (.ifCond .le 8, 3) := by decide +kernel
theorem dX8_measure_232 : decode cX8_measure 232 = .ok (.lload 6, 2) := by decide +kernel
theorem dX8_measure_234 : decode cX8_measure 234 = .ok (.goto 5, 3) := by decide +kernel
theorem dX8_measure_237 : decode cX8_measure 237 = .ok (.lload 8, 2) := by decide +kernel
theorem dX8_measure_239 : decode cX8_measure 239 = .ok (.invokevirtual 146, 3) := by decide +kernel
theorem dX8_measure_242 : decode cX8_measure 242 = .ok (.goto 137, 3) := by decide +kernel
theorem dX8_measure_245 : decode cX8_measure 245 = .ok (.aload_n 0, 1) := by decide +kernel
theorem dX8_measure_246 : decode cX8_measure 246 = .ok (.lconst 0, 1) := by decide +kernel
theorem dX8_measure_247 : decode cX8_measure 247 = .ok (.lconst 1, 1) := by decide +kernel
theorem dX8_measure_248 : decode cX8_measure 248 = .ok (.invokevirtual 146, 3) := by decide +kernel
theorem dX8_measure_251 : decode cX8_measure 251 = .ok (.iconst 0, 1) := by decide +kernel
theorem dX8_measure_252 : decode cX8_measure 252 = .ok (.istore 10, 2) := by decide +kernel
theorem dX8_measure_254 : decode cX8_measure 254 = .ok (.iload 10, 2) := by decide +kernel
theorem dX8_measure_256 : decode cX8_measure 256 = .ok (.aload_n 0, 1) := by decide +kernel
theorem dX8_measure_257 : decode cX8_measure 257 = .ok (.getfield 7, 3) := by decide +kernel
theorem dX8_measure_260 : decode cX8_measure 260 = .ok (.if_icmp .ge 50, 3) := by decide +kernel
theorem dX8_measure_263 : decode cX8_measure 263 = .ok (.aload_n 0, 1) := by decide +kernel
theorem dX8_measure_264 : decode cX8_measure 264 = .ok (.iload_n 1, 1) := by decide +kernel
theorem dX8_measure_265 : decode cX8_measure 265 = .ok (.iload 10, 2) := by decide +kernel
theorem dX8_measure_267 : decode cX8_measure 267 = .ok (.invokevirtual 127, 3) := by decide +kernel
theorem dX8_measure_270 : decode cX8_measure 270 = .ok (.ifCond .eq 34, 3) := by decide +kernel
theorem dX8_measure_273 : decode cX8_measure 273 = .ok (.aload_n 0, 1) := by decide +kernel
theorem dX8_measure_274 : decode cX8_measure 274 = .ok (.iload 10, 2) := by decide +kernel
theorem dX8_measure_276 : decode cX8_measure 276 = .ok (.iload_n 2, 1) := by decide +kernel
theorem dX8_measure_277 : decode cX8_measure 277 = .ok (.invokevirtual 161, 3) := by decide +kernel
theorem dX8_measure_280 : decode cX8_measure 280 = .ok (.ifCond .eq 24, 3) := by decide +kernel
theorem dX8_measure_283 : decode cX8_measure 283 = .ok (.aload_n 0, 1) := by decide +kernel
theorem dX8_measure_284 : decode cX8_measure 284 = .ok (.iload 10, 2) := by decide +kernel
theorem dX8_measure_286 : decode cX8_measure 286 = .ok (.invokevirtual 150, 3) := by decide +kernel
theorem dX8_measure_289 : decode cX8_measure 289 = .ok (.ifCond .le 15, 3) := by decide +kernel
theorem dX8_measure_292 : decode cX8_measure 292 = .ok (.aload_n 0, 1) := by decide +kernel
theorem dX8_measure_293 : decode cX8_measure 293 = .ok (.lconst 1, 1) := by decide +kernel
theorem dX8_measure_294 : decode cX8_measure 294 = .ok (.aload_n 0, 1) := by decide +kernel
theorem dX8_measure_295 : decode cX8_measure 295 = .ok (.iload 10, 2) := by decide +kernel
theorem dX8_measure_297 : decode cX8_measure 297 = .ok (.invokevirtual 150, 3) := by decide +kernel
theorem dX8_measure_300 : decode cX8_measure 300 = .ok (.i2l, 1) := by decide +kernel
theorem dX8_measure_301 : decode cX8_measure 301 = .ok (.invokevirtual 154, 3) := by decide +kernel
theorem dX8_measure_304 : decode cX8_measure 304 = .ok (.iinc 10 1, 3) := by decide +kernel
theorem dX8_measure_307 : decode cX8_measure 307 = .ok (.goto (-53), 3) := by decide +kernel
theorem dX8_measure_310 : decode cX8_measure 310 = .ok (.goto 69, 3) := by decide +kernel
theorem dX8_measure_313 : decode cX8_measure 313 = .ok (.aload_n 0, 1) := by decide +kernel
theorem dX8_measure_314 : decode cX8_measure 314 = .ok (.aload_n 0, 1) := by decide +kernel
theorem dX8_measure_315 : decode cX8_measure 315 = .ok (.iload_n 1, 1) := by decide +kernel
theorem dX8_measure_316 : decode cX8_measure 316 = .ok (.invokevirtual 150, 3) := by decide +kernel
theorem dX8_measure_319 : decode cX8_measure 319 = .ok (.i2l, 1) := by decide +kernel
theorem dX8_measure_320 : decode cX8_measure 320 = .ok (.aload_n 0, 1) := by decide +kernel
theorem dX8_measure_321 : decode cX8_measure 321 = .ok (.iload_n 2, 1) := by decide +kernel
theorem dX8_measure_322 : decode cX8_measure 322 = .ok (.invokevirtual 166, 3) := by decide +kernel
theorem dX8_measure_325 : decode cX8_measure 325 = .ok (.i2l, 1) := by decide +kernel
theorem dX8_measure_326 : decode cX8_measure 326 = .ok (.lmul, 1) := by decide +kernel
theorem dX8_measure_327 : decode cX8_measure 327 = .ok (.lconst 1, 1) := by decide +kernel
theorem dX8_measure_328 : decode cX8_measure 328 = .ok (.invokevirtual 146, 3) := by decide +kernel
theorem dX8_measure_331 : decode cX8_measure 331 = .ok (.goto 48, 3) := by decide +kernel
theorem dX8_measure_334 : decode cX8_measure 334 = .ok (.aload_n 0, 1) := by decide +kernel
theorem dX8_measure_335 : decode cX8_measure 335 = .ok (.aload_n 0, 1) := by decide +kernel
theorem dX8_measure_336 : decode cX8_measure 336 = .ok (.iload_n 1, 1) := by decide +kernel
theorem dX8_measure_337 : decode cX8_measure 337 = .ok (.iload_n 2, 1) := by decide +kernel
theorem dX8_measure_338 : decode cX8_measure 338 = .ok (.invokevirtual 169, 3) := by decide +kernel
theorem dX8_measure_341 : decode cX8_measure 341 = .ok (.i2l, 1) := by decide +kernel
theorem dX8_measure_342 : decode cX8_measure 342 = .ok (.lconst 1, 1) := by decide +kernel
theorem dX8_measure_343 : decode cX8_measure 343 = .ok (.invokevirtual 146, 3) := by decide +kernel
theorem dX8_measure_346 : decode cX8_measure 346 = .ok (.goto 33, 3) := by decide +kernel
theorem dX8_measure_349 : decode cX8_measure 349 = .ok (.aload_n 0, 1) := by decide +kernel
theorem dX8_measure_350 : decode cX8_measure 350 = .ok (.lconst 1, 1) := by decide +kernel
theorem dX8_measure_351 : decode cX8_measure 351 = .ok (.aload_n 0, 1) := by decide +kernel
theorem dX8_measure_352 : decode cX8_measure 352 = .ok (.iload_n 1, 1) := by decide +kernel
theorem dX8_measure_353 : decode cX8_measure 353 = .ok (.iload_n 2, 1) := by decide +kernel
theorem dX8_measure_354 : decode cX8_measure 354 = .ok (.invokevirtual 173, 3) := by decide +kernel
theorem dX8_measure_357 : decode cX8_measure 357 = .ok (.i2l, 1) := by decide +kernel
theorem dX8_measure_358 : decode cX8_measure 358 = .ok (.invokevirtual 146, 3) := by decide +kernel
theorem dX8_measure_361 : decode cX8_measure 361 = .ok (.goto 18, 3) := by decide +kernel
theorem dX8_measure_364 : decode cX8_measure 364 = .ok (.aload_n 0, 1) := by decide +kernel
theorem dX8_measure_365 : decode cX8_measure 365 = .ok (.iload_n 1, 1) := by decide +kernel
theorem dX8_measure_366 : decode cX8_measure 366 = .ok (.iload_n 2, 1) := by decide +kernel
theorem dX8_measure_367 : decode cX8_measure 367 = .ok (.invokevirtual 175, 3) := by decide +kernel
theorem dX8_measure_370 : decode cX8_measure 370 = .ok (.goto 9, 3) := by decide +kernel
theorem dX8_measure_373 : decode cX8_measure 373 = .ok (.aload_n 0, 1) := by decide +kernel
theorem dX8_measure_374 : decode cX8_measure 374 = .ok (.iload_n 1, 1) := by decide +kernel
theorem dX8_measure_375 : decode cX8_measure 375 = .ok (.iload_n 2, 1) := by decide +kernel
theorem dX8_measure_376 : decode cX8_measure 376 = .ok (.invokevirtual 179, 3) := by decide +kernel
theorem dX8_measure_379 : decode cX8_measure 379 = .ok (.return_, 1) := by decide +kernel
set_option maxRecDepth 20000 in
theorem ggX8_mix_X8_known : GoodIn wsX8_mix wsX8_known := goodIn_r _ [8, 9, 10, 2, 11, 3, 12, 13, 14, 7, 15, 16, 17, 18, 19, 20, 21, 22, 23, 24, 25, 26, 27, 28, 29, 30, 31, 32, 33, 34, 35, 36, 37, 38, 39, 40, 41, 42, 43, 44, 45, 46, 47, 48, 49, 50, 51, 52, 53, 54, 55, 56, 57, 58, 59, 60, 61, 62, 63, 64, 65, 66, 67, 68, 69, 70, 71, 72, 73, 74, 75, 76, 77, 78, 79, 80, 81, 82, 83, 84, 85, 86, 87, 88, 89, 90, 91, 92, 93, 94, 95, 96, 97, 98, 99, 100, 101, 102, 103, 104, 105, 106, 107, 108, 109] rfl (by decide +kernel)
set_option maxRecDepth 20000 in
theorem gX8_mix_X8_known : GoodIn wsX8_mix (wsV RX8 182 RX8 yX8_known wsX8_known) := goodIn_app (goodIn_of _ (by decide +kernel)) ggX8_mix_X8_known
set_option maxRecDepth 20000 in
theorem ggX8_mix_X8_make : GoodIn wsX8_mix wsX8_make := goodIn_r _ [40, 2, 3, 41, 42, 7, 43, 78, 79, 80, 81, 82, 83, 84, 85, 86, 87, 88, 89, 90, 91, 92, 93, 94, 95, 96, 97, 98, 99, 100, 101, 102, 103, 104, 105, 106, 107, 108, 109] rfl (by decide +kernel)
set_option maxRecDepth 20000 in
theorem gX8_mix_X8_make : GoodIn wsX8_mix (wsV RX8 146 RX8 yX8_make wsX8_make) := goodIn_app (goodIn_of _ (by decide +kernel)) ggX8_mix_X8_make
set_option maxRecDepth 20000 in
theorem ggX8_mix_X8_plus : GoodIn wsX8_mix wsX8_plus := goodIn_r _ [51, 3, 2, 41, 42, 7, 43, 37, 38, 39, 40, 78, 79, 80, 81, 82, 83, 84, 85, 86, 87, 88, 89, 90, 91, 92, 93, 94, 95, 96, 97, 98, 99, 100, 101, 102, 103, 104, 105, 106, 107, 108, 109] rfl (by decide +kernel)
set_option maxRecDepth 20000 in
theorem gX8_mix_X8_plus : GoodIn wsX8_mix (wsV RX8 154 RX8 yX8_plus wsX8_plus) := goodIn_app (goodIn_of _ (by decide +kernel)) ggX8_mix_X8_plus
theorem dX8_mix_0 : decode cX8_mix 0 = .ok (.lconst 0, 1) := by decide +kernel
theorem dX8_mix_1 : decode cX8_mix 1 = .ok (.lstore_n 3, 1) := by decide +kernel
theorem dX8_mix_2 : decode cX8_mix 2 = .ok (.lconst 1, 1) := by decide +kernel
theorem dX8_mix_3 : decode cX8_mix 3 = .ok (.lstore 5, 2) := by decide +kernel
theorem dX8_mix_5 : decode cX8_mix 5 = .ok (.iconst 0, 1) := by decide +kernel
theorem dX8_mix_6 : decode cX8_mix 6 = .ok (.istore 7, 2) := by decide +kernel
theorem dX8_mix_8 : decode cX8_mix 8 = .ok (.iload 7, 2) := by decide +kernel
theorem dX8_mix_10 : decode cX8_mix 10 = .ok (.bipush 11, 2) := by decide +kernel
theorem dX8_mix_12 : decode cX8_mix 12 = .ok (.if_icmp .ge 74, 3) := by decide +kernel
theorem dX8_mix_15 : decode cX8_mix 15 = .ok (.aload_n 0, 1) := by decide +kernel
theorem dX8_mix_16 : decode cX8_mix 16 = .ok (.getfield 33, 3) := by decide +kernel
theorem dX8_mix_19 : decode cX8_mix 19 = .ok (.iload 7, 2) := by decide +kernel
theorem dX8_mix_21 : decode cX8_mix 21 = .ok (.iaload, 1) := by decide +kernel
theorem dX8_mix_22 : decode cX8_mix 22 = .ok (.ifCond .eq 58, 3) := by decide +kernel
theorem dX8_mix_25 : decode cX8_mix 25 = .ok (.aload_n 0, 1) := by decide +kernel
theorem dX8_mix_26 : decode cX8_mix 26 = .ok (.iload_n 1, 1) := by decide +kernel
theorem dX8_mix_27 : decode cX8_mix 27 = .ok (.iload_n 2, 1) := by decide +kernel
theorem dX8_mix_28 : decode cX8_mix 28 = .ok (.iload 7, 2) := by decide +kernel
theorem dX8_mix_30 : decode cX8_mix 30 = .ok (.invokevirtual 182, 3) := by decide +kernel
theorem dX8_mix_33 : decode cX8_mix 33 = .ok (.aload_n 0, 1) := by decide +kernel
theorem dX8_mix_34 : decode cX8_mix 34 = .ok (.getfield 136, 3) := by decide +kernel
theorem dX8_mix_37 : decode cX8_mix 37 = .ok (.aload_n 0, 1) := by decide +kernel
theorem dX8_mix_38 : decode cX8_mix 38 = .ok (.getfield 33, 3) := by decide +kernel
theorem dX8_mix_41 : decode cX8_mix 41 = .ok (.iload 7, 2) := by decide +kernel
theorem dX8_mix_43 : decode cX8_mix 43 = .ok (.iaload, 1) := by decide +kernel
theorem dX8_mix_44 : decode cX8_mix 44 = .ok (.i2l, 1) := by decide +kernel
theorem dX8_mix_45 : decode cX8_mix 45 = .ok (.lmul, 1) := by decide +kernel
theorem dX8_mix_46 : decode cX8_mix 46 = .ok (.lstore 8, 2) := by decide +kernel
theorem dX8_mix_48 : decode cX8_mix 48 = .ok (.aload_n 0, 1) := by decide +kernel
theorem dX8_mix_49 : decode cX8_mix 49 = .ok (.getfield 139, 3) := by decide +kernel
theorem dX8_mix_52 : decode cX8_mix 52 = .ok (.lstore 10, 2) := by decide +kernel
theorem dX8_mix_54 : decode cX8_mix 54 = .ok (.aload_n 0, 1) := by decide +kernel
theorem dX8_mix_55 : decode cX8_mix 55 = .ok (.lload_n 3, 1) := by decide +kernel
theorem dX8_mix_56 : decode cX8_mix 56 = .ok (.lload 5, 2) := by decide +kernel
theorem dX8_mix_58 : decode cX8_mix 58 = .ok (.invokevirtual 146, 3) := by decide +kernel
theorem dX8_mix_61 : decode cX8_mix 61 = .ok (.aload_n 0, 1) := by decide +kernel
theorem dX8_mix_62 : decode cX8_mix 62 = .ok (.lload 8, 2) := by decide +kernel
theorem dX8_mix_64 : decode cX8_mix 64 = .ok (.lload 10, 2) := by decide +kernel
theorem dX8_mix_66 : decode cX8_mix 66 = .ok (.invokevirtual 154, 3) := by decide +kernel
theorem dX8_mix_69 : decode cX8_mix 69 = .ok (.aload_n 0, 1) := by decide +kernel
theorem dX8_mix_70 : decode cX8_mix 70 = .ok (.getfield 136, 3) := by decide +kernel
theorem dX8_mix_73 : decode cX8_mix 73 = .ok (.lstore_n 3, 1) := by decide +kernel
theorem dX8_mix_74 : decode cX8_mix 74 = .ok (.aload_n 0, 1) := by decide +kernel
theorem dX8_mix_75 : decode cX8_mix 75 = .ok (.getfield 139, 3) := by decide +kernel
theorem dX8_mix_78 : decode cX8_mix 78 = .ok (.lstore 5, 2) := by decide +kernel
theorem dX8_mix_80 : decode cX8_mix 80 = .ok (.iinc 7 1, 3) := by decide +kernel
theorem dX8_mix_83 : decode cX8_mix 83 = .ok (.goto (-75), 3) := by decide +kernel
theorem dX8_mix_86 : decode cX8_mix 86 = .ok (.aload_n 0, 1) := by decide +kernel
theorem dX8_mix_87 : decode cX8_mix 87 = .ok (.lload_n 3, 1) := by decide +kernel
theorem dX8_mix_88 : decode cX8_mix 88 = .ok (.lload 5, 2) := by decide +kernel
theorem dX8_mix_90 : decode cX8_mix 90 = .ok (.invokevirtual 146, 3) := by decide +kernel
theorem dX8_mix_93 : decode cX8_mix 93 = .ok (.return_, 1) := by decide +kernel
set_option maxRecDepth 20000 in
theorem ggX8_score_X8_isTold : GoodIn wsX8_score wsX8_isTold := goodIn_r _ [5, 6, 7, 8, 9, 4, 10, 11, 12, 13, 14, 15, 96, 97, 98, 99, 100, 101, 102, 103, 104, 105, 106, 107, 108, 109, 110, 111, 112, 113, 114, 115, 116, 117, 118, 119, 120, 121, 122, 123, 124, 125, 126, 127] rfl (by decide +kernel)
set_option maxRecDepth 20000 in
theorem gX8_score_X8_isTold : GoodIn wsX8_score (wsV RX8 113 RX8 yX8_isTold wsX8_isTold) := goodIn_app (goodIn_of _ (by decide +kernel)) ggX8_score_X8_isTold
set_option maxRecDepth 20000 in
theorem ggX8_score_X8_isTurned : GoodIn wsX8_score wsX8_isTurned := goodIn_r _ [19, 12, 13, 14, 4, 15, 6, 11, 96, 97, 98, 99, 100, 101, 102, 103, 104, 105, 106, 107, 108, 109, 110, 111, 112, 113, 114, 115, 116, 117, 118, 119, 120, 121, 122, 123, 124, 125, 126, 127] rfl (by decide +kernel)
set_option maxRecDepth 20000 in
theorem gX8_score_X8_isTurned : GoodIn wsX8_score (wsV RX8 185 RX8 yX8_isTurned wsX8_isTurned) := goodIn_app (goodIn_of _ (by decide +kernel)) ggX8_score_X8_isTurned
set_option maxRecDepth 20000 in
theorem ggX8_score_X8_mix : GoodIn wsX8_score wsX8_mix := goodIn_r _ [23, 24, 25, 26, 27, 28, 29, 4, 30, 31, 32, 33, 7, 8, 9, 10, 11, 12, 13, 14, 15, 6, 34, 35, 36, 37, 38, 39, 40, 41, 42, 43, 44, 45, 46, 47, 48, 49, 50, 51, 52, 53, 54, 55, 56, 57, 58, 59, 60, 61, 62, 63, 64, 65, 66, 67, 68, 69, 70, 71, 72, 73, 74, 75, 76, 77, 78, 79, 80, 81, 82, 83, 84, 85, 86, 87, 88, 89, 96, 97, 98, 99, 100, 101, 102, 103, 104, 105, 106, 107, 108, 109, 110, 111, 112, 113, 114, 115, 116, 117, 118, 119, 120, 121, 122, 123, 124, 125, 126, 127] rfl (by decide +kernel)
set_option maxRecDepth 20000 in
theorem gX8_score_X8_mix : GoodIn wsX8_score (wsV RX8 188 RX8 yX8_mix wsX8_mix) := goodIn_app (goodIn_of _ (by decide +kernel)) ggX8_score_X8_mix
set_option maxRecDepth 20000 in
theorem ggX8_score_X8_known : GoodIn wsX8_score wsX8_known := goodIn_r _ [30, 31, 32, 25, 33, 26, 7, 8, 9, 4, 10, 11, 12, 13, 14, 15, 6, 34, 35, 36, 37, 38, 39, 40, 41, 42, 43, 44, 45, 46, 47, 48, 49, 50, 51, 52, 53, 54, 55, 56, 57, 58, 59, 60, 61, 62, 63, 64, 65, 66, 67, 68, 69, 70, 71, 72, 73, 74, 75, 76, 77, 78, 79, 80, 81, 82, 83, 84, 85, 86, 87, 88, 89, 96, 97, 98, 99, 100, 101, 102, 103, 104, 105, 106, 107, 108, 109, 110, 111, 112, 113, 114, 115, 116, 117, 118, 119, 120, 121, 122, 123, 124, 125, 126, 127] rfl (by decide +kernel)
set_option maxRecDepth 20000 in
theorem gX8_score_X8_known : GoodIn wsX8_score (wsV RX8 182 RX8 yX8_known wsX8_known) := goodIn_app (goodIn_of _ (by decide +kernel)) ggX8_score_X8_known
set_option maxRecDepth 20000 in
theorem ggX8_score_X8_show : GoodIn wsX8_score wsX8_show := goodIn_r _ [93, 25, 94, 26, 95, 96, 97, 98, 99, 100, 101, 102, 103, 104, 105, 106, 107, 108, 109, 110, 111, 112, 113, 114, 115, 116, 117, 118, 119, 120, 121, 122, 123, 124, 125, 126, 127] rfl (by decide +kernel)
set_option maxRecDepth 20000 in
theorem gX8_score_X8_show : GoodIn wsX8_score (wsV RX8 191 RX8 yX8_show wsX8_show) := goodIn_app (goodIn_of _ (by decide +kernel)) ggX8_score_X8_show
theorem dX8_score_0 : decode cX8_score 0 = .ok (.aload_n 0, 1) := by decide +kernel
theorem dX8_score_1 : decode cX8_score 1 = .ok (.iload_n 1, 1) := by decide +kernel
theorem dX8_score_2 : decode cX8_score 2 = .ok (.iload_n 2, 1) := by decide +kernel
theorem dX8_score_3 : decode cX8_score 3 = .ok (.invokevirtual 113, 3) := by decide +kernel
theorem dX8_score_6 : decode cX8_score 6 = .ok (.ifCond .ne 5, 3) := by decide +kernel
theorem dX8_score_9 : decode cX8_score 9 = .ok (.iconst (-1), 1) := by decide +kernel
theorem dX8_score_10 : decode cX8_score 10 = .ok (.ireturn, 1) := by decide +kernel
theorem dX8_score_11 : decode cX8_score 11 = .ok (.iload_n 3, 1) := by decide +kernel
theorem dX8_score_12 : decode cX8_score 12 = .ok (.ifCond .lt 9, 3) := by decide +kernel
theorem dX8_score_15 : decode cX8_score 15 = .ok (.iload_n 3, 1) := by decide +kernel
theorem dX8_score_16 : decode cX8_score 16 = .ok (.bipush 11, 2) := by decide +kernel
theorem dX8_score_18 : decode cX8_score 18 = .ok (.if_icmp .le 6, 3) := by decide +kernel
theorem dX8_score_21 : decode cX8_score 21 = .ok (.bipush (-2), 2) := by decide +kernel
theorem dX8_score_23 : decode cX8_score 23 = .ok (.ireturn, 1) := by decide +kernel
theorem dX8_score_24 : decode cX8_score 24 = .ok (.aload_n 0, 1) := by decide +kernel
theorem dX8_score_25 : decode cX8_score 25 = .ok (.iload_n 1, 1) := by decide +kernel
theorem dX8_score_26 : decode cX8_score 26 = .ok (.iload_n 2, 1) := by decide +kernel
theorem dX8_score_27 : decode cX8_score 27 = .ok (.invokevirtual 185, 3) := by decide +kernel
theorem dX8_score_30 : decode cX8_score 30 = .ok (.ifCond .eq 7, 3) := by decide +kernel
theorem dX8_score_33 : decode cX8_score 33 = .ok (.iload_n 2, 1) := by decide +kernel
theorem dX8_score_34 : decode cX8_score 34 = .ok (.goto 4, 3) := by decide +kernel
theorem dX8_score_37 : decode cX8_score 37 = .ok (.iload_n 1, 1) := by decide +kernel
theorem dX8_score_38 : decode cX8_score 38 = .ok (.istore 4, 2) := by decide +kernel
theorem dX8_score_40 : decode cX8_score 40 = .ok (.aload_n 0, 1) := by decide +kernel
theorem dX8_score_41 : decode cX8_score 41 = .ok (.iload_n 1, 1) := by decide +kernel
theorem dX8_score_42 : decode cX8_score 42 = .ok (.iload_n 2, 1) := by decide +kernel
theorem dX8_score_43 : decode cX8_score 43 = .ok (.invokevirtual 185, 3) := by decide +kernel
theorem dX8_score_46 : decode cX8_score 46 = .ok (.ifCond .eq 7, 3) := by decide +kernel
theorem dX8_score_49 : decode cX8_score 49 = .ok (.iload_n 1, 1) := by decide +kernel
theorem dX8_score_50 : decode cX8_score 50 = .ok (.goto 4, 3) := by decide +kernel
theorem dX8_score_53 : decode cX8_score 53 = .ok (.iload_n 2, 1) := by decide +kernel
theorem dX8_score_54 : decode cX8_score 54 = .ok (.istore 5, 2) := by decide +kernel
theorem dX8_score_56 : decode cX8_score 56 = .ok (.iload_n 3, 1) := by decide +kernel
theorem dX8_score_57 : decode cX8_score 57 = .ok (.bipush 11, 2) := by decide +kernel
theorem dX8_score_59 : decode cX8_score 59 = .ok (.if_icmp .ne 14, 3) := by decide +kernel
theorem dX8_score_62 : decode cX8_score 62 = .ok (.aload_n 0, 1) := by decide +kernel
theorem dX8_score_63 : decode cX8_score 63 = .ok (.iload 4, 2) := by decide +kernel
theorem dX8_score_65 : decode cX8_score 65 = .ok (.iload 5, 2) := by decide +kernel
theorem dX8_score_67 : decode cX8_score 67 = .ok (.invokevirtual 188, 3) := by decide +kernel
theorem dX8_score_70 : decode cX8_score 70 = .ok (.goto 12, 3) := by decide +kernel
theorem dX8_score_73 : decode cX8_score 73 = .ok (.aload_n 0, 1) := by decide +kernel
theorem dX8_score_74 : decode cX8_score 74 = .ok (.iload 4, 2) := by decide +kernel
theorem dX8_score_76 : decode cX8_score 76 = .ok (.iload 5, 2) := by decide +kernel
theorem dX8_score_78 : decode cX8_score 78 = .ok (.iload_n 3, 1) := by decide +kernel
theorem dX8_score_79 : decode cX8_score 79 = .ok (.invokevirtual 182, 3) := by decide +kernel
theorem dX8_score_82 : decode cX8_score 82 = .ok (.aload_n 0, 1) := by decide +kernel
theorem dX8_score_83 : decode cX8_score 83 = .ok (.invokevirtual 191, 3) := by decide +kernel
theorem dX8_score_86 : decode cX8_score 86 = .ok (.iconst 1, 1) := by decide +kernel
theorem dX8_score_87 : decode cX8_score 87 = .ok (.ireturn, 1) := by decide +kernel
theorem dX8_compare_0 : decode cX8_compare 0 = .ok (.aload_n 0, 1) := by decide +kernel
theorem dX8_compare_1 : decode cX8_compare 1 = .ok (.getfield 68, 3) := by decide +kernel
theorem dX8_compare_4 : decode cX8_compare 4 = .ok (.iload_n 1, 1) := by decide +kernel
theorem dX8_compare_5 : decode cX8_compare 5 = .ok (.laload, 1) := by decide +kernel
theorem dX8_compare_6 : decode cX8_compare 6 = .ok (.ldc2_w 194, 3) := by decide +kernel
theorem dX8_compare_9 : decode cX8_compare 9 = .ok (.aload_n 0, 1) := by decide +kernel
theorem dX8_compare_10 : decode cX8_compare 10 = .ok (.getfield 71, 3) := by decide +kernel
theorem dX8_compare_13 : decode cX8_compare 13 = .ok (.iload_n 1, 1) := by decide +kernel
theorem dX8_compare_14 : decode cX8_compare 14 = .ok (.laload, 1) := by decide +kernel
theorem dX8_compare_15 : decode cX8_compare 15 = .ok (.ldiv, 1) := by decide +kernel
theorem dX8_compare_16 : decode cX8_compare 16 = .ok (.lmul, 1) := by decide +kernel
theorem dX8_compare_17 : decode cX8_compare 17 = .ok (.lstore_n 3, 1) := by decide +kernel
theorem dX8_compare_18 : decode cX8_compare 18 = .ok (.aload_n 0, 1) := by decide +kernel
theorem dX8_compare_19 : decode cX8_compare 19 = .ok (.getfield 68, 3) := by decide +kernel
theorem dX8_compare_22 : decode cX8_compare 22 = .ok (.iload_n 2, 1) := by decide +kernel
theorem dX8_compare_23 : decode cX8_compare 23 = .ok (.laload, 1) := by decide +kernel
theorem dX8_compare_24 : decode cX8_compare 24 = .ok (.ldc2_w 194, 3) := by decide +kernel
theorem dX8_compare_27 : decode cX8_compare 27 = .ok (.aload_n 0, 1) := by decide +kernel
theorem dX8_compare_28 : decode cX8_compare 28 = .ok (.getfield 71, 3) := by decide +kernel
theorem dX8_compare_31 : decode cX8_compare 31 = .ok (.iload_n 2, 1) := by decide +kernel
theorem dX8_compare_32 : decode cX8_compare 32 = .ok (.laload, 1) := by decide +kernel
theorem dX8_compare_33 : decode cX8_compare 33 = .ok (.ldiv, 1) := by decide +kernel
theorem dX8_compare_34 : decode cX8_compare 34 = .ok (.lmul, 1) := by decide +kernel
theorem dX8_compare_35 : decode cX8_compare 35 = .ok (.lstore 5, 2) := by decide +kernel
theorem dX8_compare_37 : decode cX8_compare 37 = .ok (.lload_n 3, 1) := by decide +kernel
theorem dX8_compare_38 : decode cX8_compare 38 = .ok (.lload 5, 2) := by decide +kernel
theorem dX8_compare_40 : decode cX8_compare 40 = .ok (.lcmp, 1) := by decide +kernel
theorem dX8_compare_41 : decode cX8_compare 41 = .ok (.ifCond .ge 7, 3) := by decide +kernel
theorem dX8_compare_44 : decode cX8_compare 44 = .ok (.iconst (-1), 1) := by decide +kernel
theorem dX8_compare_45 : decode cX8_compare 45 = .ok (.goto 15, 3) := by decide +kernel
theorem dX8_compare_48 : decode cX8_compare 48 = .ok (.lload_n 3, 1) := by decide +kernel
theorem dX8_compare_49 : decode cX8_compare 49 = .ok (.lload 5, 2) := by decide +kernel
theorem dX8_compare_51 : decode cX8_compare 51 = .ok (.lcmp, 1) := by decide +kernel
theorem dX8_compare_52 : decode cX8_compare 52 = .ok (.ifCond .le 7, 3) := by decide +kernel
theorem dX8_compare_55 : decode cX8_compare 55 = .ok (.iconst 1, 1) := by decide +kernel
theorem dX8_compare_56 : decode cX8_compare 56 = .ok (.goto 4, 3) := by decide +kernel
theorem dX8_compare_59 : decode cX8_compare 59 = .ok (.iconst 0, 1) := by decide +kernel
theorem dX8_compare_60 : decode cX8_compare 60 = .ok (.ireturn, 1) := by decide +kernel
set_option maxRecDepth 20000 in
theorem ggX8_rank_X8_isPair : GoodIn wsX8_rank wsX8_isPair := goodIn_r _ [11, 12, 1, 94, 95, 96, 97, 98, 99, 100, 101, 102, 103, 104, 105, 106, 107, 108, 109, 110, 111, 112, 113, 114, 115, 116, 117, 118, 119, 120, 121, 122, 123, 124, 125] rfl (by decide +kernel)
set_option maxRecDepth 20000 in
theorem gX8_rank_X8_isPair : GoodIn wsX8_rank (wsV RX8 105 RX8 yX8_isPair wsX8_isPair) := goodIn_app (goodIn_of _ (by decide +kernel)) ggX8_rank_X8_isPair
set_option maxRecDepth 20000 in
theorem ggX8_rank_X8_isCandidate : GoodIn wsX8_rank wsX8_isCandidate := goodIn_r _ [16, 17, 18, 19, 10, 20, 21, 22, 94, 95, 96, 97, 98, 99, 100, 101, 102, 103, 104, 105, 106, 107, 108, 109, 110, 111, 112, 113, 114, 115, 116, 117, 118, 119, 120, 121, 122, 123, 124, 125] rfl (by decide +kernel)
set_option maxRecDepth 20000 in
theorem gX8_rank_X8_isCandidate : GoodIn wsX8_rank (wsV RX8 196 RX8 yX8_isCandidate wsX8_isCandidate) := goodIn_app (goodIn_of _ (by decide +kernel)) ggX8_rank_X8_isCandidate
set_option maxRecDepth 20000 in
theorem ggX8_rank_X8_mix : GoodIn wsX8_rank wsX8_mix := goodIn_r _ [26, 27, 3, 5, 28, 29, 30, 10, 31, 32, 33, 34, 35, 36, 37, 38, 1, 7, 8, 9, 11, 12, 39, 40, 41, 42, 43, 17, 18, 19, 20, 21, 22, 44, 45, 46, 47, 48, 49, 50, 51, 52, 53, 54, 55, 56, 57, 58, 59, 60, 61, 62, 63, 64, 65, 66, 67, 68, 69, 70, 71, 72, 73, 74, 75, 76, 77, 78, 79, 80, 81, 82, 83, 84, 85, 86, 87, 88, 94, 95, 96, 97, 98, 99, 100, 101, 102, 103, 104, 105, 106, 107, 108, 109, 110, 111, 112, 113, 114, 115, 116, 117, 118, 119, 120, 121, 122, 123, 124, 125] rfl (by decide +kernel)
set_option maxRecDepth 20000 in
theorem gX8_rank_X8_mix : GoodIn wsX8_rank (wsV RX8 188 RX8 yX8_mix wsX8_mix) := goodIn_app (goodIn_of _ (by decide +kernel)) ggX8_rank_X8_mix
set_option maxRecDepth 20000 in
theorem ggX8_rank_X8_compare : GoodIn wsX8_rank wsX8_compare := goodIn_r _ [92, 2, 93, 4, 94, 95, 96, 97, 98, 99, 100, 101, 102, 103, 104, 105, 106, 107, 108, 109, 110, 111, 112, 113, 114, 115, 116, 117, 118, 119, 120, 121, 122, 123, 124, 125] rfl (by decide +kernel)
set_option maxRecDepth 20000 in
theorem gX8_rank_X8_compare : GoodIn wsX8_rank (wsV RX8 199 RX8 yX8_compare wsX8_compare) := goodIn_app (goodIn_of _ (by decide +kernel)) ggX8_rank_X8_compare
theorem dX8_rank_0 : decode cX8_rank 0 = .ok (.iconst 0, 1) := by decide +kernel
theorem dX8_rank_1 : decode cX8_rank 1 = .ok (.istore_n 1, 1) := by decide +kernel
theorem dX8_rank_2 : decode cX8_rank 2 = .ok (.iconst 0, 1) := by decide +kernel
theorem dX8_rank_3 : decode cX8_rank 3 = .ok (.istore_n 2, 1) := by decide +kernel
theorem dX8_rank_4 : decode cX8_rank 4 = .ok (.iload_n 2, 1) := by decide +kernel
theorem dX8_rank_5 : decode cX8_rank 5 = .ok (.aload_n 0, 1) := by decide +kernel
theorem dX8_rank_6 : decode cX8_rank 6 = .ok (.getfield 7, 3) := by decide +kernel
theorem dX8_rank_9 : decode cX8_rank 9 = .ok (.if_icmp .ge 139, 3) := by decide +kernel
theorem dX8_rank_12 : decode cX8_rank 12 = .ok (.iconst 0, 1) := by decide +kernel
theorem dX8_rank_13 : decode cX8_rank 13 = .ok (.istore_n 3, 1) := by decide +kernel
theorem dX8_rank_14 : decode cX8_rank 14 = .ok (.iload_n 3, 1) := by decide +kernel
theorem dX8_rank_15 : decode cX8_rank 15 = .ok (.aload_n 0, 1) := by decide +kernel
theorem dX8_rank_16 : decode cX8_rank 16 = .ok (.getfield 7, 3) := by decide +kernel
theorem dX8_rank_19 : decode cX8_rank 19 = .ok (.if_icmp .ge 123, 3) := by decide +kernel
theorem dX8_rank_22 : decode cX8_rank 22 = .ok (.aload_n 0, 1) := by decide +kernel
theorem dX8_rank_23 : decode cX8_rank 23 = .ok (.iload_n 2, 1) := by decide +kernel
theorem dX8_rank_24 : decode cX8_rank 24 = .ok (.iload_n 3, 1) := by decide +kernel
theorem dX8_rank_25 : decode cX8_rank 25 = .ok (.invokevirtual 105, 3) := by decide +kernel
theorem dX8_rank_28 : decode cX8_rank 28 = .ok (.ifCond .eq 108, 3) := by decide +kernel
theorem dX8_rank_31 : decode cX8_rank 31 = .ok (.aload_n 0, 1) := by decide +kernel
theorem dX8_rank_32 : decode cX8_rank 32 = .ok (.iload_n 2, 1) := by decide +kernel
theorem dX8_rank_33 : decode cX8_rank 33 = .ok (.iload_n 3, 1) := by decide +kernel
theorem dX8_rank_34 : decode cX8_rank 34 = .ok (.invokevirtual 196, 3) := by decide +kernel
theorem dX8_rank_37 : decode cX8_rank 37 = .ok (.ifCond .eq 99, 3) := by decide +kernel
theorem dX8_rank_40 : decode cX8_rank 40 = .ok (.bipush 12, 2) := by decide +kernel
theorem dX8_rank_42 : decode cX8_rank 42 = .ok (.iload_n 2, 1) := by decide +kernel
theorem dX8_rank_43 : decode cX8_rank 43 = .ok (.imul, 1) := by decide +kernel
theorem dX8_rank_44 : decode cX8_rank 44 = .ok (.iload_n 3, 1) := by decide +kernel
theorem dX8_rank_45 : decode cX8_rank 45 = .ok (.iadd, 1) := by decide +kernel
theorem dX8_rank_46 : decode cX8_rank 46 = .ok (.istore 4, 2) := by decide +kernel
theorem dX8_rank_48 : decode cX8_rank 48 = .ok (.aload_n 0, 1) := by decide +kernel
theorem dX8_rank_49 : decode cX8_rank 49 = .ok (.iload_n 2, 1) := by decide +kernel
theorem dX8_rank_50 : decode cX8_rank 50 = .ok (.iload_n 3, 1) := by decide +kernel
theorem dX8_rank_51 : decode cX8_rank 51 = .ok (.invokevirtual 188, 3) := by decide +kernel
theorem dX8_rank_54 : decode cX8_rank 54 = .ok (.aload_n 0, 1) := by decide +kernel
theorem dX8_rank_55 : decode cX8_rank 55 = .ok (.getfield 68, 3) := by decide +kernel
theorem dX8_rank_58 : decode cX8_rank 58 = .ok (.iload 4, 2) := by decide +kernel
theorem dX8_rank_60 : decode cX8_rank 60 = .ok (.aload_n 0, 1) := by decide +kernel
theorem dX8_rank_61 : decode cX8_rank 61 = .ok (.getfield 136, 3) := by decide +kernel
theorem dX8_rank_64 : decode cX8_rank 64 = .ok (.lastore, 1) := by decide +kernel
theorem dX8_rank_65 : decode cX8_rank 65 = .ok (.aload_n 0, 1) := by decide +kernel
theorem dX8_rank_66 : decode cX8_rank 66 = .ok (.getfield 71, 3) := by decide +kernel
theorem dX8_rank_69 : decode cX8_rank 69 = .ok (.iload 4, 2) := by decide +kernel
theorem dX8_rank_71 : decode cX8_rank 71 = .ok (.aload_n 0, 1) := by decide +kernel
theorem dX8_rank_72 : decode cX8_rank 72 = .ok (.getfield 139, 3) := by decide +kernel
theorem dX8_rank_75 : decode cX8_rank 75 = .ok (.lastore, 1) := by decide +kernel
theorem dX8_rank_76 : decode cX8_rank 76 = .ok (.iload_n 1, 1) := by decide +kernel
theorem dX8_rank_77 : decode cX8_rank 77 = .ok (.istore 5, 2) := by decide +kernel
theorem dX8_rank_79 : decode cX8_rank 79 = .ok (.iload 5, 2) := by decide +kernel
theorem dX8_rank_81 : decode cX8_rank 81 = .ok (.ifCond .le 43, 3) := by decide +kernel
theorem dX8_rank_84 : decode cX8_rank 84 = .ok (.aload_n 0, 1) := by decide +kernel
theorem dX8_rank_85 : decode cX8_rank 85 = .ok (.aload_n 0, 1) := by decide +kernel
theorem dX8_rank_86 : decode cX8_rank 86 = .ok (.getfield 65, 3) := by decide +kernel
theorem dX8_rank_89 : decode cX8_rank 89 = .ok (.iload 5, 2) := by decide +kernel
theorem dX8_rank_91 : decode cX8_rank 91 = .ok (.iconst 1, 1) := by decide +kernel
theorem dX8_rank_92 : decode cX8_rank 92 = .ok (.isub, 1) := by decide +kernel
theorem dX8_rank_93 : decode cX8_rank 93 = .ok (.iaload, 1) := by decide +kernel
theorem dX8_rank_94 : decode cX8_rank 94 = .ok (.iload 4, 2) := by decide +kernel
theorem dX8_rank_96 : decode cX8_rank 96 = .ok (.invokevirtual 199, 3) := by decide +kernel
theorem dX8_rank_99 : decode cX8_rank 99 = .ok (.ifCond .ge 25, 3) := by decide +kernel
theorem dX8_rank_102 : decode cX8_rank 102 = .ok (.aload_n 0, 1) := by decide +kernel
theorem dX8_rank_103 : decode cX8_rank 103 = .ok (.getfield 65, 3) := by decide +kernel
theorem dX8_rank_106 : decode cX8_rank 106 = .ok (.iload 5, 2) := by decide +kernel
theorem dX8_rank_108 : decode cX8_rank 108 = .ok (.aload_n 0, 1) := by decide +kernel
theorem dX8_rank_109 : decode cX8_rank 109 = .ok (.getfield 65, 3) := by decide +kernel
theorem dX8_rank_112 : decode cX8_rank 112 = .ok (.iload 5, 2) := by decide +kernel
theorem dX8_rank_114 : decode cX8_rank 114 = .ok (.iconst 1, 1) := by decide +kernel
theorem dX8_rank_115 : decode cX8_rank 115 = .ok (.isub, 1) := by decide +kernel
theorem dX8_rank_116 : decode cX8_rank 116 = .ok (.iaload, 1) := by decide +kernel
theorem dX8_rank_117 : decode cX8_rank 117 = .ok (.iastore, 1) := by decide +kernel
theorem dX8_rank_118 : decode cX8_rank 118 = .ok (.iinc 5 (-1), 3) := by decide +kernel
theorem dX8_rank_121 : decode cX8_rank 121 = .ok (.goto (-42), 3) := by decide +kernel
theorem dX8_rank_124 : decode cX8_rank 124 = .ok (.aload_n 0, 1) := by decide +kernel
theorem dX8_rank_125 : decode cX8_rank 125 = .ok (.getfield 65, 3) := by decide +kernel
theorem dX8_rank_128 : decode cX8_rank 128 = .ok (.iload 5, 2) := by decide +kernel
theorem dX8_rank_130 : decode cX8_rank 130 = .ok (.iload 4, 2) := by decide +kernel
theorem dX8_rank_132 : decode cX8_rank 132 = .ok (.iastore, 1) := by decide +kernel
theorem dX8_rank_133 : decode cX8_rank 133 = .ok (.iinc 1 1, 3) := by decide +kernel
theorem dX8_rank_136 : decode cX8_rank 136 = .ok (.iinc 3 1, 3) := by decide +kernel
theorem dX8_rank_139 : decode cX8_rank 139 = .ok (.goto (-125), 3) := by decide +kernel
theorem dX8_rank_142 : decode cX8_rank 142 = .ok (.iinc 2 1, 3) := by decide +kernel
theorem dX8_rank_145 : decode cX8_rank 145 = .ok (.goto (-141), 3) := by decide +kernel
theorem dX8_rank_148 : decode cX8_rank 148 = .ok (.iload_n 1, 1) := by decide +kernel
theorem dX8_rank_149 : decode cX8_rank 149 = .ok (.ireturn, 1) := by decide +kernel
set_option maxRecDepth 20000 in
theorem ggX8_ranked_X8_rank : GoodIn wsX8_ranked wsX8_rank := goodIn_r _ [6, 7, 8, 9, 10, 11, 1, 12, 13, 14, 5, 15, 16, 17, 18, 19, 20, 21, 22, 23, 24, 25, 26, 27, 28, 29, 30, 31, 32, 33, 34, 35, 36, 37, 38, 39, 40, 41, 42, 43, 44, 45, 46, 47, 48, 49, 50, 51, 52, 53, 54, 55, 56, 57, 58, 59, 60, 61, 62, 63, 64, 65, 66, 67, 68, 69, 70, 71, 72, 73, 74, 75, 76, 77, 78, 79, 80, 81, 82, 83, 84, 85, 86, 87, 88, 89, 90, 91, 92, 93, 94, 95, 96, 97, 98, 99, 100, 101, 102, 103, 104, 105, 106, 107, 108, 109, 110, 111, 112, 113, 114, 115, 116, 117, 118, 119, 120, 121, 122, 123, 124, 125, 126, 127, 128, 129] rfl (by decide +kernel)
set_option maxRecDepth 20000 in
theorem gX8_ranked_X8_rank : GoodIn wsX8_ranked (wsV RX8 130 RX8 yX8_rank wsX8_rank) := goodIn_app (goodIn_of _ (by decide +kernel)) ggX8_ranked_X8_rank
theorem dX8_ranked_0 : decode cX8_ranked 0 = .ok (.aload_n 0, 1) := by decide +kernel
theorem dX8_ranked_1 : decode cX8_ranked 1 = .ok (.invokevirtual 130, 3) := by decide +kernel
theorem dX8_ranked_4 : decode cX8_ranked 4 = .ok (.istore_n 2, 1) := by decide +kernel
theorem dX8_ranked_5 : decode cX8_ranked 5 = .ok (.iload_n 1, 1) := by decide +kernel
theorem dX8_ranked_6 : decode cX8_ranked 6 = .ok (.ifCond .lt 8, 3) := by decide +kernel
theorem dX8_ranked_9 : decode cX8_ranked 9 = .ok (.iload_n 1, 1) := by decide +kernel
theorem dX8_ranked_10 : decode cX8_ranked 10 = .ok (.iload_n 2, 1) := by decide +kernel
theorem dX8_ranked_11 : decode cX8_ranked 11 = .ok (.if_icmp .lt 8, 3) := by decide +kernel
theorem dX8_ranked_14 : decode cX8_ranked 14 = .ok (.bipush (-2), 2) := by decide +kernel
theorem dX8_ranked_16 : decode cX8_ranked 16 = .ok (.goto 25, 3) := by decide +kernel
theorem dX8_ranked_19 : decode cX8_ranked 19 = .ok (.bipush 16, 2) := by decide +kernel
theorem dX8_ranked_21 : decode cX8_ranked 21 = .ok (.aload_n 0, 1) := by decide +kernel
theorem dX8_ranked_22 : decode cX8_ranked 22 = .ok (.getfield 65, 3) := by decide +kernel
theorem dX8_ranked_25 : decode cX8_ranked 25 = .ok (.iload_n 1, 1) := by decide +kernel
theorem dX8_ranked_26 : decode cX8_ranked 26 = .ok (.iaload, 1) := by decide +kernel
theorem dX8_ranked_27 : decode cX8_ranked 27 = .ok (.bipush 12, 2) := by decide +kernel
theorem dX8_ranked_29 : decode cX8_ranked 29 = .ok (.idiv, 1) := by decide +kernel
theorem dX8_ranked_30 : decode cX8_ranked 30 = .ok (.imul, 1) := by decide +kernel
theorem dX8_ranked_31 : decode cX8_ranked 31 = .ok (.aload_n 0, 1) := by decide +kernel
theorem dX8_ranked_32 : decode cX8_ranked 32 = .ok (.getfield 65, 3) := by decide +kernel
theorem dX8_ranked_35 : decode cX8_ranked 35 = .ok (.iload_n 1, 1) := by decide +kernel
theorem dX8_ranked_36 : decode cX8_ranked 36 = .ok (.iaload, 1) := by decide +kernel
theorem dX8_ranked_37 : decode cX8_ranked 37 = .ok (.bipush 12, 2) := by decide +kernel
theorem dX8_ranked_39 : decode cX8_ranked 39 = .ok (.irem, 1) := by decide +kernel
theorem dX8_ranked_40 : decode cX8_ranked 40 = .ok (.iadd, 1) := by decide +kernel
theorem dX8_ranked_41 : decode cX8_ranked 41 = .ok (.ireturn, 1) := by decide +kernel
set_option maxRecDepth 20000 in
theorem ggX8_place_X8_isTold : GoodIn wsX8_place wsX8_isTold := goodIn_r _ [6, 7, 8, 9, 10, 5, 11, 12, 13, 14, 15, 16, 106, 107, 108, 109, 110, 111, 112, 113, 114, 115, 116, 117, 118, 119, 120, 121, 122, 123, 124, 125, 126, 127, 128, 129, 130, 131, 132, 133, 134, 135, 136, 137] rfl (by decide +kernel)
set_option maxRecDepth 20000 in
theorem gX8_place_X8_isTold : GoodIn wsX8_place (wsV RX8 113 RX8 yX8_isTold wsX8_isTold) := goodIn_app (goodIn_of _ (by decide +kernel)) ggX8_place_X8_isTold
set_option maxRecDepth 20000 in
theorem ggX8_place_X8_isCandidate : GoodIn wsX8_place wsX8_isCandidate := goodIn_r _ [20, 21, 22, 23, 5, 24, 25, 26, 106, 107, 108, 109, 110, 111, 112, 113, 114, 115, 116, 117, 118, 119, 120, 121, 122, 123, 124, 125, 126, 127, 128, 129, 130, 131, 132, 133, 134, 135, 136, 137] rfl (by decide +kernel)
set_option maxRecDepth 20000 in
theorem gX8_place_X8_isCandidate : GoodIn wsX8_place (wsV RX8 196 RX8 yX8_isCandidate wsX8_isCandidate) := goodIn_app (goodIn_of _ (by decide +kernel)) ggX8_place_X8_isCandidate
set_option maxRecDepth 20000 in
theorem ggX8_place_X8_isTurned : GoodIn wsX8_place wsX8_isTurned := goodIn_r _ [30, 13, 14, 15, 5, 16, 7, 12, 106, 107, 108, 109, 110, 111, 112, 113, 114, 115, 116, 117, 118, 119, 120, 121, 122, 123, 124, 125, 126, 127, 128, 129, 130, 131, 132, 133, 134, 135, 136, 137] rfl (by decide +kernel)
set_option maxRecDepth 20000 in
theorem gX8_place_X8_isTurned : GoodIn wsX8_place (wsV RX8 185 RX8 yX8_isTurned wsX8_isTurned) := goodIn_app (goodIn_of _ (by decide +kernel)) ggX8_place_X8_isTurned
set_option maxRecDepth 20000 in
theorem ggX8_place_X8_rank : GoodIn wsX8_place wsX8_rank := goodIn_r _ [34, 12, 35, 36, 37, 38, 1, 13, 14, 15, 5, 16, 7, 17, 18, 19, 20, 21, 22, 23, 24, 25, 26, 39, 40, 41, 42, 43, 44, 45, 46, 47, 48, 49, 50, 8, 9, 10, 11, 51, 52, 53, 54, 55, 56, 57, 58, 59, 60, 61, 62, 63, 64, 65, 66, 67, 68, 69, 70, 71, 72, 73, 74, 75, 76, 77, 78, 79, 80, 81, 82, 83, 84, 85, 86, 87, 88, 89, 90, 91, 92, 93, 94, 95, 96, 97, 98, 99, 100, 101, 102, 103, 104, 105, 106, 107, 108, 109, 110, 111, 112, 113, 114, 115, 116, 117, 118, 119, 120, 121, 122, 123, 124, 125, 126, 127, 128, 129, 130, 131, 132, 133, 134, 135, 136, 137] rfl (by decide +kernel)
set_option maxRecDepth 20000 in
theorem gX8_place_X8_rank : GoodIn wsX8_place (wsV RX8 130 RX8 yX8_rank wsX8_rank) := goodIn_app (goodIn_of _ (by decide +kernel)) ggX8_place_X8_rank
theorem dX8_place_0 : decode cX8_place 0 = .ok (.aload_n 0, 1) := by decide +kernel
theorem dX8_place_1 : decode cX8_place 1 = .ok (.iload_n 1, 1) := by decide +kernel
theorem dX8_place_2 : decode cX8_place 2 = .ok (.iload_n 2, 1) := by decide +kernel
theorem dX8_place_3 : decode cX8_place 3 = .ok (.invokevirtual 113, 3) := by decide +kernel
theorem dX8_place_6 : decode cX8_place 6 = .ok (.ifCond .ne 5, 3) := by decide +kernel
theorem dX8_place_9 : decode cX8_place 9 = .ok (.iconst (-1), 1) := by decide +kernel
theorem dX8_place_10 : decode cX8_place 10 = .ok (.ireturn, 1) := by decide +kernel
theorem dX8_place_11 : decode cX8_place 11 = .ok (.aload_n 0, 1) := by decide +kernel
theorem dX8_place_12 : decode cX8_place 12 = .ok (.iload_n 1, 1) := by decide +kernel
theorem dX8_place_13 : decode cX8_place 13 = .ok (.iload_n 2, 1) := by decide +kernel
theorem dX8_place_14 : decode cX8_place 14 = .ok (.invokevirtual 196, 3) := by decide +kernel
theorem dX8_place_17 : decode cX8_place 17 = .ok (.ifCond .ne 6, 3) := by decide +kernel
theorem dX8_place_20 : decode cX8_place 20 = .ok (.bipush (-3), 2) := by decide +kernel
theorem dX8_place_22 : decode cX8_place 22 = .ok (.ireturn, 1) := by decide +kernel
theorem dX8_place_23 : decode cX8_place 23 = .ok (.aload_n 0, 1) := by decide +kernel
theorem dX8_place_24 : decode cX8_place 24 = .ok (.iload_n 1, 1) := by decide +kernel
theorem dX8_place_25 : decode cX8_place 25 = .ok (.iload_n 2, 1) := by decide +kernel
theorem dX8_place_26 : decode cX8_place 26 = .ok (.invokevirtual 185, 3) := by decide +kernel
theorem dX8_place_29 : decode cX8_place 29 = .ok (.ifCond .eq 12, 3) := by decide +kernel
theorem dX8_place_32 : decode cX8_place 32 = .ok (.bipush 12, 2) := by decide +kernel
theorem dX8_place_34 : decode cX8_place 34 = .ok (.iload_n 2, 1) := by decide +kernel
theorem dX8_place_35 : decode cX8_place 35 = .ok (.imul, 1) := by decide +kernel
theorem dX8_place_36 : decode cX8_place 36 = .ok (.iload_n 1, 1) := by decide +kernel
theorem dX8_place_37 : decode cX8_place 37 = .ok (.iadd, 1) := by decide +kernel
theorem dX8_place_38 : decode cX8_place 38 = .ok (.goto 9, 3) := by decide +kernel
theorem dX8_place_41 : decode cX8_place 41 = .ok (.bipush 12, 2) := by decide +kernel
theorem dX8_place_43 : decode cX8_place 43 = .ok (.iload_n 1, 1) := by decide +kernel
theorem dX8_place_44 : decode cX8_place 44 = .ok (.imul, 1) := by decide +kernel
theorem dX8_place_45 : decode cX8_place 45 = .ok (.iload_n 2, 1) := by decide +kernel
theorem dX8_place_46 : decode cX8_place 46 = .ok (.iadd, 1) := by decide +kernel
theorem dX8_place_47 : decode cX8_place 47 = .ok (.istore_n 3, 1) := by decide +kernel
theorem dX8_place_48 : decode cX8_place 48 = .ok (.aload_n 0, 1) := by decide +kernel
theorem dX8_place_49 : decode cX8_place 49 = .ok (.invokevirtual 130, 3) := by decide +kernel
theorem dX8_place_52 : decode cX8_place 52 = .ok (.istore 4, 2) := by decide +kernel
theorem dX8_place_54 : decode cX8_place 54 = .ok (.iconst 0, 1) := by decide +kernel
theorem dX8_place_55 : decode cX8_place 55 = .ok (.istore 5, 2) := by decide +kernel
theorem dX8_place_57 : decode cX8_place 57 = .ok (.aload_n 0, 1) := by decide +kernel
theorem dX8_place_58 : decode cX8_place 58 = .ok (.getfield 65, 3) := by decide +kernel
theorem dX8_place_61 : decode cX8_place 61 = .ok (.iload 5, 2) := by decide +kernel
theorem dX8_place_63 : decode cX8_place 63 = .ok (.iaload, 1) := by decide +kernel
theorem dX8_place_64 : decode cX8_place 64 = .ok (.iload_n 3, 1) := by decide +kernel
theorem dX8_place_65 : decode cX8_place 65 = .ok (.if_icmp .eq 9, 3) := by decide +kernel
theorem dX8_place_68 : decode cX8_place 68 = .ok (.iinc 5 1, 3) := by decide +kernel
theorem dX8_place_71 : decode cX8_place 71 = .ok (.goto (-14), 3) := by decide +kernel
theorem dX8_place_74 : decode cX8_place 74 = .ok (.iload 5, 2) := by decide +kernel
theorem dX8_place_76 : decode cX8_place 76 = .ok (.iload 4, 2) := by decide +kernel
theorem dX8_place_78 : decode cX8_place 78 = .ok (.if_icmp .ge 8, 3) := by decide +kernel
theorem dX8_place_81 : decode cX8_place 81 = .ok (.iload 5, 2) := by decide +kernel
theorem dX8_place_83 : decode cX8_place 83 = .ok (.goto 5, 3) := by decide +kernel
theorem dX8_place_86 : decode cX8_place 86 = .ok (.bipush (-3), 2) := by decide +kernel
theorem dX8_place_88 : decode cX8_place 88 = .ok (.ireturn, 1) := by decide +kernel
set_option maxRecDepth 20000 in
theorem ggX8_among_X8_rank : GoodIn wsX8_among wsX8_rank := goodIn_r _ [6, 7, 8, 9, 10, 11, 1, 12, 13, 14, 5, 15, 16, 17, 18, 19, 20, 21, 22, 23, 24, 25, 26, 27, 28, 29, 30, 31, 32, 33, 34, 35, 36, 37, 38, 39, 40, 41, 42, 43, 44, 45, 46, 47, 48, 49, 50, 51, 52, 53, 54, 55, 56, 57, 58, 59, 60, 61, 62, 63, 64, 65, 66, 67, 68, 69, 70, 71, 72, 73, 74, 75, 76, 77, 78, 79, 80, 81, 82, 83, 84, 85, 86, 87, 88, 89, 90, 91, 92, 93, 94, 95, 96, 97, 102, 103, 104, 105, 106, 107, 108, 109, 110, 111, 112, 113, 114, 115, 116, 117, 118, 119, 120, 121, 122, 123, 124, 125, 126, 127, 128, 129, 130, 131, 132, 133] rfl (by decide +kernel)
set_option maxRecDepth 20000 in
theorem gX8_among_X8_rank : GoodIn wsX8_among (wsV RX8 130 RX8 yX8_rank wsX8_rank) := goodIn_app (goodIn_of _ (by decide +kernel)) ggX8_among_X8_rank
set_option maxRecDepth 20000 in
theorem ggX8_among_X8_isFound : GoodIn wsX8_among wsX8_isFound := goodIn_r _ [101, 25, 26, 102, 103, 104, 105, 106, 107, 108, 109, 110, 111, 112, 113, 114, 115, 116, 117, 118, 119, 120, 121, 122, 123, 124, 125, 126, 127, 128, 129, 130, 131, 132, 133] rfl (by decide +kernel)
set_option maxRecDepth 20000 in
theorem gX8_among_X8_isFound : GoodIn wsX8_among (wsV RX8 202 RX8 yX8_isFound wsX8_isFound) := goodIn_app (goodIn_of _ (by decide +kernel)) ggX8_among_X8_isFound
theorem dX8_among_0 : decode cX8_among 0 = .ok (.aload_n 0, 1) := by decide +kernel
theorem dX8_among_1 : decode cX8_among 1 = .ok (.invokevirtual 130, 3) := by decide +kernel
theorem dX8_among_4 : decode cX8_among 4 = .ok (.istore_n 2, 1) := by decide +kernel
theorem dX8_among_5 : decode cX8_among 5 = .ok (.iload_n 1, 1) := by decide +kernel
theorem dX8_among_6 : decode cX8_among 6 = .ok (.ifCond .lt 8, 3) := by decide +kernel
theorem dX8_among_9 : decode cX8_among 9 = .ok (.iload_n 1, 1) := by decide +kernel
theorem dX8_among_10 : decode cX8_among 10 = .ok (.iload_n 2, 1) := by decide +kernel
theorem dX8_among_11 : decode cX8_among 11 = .ok (.if_icmp .le 6, 3) := by decide +kernel
theorem dX8_among_14 : decode cX8_among 14 = .ok (.bipush (-2), 2) := by decide +kernel
theorem dX8_among_16 : decode cX8_among 16 = .ok (.ireturn, 1) := by decide +kernel
theorem dX8_among_17 : decode cX8_among 17 = .ok (.iconst 0, 1) := by decide +kernel
theorem dX8_among_18 : decode cX8_among 18 = .ok (.istore_n 3, 1) := by decide +kernel
theorem dX8_among_19 : decode cX8_among 19 = .ok (.iconst 0, 1) := by decide +kernel
theorem dX8_among_20 : decode cX8_among 20 = .ok (.istore 4, 2) := by decide +kernel
theorem dX8_among_22 : decode cX8_among 22 = .ok (.iload 4, 2) := by decide +kernel
theorem dX8_among_24 : decode cX8_among 24 = .ok (.iload_n 1, 1) := by decide +kernel
theorem dX8_among_25 : decode cX8_among 25 = .ok (.if_icmp .ge 44, 3) := by decide +kernel
theorem dX8_among_28 : decode cX8_among 28 = .ok (.iload_n 3, 1) := by decide +kernel
theorem dX8_among_29 : decode cX8_among 29 = .ok (.aload_n 0, 1) := by decide +kernel
theorem dX8_among_30 : decode cX8_among 30 = .ok (.aload_n 0, 1) := by decide +kernel
theorem dX8_among_31 : decode cX8_among 31 = .ok (.getfield 65, 3) := by decide +kernel
theorem dX8_among_34 : decode cX8_among 34 = .ok (.iload 4, 2) := by decide +kernel
theorem dX8_among_36 : decode cX8_among 36 = .ok (.iaload, 1) := by decide +kernel
theorem dX8_among_37 : decode cX8_among 37 = .ok (.bipush 12, 2) := by decide +kernel
theorem dX8_among_39 : decode cX8_among 39 = .ok (.idiv, 1) := by decide +kernel
theorem dX8_among_40 : decode cX8_among 40 = .ok (.aload_n 0, 1) := by decide +kernel
theorem dX8_among_41 : decode cX8_among 41 = .ok (.getfield 65, 3) := by decide +kernel
theorem dX8_among_44 : decode cX8_among 44 = .ok (.iload 4, 2) := by decide +kernel
theorem dX8_among_46 : decode cX8_among 46 = .ok (.iaload, 1) := by decide +kernel
theorem dX8_among_47 : decode cX8_among 47 = .ok (.bipush 12, 2) := by decide +kernel
theorem dX8_among_49 : decode cX8_among 49 = .ok (.irem, 1) := by decide +kernel
theorem dX8_among_50 : decode cX8_among 50 = .ok (.invokevirtual 202, 3) := by decide +kernel
theorem dX8_among_53 : decode cX8_among 53 = .ok (.ifCond .eq 7, 3) := by decide +kernel
theorem dX8_among_56 : decode cX8_among 56 = .ok (.iconst 1, 1) := by decide +kernel
theorem dX8_among_57 : decode cX8_among 57 = .ok (.goto 4, 3) := by decide +kernel
theorem dX8_among_60 : decode cX8_among 60 = .ok (.iconst 0, 1) := by decide +kernel
theorem dX8_among_61 : decode cX8_among 61 = .ok (.iadd, 1) := by decide +kernel
theorem dX8_among_62 : decode cX8_among 62 = .ok (.istore_n 3, 1) := by decide +kernel
theorem dX8_among_63 : decode cX8_among 63 = .ok (.iinc 4 1, 3) := by decide +kernel
theorem dX8_among_66 : decode cX8_among 66 = .ok (.goto (-44), 3) := by decide +kernel
theorem dX8_among_69 : decode cX8_among 69 = .ok (.iload_n 3, 1) := by decide +kernel
theorem dX8_among_70 : decode cX8_among 70 = .ok (.ireturn, 1) := by decide +kernel
set_option maxRecDepth 20000 in
theorem ggX8_parted_X8_rank : GoodIn wsX8_parted wsX8_rank := goodIn_r _ [9, 10, 11, 12, 13, 14, 15, 16, 17, 18, 8, 19, 20, 21, 22, 23, 24, 25, 26, 27, 28, 29, 30, 31, 32, 33, 34, 35, 36, 37, 38, 39, 40, 41, 42, 43, 44, 45, 46, 47, 48, 49, 50, 51, 52, 53, 54, 55, 56, 57, 58, 59, 60, 61, 62, 63, 64, 65, 66, 67, 68, 69, 70, 71, 72, 73, 74, 75, 76, 77, 78, 79, 80, 81, 82, 83, 84, 85, 86, 87, 88, 89, 90, 91, 92, 93, 94, 95, 96, 97, 98, 99, 100, 101, 106, 107, 108, 109, 110, 111, 112, 113, 114, 115, 116, 117, 118, 119, 120, 121, 122, 123, 124, 125, 126, 127, 128, 129, 130, 131, 132, 133, 134, 135, 136, 137] rfl (by decide +kernel)
set_option maxRecDepth 20000 in
theorem gX8_parted_X8_rank : GoodIn wsX8_parted (wsV RX8 130 RX8 yX8_rank wsX8_rank) := goodIn_app (goodIn_of _ (by decide +kernel)) ggX8_parted_X8_rank
set_option maxRecDepth 20000 in
theorem ggX8_parted_X8_isNode : GoodIn wsX8_parted wsX8_isNode := goodIn_r _ [46, 10, 106, 107, 108, 109, 110, 111, 112, 113, 114, 115, 116, 117, 118, 119, 120, 121, 122, 123, 124, 125, 126, 127, 128, 129, 130, 131, 132, 133, 134, 135, 136, 137] rfl (by decide +kernel)
set_option maxRecDepth 20000 in
theorem gX8_parted_X8_isNode : GoodIn wsX8_parted (wsV RX8 109 RX8 yX8_isNode wsX8_isNode) := goodIn_app (goodIn_of _ (by decide +kernel)) ggX8_parted_X8_isNode
set_option maxRecDepth 20000 in
theorem ggX8_parted_X8_isPair : GoodIn wsX8_parted wsX8_isPair := goodIn_r _ [19, 20, 10, 106, 107, 108, 109, 110, 111, 112, 113, 114, 115, 116, 117, 118, 119, 120, 121, 122, 123, 124, 125, 126, 127, 128, 129, 130, 131, 132, 133, 134, 135, 136, 137] rfl (by decide +kernel)
set_option maxRecDepth 20000 in
theorem gX8_parted_X8_isPair : GoodIn wsX8_parted (wsV RX8 105 RX8 yX8_isPair wsX8_isPair) := goodIn_app (goodIn_of _ (by decide +kernel)) ggX8_parted_X8_isPair
set_option maxRecDepth 20000 in
theorem ggX8_parted_X8_isCandidate : GoodIn wsX8_parted wsX8_isCandidate := goodIn_r _ [24, 25, 26, 27, 8, 28, 29, 30, 106, 107, 108, 109, 110, 111, 112, 113, 114, 115, 116, 117, 118, 119, 120, 121, 122, 123, 124, 125, 126, 127, 128, 129, 130, 131, 132, 133, 134, 135, 136, 137] rfl (by decide +kernel)
set_option maxRecDepth 20000 in
theorem gX8_parted_X8_isCandidate : GoodIn wsX8_parted (wsV RX8 196 RX8 yX8_isCandidate wsX8_isCandidate) := goodIn_app (goodIn_of _ (by decide +kernel)) ggX8_parted_X8_isCandidate
set_option maxRecDepth 20000 in
theorem ggX8_parted_X8_isFound : GoodIn wsX8_parted wsX8_isFound := goodIn_r _ [105, 29, 30, 106, 107, 108, 109, 110, 111, 112, 113, 114, 115, 116, 117, 118, 119, 120, 121, 122, 123, 124, 125, 126, 127, 128, 129, 130, 131, 132, 133, 134, 135, 136, 137] rfl (by decide +kernel)
set_option maxRecDepth 20000 in
theorem gX8_parted_X8_isFound : GoodIn wsX8_parted (wsV RX8 202 RX8 yX8_isFound wsX8_isFound) := goodIn_app (goodIn_of _ (by decide +kernel)) ggX8_parted_X8_isFound
theorem dX8_parted_0 : decode cX8_parted 0 = .ok (.aload_n 0, 1) := by decide +kernel
theorem dX8_parted_1 : decode cX8_parted 1 = .ok (.iconst 0, 1) := by decide +kernel
theorem dX8_parted_2 : decode cX8_parted 2 = .ok (.putfield 205, 3) := by decide +kernel
theorem dX8_parted_5 : decode cX8_parted 5 = .ok (.aload_n 0, 1) := by decide +kernel
theorem dX8_parted_6 : decode cX8_parted 6 = .ok (.iconst 0, 1) := by decide +kernel
theorem dX8_parted_7 : decode cX8_parted 7 = .ok (.putfield 208, 3) := by decide +kernel
theorem dX8_parted_10 : decode cX8_parted 10 = .ok (.aload_n 0, 1) := by decide +kernel
theorem dX8_parted_11 : decode cX8_parted 11 = .ok (.invokevirtual 130, 3) := by decide +kernel
theorem dX8_parted_14 : decode cX8_parted 14 = .ok (.pop, 1) := by decide +kernel
theorem dX8_parted_15 : decode cX8_parted 15 = .ok (.iconst 0, 1) := by decide +kernel
theorem dX8_parted_16 : decode cX8_parted 16 = .ok (.istore_n 1, 1) := by decide +kernel
theorem dX8_parted_17 : decode cX8_parted 17 = .ok (.iload_n 1, 1) := by decide +kernel
theorem dX8_parted_18 : decode cX8_parted 18 = .ok (.sipush 144, 3) := by decide +kernel
theorem dX8_parted_21 : decode cX8_parted 21 = .ok (.if_icmp .ge 105, 3) := by decide +kernel
theorem dX8_parted_24 : decode cX8_parted 24 = .ok (.iload_n 1, 1) := by decide +kernel
theorem dX8_parted_25 : decode cX8_parted 25 = .ok (.bipush 12, 2) := by decide +kernel
theorem dX8_parted_27 : decode cX8_parted 27 = .ok (.idiv, 1) := by decide +kernel
theorem dX8_parted_28 : decode cX8_parted 28 = .ok (.istore_n 2, 1) := by decide +kernel
theorem dX8_parted_29 : decode cX8_parted 29 = .ok (.iload_n 1, 1) := by decide +kernel
theorem dX8_parted_30 : decode cX8_parted 30 = .ok (.bipush 12, 2) := by decide +kernel
theorem dX8_parted_32 : decode cX8_parted 32 = .ok (.irem, 1) := by decide +kernel
theorem dX8_parted_33 : decode cX8_parted 33 = .ok (.istore_n 3, 1) := by decide +kernel
theorem dX8_parted_34 : decode cX8_parted 34 = .ok (.aload_n 0, 1) := by decide +kernel
theorem dX8_parted_35 : decode cX8_parted 35 = .ok (.iload_n 2, 1) := by decide +kernel
theorem dX8_parted_36 : decode cX8_parted 36 = .ok (.invokevirtual 109, 3) := by decide +kernel
theorem dX8_parted_39 : decode cX8_parted 39 = .ok (.ifCond .eq 81, 3) := by decide +kernel
theorem dX8_parted_42 : decode cX8_parted 42 = .ok (.aload_n 0, 1) := by decide +kernel
theorem dX8_parted_43 : decode cX8_parted 43 = .ok (.iload_n 3, 1) := by decide +kernel
theorem dX8_parted_44 : decode cX8_parted 44 = .ok (.invokevirtual 109, 3) := by decide +kernel
theorem dX8_parted_47 : decode cX8_parted 47 = .ok (.ifCond .eq 73, 3) := by decide +kernel
theorem dX8_parted_50 : decode cX8_parted 50 = .ok (.aload_n 0, 1) := by decide +kernel
theorem dX8_parted_51 : decode cX8_parted 51 = .ok (.iload_n 2, 1) := by decide +kernel
theorem dX8_parted_52 : decode cX8_parted 52 = .ok (.iload_n 3, 1) := by decide +kernel
theorem dX8_parted_53 : decode cX8_parted 53 = .ok (.invokevirtual 105, 3) := by decide +kernel
theorem dX8_parted_56 : decode cX8_parted 56 = .ok (.ifCond .eq 64, 3) := by decide +kernel
theorem dX8_parted_59 : decode cX8_parted 59 = .ok (.aload_n 0, 1) := by decide +kernel
theorem dX8_parted_60 : decode cX8_parted 60 = .ok (.iload_n 2, 1) := by decide +kernel
theorem dX8_parted_61 : decode cX8_parted 61 = .ok (.iload_n 3, 1) := by decide +kernel
theorem dX8_parted_62 : decode cX8_parted 62 = .ok (.invokevirtual 196, 3) := by decide +kernel
theorem dX8_parted_65 : decode cX8_parted 65 = .ok (.ifCond .eq 55, 3) := by decide +kernel
theorem dX8_parted_68 : decode cX8_parted 68 = .ok (.aload_n 0, 1) := by decide +kernel
theorem dX8_parted_69 : decode cX8_parted 69 = .ok (.iload_n 2, 1) := by decide +kernel
theorem dX8_parted_70 : decode cX8_parted 70 = .ok (.iload_n 3, 1) := by decide +kernel
theorem dX8_parted_71 : decode cX8_parted 71 = .ok (.invokevirtual 202, 3) := by decide +kernel
theorem dX8_parted_74 : decode cX8_parted 74 = .ok (.ifCond .eq 26, 3) := by decide +kernel
theorem dX8_parted_77 : decode cX8_parted 77 = .ok (.aload_n 0, 1) := by decide +kernel
theorem dX8_parted_78 : decode cX8_parted 78 = .ok (.getfield 74, 3) := by decide +kernel
theorem dX8_parted_81 : decode cX8_parted 81 = .ok (.aload_n 0, 1) := by decide +kernel
theorem dX8_parted_82 : decode cX8_parted 82 = .ok (.getfield 205, 3) := by decide +kernel
theorem dX8_parted_85 : decode cX8_parted 85 = .ok (.iload_n 1, 1) := by decide +kernel
theorem dX8_parted_86 : decode cX8_parted 86 = .ok (.iastore, 1) := by decide +kernel
theorem dX8_parted_87 : decode cX8_parted 87 = .ok (.aload_n 0, 1) := by decide +kernel
theorem dX8_parted_88 : decode cX8_parted 88 = .ok (.dup, 1) := by decide +kernel
theorem dX8_parted_89 : decode cX8_parted 89 = .ok (.getfield 205, 3) := by decide +kernel
theorem dX8_parted_92 : decode cX8_parted 92 = .ok (.iconst 1, 1) := by decide +kernel
theorem dX8_parted_93 : decode cX8_parted 93 = .ok (.iadd, 1) := by decide +kernel
theorem dX8_parted_94 : decode cX8_parted 94 = .ok (.putfield 205, 3) := by decide +kernel
theorem dX8_parted_97 : decode cX8_parted 97 = .ok (.goto 23, 3) := by decide +kernel
theorem dX8_parted_100 : decode cX8_parted 100 = .ok (.aload_n 0, 1) := by decide +kernel
theorem dX8_parted_101 : decode cX8_parted 101 = .ok (.getfield 77, 3) := by decide +kernel
theorem dX8_parted_104 : decode cX8_parted 104 = .ok (.aload_n 0, 1) := by decide +kernel
theorem dX8_parted_105 : decode cX8_parted 105 = .ok (.getfield 208, 3) := by decide +kernel
theorem dX8_parted_108 : decode cX8_parted 108 = .ok (.iload_n 1, 1) := by decide +kernel
theorem dX8_parted_109 : decode cX8_parted 109 = .ok (.iastore, 1) := by decide +kernel
theorem dX8_parted_110 : decode cX8_parted 110 = .ok (.aload_n 0, 1) := by decide +kernel
theorem dX8_parted_111 : decode cX8_parted 111 = .ok (.dup, 1) := by decide +kernel
theorem dX8_parted_112 : decode cX8_parted 112 = .ok (.getfield 208, 3) := by decide +kernel
theorem dX8_parted_115 : decode cX8_parted 115 = .ok (.iconst 1, 1) := by decide +kernel
theorem dX8_parted_116 : decode cX8_parted 116 = .ok (.iadd, 1) := by decide +kernel
theorem dX8_parted_117 : decode cX8_parted 117 = .ok (.putfield 208, 3) := by decide +kernel
theorem dX8_parted_120 : decode cX8_parted 120 = .ok (.iinc 1 1, 3) := by decide +kernel
theorem dX8_parted_123 : decode cX8_parted 123 = .ok (.goto (-106), 3) := by decide +kernel
theorem dX8_parted_126 : decode cX8_parted 126 = .ok (.aload_n 0, 1) := by decide +kernel
theorem dX8_parted_127 : decode cX8_parted 127 = .ok (.getfield 205, 3) := by decide +kernel
theorem dX8_parted_130 : decode cX8_parted 130 = .ok (.ifCond .le 14, 3) := by decide +kernel
theorem dX8_parted_133 : decode cX8_parted 133 = .ok (.aload_n 0, 1) := by decide +kernel
theorem dX8_parted_134 : decode cX8_parted 134 = .ok (.getfield 208, 3) := by decide +kernel
theorem dX8_parted_137 : decode cX8_parted 137 = .ok (.ifCond .le 7, 3) := by decide +kernel
theorem dX8_parted_140 : decode cX8_parted 140 = .ok (.iconst 1, 1) := by decide +kernel
theorem dX8_parted_141 : decode cX8_parted 141 = .ok (.goto 4, 3) := by decide +kernel
theorem dX8_parted_144 : decode cX8_parted 144 = .ok (.iconst 0, 1) := by decide +kernel
theorem dX8_parted_145 : decode cX8_parted 145 = .ok (.ireturn, 1) := by decide +kernel
set_option maxRecDepth 20000 in
theorem ggX8_wins_X8_compare : GoodIn wsX8_wins wsX8_compare := goodIn_r _ [5, 6, 7, 8, 9, 10, 11, 12, 13, 14, 15, 16, 17, 18, 19, 20, 21, 22, 23, 24, 25, 26, 27, 28, 29, 30, 31, 32, 33, 34, 35, 36, 37, 38, 39, 40] rfl (by decide +kernel)
set_option maxRecDepth 20000 in
theorem gX8_wins_X8_compare : GoodIn wsX8_wins (wsV RX8 199 RX8 yX8_compare wsX8_compare) := goodIn_app (goodIn_of _ (by decide +kernel)) ggX8_wins_X8_compare
theorem dX8_wins_0 : decode cX8_wins 0 = .ok (.aload_n 0, 1) := by decide +kernel
theorem dX8_wins_1 : decode cX8_wins 1 = .ok (.iload_n 1, 1) := by decide +kernel
theorem dX8_wins_2 : decode cX8_wins 2 = .ok (.iload_n 2, 1) := by decide +kernel
theorem dX8_wins_3 : decode cX8_wins 3 = .ok (.invokevirtual 199, 3) := by decide +kernel
theorem dX8_wins_6 : decode cX8_wins 6 = .ok (.iconst 1, 1) := by decide +kernel
theorem dX8_wins_7 : decode cX8_wins 7 = .ok (.iadd, 1) := by decide +kernel
theorem dX8_wins_8 : decode cX8_wins 8 = .ok (.i2l, 1) := by decide +kernel
theorem dX8_wins_9 : decode cX8_wins 9 = .ok (.lreturn, 1) := by decide +kernel
set_option maxRecDepth 20000 in
theorem ggX8_shares_X8_parted : GoodIn wsX8_shares wsX8_parted := goodIn_r _ [10, 1, 2, 3, 4, 11, 12, 13, 9, 14, 15, 16, 17, 18, 19, 20, 21, 22, 23, 24, 25, 26, 27, 28, 29, 30, 31, 32, 33, 34, 35, 36, 37, 38, 39, 40, 41, 42, 43, 44, 45, 46, 47, 48, 49, 50, 51, 52, 53, 54, 55, 5, 56, 57, 58, 59, 60, 61, 62, 63, 64, 65, 66, 67, 68, 69, 70, 71, 72, 73, 74, 75, 76, 77, 78, 79, 80, 81, 82, 83, 84, 85, 86, 87, 88, 89, 90, 91, 92, 93, 94, 95, 96, 97, 98, 99, 100, 101, 102, 103, 104, 105, 106, 107, 108, 109, 114, 115, 116, 117, 118, 119, 120, 121, 122, 123, 124, 125, 126, 127, 128, 129, 130, 131, 132, 133, 134, 135, 136, 137, 138, 139, 140, 141, 142, 143, 144, 145] rfl (by decide +kernel)
set_option maxRecDepth 20000 in
theorem gX8_shares_X8_parted : GoodIn wsX8_shares (wsV RX8 211 RX8 yX8_parted wsX8_parted) := goodIn_app (goodIn_of _ (by decide +kernel)) ggX8_shares_X8_parted
set_option maxRecDepth 20000 in
theorem ggX8_shares_X8_wins : GoodIn wsX8_shares wsX8_wins := goodIn_r _ [113, 101, 102, 103, 9, 104, 16, 105, 18, 114, 115, 116, 117, 118, 119, 120, 121, 122, 123, 124, 125, 126, 127, 128, 129, 130, 131, 132, 133, 134, 135, 136, 137, 138, 139, 140, 141, 142, 143, 144, 145] rfl (by decide +kernel)
set_option maxRecDepth 20000 in
theorem gX8_shares_X8_wins : GoodIn wsX8_shares (wsV RX8 215 RX8 yX8_wins wsX8_wins) := goodIn_app (goodIn_of _ (by decide +kernel)) ggX8_shares_X8_wins
set_option maxRecDepth 20000 in
theorem ggX8_shares_X8_make : GoodIn wsX8_shares wsX8_make := goodIn_r _ [63, 17, 19, 64, 65, 9, 66, 114, 115, 116, 117, 118, 119, 120, 121, 122, 123, 124, 125, 126, 127, 128, 129, 130, 131, 132, 133, 134, 135, 136, 137, 138, 139, 140, 141, 142, 143, 144, 145] rfl (by decide +kernel)
set_option maxRecDepth 20000 in
theorem gX8_shares_X8_make : GoodIn wsX8_shares (wsV RX8 146 RX8 yX8_make wsX8_make) := goodIn_app (goodIn_of _ (by decide +kernel)) ggX8_shares_X8_make
theorem dX8_shares_0 : decode cX8_shares 0 = .ok (.aload_n 0, 1) := by decide +kernel
theorem dX8_shares_1 : decode cX8_shares 1 = .ok (.invokevirtual 211, 3) := by decide +kernel
theorem dX8_shares_4 : decode cX8_shares 4 = .ok (.ifCond .ne 5, 3) := by decide +kernel
theorem dX8_shares_7 : decode cX8_shares 7 = .ok (.iconst 0, 1) := by decide +kernel
theorem dX8_shares_8 : decode cX8_shares 8 = .ok (.ireturn, 1) := by decide +kernel
theorem dX8_shares_9 : decode cX8_shares 9 = .ok (.lconst 0, 1) := by decide +kernel
theorem dX8_shares_10 : decode cX8_shares 10 = .ok (.lstore_n 1, 1) := by decide +kernel
theorem dX8_shares_11 : decode cX8_shares 11 = .ok (.iconst 0, 1) := by decide +kernel
theorem dX8_shares_12 : decode cX8_shares 12 = .ok (.istore_n 3, 1) := by decide +kernel
theorem dX8_shares_13 : decode cX8_shares 13 = .ok (.iload_n 3, 1) := by decide +kernel
theorem dX8_shares_14 : decode cX8_shares 14 = .ok (.aload_n 0, 1) := by decide +kernel
theorem dX8_shares_15 : decode cX8_shares 15 = .ok (.getfield 205, 3) := by decide +kernel
theorem dX8_shares_18 : decode cX8_shares 18 = .ok (.if_icmp .ge 47, 3) := by decide +kernel
theorem dX8_shares_21 : decode cX8_shares 21 = .ok (.iconst 0, 1) := by decide +kernel
theorem dX8_shares_22 : decode cX8_shares 22 = .ok (.istore 4, 2) := by decide +kernel
theorem dX8_shares_24 : decode cX8_shares 24 = .ok (.iload 4, 2) := by decide +kernel
theorem dX8_shares_26 : decode cX8_shares 26 = .ok (.aload_n 0, 1) := by decide +kernel
theorem dX8_shares_27 : decode cX8_shares 27 = .ok (.getfield 208, 3) := by decide +kernel
theorem dX8_shares_30 : decode cX8_shares 30 = .ok (.if_icmp .ge 29, 3) := by decide +kernel
theorem dX8_shares_33 : decode cX8_shares 33 = .ok (.lload_n 1, 1) := by decide +kernel
theorem dX8_shares_34 : decode cX8_shares 34 = .ok (.aload_n 0, 1) := by decide +kernel
theorem dX8_shares_35 : decode cX8_shares 35 = .ok (.aload_n 0, 1) := by decide +kernel
theorem dX8_shares_36 : decode cX8_shares 36 = .ok (.getfield 74, 3) := by decide +kernel
theorem dX8_shares_39 : decode cX8_shares 39 = .ok (.iload_n 3, 1) := by decide +kernel
theorem dX8_shares_40 : decode cX8_shares 40 = .ok (.iaload, 1) := by decide +kernel
theorem dX8_shares_41 : decode cX8_shares 41 = .ok (.aload_n 0, 1) := by decide +kernel
theorem dX8_shares_42 : decode cX8_shares 42 = .ok (.getfield 77, 3) := by decide +kernel
theorem dX8_shares_45 : decode cX8_shares 45 = .ok (.iload 4, 2) := by decide +kernel
theorem dX8_shares_47 : decode cX8_shares 47 = .ok (.iaload, 1) := by decide +kernel
theorem dX8_shares_48 : decode cX8_shares 48 = .ok (.invokevirtual 215, 3) := by decide +kernel
theorem dX8_shares_51 : decode cX8_shares 51 = .ok (.ladd, 1) := by decide +kernel
theorem dX8_shares_52 : decode cX8_shares 52 = .ok (.lstore_n 1, 1) := by decide +kernel
theorem dX8_shares_53 : decode cX8_shares 53 = .ok (.iinc 4 1, 3) := by decide +kernel
theorem dX8_shares_56 : decode cX8_shares 56 = .ok (.goto (-32), 3) := by decide +kernel
theorem dX8_shares_59 : decode cX8_shares 59 = .ok (.iinc 3 1, 3) := by decide +kernel
theorem dX8_shares_62 : decode cX8_shares 62 = .ok (.goto (-49), 3) := by decide +kernel
theorem dX8_shares_65 : decode cX8_shares 65 = .ok (.aload_n 0, 1) := by decide +kernel
theorem dX8_shares_66 : decode cX8_shares 66 = .ok (.lload_n 1, 1) := by decide +kernel
theorem dX8_shares_67 : decode cX8_shares 67 = .ok (.ldc2_w 164, 3) := by decide +kernel
theorem dX8_shares_70 : decode cX8_shares 70 = .ok (.aload_n 0, 1) := by decide +kernel
theorem dX8_shares_71 : decode cX8_shares 71 = .ok (.getfield 205, 3) := by decide +kernel
theorem dX8_shares_74 : decode cX8_shares 74 = .ok (.i2l, 1) := by decide +kernel
theorem dX8_shares_75 : decode cX8_shares 75 = .ok (.lmul, 1) := by decide +kernel
theorem dX8_shares_76 : decode cX8_shares 76 = .ok (.aload_n 0, 1) := by decide +kernel
theorem dX8_shares_77 : decode cX8_shares 77 = .ok (.getfield 208, 3) := by decide +kernel
theorem dX8_shares_80 : decode cX8_shares 80 = .ok (.i2l, 1) := by decide +kernel
theorem dX8_shares_81 : decode cX8_shares 81 = .ok (.lmul, 1) := by decide +kernel
theorem dX8_shares_82 : decode cX8_shares 82 = .ok (.invokevirtual 146, 3) := by decide +kernel
theorem dX8_shares_85 : decode cX8_shares 85 = .ok (.iconst 1, 1) := by decide +kernel
theorem dX8_shares_86 : decode cX8_shares 86 = .ok (.ireturn, 1) := by decide +kernel
set_option maxRecDepth 20000 in
theorem ggX8_share_X8_shares : GoodIn wsX8_share wsX8_shares := goodIn_r _ [5, 6, 7, 8, 9, 10, 11, 12, 13, 4, 14, 15, 16, 17, 18, 19, 20, 21, 22, 23, 24, 25, 26, 27, 28, 29, 30, 31, 32, 33, 34, 35, 36, 37, 38, 39, 40, 41, 42, 43, 44, 45, 46, 47, 48, 49, 50, 51, 52, 53, 54, 55, 56, 57, 58, 59, 60, 61, 62, 63, 64, 65, 66, 67, 68, 69, 70, 71, 72, 73, 74, 75, 76, 77, 78, 79, 80, 81, 82, 83, 84, 85, 86, 87, 88, 89, 90, 91, 92, 93, 94, 95, 96, 97, 98, 99, 100, 101, 102, 103, 104, 105, 106, 107, 108, 109, 110, 111, 112, 113, 114, 115, 116, 117, 124, 125, 126, 127, 128, 129, 130, 131, 132, 133, 134, 135, 136, 137, 138, 139, 140, 141, 142, 143, 144, 145, 146, 147, 148, 149, 150, 151, 152, 153, 154, 155] rfl (by decide +kernel)
set_option maxRecDepth 20000 in
theorem gX8_share_X8_shares : GoodIn wsX8_share (wsV RX8 219 RX8 yX8_shares wsX8_shares) := goodIn_app (goodIn_of _ (by decide +kernel)) ggX8_share_X8_shares
set_option maxRecDepth 20000 in
theorem ggX8_share_X8_show : GoodIn wsX8_share wsX8_show := goodIn_r _ [121, 21, 122, 23, 123, 124, 125, 126, 127, 128, 129, 130, 131, 132, 133, 134, 135, 136, 137, 138, 139, 140, 141, 142, 143, 144, 145, 146, 147, 148, 149, 150, 151, 152, 153, 154, 155] rfl (by decide +kernel)
set_option maxRecDepth 20000 in
theorem gX8_share_X8_show : GoodIn wsX8_share (wsV RX8 191 RX8 yX8_show wsX8_show) := goodIn_app (goodIn_of _ (by decide +kernel)) ggX8_share_X8_show
theorem dX8_share_0 : decode cX8_share 0 = .ok (.aload_n 0, 1) := by decide +kernel
theorem dX8_share_1 : decode cX8_share 1 = .ok (.invokevirtual 219, 3) := by decide +kernel
theorem dX8_share_4 : decode cX8_share 4 = .ok (.ifCond .ne 6, 3) := by decide +kernel
theorem dX8_share_7 : decode cX8_share 7 = .ok (.bipush (-3), 2) := by decide +kernel
theorem dX8_share_9 : decode cX8_share 9 = .ok (.ireturn, 1) := by decide +kernel
theorem dX8_share_10 : decode cX8_share 10 = .ok (.aload_n 0, 1) := by decide +kernel
theorem dX8_share_11 : decode cX8_share 11 = .ok (.invokevirtual 191, 3) := by decide +kernel
theorem dX8_share_14 : decode cX8_share 14 = .ok (.iconst 1, 1) := by decide +kernel
theorem dX8_share_15 : decode cX8_share 15 = .ok (.ireturn, 1) := by decide +kernel
set_option maxRecDepth 20000 in
theorem ggX8_sample_X8_parted : GoodIn wsX8_sample wsX8_parted := goodIn_r _ [11, 2, 5, 3, 4, 12, 13, 14, 10, 15, 16, 17, 18, 19, 20, 21, 22, 23, 24, 25, 26, 27, 28, 29, 30, 31, 32, 33, 34, 35, 36, 37, 38, 39, 40, 41, 42, 43, 44, 45, 46, 47, 48, 49, 50, 51, 52, 53, 54, 55, 56, 6, 57, 58, 59, 60, 61, 62, 63, 64, 65, 66, 67, 68, 69, 70, 71, 72, 73, 74, 75, 76, 77, 78, 79, 80, 81, 82, 83, 84, 85, 86, 87, 88, 89, 90, 91, 92, 93, 94, 95, 96, 97, 98, 99, 100, 101, 102, 103, 104, 105, 106, 107, 108, 109, 110, 127, 128, 129, 130, 131, 132, 133, 134, 135, 136, 137, 138, 139, 140, 141, 142, 143, 144, 145, 146, 147, 148, 149, 150, 151, 152, 153, 154, 155, 156, 157, 158] rfl (by decide +kernel)
set_option maxRecDepth 20000 in
theorem gX8_sample_X8_parted : GoodIn wsX8_sample (wsV RX8 211 RX8 yX8_parted wsX8_parted) := goodIn_app (goodIn_of _ (by decide +kernel)) ggX8_sample_X8_parted
set_option maxRecDepth 20000 in
theorem ggX8_sample_X8_draw : GoodIn wsX8_sample wsX8_draw := goodIn_r _ [114, 115, 1, 116, 127, 128, 129, 130, 131, 132, 133, 134, 135, 136, 137, 138, 139, 140, 141, 142, 143, 144, 145, 146, 147, 148, 149, 150, 151, 152, 153, 154, 155, 156, 157, 158] rfl (by decide +kernel)
set_option maxRecDepth 20000 in
theorem gX8_sample_X8_draw : GoodIn wsX8_sample (wsV RX8 124 RX8 yX8_draw wsX8_draw) := goodIn_app (goodIn_of _ (by decide +kernel)) ggX8_sample_X8_draw
set_option maxRecDepth 20000 in
theorem ggX8_sample_X8_wins : GoodIn wsX8_sample wsX8_wins := goodIn_r _ [120, 102, 103, 104, 10, 105, 17, 106, 19, 127, 128, 129, 130, 131, 132, 133, 134, 135, 136, 137, 138, 139, 140, 141, 142, 143, 144, 145, 146, 147, 148, 149, 150, 151, 152, 153, 154, 155, 156, 157, 158] rfl (by decide +kernel)
set_option maxRecDepth 20000 in
theorem gX8_sample_X8_wins : GoodIn wsX8_sample (wsV RX8 215 RX8 yX8_wins wsX8_wins) := goodIn_app (goodIn_of _ (by decide +kernel)) ggX8_sample_X8_wins
set_option maxRecDepth 20000 in
theorem ggX8_sample_X8_make : GoodIn wsX8_sample wsX8_make := goodIn_r _ [64, 18, 20, 65, 66, 10, 67, 127, 128, 129, 130, 131, 132, 133, 134, 135, 136, 137, 138, 139, 140, 141, 142, 143, 144, 145, 146, 147, 148, 149, 150, 151, 152, 153, 154, 155, 156, 157, 158] rfl (by decide +kernel)
set_option maxRecDepth 20000 in
theorem gX8_sample_X8_make : GoodIn wsX8_sample (wsV RX8 146 RX8 yX8_make wsX8_make) := goodIn_app (goodIn_of _ (by decide +kernel)) ggX8_sample_X8_make
set_option maxRecDepth 20000 in
theorem ggX8_sample_X8_show : GoodIn wsX8_sample wsX8_show := goodIn_r _ [124, 18, 125, 20, 126, 127, 128, 129, 130, 131, 132, 133, 134, 135, 136, 137, 138, 139, 140, 141, 142, 143, 144, 145, 146, 147, 148, 149, 150, 151, 152, 153, 154, 155, 156, 157, 158] rfl (by decide +kernel)
set_option maxRecDepth 20000 in
theorem gX8_sample_X8_show : GoodIn wsX8_sample (wsV RX8 191 RX8 yX8_show wsX8_show) := goodIn_app (goodIn_of _ (by decide +kernel)) ggX8_sample_X8_show
theorem dX8_sample_0 : decode cX8_sample 0 = .ok (.aload_n 0, 1) := by decide +kernel
theorem dX8_sample_1 : decode cX8_sample 1 = .ok (.invokevirtual 211, 3) := by decide +kernel
theorem dX8_sample_4 : decode cX8_sample 4 = .ok (.ifCond .ne 6, 3) := by decide +kernel
theorem dX8_sample_7 : decode cX8_sample 7 = .ok (.bipush (-3), 2) := by decide +kernel
theorem dX8_sample_9 : decode cX8_sample 9 = .ok (.ireturn, 1) := by decide +kernel
theorem dX8_sample_10 : decode cX8_sample 10 = .ok (.aload_n 0, 1) := by decide +kernel
theorem dX8_sample_11 : decode cX8_sample 11 = .ok (.iload_n 1, 1) := by decide +kernel
theorem dX8_sample_12 : decode cX8_sample 12 = .ok (.putfield 120, 3) := by decide +kernel
theorem dX8_sample_15 : decode cX8_sample 15 = .ok (.lconst 0, 1) := by decide +kernel
theorem dX8_sample_16 : decode cX8_sample 16 = .ok (.lstore_n 2, 1) := by decide +kernel
theorem dX8_sample_17 : decode cX8_sample 17 = .ok (.iconst 0, 1) := by decide +kernel
theorem dX8_sample_18 : decode cX8_sample 18 = .ok (.istore 4, 2) := by decide +kernel
theorem dX8_sample_20 : decode cX8_sample 20 = .ok (.iload 4, 2) := by decide +kernel
theorem dX8_sample_22 : decode cX8_sample 22 = .ok (.aload_n 0, 1) := by decide +kernel
theorem dX8_sample_23 : decode cX8_sample 23 = .ok (.getfield 205, 3) := by decide +kernel
theorem dX8_sample_26 : decode cX8_sample 26 = .ok (.if_icmp .ge 37, 3) := by decide +kernel
theorem dX8_sample_29 : decode cX8_sample 29 = .ok (.lload_n 2, 1) := by decide +kernel
theorem dX8_sample_30 : decode cX8_sample 30 = .ok (.aload_n 0, 1) := by decide +kernel
theorem dX8_sample_31 : decode cX8_sample 31 = .ok (.aload_n 0, 1) := by decide +kernel
theorem dX8_sample_32 : decode cX8_sample 32 = .ok (.getfield 74, 3) := by decide +kernel
theorem dX8_sample_35 : decode cX8_sample 35 = .ok (.iload 4, 2) := by decide +kernel
theorem dX8_sample_37 : decode cX8_sample 37 = .ok (.iaload, 1) := by decide +kernel
theorem dX8_sample_38 : decode cX8_sample 38 = .ok (.aload_n 0, 1) := by decide +kernel
theorem dX8_sample_39 : decode cX8_sample 39 = .ok (.getfield 77, 3) := by decide +kernel
theorem dX8_sample_42 : decode cX8_sample 42 = .ok (.aload_n 0, 1) := by decide +kernel
theorem dX8_sample_43 : decode cX8_sample 43 = .ok (.invokevirtual 124, 3) := by decide +kernel
theorem dX8_sample_46 : decode cX8_sample 46 = .ok (.aload_n 0, 1) := by decide +kernel
theorem dX8_sample_47 : decode cX8_sample 47 = .ok (.getfield 208, 3) := by decide +kernel
theorem dX8_sample_50 : decode cX8_sample 50 = .ok (.irem, 1) := by decide +kernel
theorem dX8_sample_51 : decode cX8_sample 51 = .ok (.iaload, 1) := by decide +kernel
theorem dX8_sample_52 : decode cX8_sample 52 = .ok (.invokevirtual 215, 3) := by decide +kernel
theorem dX8_sample_55 : decode cX8_sample 55 = .ok (.ladd, 1) := by decide +kernel
theorem dX8_sample_56 : decode cX8_sample 56 = .ok (.lstore_n 2, 1) := by decide +kernel
theorem dX8_sample_57 : decode cX8_sample 57 = .ok (.iinc 4 1, 3) := by decide +kernel
theorem dX8_sample_60 : decode cX8_sample 60 = .ok (.goto (-40), 3) := by decide +kernel
theorem dX8_sample_63 : decode cX8_sample 63 = .ok (.aload_n 0, 1) := by decide +kernel
theorem dX8_sample_64 : decode cX8_sample 64 = .ok (.lload_n 2, 1) := by decide +kernel
theorem dX8_sample_65 : decode cX8_sample 65 = .ok (.ldc2_w 164, 3) := by decide +kernel
theorem dX8_sample_68 : decode cX8_sample 68 = .ok (.aload_n 0, 1) := by decide +kernel
theorem dX8_sample_69 : decode cX8_sample 69 = .ok (.getfield 205, 3) := by decide +kernel
theorem dX8_sample_72 : decode cX8_sample 72 = .ok (.i2l, 1) := by decide +kernel
theorem dX8_sample_73 : decode cX8_sample 73 = .ok (.lmul, 1) := by decide +kernel
theorem dX8_sample_74 : decode cX8_sample 74 = .ok (.invokevirtual 146, 3) := by decide +kernel
theorem dX8_sample_77 : decode cX8_sample 77 = .ok (.aload_n 0, 1) := by decide +kernel
theorem dX8_sample_78 : decode cX8_sample 78 = .ok (.invokevirtual 191, 3) := by decide +kernel
theorem dX8_sample_81 : decode cX8_sample 81 = .ok (.iconst 1, 1) := by decide +kernel
theorem dX8_sample_82 : decode cX8_sample 82 = .ok (.ireturn, 1) := by decide +kernel
set_option maxRecDepth 20000 in
theorem ggX8_learn_X8_parted : GoodIn wsX8_learn wsX8_parted := goodIn_r _ [13, 14, 15, 16, 17, 18, 19, 20, 12, 21, 22, 23, 4, 24, 5, 25, 26, 27, 28, 29, 30, 31, 32, 33, 34, 35, 36, 37, 38, 39, 40, 41, 42, 43, 44, 1, 45, 46, 47, 48, 49, 50, 51, 52, 53, 54, 55, 56, 57, 58, 59, 60, 61, 62, 63, 64, 65, 66, 67, 68, 69, 70, 71, 72, 73, 74, 75, 76, 77, 78, 79, 80, 81, 82, 83, 84, 85, 86, 87, 88, 89, 90, 91, 92, 93, 94, 95, 96, 97, 98, 99, 100, 101, 102, 103, 104, 105, 106, 107, 108, 109, 110, 111, 112, 113, 114, 123, 124, 125, 126, 127, 128, 129, 130, 131, 132, 133, 134, 135, 136, 137, 138, 139, 140, 141, 142, 143, 144, 145, 146, 147, 148, 149, 150, 151, 152, 153, 154] rfl (by decide +kernel)
set_option maxRecDepth 20000 in
theorem gX8_learn_X8_parted : GoodIn wsX8_learn (wsV RX8 211 RX8 yX8_parted wsX8_parted) := goodIn_app (goodIn_of _ (by decide +kernel)) ggX8_learn_X8_parted
set_option maxRecDepth 20000 in
theorem ggX8_learn_X8_shares : GoodIn wsX8_learn wsX8_shares := goodIn_r _ [118, 14, 15, 16, 17, 60, 9, 10, 11, 12, 13, 18, 19, 20, 21, 22, 23, 4, 24, 5, 25, 26, 27, 28, 29, 30, 31, 32, 33, 34, 35, 36, 37, 38, 39, 40, 41, 42, 43, 44, 1, 45, 46, 47, 48, 49, 50, 51, 52, 53, 54, 55, 56, 57, 58, 59, 61, 62, 63, 64, 65, 66, 67, 68, 69, 70, 71, 72, 73, 74, 75, 76, 77, 78, 79, 80, 81, 82, 83, 84, 85, 86, 87, 88, 89, 90, 91, 92, 93, 94, 95, 96, 97, 98, 99, 100, 101, 102, 103, 104, 105, 106, 107, 108, 109, 110, 111, 112, 113, 114, 119, 120, 121, 122, 123, 124, 125, 126, 127, 128, 129, 130, 131, 132, 133, 134, 135, 136, 137, 138, 139, 140, 141, 142, 143, 144, 145, 146, 147, 148, 149, 150, 151, 152, 153, 154] rfl (by decide +kernel)
set_option maxRecDepth 20000 in
theorem gX8_learn_X8_shares : GoodIn wsX8_learn (wsV RX8 219 RX8 yX8_shares wsX8_shares) := goodIn_app (goodIn_of _ (by decide +kernel)) ggX8_learn_X8_shares
theorem dX8_learn_0 : decode cX8_learn 0 = .ok (.iload_n 1, 1) := by decide +kernel
theorem dX8_learn_1 : decode cX8_learn 1 = .ok (.ifCond .le 20, 3) := by decide +kernel
theorem dX8_learn_4 : decode cX8_learn 4 = .ok (.iload_n 1, 1) := by decide +kernel
theorem dX8_learn_5 : decode cX8_learn 5 = .ok (.sipush 2048, 3) := by decide +kernel
theorem dX8_learn_8 : decode cX8_learn 8 = .ok (.if_icmp .ge 13, 3) := by decide +kernel
theorem dX8_learn_11 : decode cX8_learn 11 = .ok (.iload_n 2, 1) := by decide +kernel
theorem dX8_learn_12 : decode cX8_learn 12 = .ok (.iconst 1, 1) := by decide +kernel
theorem dX8_learn_13 : decode cX8_learn 13 = .ok (.if_icmp .lt 8, 3) := by decide +kernel
theorem dX8_learn_16 : decode cX8_learn 16 = .ok (.iload_n 2, 1) := by decide +kernel
theorem dX8_learn_17 : decode cX8_learn 17 = .ok (.iconst 3, 1) := by decide +kernel
theorem dX8_learn_18 : decode cX8_learn 18 = .ok (.if_icmp .le 6, 3) := by decide +kernel
theorem dX8_learn_21 : decode cX8_learn 21 = .ok (.bipush (-2), 2) := by decide +kernel
theorem dX8_learn_23 : decode cX8_learn 23 = .ok (.ireturn, 1) := by decide +kernel
theorem dX8_learn_24 : decode cX8_learn 24 = .ok (.iconst 0, 1) := by decide +kernel
theorem dX8_learn_25 : decode cX8_learn 25 = .ok (.istore_n 3, 1) := by decide +kernel
theorem dX8_learn_26 : decode cX8_learn 26 = .ok (.iconst 0, 1) := by decide +kernel
theorem dX8_learn_27 : decode cX8_learn 27 = .ok (.istore 4, 2) := by decide +kernel
theorem dX8_learn_29 : decode cX8_learn 29 = .ok (.iload 4, 2) := by decide +kernel
theorem dX8_learn_31 : decode cX8_learn 31 = .ok (.bipush 11, 2) := by decide +kernel
theorem dX8_learn_33 : decode cX8_learn 33 = .ok (.if_icmp .ge 18, 3) := by decide +kernel
theorem dX8_learn_36 : decode cX8_learn 36 = .ok (.iload_n 3, 1) := by decide +kernel
theorem dX8_learn_37 : decode cX8_learn 37 = .ok (.iload_n 1, 1) := by decide +kernel
theorem dX8_learn_38 : decode cX8_learn 38 = .ok (.iload 4, 2) := by decide +kernel
theorem dX8_learn_40 : decode cX8_learn 40 = .ok (.ishr, 1) := by decide +kernel
theorem dX8_learn_41 : decode cX8_learn 41 = .ok (.iconst 1, 1) := by decide +kernel
theorem dX8_learn_42 : decode cX8_learn 42 = .ok (.iand, 1) := by decide +kernel
theorem dX8_learn_43 : decode cX8_learn 43 = .ok (.iadd, 1) := by decide +kernel
theorem dX8_learn_44 : decode cX8_learn 44 = .ok (.istore_n 3, 1) := by decide +kernel
theorem dX8_learn_45 : decode cX8_learn 45 = .ok (.iinc 4 1, 3) := by decide +kernel
theorem dX8_learn_48 : decode cX8_learn 48 = .ok (.goto (-19), 3) := by decide +kernel
theorem dX8_learn_51 : decode cX8_learn 51 = .ok (.iload_n 3, 1) := by decide +kernel
theorem dX8_learn_52 : decode cX8_learn 52 = .ok (.iconst 3, 1) := by decide +kernel
theorem dX8_learn_53 : decode cX8_learn 53 = .ok (.if_icmp .le 6, 3) := by decide +kernel
theorem dX8_learn_56 : decode cX8_learn 56 = .ok (.bipush (-2), 2) := by decide +kernel
theorem dX8_learn_58 : decode cX8_learn 58 = .ok (.ireturn, 1) := by decide +kernel
theorem dX8_learn_59 : decode cX8_learn 59 = .ok (.aload_n 0, 1) := by decide +kernel
theorem dX8_learn_60 : decode cX8_learn 60 = .ok (.invokevirtual 211, 3) := by decide +kernel
theorem dX8_learn_63 : decode cX8_learn 63 = .ok (.ifCond .ne 6, 3) := by decide +kernel
theorem dX8_learn_66 : decode cX8_learn 66 = .ok (.bipush (-3), 2) := by decide +kernel
theorem dX8_learn_68 : decode cX8_learn 68 = .ok (.ireturn, 1) := by decide +kernel
theorem dX8_learn_69 : decode cX8_learn 69 = .ok (.iconst 0, 1) := by decide +kernel
theorem dX8_learn_70 : decode cX8_learn 70 = .ok (.istore_n 3, 1) := by decide +kernel
theorem dX8_learn_71 : decode cX8_learn 71 = .ok (.iconst 0, 1) := by decide +kernel
theorem dX8_learn_72 : decode cX8_learn 72 = .ok (.istore 4, 2) := by decide +kernel
theorem dX8_learn_74 : decode cX8_learn 74 = .ok (.iload 4, 2) := by decide +kernel
theorem dX8_learn_76 : decode cX8_learn 76 = .ok (.bipush 11, 2) := by decide +kernel
theorem dX8_learn_78 : decode cX8_learn 78 = .ok (.if_icmp .ge 38, 3) := by decide +kernel
theorem dX8_learn_81 : decode cX8_learn 81 = .ok (.aload_n 0, 1) := by decide +kernel
theorem dX8_learn_82 : decode cX8_learn 82 = .ok (.getfield 33, 3) := by decide +kernel
theorem dX8_learn_85 : decode cX8_learn 85 = .ok (.iload 4, 2) := by decide +kernel
theorem dX8_learn_87 : decode cX8_learn 87 = .ok (.iconst 0, 1) := by decide +kernel
theorem dX8_learn_88 : decode cX8_learn 88 = .ok (.iastore, 1) := by decide +kernel
theorem dX8_learn_89 : decode cX8_learn 89 = .ok (.iload_n 1, 1) := by decide +kernel
theorem dX8_learn_90 : decode cX8_learn 90 = .ok (.iload 4, 2) := by decide +kernel
theorem dX8_learn_92 : decode cX8_learn 92 = .ok (.ishr, 1) := by decide +kernel
theorem dX8_learn_93 : decode cX8_learn 93 = .ok (.iconst 1, 1) := by decide +kernel
theorem dX8_learn_94 : decode cX8_learn 94 = .ok (.iand, 1) := by decide +kernel
theorem dX8_learn_95 : decode cX8_learn 95 = .ok (.iconst 1, 1) := by decide +kernel
theorem dX8_learn_96 : decode cX8_learn 96 = .ok (.if_icmp .ne 14, 3) := by decide +kernel
theorem dX8_learn_99 : decode cX8_learn 99 = .ok (.aload_n 0, 1) := by decide +kernel
theorem dX8_learn_100 : decode cX8_learn 100 = .ok (.getfield 80, 3) := by decide +kernel
theorem dX8_learn_103 : decode cX8_learn 103 = .ok (.iload_n 3, 1) := by decide +kernel
theorem dX8_learn_104 : decode cX8_learn 104 = .ok (.iload 4, 2) := by decide +kernel
theorem dX8_learn_106 : decode cX8_learn 106 = .ok (.iastore, 1) := by decide +kernel
theorem dX8_learn_107 : decode cX8_learn 107 = .ok (.iinc 3 1, 3) := by decide +kernel
theorem dX8_learn_110 : decode cX8_learn 110 = .ok (.iinc 4 1, 3) := by decide +kernel
theorem dX8_learn_113 : decode cX8_learn 113 = .ok (.goto (-39), 3) := by decide +kernel
theorem dX8_learn_116 : decode cX8_learn 116 = .ok (.ldc2_w 222, 3) := by decide +kernel
theorem dX8_learn_119 : decode cX8_learn 119 = .ok (.lstore 4, 2) := by decide +kernel
theorem dX8_learn_121 : decode cX8_learn 121 = .ok (.lconst 1, 1) := by decide +kernel
theorem dX8_learn_122 : decode cX8_learn 122 = .ok (.lstore 6, 2) := by decide +kernel
theorem dX8_learn_124 : decode cX8_learn 124 = .ok (.iconst 1, 1) := by decide +kernel
theorem dX8_learn_125 : decode cX8_learn 125 = .ok (.istore 8, 2) := by decide +kernel
theorem dX8_learn_127 : decode cX8_learn 127 = .ok (.iconst 0, 1) := by decide +kernel
theorem dX8_learn_128 : decode cX8_learn 128 = .ok (.istore 9, 2) := by decide +kernel
theorem dX8_learn_130 : decode cX8_learn 130 = .ok (.iload 9, 2) := by decide +kernel
theorem dX8_learn_132 : decode cX8_learn 132 = .ok (.iload_n 3, 1) := by decide +kernel
theorem dX8_learn_133 : decode cX8_learn 133 = .ok (.if_icmp .ge 17, 3) := by decide +kernel
theorem dX8_learn_136 : decode cX8_learn 136 = .ok (.iload 8, 2) := by decide +kernel
theorem dX8_learn_138 : decode cX8_learn 138 = .ok (.iload_n 2, 1) := by decide +kernel
theorem dX8_learn_139 : decode cX8_learn 139 = .ok (.iconst 1, 1) := by decide +kernel
theorem dX8_learn_140 : decode cX8_learn 140 = .ok (.iadd, 1) := by decide +kernel
theorem dX8_learn_141 : decode cX8_learn 141 = .ok (.imul, 1) := by decide +kernel
theorem dX8_learn_142 : decode cX8_learn 142 = .ok (.istore 8, 2) := by decide +kernel
theorem dX8_learn_144 : decode cX8_learn 144 = .ok (.iinc 9 1, 3) := by decide +kernel
theorem dX8_learn_147 : decode cX8_learn 147 = .ok (.goto (-17), 3) := by decide +kernel
theorem dX8_learn_150 : decode cX8_learn 150 = .ok (.iconst 0, 1) := by decide +kernel
theorem dX8_learn_151 : decode cX8_learn 151 = .ok (.istore 9, 2) := by decide +kernel
theorem dX8_learn_153 : decode cX8_learn 153 = .ok (.iload 9, 2) := by decide +kernel
theorem dX8_learn_155 : decode cX8_learn 155 = .ok (.iload 8, 2) := by decide +kernel
theorem dX8_learn_157 : decode cX8_learn 157 = .ok (.if_icmp .ge 130, 3) := by decide +kernel
theorem dX8_learn_160 : decode cX8_learn 160 = .ok (.iload 9, 2) := by decide +kernel
theorem dX8_learn_162 : decode cX8_learn 162 = .ok (.istore 10, 2) := by decide +kernel
theorem dX8_learn_164 : decode cX8_learn 164 = .ok (.iload_n 3, 1) := by decide +kernel
theorem dX8_learn_165 : decode cX8_learn 165 = .ok (.iconst 1, 1) := by decide +kernel
theorem dX8_learn_166 : decode cX8_learn 166 = .ok (.isub, 1) := by decide +kernel
theorem dX8_learn_167 : decode cX8_learn 167 = .ok (.istore 11, 2) := by decide +kernel
theorem dX8_learn_169 : decode cX8_learn 169 = .ok (.iload 11, 2) := by decide +kernel
theorem dX8_learn_171 : decode cX8_learn 171 = .ok (.ifCond .lt 35, 3) := by decide +kernel
theorem dX8_learn_174 : decode cX8_learn 174 = .ok (.aload_n 0, 1) := by decide +kernel
theorem dX8_learn_175 : decode cX8_learn 175 = .ok (.getfield 33, 3) := by decide +kernel
theorem dX8_learn_178 : decode cX8_learn 178 = .ok (.aload_n 0, 1) := by decide +kernel
theorem dX8_learn_179 : decode cX8_learn 179 = .ok (.getfield 80, 3) := by decide +kernel
theorem dX8_learn_182 : decode cX8_learn 182 = .ok (.iload 11, 2) := by decide +kernel
theorem dX8_learn_184 : decode cX8_learn 184 = .ok (.iaload, 1) := by decide +kernel
theorem dX8_learn_185 : decode cX8_learn 185 = .ok (.iload 10, 2) := by decide +kernel
theorem dX8_learn_187 : decode cX8_learn 187 = .ok (.iload_n 2, 1) := by decide +kernel
theorem dX8_learn_188 : decode cX8_learn 188 = .ok (.iconst 1, 1) := by decide +kernel
theorem dX8_learn_189 : decode cX8_learn 189 = .ok (.iadd, 1) := by decide +kernel
theorem dX8_learn_190 : decode cX8_learn 190 = .ok (.irem, 1) := by decide +kernel
theorem dX8_learn_191 : decode cX8_learn 191 = .ok (.iastore, 1) := by decide +kernel
theorem dX8_learn_192 : decode cX8_learn 192 = .ok (.iload 10, 2) := by decide +kernel
theorem dX8_learn_194 : decode cX8_learn 194 = .ok (.iload_n 2, 1) := by decide +kernel
theorem dX8_learn_195 : decode cX8_learn 195 = .ok (.iconst 1, 1) := by decide +kernel
theorem dX8_learn_196 : decode cX8_learn 196 = .ok (.iadd, 1) := by decide +kernel
theorem dX8_learn_197 : decode cX8_learn 197 = .ok (.idiv, 1) := by decide +kernel
theorem dX8_learn_198 : decode cX8_learn 198 = .ok (.istore 10, 2) := by decide +kernel
theorem dX8_learn_200 : decode cX8_learn 200 = .ok (.iinc 11 (-1), 3) := by decide +kernel
theorem dX8_learn_203 : decode cX8_learn 203 = .ok (.goto (-34), 3) := by decide +kernel
theorem dX8_learn_206 : decode cX8_learn 206 = .ok (.aload_n 0, 1) := by decide +kernel
theorem dX8_learn_207 : decode cX8_learn 207 = .ok (.invokevirtual 219, 3) := by decide +kernel
theorem dX8_learn_210 : decode cX8_learn 210 = .ok (.istore 11, 2) := by decide +kernel
theorem dX8_learn_212 : decode cX8_learn 212 = .ok (.iload 11, 2) := by decide +kernel
theorem dX8_learn_214 : decode cX8_learn 214 = .ok (.ifCond .eq 67, 3) := by decide +kernel
theorem dX8_learn_217 : decode cX8_learn 217 = .ok (.aload_n 0, 1) := by decide +kernel
theorem dX8_learn_218 : decode cX8_learn 218 = .ok (.getfield 136, 3) := by decide +kernel
theorem dX8_learn_221 : decode cX8_learn 221 = .ok (.lload 6, 2) := by decide +kernel
theorem dX8_learn_223 : decode cX8_learn 223 = .ok (.lmul, 1) := by decide +kernel
theorem dX8_learn_224 : decode cX8_learn 224 = .ok (.lload 4, 2) := by decide +kernel
theorem dX8_learn_226 : decode cX8_learn 226 = .ok (.aload_n 0, 1) := by decide +kernel
theorem dX8_learn_227 : decode cX8_learn 227 = .ok (.getfield 139, 3) := by decide +kernel
theorem dX8_learn_230 : decode cX8_learn 230 = .ok (.lmul, 1) := by decide +kernel
theorem dX8_learn_231 : decode cX8_learn 231 = .ok (.lcmp, 1) := by decide +kernel
theorem dX8_learn_232 : decode cX8_learn 232 = .ok (.ifCond .le 49, 3) := by decide +kernel
theorem dX8_learn_235 : decode cX8_learn 235 = .ok (.aload_n 0, 1) := by decide +kernel
theorem dX8_learn_236 : decode cX8_learn 236 = .ok (.getfield 136, 3) := by decide +kernel
theorem dX8_learn_239 : decode cX8_learn 239 = .ok (.lstore 4, 2) := by decide +kernel
theorem dX8_learn_241 : decode cX8_learn 241 = .ok (.aload_n 0, 1) := by decide +kernel
theorem dX8_learn_242 : decode cX8_learn 242 = .ok (.getfield 139, 3) := by decide +kernel
theorem dX8_learn_245 : decode cX8_learn 245 = .ok (.lstore 6, 2) := by decide +kernel
theorem dX8_learn_247 : decode cX8_learn 247 = .ok (.iconst 0, 1) := by decide +kernel
theorem dX8_learn_248 : decode cX8_learn 248 = .ok (.istore 12, 2) := by decide +kernel
theorem dX8_learn_250 : decode cX8_learn 250 = .ok (.iload 12, 2) := by decide +kernel
theorem dX8_learn_252 : decode cX8_learn 252 = .ok (.iload_n 3, 1) := by decide +kernel
theorem dX8_learn_253 : decode cX8_learn 253 = .ok (.if_icmp .ge 28, 3) := by decide +kernel
theorem dX8_learn_256 : decode cX8_learn 256 = .ok (.aload_n 0, 1) := by decide +kernel
theorem dX8_learn_257 : decode cX8_learn 257 = .ok (.getfield 83, 3) := by decide +kernel
theorem dX8_learn_260 : decode cX8_learn 260 = .ok (.iload 12, 2) := by decide +kernel
theorem dX8_learn_262 : decode cX8_learn 262 = .ok (.aload_n 0, 1) := by decide +kernel
theorem dX8_learn_263 : decode cX8_learn 263 = .ok (.getfield 33, 3) := by decide +kernel
theorem dX8_learn_266 : decode cX8_learn 266 = .ok (.aload_n 0, 1) := by decide +kernel
theorem dX8_learn_267 : decode cX8_learn 267 = .ok (.getfield 80, 3) := by decide +kernel
theorem dX8_learn_270 : decode cX8_learn 270 = .ok (.iload 12, 2) := by decide +kernel
theorem dX8_learn_272 : decode cX8_learn 272 = .ok (.iaload, 1) := by decide +kernel
theorem dX8_learn_273 : decode cX8_learn 273 = .ok (.iaload, 1) := by decide +kernel
theorem dX8_learn_274 : decode cX8_learn 274 = .ok (.iastore, 1) := by decide +kernel
theorem dX8_learn_275 : decode cX8_learn 275 = .ok (.iinc 12 1, 3) := by decide +kernel
theorem dX8_learn_278 : decode cX8_learn 278 = .ok (.goto (-28), 3) := by decide +kernel
theorem dX8_learn_281 : decode cX8_learn 281 = .ok (.iinc 9 1, 3) := by decide +kernel
theorem dX8_learn_284 : decode cX8_learn 284 = .ok (.goto (-131), 3) := by decide +kernel
theorem dX8_learn_287 : decode cX8_learn 287 = .ok (.iconst 0, 1) := by decide +kernel
theorem dX8_learn_288 : decode cX8_learn 288 = .ok (.istore 9, 2) := by decide +kernel
theorem dX8_learn_290 : decode cX8_learn 290 = .ok (.iload 9, 2) := by decide +kernel
theorem dX8_learn_292 : decode cX8_learn 292 = .ok (.iload_n 3, 1) := by decide +kernel
theorem dX8_learn_293 : decode cX8_learn 293 = .ok (.if_icmp .ge 28, 3) := by decide +kernel
theorem dX8_learn_296 : decode cX8_learn 296 = .ok (.aload_n 0, 1) := by decide +kernel
theorem dX8_learn_297 : decode cX8_learn 297 = .ok (.getfield 33, 3) := by decide +kernel
theorem dX8_learn_300 : decode cX8_learn 300 = .ok (.aload_n 0, 1) := by decide +kernel
theorem dX8_learn_301 : decode cX8_learn 301 = .ok (.getfield 80, 3) := by decide +kernel
theorem dX8_learn_304 : decode cX8_learn 304 = .ok (.iload 9, 2) := by decide +kernel
theorem dX8_learn_306 : decode cX8_learn 306 = .ok (.iaload, 1) := by decide +kernel
theorem dX8_learn_307 : decode cX8_learn 307 = .ok (.aload_n 0, 1) := by decide +kernel
theorem dX8_learn_308 : decode cX8_learn 308 = .ok (.getfield 83, 3) := by decide +kernel
theorem dX8_learn_311 : decode cX8_learn 311 = .ok (.iload 9, 2) := by decide +kernel
theorem dX8_learn_313 : decode cX8_learn 313 = .ok (.iaload, 1) := by decide +kernel
