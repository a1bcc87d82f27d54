abbrev vwCl : List vw_C := [(RX0, TX0, 10), (RX1, TX1, 8), (RX2, TX2, 14), (RX3, TX3, 3), (RX4, TX4, 11), (RX5, TX5, 5), (RX6, TX6, 5), (RX7, TX7, 5), (RX8, TX8, 2), (RX9, TX9, 11), (RX10, TX10, 13), (RX11, TX11, 63)]
theorem dX11_restore_89 : decode cX11_restore 89 = .ok (.iload_n 2, 1) := by decide +kernel
theorem dX11_restore_90 : decode cX11_restore 90 = .ok (.aload_n 0, 1) := by decide +kernel
theorem dX11_restore_91 : decode cX11_restore 91 = .ok (.invokevirtual 302, 3) := by decide +kernel
theorem dX11_restore_94 : decode cX11_restore 94 = .ok (.iastore, 1) := by decide +kernel
theorem dX11_restore_95 : decode cX11_restore 95 = .ok (.iinc 2 1, 3) := by decide +kernel
theorem dX11_restore_98 : decode cX11_restore 98 = .ok (.goto (-20), 3) := by decide +kernel
theorem dX11_restore_101 : decode cX11_restore 101 = .ok (.iconst 0, 1) := by decide +kernel
theorem dX11_restore_102 : decode cX11_restore 102 = .ok (.istore_n 2, 1) := by decide +kernel
theorem dX11_restore_103 : decode cX11_restore 103 = .ok (.iload_n 2, 1) := by decide +kernel
theorem dX11_restore_104 : decode cX11_restore 104 = .ok (.sipush 128, 3) := by decide +kernel
theorem dX11_restore_107 : decode cX11_restore 107 = .ok (.if_icmp .ge 19, 3) := by decide +kernel
theorem dX11_restore_110 : decode cX11_restore 110 = .ok (.aload_n 0, 1) := by decide +kernel
theorem dX11_restore_111 : decode cX11_restore 111 = .ok (.getfield 34, 3) := by decide +kernel
theorem dX11_restore_114 : decode cX11_restore 114 = .ok (.iload_n 2, 1) := by decide +kernel
theorem dX11_restore_115 : decode cX11_restore 115 = .ok (.aload_n 0, 1) := by decide +kernel
theorem dX11_restore_116 : decode cX11_restore 116 = .ok (.invokevirtual 302, 3) := by decide +kernel
theorem dX11_restore_119 : decode cX11_restore 119 = .ok (.iastore, 1) := by decide +kernel
theorem dX11_restore_120 : decode cX11_restore 120 = .ok (.iinc 2 1, 3) := by decide +kernel
theorem dX11_restore_123 : decode cX11_restore 123 = .ok (.goto (-20), 3) := by decide +kernel
theorem dX11_restore_126 : decode cX11_restore 126 = .ok (.iconst 0, 1) := by decide +kernel
theorem dX11_restore_127 : decode cX11_restore 127 = .ok (.istore_n 2, 1) := by decide +kernel
theorem dX11_restore_128 : decode cX11_restore 128 = .ok (.iload_n 2, 1) := by decide +kernel
theorem dX11_restore_129 : decode cX11_restore 129 = .ok (.bipush 100, 2) := by decide +kernel
theorem dX11_restore_131 : decode cX11_restore 131 = .ok (.if_icmp .ge 19, 3) := by decide +kernel
theorem dX11_restore_134 : decode cX11_restore 134 = .ok (.aload_n 0, 1) := by decide +kernel
theorem dX11_restore_135 : decode cX11_restore 135 = .ok (.getfield 62, 3) := by decide +kernel
theorem dX11_restore_138 : decode cX11_restore 138 = .ok (.iload_n 2, 1) := by decide +kernel
theorem dX11_restore_139 : decode cX11_restore 139 = .ok (.aload_n 0, 1) := by decide +kernel
theorem dX11_restore_140 : decode cX11_restore 140 = .ok (.invokevirtual 302, 3) := by decide +kernel
theorem dX11_restore_143 : decode cX11_restore 143 = .ok (.iastore, 1) := by decide +kernel
theorem dX11_restore_144 : decode cX11_restore 144 = .ok (.iinc 2 1, 3) := by decide +kernel
theorem dX11_restore_147 : decode cX11_restore 147 = .ok (.goto (-19), 3) := by decide +kernel
theorem dX11_restore_150 : decode cX11_restore 150 = .ok (.iconst 0, 1) := by decide +kernel
theorem dX11_restore_151 : decode cX11_restore 151 = .ok (.istore_n 2, 1) := by decide +kernel
theorem dX11_restore_152 : decode cX11_restore 152 = .ok (.iload_n 2, 1) := by decide +kernel
theorem dX11_restore_153 : decode cX11_restore 153 = .ok (.sipush 160, 3) := by decide +kernel
theorem dX11_restore_156 : decode cX11_restore 156 = .ok (.if_icmp .ge 19, 3) := by decide +kernel
theorem dX11_restore_159 : decode cX11_restore 159 = .ok (.aload_n 0, 1) := by decide +kernel
theorem dX11_restore_160 : decode cX11_restore 160 = .ok (.getfield 65, 3) := by decide +kernel
theorem dX11_restore_163 : decode cX11_restore 163 = .ok (.iload_n 2, 1) := by decide +kernel
theorem dX11_restore_164 : decode cX11_restore 164 = .ok (.aload_n 0, 1) := by decide +kernel
theorem dX11_restore_165 : decode cX11_restore 165 = .ok (.invokevirtual 302, 3) := by decide +kernel
theorem dX11_restore_168 : decode cX11_restore 168 = .ok (.iastore, 1) := by decide +kernel
theorem dX11_restore_169 : decode cX11_restore 169 = .ok (.iinc 2 1, 3) := by decide +kernel
theorem dX11_restore_172 : decode cX11_restore 172 = .ok (.goto (-20), 3) := by decide +kernel
theorem dX11_restore_175 : decode cX11_restore 175 = .ok (.iconst 0, 1) := by decide +kernel
theorem dX11_restore_176 : decode cX11_restore 176 = .ok (.istore_n 2, 1) := by decide +kernel
theorem dX11_restore_177 : decode cX11_restore 177 = .ok (.iload_n 2, 1) := by decide +kernel
theorem dX11_restore_178 : decode cX11_restore 178 = .ok (.sipush 160, 3) := by decide +kernel
theorem dX11_restore_181 : decode cX11_restore 181 = .ok (.if_icmp .ge 19, 3) := by decide +kernel
theorem dX11_restore_184 : decode cX11_restore 184 = .ok (.aload_n 0, 1) := by decide +kernel
theorem dX11_restore_185 : decode cX11_restore 185 = .ok (.getfield 68, 3) := by decide +kernel
theorem dX11_restore_188 : decode cX11_restore 188 = .ok (.iload_n 2, 1) := by decide +kernel
theorem dX11_restore_189 : decode cX11_restore 189 = .ok (.aload_n 0, 1) := by decide +kernel
theorem dX11_restore_190 : decode cX11_restore 190 = .ok (.invokevirtual 302, 3) := by decide +kernel
theorem dX11_restore_193 : decode cX11_restore 193 = .ok (.iastore, 1) := by decide +kernel
theorem dX11_restore_194 : decode cX11_restore 194 = .ok (.iinc 2 1, 3) := by decide +kernel
theorem dX11_restore_197 : decode cX11_restore 197 = .ok (.goto (-20), 3) := by decide +kernel
theorem dX11_restore_200 : decode cX11_restore 200 = .ok (.iconst 0, 1) := by decide +kernel
theorem dX11_restore_201 : decode cX11_restore 201 = .ok (.istore_n 2, 1) := by decide +kernel
theorem dX11_restore_202 : decode cX11_restore 202 = .ok (.iload_n 2, 1) := by decide +kernel
theorem dX11_restore_203 : decode cX11_restore 203 = .ok (.sipush 1024, 3) := by decide +kernel
theorem dX11_restore_206 : decode cX11_restore 206 = .ok (.if_icmp .ge 19, 3) := by decide +kernel
theorem dX11_restore_209 : decode cX11_restore 209 = .ok (.aload_n 0, 1) := by decide +kernel
theorem dX11_restore_210 : decode cX11_restore 210 = .ok (.getfield 71, 3) := by decide +kernel
theorem dX11_restore_213 : decode cX11_restore 213 = .ok (.iload_n 2, 1) := by decide +kernel
theorem dX11_restore_214 : decode cX11_restore 214 = .ok (.aload_n 0, 1) := by decide +kernel
theorem dX11_restore_215 : decode cX11_restore 215 = .ok (.invokevirtual 302, 3) := by decide +kernel
theorem dX11_restore_218 : decode cX11_restore 218 = .ok (.iastore, 1) := by decide +kernel
theorem dX11_restore_219 : decode cX11_restore 219 = .ok (.iinc 2 1, 3) := by decide +kernel
theorem dX11_restore_222 : decode cX11_restore 222 = .ok (.goto (-20), 3) := by decide +kernel
theorem dX11_restore_225 : decode cX11_restore 225 = .ok (.iconst 0, 1) := by decide +kernel
theorem dX11_restore_226 : decode cX11_restore 226 = .ok (.istore_n 2, 1) := by decide +kernel
theorem dX11_restore_227 : decode cX11_restore 227 = .ok (.iload_n 2, 1) := by decide +kernel
theorem dX11_restore_228 : decode cX11_restore 228 = .ok (.bipush 10, 2) := by decide +kernel
theorem dX11_restore_230 : decode cX11_restore 230 = .ok (.if_icmp .ge 19, 3) := by decide +kernel
theorem dX11_restore_233 : decode cX11_restore 233 = .ok (.aload_n 0, 1) := by decide +kernel
theorem dX11_restore_234 : decode cX11_restore 234 = .ok (.getfield 74, 3) := by decide +kernel
theorem dX11_restore_237 : decode cX11_restore 237 = .ok (.iload_n 2, 1) := by decide +kernel
theorem dX11_restore_238 : decode cX11_restore 238 = .ok (.aload_n 0, 1) := by decide +kernel
theorem dX11_restore_239 : decode cX11_restore 239 = .ok (.invokevirtual 302, 3) := by decide +kernel
theorem dX11_restore_242 : decode cX11_restore 242 = .ok (.iastore, 1) := by decide +kernel
theorem dX11_restore_243 : decode cX11_restore 243 = .ok (.iinc 2 1, 3) := by decide +kernel
theorem dX11_restore_246 : decode cX11_restore 246 = .ok (.goto (-19), 3) := by decide +kernel
theorem dX11_restore_249 : decode cX11_restore 249 = .ok (.iconst 0, 1) := by decide +kernel
theorem dX11_restore_250 : decode cX11_restore 250 = .ok (.istore_n 2, 1) := by decide +kernel
theorem dX11_restore_251 : decode cX11_restore 251 = .ok (.iload_n 2, 1) := by decide +kernel
theorem dX11_restore_252 : decode cX11_restore 252 = .ok (.iconst 5, 1) := by decide +kernel
theorem dX11_restore_253 : decode cX11_restore 253 = .ok (.if_icmp .ge 19, 3) := by decide +kernel
theorem dX11_restore_256 : decode cX11_restore 256 = .ok (.aload_n 0, 1) := by decide +kernel
theorem dX11_restore_257 : decode cX11_restore 257 = .ok (.getfield 134, 3) := by decide +kernel
theorem dX11_restore_260 : decode cX11_restore 260 = .ok (.iload_n 2, 1) := by decide +kernel
theorem dX11_restore_261 : decode cX11_restore 261 = .ok (.aload_n 0, 1) := by decide +kernel
theorem dX11_restore_262 : decode cX11_restore 262 = .ok (.invokevirtual 302, 3) := by decide +kernel
theorem dX11_restore_265 : decode cX11_restore 265 = .ok (.iastore, 1) := by decide +kernel
theorem dX11_restore_266 : decode cX11_restore 266 = .ok (.iinc 2 1, 3) := by decide +kernel
theorem dX11_restore_269 : decode cX11_restore 269 = .ok (.goto (-18), 3) := by decide +kernel
theorem dX11_restore_272 : decode cX11_restore 272 = .ok (.aload_n 0, 1) := by decide +kernel
theorem dX11_restore_273 : decode cX11_restore 273 = .ok (.aload_n 0, 1) := by decide +kernel
theorem dX11_restore_274 : decode cX11_restore 274 = .ok (.invokevirtual 302, 3) := by decide +kernel
theorem dX11_restore_277 : decode cX11_restore 277 = .ok (.iconst 1, 1) := by decide +kernel
theorem dX11_restore_278 : decode cX11_restore 278 = .ok (.if_icmp .ne 7, 3) := by decide +kernel
theorem dX11_restore_281 : decode cX11_restore 281 = .ok (.iconst 1, 1) := by decide +kernel
theorem dX11_restore_282 : decode cX11_restore 282 = .ok (.goto 4, 3) := by decide +kernel
theorem dX11_restore_285 : decode cX11_restore 285 = .ok (.iconst 0, 1) := by decide +kernel
theorem dX11_restore_286 : decode cX11_restore 286 = .ok (.putfield 290, 3) := by decide +kernel
theorem dX11_restore_289 : decode cX11_restore 289 = .ok (.aload_n 0, 1) := by decide +kernel
theorem dX11_restore_290 : decode cX11_restore 290 = .ok (.aload_n 0, 1) := by decide +kernel
theorem dX11_restore_291 : decode cX11_restore 291 = .ok (.invokevirtual 302, 3) := by decide +kernel
theorem dX11_restore_294 : decode cX11_restore 294 = .ok (.putfield 287, 3) := by decide +kernel
theorem dX11_restore_297 : decode cX11_restore 297 = .ok (.aload_n 0, 1) := by decide +kernel
theorem dX11_restore_298 : decode cX11_restore 298 = .ok (.aload_n 0, 1) := by decide +kernel
theorem dX11_restore_299 : decode cX11_restore 299 = .ok (.invokevirtual 302, 3) := by decide +kernel
theorem dX11_restore_302 : decode cX11_restore 302 = .ok (.putfield 193, 3) := by decide +kernel
theorem dX11_restore_305 : decode cX11_restore 305 = .ok (.aload_n 0, 1) := by decide +kernel
theorem dX11_restore_306 : decode cX11_restore 306 = .ok (.aload_n 0, 1) := by decide +kernel
theorem dX11_restore_307 : decode cX11_restore 307 = .ok (.invokevirtual 302, 3) := by decide +kernel
theorem dX11_restore_310 : decode cX11_restore 310 = .ok (.putfield 245, 3) := by decide +kernel
theorem dX11_restore_313 : decode cX11_restore 313 = .ok (.aload_n 0, 1) := by decide +kernel
theorem dX11_restore_314 : decode cX11_restore 314 = .ok (.aload_n 0, 1) := by decide +kernel
theorem dX11_restore_315 : decode cX11_restore 315 = .ok (.invokevirtual 302, 3) := by decide +kernel
theorem dX11_restore_318 : decode cX11_restore 318 = .ok (.putfield 242, 3) := by decide +kernel
theorem dX11_restore_321 : decode cX11_restore 321 = .ok (.iconst 0, 1) := by decide +kernel
theorem dX11_restore_322 : decode cX11_restore 322 = .ok (.istore_n 2, 1) := by decide +kernel
theorem dX11_restore_323 : decode cX11_restore 323 = .ok (.iload_n 2, 1) := by decide +kernel
theorem dX11_restore_324 : decode cX11_restore 324 = .ok (.aload_n 0, 1) := by decide +kernel
theorem dX11_restore_325 : decode cX11_restore 325 = .ok (.getfield 242, 3) := by decide +kernel
theorem dX11_restore_328 : decode cX11_restore 328 = .ok (.if_icmp .ge 68, 3) := by decide +kernel
theorem dX11_restore_331 : decode cX11_restore 331 = .ok (.aload_n 0, 1) := by decide +kernel
theorem dX11_restore_332 : decode cX11_restore 332 = .ok (.getfield 98, 3) := by decide +kernel
theorem dX11_restore_335 : decode cX11_restore 335 = .ok (.iload_n 2, 1) := by decide +kernel
theorem dX11_restore_336 : decode cX11_restore 336 = .ok (.aload_n 0, 1) := by decide +kernel
theorem dX11_restore_337 : decode cX11_restore 337 = .ok (.invokevirtual 302, 3) := by decide +kernel
theorem dX11_restore_340 : decode cX11_restore 340 = .ok (.iastore, 1) := by decide +kernel
theorem dX11_restore_341 : decode cX11_restore 341 = .ok (.aload_n 0, 1) := by decide +kernel
theorem dX11_restore_342 : decode cX11_restore 342 = .ok (.getfield 101, 3) := by decide +kernel
theorem dX11_restore_345 : decode cX11_restore 345 = .ok (.iload_n 2, 1) := by decide +kernel
theorem dX11_restore_346 : decode cX11_restore 346 = .ok (.aload_n 0, 1) := by decide +kernel
theorem dX11_restore_347 : decode cX11_restore 347 = .ok (.invokevirtual 302, 3) := by decide +kernel
theorem dX11_restore_350 : decode cX11_restore 350 = .ok (.iastore, 1) := by decide +kernel
theorem dX11_restore_351 : decode cX11_restore 351 = .ok (.aload_n 0, 1) := by decide +kernel
theorem dX11_restore_352 : decode cX11_restore 352 = .ok (.getfield 104, 3) := by decide +kernel
theorem dX11_restore_355 : decode cX11_restore 355 = .ok (.iload_n 2, 1) := by decide +kernel
theorem dX11_restore_356 : decode cX11_restore 356 = .ok (.aload_n 0, 1) := by decide +kernel
theorem dX11_restore_357 : decode cX11_restore 357 = .ok (.invokevirtual 302, 3) := by decide +kernel
theorem dX11_restore_360 : decode cX11_restore 360 = .ok (.iastore, 1) := by decide +kernel
theorem dX11_restore_361 : decode cX11_restore 361 = .ok (.aload_n 0, 1) := by decide +kernel
theorem dX11_restore_362 : decode cX11_restore 362 = .ok (.getfield 107, 3) := by decide +kernel
theorem dX11_restore_365 : decode cX11_restore 365 = .ok (.iload_n 2, 1) := by decide +kernel
theorem dX11_restore_366 : decode cX11_restore 366 = .ok (.aload_n 0, 1) := by decide +kernel
theorem dX11_restore_367 : decode cX11_restore 367 = .ok (.invokevirtual 302, 3) := by decide +kernel
theorem dX11_restore_370 : decode cX11_restore 370 = .ok (.iastore, 1) := by decide +kernel
theorem dX11_restore_371 : decode cX11_restore 371 = .ok (.aload_n 0, 1) := by decide +kernel
theorem dX11_restore_372 : decode cX11_restore 372 = .ok (.getfield 110, 3) := by decide +kernel
theorem dX11_restore_375 : decode cX11_restore 375 = .ok (.iload_n 2, 1) := by decide +kernel
theorem dX11_restore_376 : decode cX11_restore 376 = .ok (.aload_n 0, 1) := by decide +kernel
theorem dX11_restore_377 : decode cX11_restore 377 = .ok (.invokevirtual 302, 3) := by decide +kernel
theorem dX11_restore_380 : decode cX11_restore 380 = .ok (.iconst 1, 1) := by decide +kernel
theorem dX11_restore_381 : decode cX11_restore 381 = .ok (.if_icmp .ne 7, 3) := by decide +kernel
theorem dX11_restore_384 : decode cX11_restore 384 = .ok (.iconst 1, 1) := by decide +kernel
theorem dX11_restore_385 : decode cX11_restore 385 = .ok (.goto 4, 3) := by decide +kernel
theorem dX11_restore_388 : decode cX11_restore 388 = .ok (.iconst 0, 1) := by decide +kernel
theorem dX11_restore_389 : decode cX11_restore 389 = .ok (.bastore, 1) := by decide +kernel
theorem dX11_restore_390 : decode cX11_restore 390 = .ok (.iinc 2 1, 3) := by decide +kernel
theorem dX11_restore_393 : decode cX11_restore 393 = .ok (.goto (-70), 3) := by decide +kernel
theorem dX11_restore_396 : decode cX11_restore 396 = .ok (.iconst 1, 1) := by decide +kernel
theorem dX11_restore_397 : decode cX11_restore 397 = .ok (.ireturn, 1) := by decide +kernel
set_option maxRecDepth 20000 in
theorem ggX11_count_X11_waitingNow : GoodIn wsX11_count wsX11_waitingNow := goodIn_r _ [13, 7, 14, 15, 16, 17, 18, 19, 20, 21, 22, 23, 24, 25, 26, 27, 28, 29, 30, 31, 32, 33, 34, 35, 36, 37, 38, 39, 40, 41, 42, 43, 44, 45, 46, 47, 48, 49, 50, 51, 52, 53, 54, 55, 56, 57, 58, 59, 60, 61, 62, 63, 64, 65, 66, 67, 68, 69, 70, 71, 72, 73, 74, 75, 76, 77] (by decide +kernel) (by decide +kernel)
set_option maxRecDepth 20000 in
theorem gX11_count_X11_waitingNow : GoodIn wsX11_count (wsV RX11 209 RX11 yX11_waitingNow wsX11_waitingNow) := goodIn_app (goodIn_of _ (by decide +kernel)) ggX11_count_X11_waitingNow
theorem dX11_count_0 : decode cX11_count 0 = .ok (.iload_n 1, 1) := by decide +kernel
theorem dX11_count_1 : decode cX11_count 1 = .ok (.tableswitch 96 0 8 #[51, 56, 61, 66, 71, 76, 81, 86, 91], 51) := by decide +kernel
theorem dX11_count_52 : decode cX11_count 52 = .ok (.aload_n 0, 1) := by decide +kernel
theorem dX11_count_53 : decode cX11_count 53 = .ok (.getfield 148, 3) := by decide +kernel
theorem dX11_count_56 : decode cX11_count 56 = .ok (.ireturn, 1) := by decide +kernel
theorem dX11_count_57 : decode cX11_count 57 = .ok (.aload_n 0, 1) := by decide +kernel
theorem dX11_count_58 : decode cX11_count 58 = .ok (.getfield 155, 3) := by decide +kernel
theorem dX11_count_61 : decode cX11_count 61 = .ok (.ireturn, 1) := by decide +kernel
theorem dX11_count_62 : decode cX11_count 62 = .ok (.aload_n 0, 1) := by decide +kernel
theorem dX11_count_63 : decode cX11_count 63 = .ok (.getfield 158, 3) := by decide +kernel
theorem dX11_count_66 : decode cX11_count 66 = .ok (.ireturn, 1) := by decide +kernel
theorem dX11_count_67 : decode cX11_count 67 = .ok (.aload_n 0, 1) := by decide +kernel
theorem dX11_count_68 : decode cX11_count 68 = .ok (.getfield 255, 3) := by decide +kernel
theorem dX11_count_71 : decode cX11_count 71 = .ok (.ireturn, 1) := by decide +kernel
theorem dX11_count_72 : decode cX11_count 72 = .ok (.aload_n 0, 1) := by decide +kernel
theorem dX11_count_73 : decode cX11_count 73 = .ok (.getfield 193, 3) := by decide +kernel
theorem dX11_count_76 : decode cX11_count 76 = .ok (.ireturn, 1) := by decide +kernel
theorem dX11_count_77 : decode cX11_count 77 = .ok (.aload_n 0, 1) := by decide +kernel
theorem dX11_count_78 : decode cX11_count 78 = .ok (.getfield 245, 3) := by decide +kernel
theorem dX11_count_81 : decode cX11_count 81 = .ok (.ireturn, 1) := by decide +kernel
theorem dX11_count_82 : decode cX11_count 82 = .ok (.aload_n 0, 1) := by decide +kernel
theorem dX11_count_83 : decode cX11_count 83 = .ok (.getfield 242, 3) := by decide +kernel
theorem dX11_count_86 : decode cX11_count 86 = .ok (.ireturn, 1) := by decide +kernel
theorem dX11_count_87 : decode cX11_count 87 = .ok (.aload_n 0, 1) := by decide +kernel
theorem dX11_count_88 : decode cX11_count 88 = .ok (.invokevirtual 209, 3) := by decide +kernel
theorem dX11_count_91 : decode cX11_count 91 = .ok (.ireturn, 1) := by decide +kernel
theorem dX11_count_92 : decode cX11_count 92 = .ok (.aload_n 0, 1) := by decide +kernel
theorem dX11_count_93 : decode cX11_count 93 = .ok (.getfield 287, 3) := by decide +kernel
theorem dX11_count_96 : decode cX11_count 96 = .ok (.ireturn, 1) := by decide +kernel
theorem dX11_count_97 : decode cX11_count 97 = .ok (.iconst (-1), 1) := by decide +kernel
theorem dX11_count_98 : decode cX11_count 98 = .ok (.ireturn, 1) := by decide +kernel
theorem dJ6_bitCount_0f7a4_0 : decode cJ6_bitCount_0f7a4 0 = .ok (.iload_n 0, 1) := by decide +kernel
theorem dJ6_bitCount_0f7a4_1 : decode cJ6_bitCount_0f7a4 1 = .ok (.iload_n 0, 1) := by decide +kernel
theorem dJ6_bitCount_0f7a4_2 : decode cJ6_bitCount_0f7a4 2 = .ok (.iconst 1, 1) := by decide +kernel
theorem dJ6_bitCount_0f7a4_3 : decode cJ6_bitCount_0f7a4 3 = .ok (.iushr, 1) := by decide +kernel
theorem dJ6_bitCount_0f7a4_4 : decode cJ6_bitCount_0f7a4 4 = .ok (.ldc_w 265, 3) := by decide +kernel
theorem dJ6_bitCount_0f7a4_7 : decode cJ6_bitCount_0f7a4 7 = .ok (.iand, 1) := by decide +kernel
theorem dJ6_bitCount_0f7a4_8 : decode cJ6_bitCount_0f7a4 8 = .ok (.isub, 1) := by decide +kernel
theorem dJ6_bitCount_0f7a4_9 : decode cJ6_bitCount_0f7a4 9 = .ok (.istore_n 0, 1) := by decide +kernel
theorem dJ6_bitCount_0f7a4_10 : decode cJ6_bitCount_0f7a4 10 = .ok (.iload_n 0, 1) := by decide +kernel
theorem dJ6_bitCount_0f7a4_11 : decode cJ6_bitCount_0f7a4 11 = .ok (.ldc_w 266, 3) := by decide +kernel
theorem dJ6_bitCount_0f7a4_14 : decode cJ6_bitCount_0f7a4 14 = .ok (.iand, 1) := by decide +kernel
theorem dJ6_bitCount_0f7a4_15 : decode cJ6_bitCount_0f7a4 15 = .ok (.iload_n 0, 1) := by decide +kernel
theorem dJ6_bitCount_0f7a4_16 : decode cJ6_bitCount_0f7a4 16 = .ok (.iconst 2, 1) := by decide +kernel
theorem dJ6_bitCount_0f7a4_17 : decode cJ6_bitCount_0f7a4 17 = .ok (.iushr, 1) := by decide +kernel
theorem dJ6_bitCount_0f7a4_18 : decode cJ6_bitCount_0f7a4 18 = .ok (.ldc_w 266, 3) := by decide +kernel
theorem dJ6_bitCount_0f7a4_21 : decode cJ6_bitCount_0f7a4 21 = .ok (.iand, 1) := by decide +kernel
theorem dJ6_bitCount_0f7a4_22 : decode cJ6_bitCount_0f7a4 22 = .ok (.iadd, 1) := by decide +kernel
theorem dJ6_bitCount_0f7a4_23 : decode cJ6_bitCount_0f7a4 23 = .ok (.istore_n 0, 1) := by decide +kernel
theorem dJ6_bitCount_0f7a4_24 : decode cJ6_bitCount_0f7a4 24 = .ok (.iload_n 0, 1) := by decide +kernel
theorem dJ6_bitCount_0f7a4_25 : decode cJ6_bitCount_0f7a4 25 = .ok (.iload_n 0, 1) := by decide +kernel
theorem dJ6_bitCount_0f7a4_26 : decode cJ6_bitCount_0f7a4 26 = .ok (.iconst 4, 1) := by decide +kernel
theorem dJ6_bitCount_0f7a4_27 : decode cJ6_bitCount_0f7a4 27 = .ok (.iushr, 1) := by decide +kernel
theorem dJ6_bitCount_0f7a4_28 : decode cJ6_bitCount_0f7a4 28 = .ok (.iadd, 1) := by decide +kernel
theorem dJ6_bitCount_0f7a4_29 : decode cJ6_bitCount_0f7a4 29 = .ok (.ldc_w 267, 3) := by decide +kernel
theorem dJ6_bitCount_0f7a4_32 : decode cJ6_bitCount_0f7a4 32 = .ok (.iand, 1) := by decide +kernel
theorem dJ6_bitCount_0f7a4_33 : decode cJ6_bitCount_0f7a4 33 = .ok (.istore_n 0, 1) := by decide +kernel
theorem dJ6_bitCount_0f7a4_34 : decode cJ6_bitCount_0f7a4 34 = .ok (.iload_n 0, 1) := by decide +kernel
theorem dJ6_bitCount_0f7a4_35 : decode cJ6_bitCount_0f7a4 35 = .ok (.iload_n 0, 1) := by decide +kernel
theorem dJ6_bitCount_0f7a4_36 : decode cJ6_bitCount_0f7a4 36 = .ok (.bipush 8, 2) := by decide +kernel
theorem dJ6_bitCount_0f7a4_38 : decode cJ6_bitCount_0f7a4 38 = .ok (.iushr, 1) := by decide +kernel
theorem dJ6_bitCount_0f7a4_39 : decode cJ6_bitCount_0f7a4 39 = .ok (.iadd, 1) := by decide +kernel
theorem dJ6_bitCount_0f7a4_40 : decode cJ6_bitCount_0f7a4 40 = .ok (.istore_n 0, 1) := by decide +kernel
theorem dJ6_bitCount_0f7a4_41 : decode cJ6_bitCount_0f7a4 41 = .ok (.iload_n 0, 1) := by decide +kernel
theorem dJ6_bitCount_0f7a4_42 : decode cJ6_bitCount_0f7a4 42 = .ok (.iload_n 0, 1) := by decide +kernel
theorem dJ6_bitCount_0f7a4_43 : decode cJ6_bitCount_0f7a4 43 = .ok (.bipush 16, 2) := by decide +kernel
theorem dJ6_bitCount_0f7a4_45 : decode cJ6_bitCount_0f7a4 45 = .ok (.iushr, 1) := by decide +kernel
theorem dJ6_bitCount_0f7a4_46 : decode cJ6_bitCount_0f7a4 46 = .ok (.iadd, 1) := by decide +kernel
theorem dJ6_bitCount_0f7a4_47 : decode cJ6_bitCount_0f7a4 47 = .ok (.istore_n 0, 1) := by decide +kernel
theorem dJ6_bitCount_0f7a4_48 : decode cJ6_bitCount_0f7a4 48 = .ok (.iload_n 0, 1) := by decide +kernel
theorem dJ6_bitCount_0f7a4_49 : decode cJ6_bitCount_0f7a4 49 = .ok (.bipush 63, 2) := by decide +kernel
theorem dJ6_bitCount_0f7a4_51 : decode cJ6_bitCount_0f7a4 51 = .ok (.iand, 1) := by decide +kernel
theorem dJ6_bitCount_0f7a4_52 : decode cJ6_bitCount_0f7a4 52 = .ok (.ireturn, 1) := by decide +kernel
theorem dJ9_max_7cf53_0 : decode cJ9_max_7cf53 0 = .ok (.iload_n 0, 1) := by decide +kernel
theorem dJ9_max_7cf53_1 : decode cJ9_max_7cf53 1 = .ok (.iload_n 1, 1) := by decide +kernel
theorem dJ9_max_7cf53_2 : decode cJ9_max_7cf53 2 = .ok (.if_icmp .lt 7, 3) := by decide +kernel
theorem dJ9_max_7cf53_5 : decode cJ9_max_7cf53 5 = .ok (.iload_n 0, 1) := by decide +kernel
theorem dJ9_max_7cf53_6 : decode cJ9_max_7cf53 6 = .ok (.goto 4, 3) := by decide +kernel
theorem dJ9_max_7cf53_9 : decode cJ9_max_7cf53 9 = .ok (.iload_n 1, 1) := by decide +kernel
theorem dJ9_max_7cf53_10 : decode cJ9_max_7cf53 10 = .ok (.ireturn, 1) := by decide +kernel
theorem dJ9_min_7cf53_0 : decode cJ9_min_7cf53 0 = .ok (.iload_n 0, 1) := by decide +kernel
theorem dJ9_min_7cf53_1 : decode cJ9_min_7cf53 1 = .ok (.iload_n 1, 1) := by decide +kernel
theorem dJ9_min_7cf53_2 : decode cJ9_min_7cf53 2 = .ok (.if_icmp .gt 7, 3) := by decide +kernel
theorem dJ9_min_7cf53_5 : decode cJ9_min_7cf53 5 = .ok (.iload_n 0, 1) := by decide +kernel
theorem dJ9_min_7cf53_6 : decode cJ9_min_7cf53 6 = .ok (.goto 4, 3) := by decide +kernel
theorem dJ9_min_7cf53_9 : decode cJ9_min_7cf53 9 = .ok (.iload_n 1, 1) := by decide +kernel
theorem dJ9_min_7cf53_10 : decode cJ9_min_7cf53 10 = .ok (.ireturn, 1) := by decide +kernel
theorem dJ7_fill_d0a16_0 : decode cJ7_fill_d0a16 0 = .ok (.iconst 0, 1) := by decide +kernel
theorem dJ7_fill_d0a16_1 : decode cJ7_fill_d0a16 1 = .ok (.istore_n 3, 1) := by decide +kernel
theorem dJ7_fill_d0a16_2 : decode cJ7_fill_d0a16 2 = .ok (.aload_n 0, 1) := by decide +kernel
theorem dJ7_fill_d0a16_3 : decode cJ7_fill_d0a16 3 = .ok (.arraylength, 1) := by decide +kernel
theorem dJ7_fill_d0a16_4 : decode cJ7_fill_d0a16 4 = .ok (.istore 4, 2) := by decide +kernel
theorem dJ7_fill_d0a16_6 : decode cJ7_fill_d0a16 6 = .ok (.iload_n 3, 1) := by decide +kernel
theorem dJ7_fill_d0a16_7 : decode cJ7_fill_d0a16 7 = .ok (.iload 4, 2) := by decide +kernel
theorem dJ7_fill_d0a16_9 : decode cJ7_fill_d0a16 9 = .ok (.if_icmp .ge 13, 3) := by decide +kernel
theorem dJ7_fill_d0a16_12 : decode cJ7_fill_d0a16 12 = .ok (.aload_n 0, 1) := by decide +kernel
theorem dJ7_fill_d0a16_13 : decode cJ7_fill_d0a16 13 = .ok (.iload_n 3, 1) := by decide +kernel
theorem dJ7_fill_d0a16_14 : decode cJ7_fill_d0a16 14 = .ok (.lload_n 1, 1) := by decide +kernel
theorem dJ7_fill_d0a16_15 : decode cJ7_fill_d0a16 15 = .ok (.lastore, 1) := by decide +kernel
theorem dJ7_fill_d0a16_16 : decode cJ7_fill_d0a16 16 = .ok (.iinc 3 1, 3) := by decide +kernel
theorem dJ7_fill_d0a16_19 : decode cJ7_fill_d0a16 19 = .ok (.goto (-13), 3) := by decide +kernel
theorem dJ7_fill_d0a16_22 : decode cJ7_fill_d0a16 22 = .ok (.return_, 1) := by decide +kernel
theorem dJ7_fill_53178_0 : decode cJ7_fill_53178 0 = .ok (.iconst 0, 1) := by decide +kernel
theorem dJ7_fill_53178_1 : decode cJ7_fill_53178 1 = .ok (.istore_n 2, 1) := by decide +kernel
theorem dJ7_fill_53178_2 : decode cJ7_fill_53178 2 = .ok (.aload_n 0, 1) := by decide +kernel
theorem dJ7_fill_53178_3 : decode cJ7_fill_53178 3 = .ok (.arraylength, 1) := by decide +kernel
theorem dJ7_fill_53178_4 : decode cJ7_fill_53178 4 = .ok (.istore_n 3, 1) := by decide +kernel
theorem dJ7_fill_53178_5 : decode cJ7_fill_53178 5 = .ok (.iload_n 2, 1) := by decide +kernel
theorem dJ7_fill_53178_6 : decode cJ7_fill_53178 6 = .ok (.iload_n 3, 1) := by decide +kernel
theorem dJ7_fill_53178_7 : decode cJ7_fill_53178 7 = .ok (.if_icmp .ge 13, 3) := by decide +kernel
theorem dJ7_fill_53178_10 : decode cJ7_fill_53178 10 = .ok (.aload_n 0, 1) := by decide +kernel
theorem dJ7_fill_53178_11 : decode cJ7_fill_53178 11 = .ok (.iload_n 2, 1) := by decide +kernel
theorem dJ7_fill_53178_12 : decode cJ7_fill_53178 12 = .ok (.iload_n 1, 1) := by decide +kernel
theorem dJ7_fill_53178_13 : decode cJ7_fill_53178 13 = .ok (.iastore, 1) := by decide +kernel
theorem dJ7_fill_53178_14 : decode cJ7_fill_53178 14 = .ok (.iinc 2 1, 3) := by decide +kernel
theorem dJ7_fill_53178_17 : decode cJ7_fill_53178 17 = .ok (.goto (-12), 3) := by decide +kernel
theorem dJ7_fill_53178_20 : decode cJ7_fill_53178 20 = .ok (.return_, 1) := by decide +kernel
theorem dJ7_copyOf_59c91_0 : decode cJ7_copyOf_59c91 0 = .ok (.iload_n 1, 1) := by decide +kernel
theorem dJ7_copyOf_59c91_1 : decode cJ7_copyOf_59c91 1 = .ok (.aload_n 0, 1) := by decide +kernel
theorem dJ7_copyOf_59c91_2 : decode cJ7_copyOf_59c91 2 = .ok (.arraylength, 1) := by decide +kernel
theorem dJ7_copyOf_59c91_3 : decode cJ7_copyOf_59c91 3 = .ok (.if_icmp .ne 11, 3) := by decide +kernel
theorem dJ7_copyOf_59c91_6 : decode cJ7_copyOf_59c91 6 = .ok (.aload_n 0, 1) := by decide +kernel
theorem dJ7_copyOf_59c91_7 : decode cJ7_copyOf_59c91 7 = .ok (.invokevirtual 316, 3) := by decide +kernel
theorem dJ7_copyOf_59c91_10 : decode cJ7_copyOf_59c91 10 = .ok (.checkcast 317, 3) := by decide +kernel
theorem dJ7_copyOf_59c91_13 : decode cJ7_copyOf_59c91 13 = .ok (.areturn, 1) := by decide +kernel
theorem dJ7_copyOf_59c91_14 : decode cJ7_copyOf_59c91 14 = .ok (.iload_n 1, 1) := by decide +kernel
theorem dJ7_copyOf_59c91_15 : decode cJ7_copyOf_59c91 15 = .ok (.newarray .int, 2) := by decide +kernel
theorem dJ7_copyOf_59c91_17 : decode cJ7_copyOf_59c91 17 = .ok (.astore_n 2, 1) := by decide +kernel
theorem dJ7_copyOf_59c91_18 : decode cJ7_copyOf_59c91 18 = .ok (.aload_n 0, 1) := by decide +kernel
theorem dJ7_copyOf_59c91_19 : decode cJ7_copyOf_59c91 19 = .ok (.iconst 0, 1) := by decide +kernel
theorem dJ7_copyOf_59c91_20 : decode cJ7_copyOf_59c91 20 = .ok (.aload_n 2, 1) := by decide +kernel
theorem dJ7_copyOf_59c91_21 : decode cJ7_copyOf_59c91 21 = .ok (.iconst 0, 1) := by decide +kernel
theorem dJ7_copyOf_59c91_22 : decode cJ7_copyOf_59c91 22 = .ok (.aload_n 0, 1) := by decide +kernel
theorem dJ7_copyOf_59c91_23 : decode cJ7_copyOf_59c91 23 = .ok (.arraylength, 1) := by decide +kernel
theorem dJ7_copyOf_59c91_24 : decode cJ7_copyOf_59c91 24 = .ok (.iload_n 1, 1) := by decide +kernel
theorem dJ7_copyOf_59c91_25 : decode cJ7_copyOf_59c91 25 = .ok (.invokestatic 304, 3) := by decide +kernel
theorem dJ7_copyOf_59c91_28 : decode cJ7_copyOf_59c91 28 = .ok (.invokestatic 150, 3) := by decide +kernel
theorem dJ7_copyOf_59c91_31 : decode cJ7_copyOf_59c91 31 = .ok (.aload_n 2, 1) := by decide +kernel
theorem dJ7_copyOf_59c91_32 : decode cJ7_copyOf_59c91 32 = .ok (.areturn, 1) := by decide +kernel
