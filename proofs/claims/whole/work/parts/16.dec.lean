theorem dX9_readAttribute_0 : decode cX9_readAttribute 0 = .ok (.iconst 0, 1) := by decide +kernel
theorem dX9_readAttribute_1 : decode cX9_readAttribute 1 = .ok (.istore_n 2, 1) := by decide +kernel
theorem dX9_readAttribute_2 : decode cX9_readAttribute 2 = .ok (.iload_n 1, 1) := by decide +kernel
theorem dX9_readAttribute_3 : decode cX9_readAttribute 3 = .ok (.istore_n 3, 1) := by decide +kernel
theorem dX9_readAttribute_4 : decode cX9_readAttribute 4 = .ok (.iload_n 3, 1) := by decide +kernel
theorem dX9_readAttribute_5 : decode cX9_readAttribute 5 = .ok (.aload_n 0, 1) := by decide +kernel
theorem dX9_readAttribute_6 : decode cX9_readAttribute 6 = .ok (.getfield 139, 3) := by decide +kernel
theorem dX9_readAttribute_9 : decode cX9_readAttribute 9 = .ok (.if_icmp .ge 84, 3) := by decide +kernel
theorem dX9_readAttribute_12 : decode cX9_readAttribute 12 = .ok (.iload_n 3, 1) := by decide +kernel
theorem dX9_readAttribute_13 : decode cX9_readAttribute 13 = .ok (.iload_n 1, 1) := by decide +kernel
theorem dX9_readAttribute_14 : decode cX9_readAttribute 14 = .ok (.if_icmp .eq 48, 3) := by decide +kernel
theorem dX9_readAttribute_17 : decode cX9_readAttribute 17 = .ok (.aload_n 0, 1) := by decide +kernel
theorem dX9_readAttribute_18 : decode cX9_readAttribute 18 = .ok (.getfield 142, 3) := by decide +kernel
theorem dX9_readAttribute_21 : decode cX9_readAttribute 21 = .ok (.iload_n 3, 1) := by decide +kernel
theorem dX9_readAttribute_22 : decode cX9_readAttribute 22 = .ok (.baload, 1) := by decide +kernel
theorem dX9_readAttribute_23 : decode cX9_readAttribute 23 = .ok (.bipush 61, 2) := by decide +kernel
theorem dX9_readAttribute_25 : decode cX9_readAttribute 25 = .ok (.if_icmp .eq 68, 3) := by decide +kernel
theorem dX9_readAttribute_28 : decode cX9_readAttribute 28 = .ok (.aload_n 0, 1) := by decide +kernel
theorem dX9_readAttribute_29 : decode cX9_readAttribute 29 = .ok (.getfield 142, 3) := by decide +kernel
theorem dX9_readAttribute_32 : decode cX9_readAttribute 32 = .ok (.iload_n 3, 1) := by decide +kernel
theorem dX9_readAttribute_33 : decode cX9_readAttribute 33 = .ok (.baload, 1) := by decide +kernel
theorem dX9_readAttribute_34 : decode cX9_readAttribute 34 = .ok (.invokestatic 192, 3) := by decide +kernel
theorem dX9_readAttribute_37 : decode cX9_readAttribute 37 = .ok (.ifCond .ne 56, 3) := by decide +kernel
theorem dX9_readAttribute_40 : decode cX9_readAttribute 40 = .ok (.aload_n 0, 1) := by decide +kernel
theorem dX9_readAttribute_41 : decode cX9_readAttribute 41 = .ok (.getfield 142, 3) := by decide +kernel
theorem dX9_readAttribute_44 : decode cX9_readAttribute 44 = .ok (.iload_n 3, 1) := by decide +kernel
theorem dX9_readAttribute_45 : decode cX9_readAttribute 45 = .ok (.baload, 1) := by decide +kernel
theorem dX9_readAttribute_46 : decode cX9_readAttribute 46 = .ok (.bipush 47, 2) := by decide +kernel
theorem dX9_readAttribute_48 : decode cX9_readAttribute 48 = .ok (.if_icmp .eq 45, 3) := by decide +kernel
theorem dX9_readAttribute_51 : decode cX9_readAttribute 51 = .ok (.aload_n 0, 1) := by decide +kernel
theorem dX9_readAttribute_52 : decode cX9_readAttribute 52 = .ok (.getfield 142, 3) := by decide +kernel
theorem dX9_readAttribute_55 : decode cX9_readAttribute 55 = .ok (.iload_n 3, 1) := by decide +kernel
theorem dX9_readAttribute_56 : decode cX9_readAttribute 56 = .ok (.baload, 1) := by decide +kernel
theorem dX9_readAttribute_57 : decode cX9_readAttribute 57 = .ok (.bipush 62, 2) := by decide +kernel
theorem dX9_readAttribute_59 : decode cX9_readAttribute 59 = .ok (.if_icmp .eq 34, 3) := by decide +kernel
theorem dX9_readAttribute_62 : decode cX9_readAttribute 62 = .ok (.iload_n 2, 1) := by decide +kernel
theorem dX9_readAttribute_63 : decode cX9_readAttribute 63 = .ok (.bipush 8, 2) := by decide +kernel
theorem dX9_readAttribute_65 : decode cX9_readAttribute 65 = .ok (.if_icmp .ge 22, 3) := by decide +kernel
theorem dX9_readAttribute_68 : decode cX9_readAttribute 68 = .ok (.aload_n 0, 1) := by decide +kernel
theorem dX9_readAttribute_69 : decode cX9_readAttribute 69 = .ok (.getfield 235, 3) := by decide +kernel
theorem dX9_readAttribute_72 : decode cX9_readAttribute 72 = .ok (.iload_n 2, 1) := by decide +kernel
theorem dX9_readAttribute_73 : decode cX9_readAttribute 73 = .ok (.aload_n 0, 1) := by decide +kernel
theorem dX9_readAttribute_74 : decode cX9_readAttribute 74 = .ok (.getfield 142, 3) := by decide +kernel
theorem dX9_readAttribute_77 : decode cX9_readAttribute 77 = .ok (.iload_n 3, 1) := by decide +kernel
theorem dX9_readAttribute_78 : decode cX9_readAttribute 78 = .ok (.baload, 1) := by decide +kernel
theorem dX9_readAttribute_79 : decode cX9_readAttribute 79 = .ok (.invokestatic 211, 3) := by decide +kernel
theorem dX9_readAttribute_82 : decode cX9_readAttribute 82 = .ok (.i2b, 1) := by decide +kernel
theorem dX9_readAttribute_83 : decode cX9_readAttribute 83 = .ok (.bastore, 1) := by decide +kernel
theorem dX9_readAttribute_84 : decode cX9_readAttribute 84 = .ok (.iinc 2 1, 3) := by decide +kernel
theorem dX9_readAttribute_87 : decode cX9_readAttribute 87 = .ok (.iinc 3 1, 3) := by decide +kernel
theorem dX9_readAttribute_90 : decode cX9_readAttribute 90 = .ok (.goto (-86), 3) := by decide +kernel
theorem dX9_readAttribute_93 : decode cX9_readAttribute 93 = .ok (.iconst 0, 1) := by decide +kernel
theorem dX9_readAttribute_94 : decode cX9_readAttribute 94 = .ok (.istore 4, 2) := by decide +kernel
theorem dX9_readAttribute_96 : decode cX9_readAttribute 96 = .ok (.iload_n 3, 1) := by decide +kernel
theorem dX9_readAttribute_97 : decode cX9_readAttribute 97 = .ok (.aload_n 0, 1) := by decide +kernel
theorem dX9_readAttribute_98 : decode cX9_readAttribute 98 = .ok (.getfield 139, 3) := by decide +kernel
theorem dX9_readAttribute_101 : decode cX9_readAttribute 101 = .ok (.if_icmp .ge 213, 3) := by decide +kernel
theorem dX9_readAttribute_104 : decode cX9_readAttribute 104 = .ok (.aload_n 0, 1) := by decide +kernel
theorem dX9_readAttribute_105 : decode cX9_readAttribute 105 = .ok (.getfield 142, 3) := by decide +kernel
theorem dX9_readAttribute_108 : decode cX9_readAttribute 108 = .ok (.iload_n 3, 1) := by decide +kernel
theorem dX9_readAttribute_109 : decode cX9_readAttribute 109 = .ok (.baload, 1) := by decide +kernel
theorem dX9_readAttribute_110 : decode cX9_readAttribute 110 = .ok (.bipush 61, 2) := by decide +kernel
theorem dX9_readAttribute_112 : decode cX9_readAttribute 112 = .ok (.if_icmp .ne 202, 3) := by decide +kernel
theorem dX9_readAttribute_115 : decode cX9_readAttribute 115 = .ok (.iinc 3 1, 3) := by decide +kernel
theorem dX9_readAttribute_118 : decode cX9_readAttribute 118 = .ok (.iload_n 3, 1) := by decide +kernel
theorem dX9_readAttribute_119 : decode cX9_readAttribute 119 = .ok (.aload_n 0, 1) := by decide +kernel
theorem dX9_readAttribute_120 : decode cX9_readAttribute 120 = .ok (.getfield 139, 3) := by decide +kernel
theorem dX9_readAttribute_123 : decode cX9_readAttribute 123 = .ok (.if_icmp .ge 34, 3) := by decide +kernel
theorem dX9_readAttribute_126 : decode cX9_readAttribute 126 = .ok (.aload_n 0, 1) := by decide +kernel
theorem dX9_readAttribute_127 : decode cX9_readAttribute 127 = .ok (.getfield 142, 3) := by decide +kernel
theorem dX9_readAttribute_130 : decode cX9_readAttribute 130 = .ok (.iload_n 3, 1) := by decide +kernel
theorem dX9_readAttribute_131 : decode cX9_readAttribute 131 = .ok (.baload, 1) := by decide +kernel
theorem dX9_readAttribute_132 : decode cX9_readAttribute 132 = .ok (.bipush 34, 2) := by decide +kernel
theorem dX9_readAttribute_134 : decode cX9_readAttribute 134 = .ok (.if_icmp .eq 14, 3) := by decide +kernel
theorem dX9_readAttribute_137 : decode cX9_readAttribute 137 = .ok (.aload_n 0, 1) := by decide +kernel
theorem dX9_readAttribute_138 : decode cX9_readAttribute 138 = .ok (.getfield 142, 3) := by decide +kernel
theorem dX9_readAttribute_141 : decode cX9_readAttribute 141 = .ok (.iload_n 3, 1) := by decide +kernel
theorem dX9_readAttribute_142 : decode cX9_readAttribute 142 = .ok (.baload, 1) := by decide +kernel
theorem dX9_readAttribute_143 : decode cX9_readAttribute 143 = .ok (.bipush 39, 2) := by decide +kernel
theorem dX9_readAttribute_145 : decode cX9_readAttribute 145 = .ok (.if_icmp .ne 12, 3) := by decide +kernel
theorem dX9_readAttribute_148 : decode cX9_readAttribute 148 = .ok (.aload_n 0, 1) := by decide +kernel
theorem dX9_readAttribute_149 : decode cX9_readAttribute 149 = .ok (.getfield 142, 3) := by decide +kernel
theorem dX9_readAttribute_152 : decode cX9_readAttribute 152 = .ok (.iload_n 3, 1) := by decide +kernel
theorem dX9_readAttribute_153 : decode cX9_readAttribute 153 = .ok (.baload, 1) := by decide +kernel
theorem dX9_readAttribute_154 : decode cX9_readAttribute 154 = .ok (.goto 4, 3) := by decide +kernel
theorem dX9_readAttribute_157 : decode cX9_readAttribute 157 = .ok (.iconst 0, 1) := by decide +kernel
theorem dX9_readAttribute_158 : decode cX9_readAttribute 158 = .ok (.istore 5, 2) := by decide +kernel
theorem dX9_readAttribute_160 : decode cX9_readAttribute 160 = .ok (.iload 5, 2) := by decide +kernel
theorem dX9_readAttribute_162 : decode cX9_readAttribute 162 = .ok (.ifCond .le 9, 3) := by decide +kernel
theorem dX9_readAttribute_165 : decode cX9_readAttribute 165 = .ok (.iload_n 3, 1) := by decide +kernel
theorem dX9_readAttribute_166 : decode cX9_readAttribute 166 = .ok (.iconst 1, 1) := by decide +kernel
theorem dX9_readAttribute_167 : decode cX9_readAttribute 167 = .ok (.iadd, 1) := by decide +kernel
theorem dX9_readAttribute_168 : decode cX9_readAttribute 168 = .ok (.goto 4, 3) := by decide +kernel
theorem dX9_readAttribute_171 : decode cX9_readAttribute 171 = .ok (.iload_n 3, 1) := by decide +kernel
theorem dX9_readAttribute_172 : decode cX9_readAttribute 172 = .ok (.istore_n 3, 1) := by decide +kernel
theorem dX9_readAttribute_173 : decode cX9_readAttribute 173 = .ok (.iload_n 3, 1) := by decide +kernel
theorem dX9_readAttribute_174 : decode cX9_readAttribute 174 = .ok (.istore 6, 2) := by decide +kernel
theorem dX9_readAttribute_176 : decode cX9_readAttribute 176 = .ok (.iload 6, 2) := by decide +kernel
theorem dX9_readAttribute_178 : decode cX9_readAttribute 178 = .ok (.aload_n 0, 1) := by decide +kernel
theorem dX9_readAttribute_179 : decode cX9_readAttribute 179 = .ok (.getfield 139, 3) := by decide +kernel
theorem dX9_readAttribute_182 : decode cX9_readAttribute 182 = .ok (.if_icmp .ge 54, 3) := by decide +kernel
theorem dX9_readAttribute_185 : decode cX9_readAttribute 185 = .ok (.iload 5, 2) := by decide +kernel
theorem dX9_readAttribute_187 : decode cX9_readAttribute 187 = .ok (.ifCond .le 18, 3) := by decide +kernel
theorem dX9_readAttribute_190 : decode cX9_readAttribute 190 = .ok (.aload_n 0, 1) := by decide +kernel
theorem dX9_readAttribute_191 : decode cX9_readAttribute 191 = .ok (.getfield 142, 3) := by decide +kernel
theorem dX9_readAttribute_194 : decode cX9_readAttribute 194 = .ok (.iload 6, 2) := by decide +kernel
theorem dX9_readAttribute_196 : decode cX9_readAttribute 196 = .ok (.baload, 1) := by decide +kernel
theorem dX9_readAttribute_197 : decode cX9_readAttribute 197 = .ok (.iload 5, 2) := by decide +kernel
theorem dX9_readAttribute_199 : decode cX9_readAttribute 199 = .ok (.if_icmp .eq 37, 3) := by decide +kernel
theorem dX9_readAttribute_202 : decode cX9_readAttribute 202 = .ok (.goto 28, 3) := by decide +kernel
theorem dX9_readAttribute_205 : decode cX9_readAttribute 205 = .ok (.aload_n 0, 1) := by decide +kernel
theorem dX9_readAttribute_206 : decode cX9_readAttribute 206 = .ok (.getfield 142, 3) := by decide +kernel
theorem dX9_readAttribute_209 : decode cX9_readAttribute 209 = .ok (.iload 6, 2) := by decide +kernel
theorem dX9_readAttribute_211 : decode cX9_readAttribute 211 = .ok (.baload, 1) := by decide +kernel
theorem dX9_readAttribute_212 : decode cX9_readAttribute 212 = .ok (.invokestatic 192, 3) := by decide +kernel
theorem dX9_readAttribute_215 : decode cX9_readAttribute 215 = .ok (.ifCond .ne 21, 3) := by decide +kernel
theorem dX9_readAttribute_218 : decode cX9_readAttribute 218 = .ok (.aload_n 0, 1) := by decide +kernel
theorem dX9_readAttribute_219 : decode cX9_readAttribute 219 = .ok (.getfield 142, 3) := by decide +kernel
theorem dX9_readAttribute_222 : decode cX9_readAttribute 222 = .ok (.iload 6, 2) := by decide +kernel
theorem dX9_readAttribute_224 : decode cX9_readAttribute 224 = .ok (.baload, 1) := by decide +kernel
theorem dX9_readAttribute_225 : decode cX9_readAttribute 225 = .ok (.bipush 62, 2) := by decide +kernel
theorem dX9_readAttribute_227 : decode cX9_readAttribute 227 = .ok (.if_icmp .eq 9, 3) := by decide +kernel
theorem dX9_readAttribute_230 : decode cX9_readAttribute 230 = .ok (.iinc 6 1, 3) := by decide +kernel
theorem dX9_readAttribute_233 : decode cX9_readAttribute 233 = .ok (.goto (-57), 3) := by decide +kernel
theorem dX9_readAttribute_236 : decode cX9_readAttribute 236 = .ok (.iload_n 3, 1) := by decide +kernel
theorem dX9_readAttribute_237 : decode cX9_readAttribute 237 = .ok (.iload 6, 2) := by decide +kernel
theorem dX9_readAttribute_239 : decode cX9_readAttribute 239 = .ok (.if_icmp .ge 46, 3) := by decide +kernel
theorem dX9_readAttribute_242 : decode cX9_readAttribute 242 = .ok (.aload_n 0, 1) := by decide +kernel
theorem dX9_readAttribute_243 : decode cX9_readAttribute 243 = .ok (.aload_n 0, 1) := by decide +kernel
theorem dX9_readAttribute_244 : decode cX9_readAttribute 244 = .ok (.getfield 142, 3) := by decide +kernel
theorem dX9_readAttribute_247 : decode cX9_readAttribute 247 = .ok (.iload_n 3, 1) := by decide +kernel
theorem dX9_readAttribute_248 : decode cX9_readAttribute 248 = .ok (.iload 6, 2) := by decide +kernel
theorem dX9_readAttribute_250 : decode cX9_readAttribute 250 = .ok (.invokevirtual 195, 3) := by decide +kernel
theorem dX9_readAttribute_253 : decode cX9_readAttribute 253 = .ok (.istore 7, 2) := by decide +kernel
theorem dX9_readAttribute_255 : decode cX9_readAttribute 255 = .ok (.iload 4, 2) := by decide +kernel
theorem dX9_readAttribute_257 : decode cX9_readAttribute 257 = .ok (.bipush 60, 2) := by decide +kernel
theorem dX9_readAttribute_259 : decode cX9_readAttribute 259 = .ok (.if_icmp .ge 16, 3) := by decide +kernel
theorem dX9_readAttribute_262 : decode cX9_readAttribute 262 = .ok (.aload_n 0, 1) := by decide +kernel
theorem dX9_readAttribute_263 : decode cX9_readAttribute 263 = .ok (.getfield 238, 3) := by decide +kernel
theorem dX9_readAttribute_266 : decode cX9_readAttribute 266 = .ok (.iload 4, 2) := by decide +kernel
theorem dX9_readAttribute_268 : decode cX9_readAttribute 268 = .ok (.iload 7, 2) := by decide +kernel
theorem dX9_readAttribute_270 : decode cX9_readAttribute 270 = .ok (.i2b, 1) := by decide +kernel
theorem dX9_readAttribute_271 : decode cX9_readAttribute 271 = .ok (.bastore, 1) := by decide +kernel
theorem dX9_readAttribute_272 : decode cX9_readAttribute 272 = .ok (.iinc 4 1, 3) := by decide +kernel
theorem dX9_readAttribute_275 : decode cX9_readAttribute 275 = .ok (.iload_n 3, 1) := by decide +kernel
theorem dX9_readAttribute_276 : decode cX9_readAttribute 276 = .ok (.aload_n 0, 1) := by decide +kernel
theorem dX9_readAttribute_277 : decode cX9_readAttribute 277 = .ok (.getfield 189, 3) := by decide +kernel
theorem dX9_readAttribute_280 : decode cX9_readAttribute 280 = .ok (.iadd, 1) := by decide +kernel
theorem dX9_readAttribute_281 : decode cX9_readAttribute 281 = .ok (.istore_n 3, 1) := by decide +kernel
theorem dX9_readAttribute_282 : decode cX9_readAttribute 282 = .ok (.goto (-46), 3) := by decide +kernel
theorem dX9_readAttribute_285 : decode cX9_readAttribute 285 = .ok (.iload 5, 2) := by decide +kernel
theorem dX9_readAttribute_287 : decode cX9_readAttribute 287 = .ok (.ifCond .le 17, 3) := by decide +kernel
theorem dX9_readAttribute_290 : decode cX9_readAttribute 290 = .ok (.iload_n 3, 1) := by decide +kernel
theorem dX9_readAttribute_291 : decode cX9_readAttribute 291 = .ok (.aload_n 0, 1) := by decide +kernel
theorem dX9_readAttribute_292 : decode cX9_readAttribute 292 = .ok (.getfield 139, 3) := by decide +kernel
theorem dX9_readAttribute_295 : decode cX9_readAttribute 295 = .ok (.if_icmp .ge 9, 3) := by decide +kernel
theorem dX9_readAttribute_298 : decode cX9_readAttribute 298 = .ok (.iinc 3 1, 3) := by decide +kernel
theorem dX9_readAttribute_301 : decode cX9_readAttribute 301 = .ok (.goto 13, 3) := by decide +kernel
theorem dX9_readAttribute_304 : decode cX9_readAttribute 304 = .ok (.iload 5, 2) := by decide +kernel
theorem dX9_readAttribute_306 : decode cX9_readAttribute 306 = .ok (.ifCond .le 8, 3) := by decide +kernel
theorem dX9_readAttribute_309 : decode cX9_readAttribute 309 = .ok (.aload_n 0, 1) := by decide +kernel
theorem dX9_readAttribute_310 : decode cX9_readAttribute 310 = .ok (.getfield 139, 3) := by decide +kernel
theorem dX9_readAttribute_313 : decode cX9_readAttribute 313 = .ok (.istore_n 3, 1) := by decide +kernel
theorem dX9_readAttribute_314 : decode cX9_readAttribute 314 = .ok (.iconst 0, 1) := by decide +kernel
theorem dX9_readAttribute_315 : decode cX9_readAttribute 315 = .ok (.istore 5, 2) := by decide +kernel
theorem dX9_readAttribute_317 : decode cX9_readAttribute 317 = .ok (.iconst 0, 1) := by decide +kernel
theorem dX9_readAttribute_318 : decode cX9_readAttribute 318 = .ok (.istore 6, 2) := by decide +kernel
theorem dX9_readAttribute_320 : decode cX9_readAttribute 320 = .ok (.iload 6, 2) := by decide +kernel
theorem dX9_readAttribute_322 : decode cX9_readAttribute 322 = .ok (.aload_n 0, 1) := by decide +kernel
theorem dX9_readAttribute_323 : decode cX9_readAttribute 323 = .ok (.getfield 214, 3) := by decide +kernel
theorem dX9_readAttribute_326 : decode cX9_readAttribute 326 = .ok (.if_icmp .ge 53, 3) := by decide +kernel
theorem dX9_readAttribute_329 : decode cX9_readAttribute 329 = .ok (.iload 5, 2) := by decide +kernel
theorem dX9_readAttribute_331 : decode cX9_readAttribute 331 = .ok (.ifCond .ne 35, 3) := by decide +kernel
theorem dX9_readAttribute_334 : decode cX9_readAttribute 334 = .ok (.aload_n 0, 1) := by decide +kernel
theorem dX9_readAttribute_335 : decode cX9_readAttribute 335 = .ok (.getfield 241, 3) := by decide +kernel
theorem dX9_readAttribute_338 : decode cX9_readAttribute 338 = .ok (.iload 6, 2) := by decide +kernel
theorem dX9_readAttribute_340 : decode cX9_readAttribute 340 = .ok (.iaload, 1) := by decide +kernel
theorem dX9_readAttribute_341 : decode cX9_readAttribute 341 = .ok (.iload_n 2, 1) := by decide +kernel
theorem dX9_readAttribute_342 : decode cX9_readAttribute 342 = .ok (.if_icmp .ne 28, 3) := by decide +kernel
theorem dX9_readAttribute_345 : decode cX9_readAttribute 345 = .ok (.aload_n 0, 1) := by decide +kernel
theorem dX9_readAttribute_346 : decode cX9_readAttribute 346 = .ok (.getfield 244, 3) := by decide +kernel
theorem dX9_readAttribute_349 : decode cX9_readAttribute 349 = .ok (.bipush 8, 2) := by decide +kernel
theorem dX9_readAttribute_351 : decode cX9_readAttribute 351 = .ok (.iload 6, 2) := by decide +kernel
theorem dX9_readAttribute_353 : decode cX9_readAttribute 353 = .ok (.imul, 1) := by decide +kernel
theorem dX9_readAttribute_354 : decode cX9_readAttribute 354 = .ok (.aload_n 0, 1) := by decide +kernel
theorem dX9_readAttribute_355 : decode cX9_readAttribute 355 = .ok (.getfield 235, 3) := by decide +kernel
theorem dX9_readAttribute_358 : decode cX9_readAttribute 358 = .ok (.iconst 0, 1) := by decide +kernel
theorem dX9_readAttribute_359 : decode cX9_readAttribute 359 = .ok (.iload_n 2, 1) := by decide +kernel
theorem dX9_readAttribute_360 : decode cX9_readAttribute 360 = .ok (.invokestatic 247, 3) := by decide +kernel
theorem dX9_readAttribute_363 : decode cX9_readAttribute 363 = .ok (.ifCond .eq 7, 3) := by decide +kernel
theorem dX9_readAttribute_366 : decode cX9_readAttribute 366 = .ok (.iconst 1, 1) := by decide +kernel
theorem dX9_readAttribute_367 : decode cX9_readAttribute 367 = .ok (.goto 4, 3) := by decide +kernel
theorem dX9_readAttribute_370 : decode cX9_readAttribute 370 = .ok (.iconst 0, 1) := by decide +kernel
theorem dX9_readAttribute_371 : decode cX9_readAttribute 371 = .ok (.istore 5, 2) := by decide +kernel
theorem dX9_readAttribute_373 : decode cX9_readAttribute 373 = .ok (.iinc 6 1, 3) := by decide +kernel
theorem dX9_readAttribute_376 : decode cX9_readAttribute 376 = .ok (.goto (-56), 3) := by decide +kernel
theorem dX9_readAttribute_379 : decode cX9_readAttribute 379 = .ok (.iload 5, 2) := by decide +kernel
theorem dX9_readAttribute_381 : decode cX9_readAttribute 381 = .ok (.ifCond .ne 11, 3) := by decide +kernel
theorem dX9_readAttribute_384 : decode cX9_readAttribute 384 = .ok (.aload_n 0, 1) := by decide +kernel
theorem dX9_readAttribute_385 : decode cX9_readAttribute 385 = .ok (.getfield 214, 3) := by decide +kernel
theorem dX9_readAttribute_388 : decode cX9_readAttribute 388 = .ok (.iconst 4, 1) := by decide +kernel
theorem dX9_readAttribute_389 : decode cX9_readAttribute 389 = .ok (.if_icmp .ne 25, 3) := by decide +kernel
theorem dX9_readAttribute_392 : decode cX9_readAttribute 392 = .ok (.aload_n 0, 1) := by decide +kernel
theorem dX9_readAttribute_393 : decode cX9_readAttribute 393 = .ok (.getfield 229, 3) := by decide +kernel
theorem dX9_readAttribute_396 : decode cX9_readAttribute 396 = .ok (.aload_n 0, 1) := by decide +kernel
theorem dX9_readAttribute_397 : decode cX9_readAttribute 397 = .ok (.getfield 217, 3) := by decide +kernel
theorem dX9_readAttribute_400 : decode cX9_readAttribute 400 = .ok (.iload_n 1, 1) := by decide +kernel
theorem dX9_readAttribute_401 : decode cX9_readAttribute 401 = .ok (.iastore, 1) := by decide +kernel
theorem dX9_readAttribute_402 : decode cX9_readAttribute 402 = .ok (.aload_n 0, 1) := by decide +kernel
theorem dX9_readAttribute_403 : decode cX9_readAttribute 403 = .ok (.dup, 1) := by decide +kernel
theorem dX9_readAttribute_404 : decode cX9_readAttribute 404 = .ok (.getfield 217, 3) := by decide +kernel
theorem dX9_readAttribute_407 : decode cX9_readAttribute 407 = .ok (.iconst 1, 1) := by decide +kernel
theorem dX9_readAttribute_408 : decode cX9_readAttribute 408 = .ok (.iadd, 1) := by decide +kernel
theorem dX9_readAttribute_409 : decode cX9_readAttribute 409 = .ok (.putfield 217, 3) := by decide +kernel
theorem dX9_readAttribute_412 : decode cX9_readAttribute 412 = .ok (.iload_n 3, 1) := by decide +kernel
theorem dX9_readAttribute_413 : decode cX9_readAttribute 413 = .ok (.ireturn, 1) := by decide +kernel
theorem dX9_readAttribute_414 : decode cX9_readAttribute 414 = .ok (.aload_n 0, 1) := by decide +kernel
theorem dX9_readAttribute_415 : decode cX9_readAttribute 415 = .ok (.getfield 241, 3) := by decide +kernel
theorem dX9_readAttribute_418 : decode cX9_readAttribute 418 = .ok (.aload_n 0, 1) := by decide +kernel
theorem dX9_readAttribute_419 : decode cX9_readAttribute 419 = .ok (.getfield 214, 3) := by decide +kernel
theorem dX9_readAttribute_422 : decode cX9_readAttribute 422 = .ok (.iload_n 2, 1) := by decide +kernel
theorem dX9_readAttribute_423 : decode cX9_readAttribute 423 = .ok (.iastore, 1) := by decide +kernel
theorem dX9_readAttribute_424 : decode cX9_readAttribute 424 = .ok (.aload_n 0, 1) := by decide +kernel
theorem dX9_readAttribute_425 : decode cX9_readAttribute 425 = .ok (.getfield 251, 3) := by decide +kernel
theorem dX9_readAttribute_428 : decode cX9_readAttribute 428 = .ok (.aload_n 0, 1) := by decide +kernel
theorem dX9_readAttribute_429 : decode cX9_readAttribute 429 = .ok (.getfield 214, 3) := by decide +kernel
theorem dX9_readAttribute_432 : decode cX9_readAttribute 432 = .ok (.iload 4, 2) := by decide +kernel
theorem dX9_readAttribute_434 : decode cX9_readAttribute 434 = .ok (.iastore, 1) := by decide +kernel
theorem dX9_readAttribute_435 : decode cX9_readAttribute 435 = .ok (.iconst 0, 1) := by decide +kernel
theorem dX9_readAttribute_436 : decode cX9_readAttribute 436 = .ok (.istore 6, 2) := by decide +kernel
theorem dX9_readAttribute_438 : decode cX9_readAttribute 438 = .ok (.iload 6, 2) := by decide +kernel
theorem dX9_readAttribute_440 : decode cX9_readAttribute 440 = .ok (.iload_n 2, 1) := by decide +kernel
theorem dX9_readAttribute_441 : decode cX9_readAttribute 441 = .ok (.if_icmp .ge 31, 3) := by decide +kernel
theorem dX9_readAttribute_444 : decode cX9_readAttribute 444 = .ok (.aload_n 0, 1) := by decide +kernel
theorem dX9_readAttribute_445 : decode cX9_readAttribute 445 = .ok (.getfield 244, 3) := by decide +kernel
theorem dX9_readAttribute_448 : decode cX9_readAttribute 448 = .ok (.bipush 8, 2) := by decide +kernel
theorem dX9_readAttribute_450 : decode cX9_readAttribute 450 = .ok (.aload_n 0, 1) := by decide +kernel
theorem dX9_readAttribute_451 : decode cX9_readAttribute 451 = .ok (.getfield 214, 3) := by decide +kernel
theorem dX9_readAttribute_454 : decode cX9_readAttribute 454 = .ok (.imul, 1) := by decide +kernel
theorem dX9_readAttribute_455 : decode cX9_readAttribute 455 = .ok (.iload 6, 2) := by decide +kernel
theorem dX9_readAttribute_457 : decode cX9_readAttribute 457 = .ok (.iadd, 1) := by decide +kernel
theorem dX9_readAttribute_458 : decode cX9_readAttribute 458 = .ok (.aload_n 0, 1) := by decide +kernel
theorem dX9_readAttribute_459 : decode cX9_readAttribute 459 = .ok (.getfield 235, 3) := by decide +kernel
theorem dX9_readAttribute_462 : decode cX9_readAttribute 462 = .ok (.iload 6, 2) := by decide +kernel
theorem dX9_readAttribute_464 : decode cX9_readAttribute 464 = .ok (.baload, 1) := by decide +kernel
theorem dX9_readAttribute_465 : decode cX9_readAttribute 465 = .ok (.bastore, 1) := by decide +kernel
theorem dX9_readAttribute_466 : decode cX9_readAttribute 466 = .ok (.iinc 6 1, 3) := by decide +kernel
theorem dX9_readAttribute_469 : decode cX9_readAttribute 469 = .ok (.goto (-31), 3) := by decide +kernel
theorem dX9_readAttribute_472 : decode cX9_readAttribute 472 = .ok (.iconst 0, 1) := by decide +kernel
theorem dX9_readAttribute_473 : decode cX9_readAttribute 473 = .ok (.istore 6, 2) := by decide +kernel
theorem dX9_readAttribute_475 : decode cX9_readAttribute 475 = .ok (.iload 6, 2) := by decide +kernel
theorem dX9_readAttribute_477 : decode cX9_readAttribute 477 = .ok (.iload 4, 2) := by decide +kernel
theorem dX9_readAttribute_479 : decode cX9_readAttribute 479 = .ok (.if_icmp .ge 31, 3) := by decide +kernel
theorem dX9_readAttribute_482 : decode cX9_readAttribute 482 = .ok (.aload_n 0, 1) := by decide +kernel
theorem dX9_readAttribute_483 : decode cX9_readAttribute 483 = .ok (.getfield 254, 3) := by decide +kernel
theorem dX9_readAttribute_486 : decode cX9_readAttribute 486 = .ok (.bipush 60, 2) := by decide +kernel
theorem dX9_readAttribute_488 : decode cX9_readAttribute 488 = .ok (.aload_n 0, 1) := by decide +kernel
theorem dX9_readAttribute_489 : decode cX9_readAttribute 489 = .ok (.getfield 214, 3) := by decide +kernel
theorem dX9_readAttribute_492 : decode cX9_readAttribute 492 = .ok (.imul, 1) := by decide +kernel
theorem dX9_readAttribute_493 : decode cX9_readAttribute 493 = .ok (.iload 6, 2) := by decide +kernel
theorem dX9_readAttribute_495 : decode cX9_readAttribute 495 = .ok (.iadd, 1) := by decide +kernel
theorem dX9_readAttribute_496 : decode cX9_readAttribute 496 = .ok (.aload_n 0, 1) := by decide +kernel
theorem dX9_readAttribute_497 : decode cX9_readAttribute 497 = .ok (.getfield 238, 3) := by decide +kernel
theorem dX9_readAttribute_500 : decode cX9_readAttribute 500 = .ok (.iload 6, 2) := by decide +kernel
theorem dX9_readAttribute_502 : decode cX9_readAttribute 502 = .ok (.baload, 1) := by decide +kernel
theorem dX9_readAttribute_503 : decode cX9_readAttribute 503 = .ok (.bastore, 1) := by decide +kernel
theorem dX9_readAttribute_504 : decode cX9_readAttribute 504 = .ok (.iinc 6 1, 3) := by decide +kernel
theorem dX9_readAttribute_507 : decode cX9_readAttribute 507 = .ok (.goto (-32), 3) := by decide +kernel
theorem dX9_readAttribute_510 : decode cX9_readAttribute 510 = .ok (.aload_n 0, 1) := by decide +kernel
theorem dX9_readAttribute_511 : decode cX9_readAttribute 511 = .ok (.dup, 1) := by decide +kernel
theorem dX9_readAttribute_512 : decode cX9_readAttribute 512 = .ok (.getfield 214, 3) := by decide +kernel
theorem dX9_readAttribute_515 : decode cX9_readAttribute 515 = .ok (.iconst 1, 1) := by decide +kernel
theorem dX9_readAttribute_516 : decode cX9_readAttribute 516 = .ok (.iadd, 1) := by decide +kernel
theorem dX9_readAttribute_517 : decode cX9_readAttribute 517 = .ok (.putfield 214, 3) := by decide +kernel
theorem dX9_readAttribute_520 : decode cX9_readAttribute 520 = .ok (.iload_n 3, 1) := by decide +kernel
theorem dX9_readAttribute_521 : decode cX9_readAttribute 521 = .ok (.ireturn, 1) := by decide +kernel
theorem dX9_element_0 : decode cX9_element 0 = .ok (.aload_n 0, 1) := by decide +kernel
theorem dX9_element_1 : decode cX9_element 1 = .ok (.getfield 86, 3) := by decide +kernel
theorem dX9_element_4 : decode cX9_element 4 = .ok (.iload_n 1, 1) := by decide +kernel
theorem dX9_element_5 : decode cX9_element 5 = .ok (.iload_n 2, 1) := by decide +kernel
theorem dX9_element_6 : decode cX9_element 6 = .ok (.iastore, 1) := by decide +kernel
theorem dX9_element_7 : decode cX9_element 7 = .ok (.aload_n 0, 1) := by decide +kernel
theorem dX9_element_8 : decode cX9_element 8 = .ok (.getfield 93, 3) := by decide +kernel
theorem dX9_element_11 : decode cX9_element 11 = .ok (.iload_n 1, 1) := by decide +kernel
theorem dX9_element_12 : decode cX9_element 12 = .ok (.aload_n 0, 1) := by decide +kernel
theorem dX9_element_13 : decode cX9_element 13 = .ok (.getfield 202, 3) := by decide +kernel
theorem dX9_element_16 : decode cX9_element 16 = .ok (.iastore, 1) := by decide +kernel
theorem dX9_element_17 : decode cX9_element 17 = .ok (.iconst 0, 1) := by decide +kernel
theorem dX9_element_18 : decode cX9_element 18 = .ok (.istore_n 3, 1) := by decide +kernel
theorem dX9_element_19 : decode cX9_element 19 = .ok (.iload_n 3, 1) := by decide +kernel
theorem dX9_element_20 : decode cX9_element 20 = .ok (.aload_n 0, 1) := by decide +kernel
theorem dX9_element_21 : decode cX9_element 21 = .ok (.getfield 202, 3) := by decide +kernel
theorem dX9_element_24 : decode cX9_element 24 = .ok (.if_icmp .ge 26, 3) := by decide +kernel
theorem dX9_element_27 : decode cX9_element 27 = .ok (.aload_n 0, 1) := by decide +kernel
theorem dX9_element_28 : decode cX9_element 28 = .ok (.getfield 90, 3) := by decide +kernel
theorem dX9_element_31 : decode cX9_element 31 = .ok (.bipush 8, 2) := by decide +kernel
theorem dX9_element_33 : decode cX9_element 33 = .ok (.iload_n 1, 1) := by decide +kernel
theorem dX9_element_34 : decode cX9_element 34 = .ok (.imul, 1) := by decide +kernel
theorem dX9_element_35 : decode cX9_element 35 = .ok (.iload_n 3, 1) := by decide +kernel
theorem dX9_element_36 : decode cX9_element 36 = .ok (.iadd, 1) := by decide +kernel
theorem dX9_element_37 : decode cX9_element 37 = .ok (.aload_n 0, 1) := by decide +kernel
theorem dX9_element_38 : decode cX9_element 38 = .ok (.getfield 208, 3) := by decide +kernel
theorem dX9_element_41 : decode cX9_element 41 = .ok (.iload_n 3, 1) := by decide +kernel
theorem dX9_element_42 : decode cX9_element 42 = .ok (.baload, 1) := by decide +kernel
theorem dX9_element_43 : decode cX9_element 43 = .ok (.bastore, 1) := by decide +kernel
theorem dX9_element_44 : decode cX9_element 44 = .ok (.iinc 3 1, 3) := by decide +kernel
theorem dX9_element_47 : decode cX9_element 47 = .ok (.goto (-28), 3) := by decide +kernel
theorem dX9_element_50 : decode cX9_element 50 = .ok (.return_, 1) := by decide +kernel
theorem dX9_startTag_0 : decode cX9_startTag 0 = .ok (.iload_n 2, 1) := by decide +kernel
theorem dX9_startTag_1 : decode cX9_startTag 1 = .ok (.invokestatic 263, 3) := by decide +kernel
theorem dX9_startTag_4 : decode cX9_startTag 4 = .ok (.ifCond .eq 46, 3) := by decide +kernel
theorem dX9_startTag_7 : decode cX9_startTag 7 = .ok (.aload_n 0, 1) := by decide +kernel
theorem dX9_startTag_8 : decode cX9_startTag 8 = .ok (.getfield 159, 3) := by decide +kernel
theorem dX9_startTag_11 : decode cX9_startTag 11 = .ok (.iconst 1, 1) := by decide +kernel
theorem dX9_startTag_12 : decode cX9_startTag 12 = .ok (.isub, 1) := by decide +kernel
theorem dX9_startTag_13 : decode cX9_startTag 13 = .ok (.istore_n 3, 1) := by decide +kernel
theorem dX9_startTag_14 : decode cX9_startTag 14 = .ok (.iload_n 3, 1) := by decide +kernel
theorem dX9_startTag_15 : decode cX9_startTag 15 = .ok (.ifCond .le 24, 3) := by decide +kernel
theorem dX9_startTag_18 : decode cX9_startTag 18 = .ok (.aload_n 0, 1) := by decide +kernel
theorem dX9_startTag_19 : decode cX9_startTag 19 = .ok (.getfield 86, 3) := by decide +kernel
theorem dX9_startTag_22 : decode cX9_startTag 22 = .ok (.aload_n 0, 1) := by decide +kernel
theorem dX9_startTag_23 : decode cX9_startTag 23 = .ok (.getfield 156, 3) := by decide +kernel
theorem dX9_startTag_26 : decode cX9_startTag 26 = .ok (.iload_n 3, 1) := by decide +kernel
theorem dX9_startTag_27 : decode cX9_startTag 27 = .ok (.iaload, 1) := by decide +kernel
theorem dX9_startTag_28 : decode cX9_startTag 28 = .ok (.iaload, 1) := by decide +kernel
theorem dX9_startTag_29 : decode cX9_startTag 29 = .ok (.iconst 1, 1) := by decide +kernel
theorem dX9_startTag_30 : decode cX9_startTag 30 = .ok (.if_icmp .eq 9, 3) := by decide +kernel
theorem dX9_startTag_33 : decode cX9_startTag 33 = .ok (.iinc 3 (-1), 3) := by decide +kernel
theorem dX9_startTag_36 : decode cX9_startTag 36 = .ok (.goto (-22), 3) := by decide +kernel
theorem dX9_startTag_39 : decode cX9_startTag 39 = .ok (.iload_n 3, 1) := by decide +kernel
theorem dX9_startTag_40 : decode cX9_startTag 40 = .ok (.ifCond .le 10, 3) := by decide +kernel
theorem dX9_startTag_43 : decode cX9_startTag 43 = .ok (.aload_n 0, 1) := by decide +kernel
theorem dX9_startTag_44 : decode cX9_startTag 44 = .ok (.iload_n 3, 1) := by decide +kernel
theorem dX9_startTag_45 : decode cX9_startTag 45 = .ok (.iconst (-1), 1) := by decide +kernel
theorem dX9_startTag_46 : decode cX9_startTag 46 = .ok (.iconst (-1), 1) := by decide +kernel
theorem dX9_startTag_47 : decode cX9_startTag 47 = .ok (.invokevirtual 181, 3) := by decide +kernel
theorem dX9_startTag_50 : decode cX9_startTag 50 = .ok (.iload_n 2, 1) := by decide +kernel
theorem dX9_startTag_51 : decode cX9_startTag 51 = .ok (.iconst 4, 1) := by decide +kernel
theorem dX9_startTag_52 : decode cX9_startTag 52 = .ok (.if_icmp .ne 76, 3) := by decide +kernel
theorem dX9_startTag_55 : decode cX9_startTag 55 = .ok (.aload_n 0, 1) := by decide +kernel
theorem dX9_startTag_56 : decode cX9_startTag 56 = .ok (.getfield 159, 3) := by decide +kernel
theorem dX9_startTag_59 : decode cX9_startTag 59 = .ok (.iconst 1, 1) := by decide +kernel
theorem dX9_startTag_60 : decode cX9_startTag 60 = .ok (.isub, 1) := by decide +kernel
theorem dX9_startTag_61 : decode cX9_startTag 61 = .ok (.istore_n 3, 1) := by decide +kernel
theorem dX9_startTag_62 : decode cX9_startTag 62 = .ok (.iload_n 3, 1) := by decide +kernel
theorem dX9_startTag_63 : decode cX9_startTag 63 = .ok (.ifCond .le 39, 3) := by decide +kernel
theorem dX9_startTag_66 : decode cX9_startTag 66 = .ok (.aload_n 0, 1) := by decide +kernel
theorem dX9_startTag_67 : decode cX9_startTag 67 = .ok (.getfield 86, 3) := by decide +kernel
theorem dX9_startTag_70 : decode cX9_startTag 70 = .ok (.aload_n 0, 1) := by decide +kernel
theorem dX9_startTag_71 : decode cX9_startTag 71 = .ok (.getfield 156, 3) := by decide +kernel
theorem dX9_startTag_74 : decode cX9_startTag 74 = .ok (.iload_n 3, 1) := by decide +kernel
theorem dX9_startTag_75 : decode cX9_startTag 75 = .ok (.iaload, 1) := by decide +kernel
theorem dX9_startTag_76 : decode cX9_startTag 76 = .ok (.iaload, 1) := by decide +kernel
theorem dX9_startTag_77 : decode cX9_startTag 77 = .ok (.iconst 4, 1) := by decide +kernel
theorem dX9_startTag_78 : decode cX9_startTag 78 = .ok (.if_icmp .eq 24, 3) := by decide +kernel
theorem dX9_startTag_81 : decode cX9_startTag 81 = .ok (.aload_n 0, 1) := by decide +kernel
theorem dX9_startTag_82 : decode cX9_startTag 82 = .ok (.getfield 86, 3) := by decide +kernel
theorem dX9_startTag_85 : decode cX9_startTag 85 = .ok (.aload_n 0, 1) := by decide +kernel
theorem dX9_startTag_86 : decode cX9_startTag 86 = .ok (.getfield 156, 3) := by decide +kernel
theorem dX9_startTag_89 : decode cX9_startTag 89 = .ok (.iload_n 3, 1) := by decide +kernel
theorem dX9_startTag_90 : decode cX9_startTag 90 = .ok (.iaload, 1) := by decide +kernel
theorem dX9_startTag_91 : decode cX9_startTag 91 = .ok (.iaload, 1) := by decide +kernel
theorem dX9_startTag_92 : decode cX9_startTag 92 = .ok (.iconst 3, 1) := by decide +kernel
theorem dX9_startTag_93 : decode cX9_startTag 93 = .ok (.if_icmp .eq 9, 3) := by decide +kernel
theorem dX9_startTag_96 : decode cX9_startTag 96 = .ok (.iinc 3 (-1), 3) := by decide +kernel
theorem dX9_startTag_99 : decode cX9_startTag 99 = .ok (.goto (-37), 3) := by decide +kernel
theorem dX9_startTag_102 : decode cX9_startTag 102 = .ok (.iload_n 3, 1) := by decide +kernel
theorem dX9_startTag_103 : decode cX9_startTag 103 = .ok (.ifCond .le 25, 3) := by decide +kernel
theorem dX9_startTag_106 : decode cX9_startTag 106 = .ok (.aload_n 0, 1) := by decide +kernel
theorem dX9_startTag_107 : decode cX9_startTag 107 = .ok (.getfield 86, 3) := by decide +kernel
theorem dX9_startTag_110 : decode cX9_startTag 110 = .ok (.aload_n 0, 1) := by decide +kernel
theorem dX9_startTag_111 : decode cX9_startTag 111 = .ok (.getfield 156, 3) := by decide +kernel
theorem dX9_startTag_114 : decode cX9_startTag 114 = .ok (.iload_n 3, 1) := by decide +kernel
theorem dX9_startTag_115 : decode cX9_startTag 115 = .ok (.iaload, 1) := by decide +kernel
theorem dX9_startTag_116 : decode cX9_startTag 116 = .ok (.iaload, 1) := by decide +kernel
theorem dX9_startTag_117 : decode cX9_startTag 117 = .ok (.iconst 4, 1) := by decide +kernel
theorem dX9_startTag_118 : decode cX9_startTag 118 = .ok (.if_icmp .ne 10, 3) := by decide +kernel
theorem dX9_startTag_121 : decode cX9_startTag 121 = .ok (.aload_n 0, 1) := by decide +kernel
theorem dX9_startTag_122 : decode cX9_startTag 122 = .ok (.iload_n 3, 1) := by decide +kernel
theorem dX9_startTag_123 : decode cX9_startTag 123 = .ok (.iconst (-1), 1) := by decide +kernel
theorem dX9_startTag_124 : decode cX9_startTag 124 = .ok (.iconst (-1), 1) := by decide +kernel
theorem dX9_startTag_125 : decode cX9_startTag 125 = .ok (.invokevirtual 181, 3) := by decide +kernel
theorem dX9_startTag_128 : decode cX9_startTag 128 = .ok (.iload_n 2, 1) := by decide +kernel
theorem dX9_startTag_129 : decode cX9_startTag 129 = .ok (.bipush 7, 2) := by decide +kernel
theorem dX9_startTag_131 : decode cX9_startTag 131 = .ok (.if_icmp .ne 58, 3) := by decide +kernel
theorem dX9_startTag_134 : decode cX9_startTag 134 = .ok (.aload_n 0, 1) := by decide +kernel
theorem dX9_startTag_135 : decode cX9_startTag 135 = .ok (.getfield 159, 3) := by decide +kernel
theorem dX9_startTag_138 : decode cX9_startTag 138 = .ok (.iconst 1, 1) := by decide +kernel
theorem dX9_startTag_139 : decode cX9_startTag 139 = .ok (.isub, 1) := by decide +kernel
theorem dX9_startTag_140 : decode cX9_startTag 140 = .ok (.istore_n 3, 1) := by decide +kernel
theorem dX9_startTag_141 : decode cX9_startTag 141 = .ok (.iload_n 3, 1) := by decide +kernel
theorem dX9_startTag_142 : decode cX9_startTag 142 = .ok (.ifCond .le 25, 3) := by decide +kernel
theorem dX9_startTag_145 : decode cX9_startTag 145 = .ok (.aload_n 0, 1) := by decide +kernel
theorem dX9_startTag_146 : decode cX9_startTag 146 = .ok (.getfield 86, 3) := by decide +kernel
theorem dX9_startTag_149 : decode cX9_startTag 149 = .ok (.aload_n 0, 1) := by decide +kernel
theorem dX9_startTag_150 : decode cX9_startTag 150 = .ok (.getfield 156, 3) := by decide +kernel
theorem dX9_startTag_153 : decode cX9_startTag 153 = .ok (.iload_n 3, 1) := by decide +kernel
theorem dX9_startTag_154 : decode cX9_startTag 154 = .ok (.iaload, 1) := by decide +kernel
theorem dX9_startTag_155 : decode cX9_startTag 155 = .ok (.iaload, 1) := by decide +kernel
theorem dX9_startTag_156 : decode cX9_startTag 156 = .ok (.bipush 7, 2) := by decide +kernel
theorem dX9_startTag_158 : decode cX9_startTag 158 = .ok (.if_icmp .eq 9, 3) := by decide +kernel
theorem dX9_startTag_161 : decode cX9_startTag 161 = .ok (.iinc 3 (-1), 3) := by decide +kernel
theorem dX9_startTag_164 : decode cX9_startTag 164 = .ok (.goto (-23), 3) := by decide +kernel
theorem dX9_startTag_167 : decode cX9_startTag 167 = .ok (.iload_n 3, 1) := by decide +kernel
theorem dX9_startTag_168 : decode cX9_startTag 168 = .ok (.ifCond .le 21, 3) := by decide +kernel
theorem dX9_startTag_171 : decode cX9_startTag 171 = .ok (.aload_n 0, 1) := by decide +kernel
theorem dX9_startTag_172 : decode cX9_startTag 172 = .ok (.iload_n 3, 1) := by decide +kernel
theorem dX9_startTag_173 : decode cX9_startTag 173 = .ok (.iconst (-1), 1) := by decide +kernel
theorem dX9_startTag_174 : decode cX9_startTag 174 = .ok (.aload_n 0, 1) := by decide +kernel
theorem dX9_startTag_175 : decode cX9_startTag 175 = .ok (.getfield 156, 3) := by decide +kernel
theorem dX9_startTag_178 : decode cX9_startTag 178 = .ok (.iload_n 3, 1) := by decide +kernel
theorem dX9_startTag_179 : decode cX9_startTag 179 = .ok (.iaload, 1) := by decide +kernel
theorem dX9_startTag_180 : decode cX9_startTag 180 = .ok (.invokevirtual 181, 3) := by decide +kernel
theorem dX9_startTag_183 : decode cX9_startTag 183 = .ok (.aload_n 0, 1) := by decide +kernel
theorem dX9_startTag_184 : decode cX9_startTag 184 = .ok (.iconst 5, 1) := by decide +kernel
theorem dX9_startTag_185 : decode cX9_startTag 185 = .ok (.iload_n 1, 1) := by decide +kernel
theorem dX9_startTag_186 : decode cX9_startTag 186 = .ok (.invokevirtual 185, 3) := by decide +kernel
theorem dX9_startTag_189 : decode cX9_startTag 189 = .ok (.aload_n 0, 1) := by decide +kernel
theorem dX9_startTag_190 : decode cX9_startTag 190 = .ok (.aload_n 0, 1) := by decide +kernel
theorem dX9_startTag_191 : decode cX9_startTag 191 = .ok (.getfield 156, 3) := by decide +kernel
theorem dX9_startTag_194 : decode cX9_startTag 194 = .ok (.aload_n 0, 1) := by decide +kernel
theorem dX9_startTag_195 : decode cX9_startTag 195 = .ok (.getfield 159, 3) := by decide +kernel
theorem dX9_startTag_198 : decode cX9_startTag 198 = .ok (.iconst 1, 1) := by decide +kernel
theorem dX9_startTag_199 : decode cX9_startTag 199 = .ok (.isub, 1) := by decide +kernel
theorem dX9_startTag_200 : decode cX9_startTag 200 = .ok (.iaload, 1) := by decide +kernel
theorem dX9_startTag_201 : decode cX9_startTag 201 = .ok (.invokevirtual 82, 3) := by decide +kernel
theorem dX9_startTag_204 : decode cX9_startTag 204 = .ok (.istore_n 3, 1) := by decide +kernel
theorem dX9_startTag_205 : decode cX9_startTag 205 = .ok (.iload_n 3, 1) := by decide +kernel
theorem dX9_startTag_206 : decode cX9_startTag 206 = .ok (.iconst (-1), 1) := by decide +kernel
theorem dX9_startTag_207 : decode cX9_startTag 207 = .ok (.if_icmp .ne 11, 3) := by decide +kernel
theorem dX9_startTag_210 : decode cX9_startTag 210 = .ok (.aload_n 0, 1) := by decide +kernel
theorem dX9_startTag_211 : decode cX9_startTag 211 = .ok (.bipush 6, 2) := by decide +kernel
theorem dX9_startTag_213 : decode cX9_startTag 213 = .ok (.iload_n 1, 1) := by decide +kernel
theorem dX9_startTag_214 : decode cX9_startTag 214 = .ok (.invokevirtual 185, 3) := by decide +kernel
theorem dX9_startTag_217 : decode cX9_startTag 217 = .ok (.return_, 1) := by decide +kernel
theorem dX9_startTag_218 : decode cX9_startTag 218 = .ok (.aload_n 0, 1) := by decide +kernel
theorem dX9_startTag_219 : decode cX9_startTag 219 = .ok (.iload_n 3, 1) := by decide +kernel
theorem dX9_startTag_220 : decode cX9_startTag 220 = .ok (.iload_n 2, 1) := by decide +kernel
theorem dX9_startTag_221 : decode cX9_startTag 221 = .ok (.invokevirtual 266, 3) := by decide +kernel
theorem dX9_startTag_224 : decode cX9_startTag 224 = .ok (.aload_n 0, 1) := by decide +kernel
theorem dX9_startTag_225 : decode cX9_startTag 225 = .ok (.getfield 257, 3) := by decide +kernel
theorem dX9_startTag_228 : decode cX9_startTag 228 = .ok (.iload_n 3, 1) := by decide +kernel
theorem dX9_startTag_229 : decode cX9_startTag 229 = .ok (.iload_n 1, 1) := by decide +kernel
theorem dX9_startTag_230 : decode cX9_startTag 230 = .ok (.iastore, 1) := by decide +kernel
theorem dX9_startTag_231 : decode cX9_startTag 231 = .ok (.aload_n 0, 1) := by decide +kernel
theorem dX9_startTag_232 : decode cX9_startTag 232 = .ok (.getfield 114, 3) := by decide +kernel
theorem dX9_startTag_235 : decode cX9_startTag 235 = .ok (.iload_n 3, 1) := by decide +kernel
theorem dX9_startTag_236 : decode cX9_startTag 236 = .ok (.aload_n 0, 1) := by decide +kernel
theorem dX9_startTag_237 : decode cX9_startTag 237 = .ok (.getfield 214, 3) := by decide +kernel
theorem dX9_startTag_240 : decode cX9_startTag 240 = .ok (.iastore, 1) := by decide +kernel
theorem dX9_startTag_241 : decode cX9_startTag 241 = .ok (.iconst 0, 1) := by decide +kernel
theorem dX9_startTag_242 : decode cX9_startTag 242 = .ok (.istore 4, 2) := by decide +kernel
theorem dX9_startTag_244 : decode cX9_startTag 244 = .ok (.iload 4, 2) := by decide +kernel
theorem dX9_startTag_246 : decode cX9_startTag 246 = .ok (.aload_n 0, 1) := by decide +kernel
theorem dX9_startTag_247 : decode cX9_startTag 247 = .ok (.getfield 214, 3) := by decide +kernel
theorem dX9_startTag_250 : decode cX9_startTag 250 = .ok (.if_icmp .ge 137, 3) := by decide +kernel
theorem dX9_startTag_253 : decode cX9_startTag 253 = .ok (.aload_n 0, 1) := by decide +kernel
theorem dX9_startTag_254 : decode cX9_startTag 254 = .ok (.getfield 269, 3) := by decide +kernel
theorem dX9_startTag_257 : decode cX9_startTag 257 = .ok (.iconst 4, 1) := by decide +kernel
theorem dX9_startTag_258 : decode cX9_startTag 258 = .ok (.iload_n 3, 1) := by decide +kernel
theorem dX9_startTag_259 : decode cX9_startTag 259 = .ok (.imul, 1) := by decide +kernel
theorem dX9_startTag_260 : decode cX9_startTag 260 = .ok (.iload 4, 2) := by decide +kernel
theorem dX9_startTag_262 : decode cX9_startTag 262 = .ok (.iadd, 1) := by decide +kernel
theorem dX9_startTag_263 : decode cX9_startTag 263 = .ok (.aload_n 0, 1) := by decide +kernel
theorem dX9_startTag_264 : decode cX9_startTag 264 = .ok (.getfield 241, 3) := by decide +kernel
theorem dX9_startTag_267 : decode cX9_startTag 267 = .ok (.iload 4, 2) := by decide +kernel
theorem dX9_startTag_269 : decode cX9_startTag 269 = .ok (.iaload, 1) := by decide +kernel
theorem dX9_startTag_270 : decode cX9_startTag 270 = .ok (.iastore, 1) := by decide +kernel
theorem dX9_startTag_271 : decode cX9_startTag 271 = .ok (.aload_n 0, 1) := by decide +kernel
theorem dX9_startTag_272 : decode cX9_startTag 272 = .ok (.getfield 272, 3) := by decide +kernel
theorem dX9_startTag_275 : decode cX9_startTag 275 = .ok (.iconst 4, 1) := by decide +kernel
theorem dX9_startTag_276 : decode cX9_startTag 276 = .ok (.iload_n 3, 1) := by decide +kernel
theorem dX9_startTag_277 : decode cX9_startTag 277 = .ok (.imul, 1) := by decide +kernel
theorem dX9_startTag_278 : decode cX9_startTag 278 = .ok (.iload 4, 2) := by decide +kernel
theorem dX9_startTag_280 : decode cX9_startTag 280 = .ok (.iadd, 1) := by decide +kernel
theorem dX9_startTag_281 : decode cX9_startTag 281 = .ok (.aload_n 0, 1) := by decide +kernel
theorem dX9_startTag_282 : decode cX9_startTag 282 = .ok (.getfield 251, 3) := by decide +kernel
theorem dX9_startTag_285 : decode cX9_startTag 285 = .ok (.iload 4, 2) := by decide +kernel
theorem dX9_startTag_287 : decode cX9_startTag 287 = .ok (.iaload, 1) := by decide +kernel
theorem dX9_startTag_288 : decode cX9_startTag 288 = .ok (.iastore, 1) := by decide +kernel
theorem dX9_startTag_289 : decode cX9_startTag 289 = .ok (.iconst 0, 1) := by decide +kernel
theorem dX9_startTag_290 : decode cX9_startTag 290 = .ok (.istore 5, 2) := by decide +kernel
theorem dX9_startTag_292 : decode cX9_startTag 292 = .ok (.iload 5, 2) := by decide +kernel
theorem dX9_startTag_294 : decode cX9_startTag 294 = .ok (.bipush 8, 2) := by decide +kernel
theorem dX9_startTag_296 : decode cX9_startTag 296 = .ok (.if_icmp .ge 39, 3) := by decide +kernel
theorem dX9_startTag_299 : decode cX9_startTag 299 = .ok (.aload_n 0, 1) := by decide +kernel
theorem dX9_startTag_300 : decode cX9_startTag 300 = .ok (.getfield 275, 3) := by decide +kernel
theorem dX9_startTag_303 : decode cX9_startTag 303 = .ok (.bipush 8, 2) := by decide +kernel
theorem dX9_startTag_305 : decode cX9_startTag 305 = .ok (.iconst 4, 1) := by decide +kernel
theorem dX9_startTag_306 : decode cX9_startTag 306 = .ok (.iload_n 3, 1) := by decide +kernel
theorem dX9_startTag_307 : decode cX9_startTag 307 = .ok (.imul, 1) := by decide +kernel
theorem dX9_startTag_308 : decode cX9_startTag 308 = .ok (.iload 4, 2) := by decide +kernel
theorem dX9_startTag_310 : decode cX9_startTag 310 = .ok (.iadd, 1) := by decide +kernel
theorem dX9_startTag_311 : decode cX9_startTag 311 = .ok (.imul, 1) := by decide +kernel
theorem dX9_startTag_312 : decode cX9_startTag 312 = .ok (.iload 5, 2) := by decide +kernel
theorem dX9_startTag_314 : decode cX9_startTag 314 = .ok (.iadd, 1) := by decide +kernel
theorem dX9_startTag_315 : decode cX9_startTag 315 = .ok (.aload_n 0, 1) := by decide +kernel
theorem dX9_startTag_316 : decode cX9_startTag 316 = .ok (.getfield 244, 3) := by decide +kernel
theorem dX9_startTag_319 : decode cX9_startTag 319 = .ok (.bipush 8, 2) := by decide +kernel
theorem dX9_startTag_321 : decode cX9_startTag 321 = .ok (.iload 4, 2) := by decide +kernel
theorem dX9_startTag_323 : decode cX9_startTag 323 = .ok (.imul, 1) := by decide +kernel
theorem dX9_startTag_324 : decode cX9_startTag 324 = .ok (.iload 5, 2) := by decide +kernel
theorem dX9_startTag_326 : decode cX9_startTag 326 = .ok (.iadd, 1) := by decide +kernel
theorem dX9_startTag_327 : decode cX9_startTag 327 = .ok (.baload, 1) := by decide +kernel
theorem dX9_startTag_328 : decode cX9_startTag 328 = .ok (.bastore, 1) := by decide +kernel
theorem dX9_startTag_329 : decode cX9_startTag 329 = .ok (.iinc 5 1, 3) := by decide +kernel
theorem dX9_startTag_332 : decode cX9_startTag 332 = .ok (.goto (-40), 3) := by decide +kernel
theorem dX9_startTag_335 : decode cX9_startTag 335 = .ok (.iconst 0, 1) := by decide +kernel
theorem dX9_startTag_336 : decode cX9_startTag 336 = .ok (.istore 5, 2) := by decide +kernel
theorem dX9_startTag_338 : decode cX9_startTag 338 = .ok (.iload 5, 2) := by decide +kernel
theorem dX9_startTag_340 : decode cX9_startTag 340 = .ok (.bipush 60, 2) := by decide +kernel
theorem dX9_startTag_342 : decode cX9_startTag 342 = .ok (.if_icmp .ge 39, 3) := by decide +kernel
theorem dX9_startTag_345 : decode cX9_startTag 345 = .ok (.aload_n 0, 1) := by decide +kernel
theorem dX9_startTag_346 : decode cX9_startTag 346 = .ok (.getfield 278, 3) := by decide +kernel
theorem dX9_startTag_349 : decode cX9_startTag 349 = .ok (.bipush 60, 2) := by decide +kernel
theorem dX9_startTag_351 : decode cX9_startTag 351 = .ok (.iconst 4, 1) := by decide +kernel
theorem dX9_startTag_352 : decode cX9_startTag 352 = .ok (.iload_n 3, 1) := by decide +kernel
theorem dX9_startTag_353 : decode cX9_startTag 353 = .ok (.imul, 1) := by decide +kernel
theorem dX9_startTag_354 : decode cX9_startTag 354 = .ok (.iload 4, 2) := by decide +kernel
theorem dX9_startTag_356 : decode cX9_startTag 356 = .ok (.iadd, 1) := by decide +kernel
theorem dX9_startTag_357 : decode cX9_startTag 357 = .ok (.imul, 1) := by decide +kernel
theorem dX9_startTag_358 : decode cX9_startTag 358 = .ok (.iload 5, 2) := by decide +kernel
theorem dX9_startTag_360 : decode cX9_startTag 360 = .ok (.iadd, 1) := by decide +kernel
theorem dX9_startTag_361 : decode cX9_startTag 361 = .ok (.aload_n 0, 1) := by decide +kernel
theorem dX9_startTag_362 : decode cX9_startTag 362 = .ok (.getfield 254, 3) := by decide +kernel
theorem dX9_startTag_365 : decode cX9_startTag 365 = .ok (.bipush 60, 2) := by decide +kernel
theorem dX9_startTag_367 : decode cX9_startTag 367 = .ok (.iload 4, 2) := by decide +kernel
theorem dX9_startTag_369 : decode cX9_startTag 369 = .ok (.imul, 1) := by decide +kernel
theorem dX9_startTag_370 : decode cX9_startTag 370 = .ok (.iload 5, 2) := by decide +kernel
theorem dX9_startTag_372 : decode cX9_startTag 372 = .ok (.iadd, 1) := by decide +kernel
theorem dX9_startTag_373 : decode cX9_startTag 373 = .ok (.baload, 1) := by decide +kernel
theorem dX9_startTag_374 : decode cX9_startTag 374 = .ok (.bastore, 1) := by decide +kernel
theorem dX9_startTag_375 : decode cX9_startTag 375 = .ok (.iinc 5 1, 3) := by decide +kernel
theorem dX9_startTag_378 : decode cX9_startTag 378 = .ok (.goto (-40), 3) := by decide +kernel
theorem dX9_startTag_381 : decode cX9_startTag 381 = .ok (.iinc 4 1, 3) := by decide +kernel
theorem dX9_startTag_384 : decode cX9_startTag 384 = .ok (.goto (-140), 3) := by decide +kernel
theorem dX9_startTag_387 : decode cX9_startTag 387 = .ok (.iload_n 2, 1) := by decide +kernel
theorem dX9_startTag_388 : decode cX9_startTag 388 = .ok (.invokestatic 260, 3) := by decide +kernel
theorem dX9_startTag_391 : decode cX9_startTag 391 = .ok (.ifCond .ne 23, 3) := by decide +kernel
theorem dX9_startTag_394 : decode cX9_startTag 394 = .ok (.aload_n 0, 1) := by decide +kernel
theorem dX9_startTag_395 : decode cX9_startTag 395 = .ok (.getfield 156, 3) := by decide +kernel
theorem dX9_startTag_398 : decode cX9_startTag 398 = .ok (.aload_n 0, 1) := by decide +kernel
theorem dX9_startTag_399 : decode cX9_startTag 399 = .ok (.getfield 159, 3) := by decide +kernel
theorem dX9_startTag_402 : decode cX9_startTag 402 = .ok (.iload_n 3, 1) := by decide +kernel
theorem dX9_startTag_403 : decode cX9_startTag 403 = .ok (.iastore, 1) := by decide +kernel
theorem dX9_startTag_404 : decode cX9_startTag 404 = .ok (.aload_n 0, 1) := by decide +kernel
theorem dX9_startTag_405 : decode cX9_startTag 405 = .ok (.dup, 1) := by decide +kernel
theorem dX9_startTag_406 : decode cX9_startTag 406 = .ok (.getfield 159, 3) := by decide +kernel
theorem dX9_startTag_409 : decode cX9_startTag 409 = .ok (.iconst 1, 1) := by decide +kernel
theorem dX9_startTag_410 : decode cX9_startTag 410 = .ok (.iadd, 1) := by decide +kernel
theorem dX9_startTag_411 : decode cX9_startTag 411 = .ok (.putfield 159, 3) := by decide +kernel
theorem dX9_startTag_414 : decode cX9_startTag 414 = .ok (.return_, 1) := by decide +kernel
theorem dX9_readTag_0 : decode cX9_readTag 0 = .ok (.aload_n 0, 1) := by decide +kernel
theorem dX9_readTag_1 : decode cX9_readTag 1 = .ok (.getfield 142, 3) := by decide +kernel
theorem dX9_readTag_4 : decode cX9_readTag 4 = .ok (.iload_n 1, 1) := by decide +kernel
theorem dX9_readTag_5 : decode cX9_readTag 5 = .ok (.iconst 1, 1) := by decide +kernel
theorem dX9_readTag_6 : decode cX9_readTag 6 = .ok (.iadd, 1) := by decide +kernel
theorem dX9_readTag_7 : decode cX9_readTag 7 = .ok (.baload, 1) := by decide +kernel
theorem dX9_readTag_8 : decode cX9_readTag 8 = .ok (.bipush 47, 2) := by decide +kernel
theorem dX9_readTag_10 : decode cX9_readTag 10 = .ok (.if_icmp .ne 7, 3) := by decide +kernel
theorem dX9_readTag_13 : decode cX9_readTag 13 = .ok (.iconst 1, 1) := by decide +kernel
theorem dX9_readTag_14 : decode cX9_readTag 14 = .ok (.goto 4, 3) := by decide +kernel
theorem dX9_readTag_17 : decode cX9_readTag 17 = .ok (.iconst 0, 1) := by decide +kernel
theorem dX9_readTag_18 : decode cX9_readTag 18 = .ok (.istore_n 2, 1) := by decide +kernel
theorem dX9_readTag_19 : decode cX9_readTag 19 = .ok (.iload_n 2, 1) := by decide +kernel
theorem dX9_readTag_20 : decode cX9_readTag 20 = .ok (.ifCond .eq 9, 3) := by decide +kernel
theorem dX9_readTag_23 : decode cX9_readTag 23 = .ok (.iload_n 1, 1) := by decide +kernel
theorem dX9_readTag_24 : decode cX9_readTag 24 = .ok (.iconst 2, 1) := by decide +kernel
theorem dX9_readTag_25 : decode cX9_readTag 25 = .ok (.iadd, 1) := by decide +kernel
theorem dX9_readTag_26 : decode cX9_readTag 26 = .ok (.goto 6, 3) := by decide +kernel
theorem dX9_readTag_29 : decode cX9_readTag 29 = .ok (.iload_n 1, 1) := by decide +kernel
theorem dX9_readTag_30 : decode cX9_readTag 30 = .ok (.iconst 1, 1) := by decide +kernel
theorem dX9_readTag_31 : decode cX9_readTag 31 = .ok (.iadd, 1) := by decide +kernel
theorem dX9_readTag_32 : decode cX9_readTag 32 = .ok (.istore_n 3, 1) := by decide +kernel
theorem dX9_readTag_33 : decode cX9_readTag 33 = .ok (.aload_n 0, 1) := by decide +kernel
theorem dX9_readTag_34 : decode cX9_readTag 34 = .ok (.iconst 0, 1) := by decide +kernel
theorem dX9_readTag_35 : decode cX9_readTag 35 = .ok (.putfield 202, 3) := by decide +kernel
theorem dX9_readTag_38 : decode cX9_readTag 38 = .ok (.iload_n 3, 1) := by decide +kernel
theorem dX9_readTag_39 : decode cX9_readTag 39 = .ok (.aload_n 0, 1) := by decide +kernel
theorem dX9_readTag_40 : decode cX9_readTag 40 = .ok (.getfield 139, 3) := by decide +kernel
theorem dX9_readTag_43 : decode cX9_readTag 43 = .ok (.if_icmp .ge 71, 3) := by decide +kernel
theorem dX9_readTag_46 : decode cX9_readTag 46 = .ok (.aload_n 0, 1) := by decide +kernel
theorem dX9_readTag_47 : decode cX9_readTag 47 = .ok (.getfield 142, 3) := by decide +kernel
theorem dX9_readTag_50 : decode cX9_readTag 50 = .ok (.iload_n 3, 1) := by decide +kernel
theorem dX9_readTag_51 : decode cX9_readTag 51 = .ok (.baload, 1) := by decide +kernel
theorem dX9_readTag_52 : decode cX9_readTag 52 = .ok (.invokestatic 149, 3) := by decide +kernel
theorem dX9_readTag_55 : decode cX9_readTag 55 = .ok (.ifCond .ne 15, 3) := by decide +kernel
theorem dX9_readTag_58 : decode cX9_readTag 58 = .ok (.aload_n 0, 1) := by decide +kernel
theorem dX9_readTag_59 : decode cX9_readTag 59 = .ok (.getfield 142, 3) := by decide +kernel
theorem dX9_readTag_62 : decode cX9_readTag 62 = .ok (.iload_n 3, 1) := by decide +kernel
theorem dX9_readTag_63 : decode cX9_readTag 63 = .ok (.baload, 1) := by decide +kernel
theorem dX9_readTag_64 : decode cX9_readTag 64 = .ok (.invokestatic 205, 3) := by decide +kernel
theorem dX9_readTag_67 : decode cX9_readTag 67 = .ok (.ifCond .eq 47, 3) := by decide +kernel
theorem dX9_readTag_70 : decode cX9_readTag 70 = .ok (.aload_n 0, 1) := by decide +kernel
theorem dX9_readTag_71 : decode cX9_readTag 71 = .ok (.getfield 202, 3) := by decide +kernel
theorem dX9_readTag_74 : decode cX9_readTag 74 = .ok (.bipush 8, 2) := by decide +kernel
theorem dX9_readTag_76 : decode cX9_readTag 76 = .ok (.if_icmp .ge 32, 3) := by decide +kernel
theorem dX9_readTag_79 : decode cX9_readTag 79 = .ok (.aload_n 0, 1) := by decide +kernel
theorem dX9_readTag_80 : decode cX9_readTag 80 = .ok (.getfield 208, 3) := by decide +kernel
theorem dX9_readTag_83 : decode cX9_readTag 83 = .ok (.aload_n 0, 1) := by decide +kernel
theorem dX9_readTag_84 : decode cX9_readTag 84 = .ok (.getfield 202, 3) := by decide +kernel
theorem dX9_readTag_87 : decode cX9_readTag 87 = .ok (.aload_n 0, 1) := by decide +kernel
theorem dX9_readTag_88 : decode cX9_readTag 88 = .ok (.getfield 142, 3) := by decide +kernel
theorem dX9_readTag_91 : decode cX9_readTag 91 = .ok (.iload_n 3, 1) := by decide +kernel
theorem dX9_readTag_92 : decode cX9_readTag 92 = .ok (.baload, 1) := by decide +kernel
theorem dX9_readTag_93 : decode cX9_readTag 93 = .ok (.invokestatic 211, 3) := by decide +kernel
theorem dX9_readTag_96 : decode cX9_readTag 96 = .ok (.i2b, 1) := by decide +kernel
theorem dX9_readTag_97 : decode cX9_readTag 97 = .ok (.bastore, 1) := by decide +kernel
theorem dX9_readTag_98 : decode cX9_readTag 98 = .ok (.aload_n 0, 1) := by decide +kernel
theorem dX9_readTag_99 : decode cX9_readTag 99 = .ok (.dup, 1) := by decide +kernel
theorem dX9_readTag_100 : decode cX9_readTag 100 = .ok (.getfield 202, 3) := by decide +kernel
theorem dX9_readTag_103 : decode cX9_readTag 103 = .ok (.iconst 1, 1) := by decide +kernel
theorem dX9_readTag_104 : decode cX9_readTag 104 = .ok (.iadd, 1) := by decide +kernel
theorem dX9_readTag_105 : decode cX9_readTag 105 = .ok (.putfield 202, 3) := by decide +kernel
theorem dX9_readTag_108 : decode cX9_readTag 108 = .ok (.iinc 3 1, 3) := by decide +kernel
theorem dX9_readTag_111 : decode cX9_readTag 111 = .ok (.goto (-73), 3) := by decide +kernel
theorem dX9_readTag_114 : decode cX9_readTag 114 = .ok (.aload_n 0, 1) := by decide +kernel
theorem dX9_readTag_115 : decode cX9_readTag 115 = .ok (.iconst 0, 1) := by decide +kernel
theorem dX9_readTag_116 : decode cX9_readTag 116 = .ok (.putfield 214, 3) := by decide +kernel
theorem dX9_readTag_119 : decode cX9_readTag 119 = .ok (.aload_n 0, 1) := by decide +kernel
theorem dX9_readTag_120 : decode cX9_readTag 120 = .ok (.iconst 0, 1) := by decide +kernel
theorem dX9_readTag_121 : decode cX9_readTag 121 = .ok (.putfield 217, 3) := by decide +kernel
theorem dX9_readTag_124 : decode cX9_readTag 124 = .ok (.iconst 1, 1) := by decide +kernel
theorem dX9_readTag_125 : decode cX9_readTag 125 = .ok (.istore 4, 2) := by decide +kernel
theorem dX9_readTag_127 : decode cX9_readTag 127 = .ok (.iload 4, 2) := by decide +kernel
theorem dX9_readTag_129 : decode cX9_readTag 129 = .ok (.ifCond .eq 80, 3) := by decide +kernel
theorem dX9_readTag_132 : decode cX9_readTag 132 = .ok (.iload_n 3, 1) := by decide +kernel
theorem dX9_readTag_133 : decode cX9_readTag 133 = .ok (.aload_n 0, 1) := by decide +kernel
theorem dX9_readTag_134 : decode cX9_readTag 134 = .ok (.getfield 139, 3) := by decide +kernel
theorem dX9_readTag_137 : decode cX9_readTag 137 = .ok (.if_icmp .ge 32, 3) := by decide +kernel
theorem dX9_readTag_140 : decode cX9_readTag 140 = .ok (.aload_n 0, 1) := by decide +kernel
theorem dX9_readTag_141 : decode cX9_readTag 141 = .ok (.getfield 142, 3) := by decide +kernel
theorem dX9_readTag_144 : decode cX9_readTag 144 = .ok (.iload_n 3, 1) := by decide +kernel
theorem dX9_readTag_145 : decode cX9_readTag 145 = .ok (.baload, 1) := by decide +kernel
theorem dX9_readTag_146 : decode cX9_readTag 146 = .ok (.invokestatic 192, 3) := by decide +kernel
theorem dX9_readTag_149 : decode cX9_readTag 149 = .ok (.ifCond .ne 14, 3) := by decide +kernel
theorem dX9_readTag_152 : decode cX9_readTag 152 = .ok (.aload_n 0, 1) := by decide +kernel
theorem dX9_readTag_153 : decode cX9_readTag 153 = .ok (.getfield 142, 3) := by decide +kernel
theorem dX9_readTag_156 : decode cX9_readTag 156 = .ok (.iload_n 3, 1) := by decide +kernel
theorem dX9_readTag_157 : decode cX9_readTag 157 = .ok (.baload, 1) := by decide +kernel
theorem dX9_readTag_158 : decode cX9_readTag 158 = .ok (.bipush 47, 2) := by decide +kernel
theorem dX9_readTag_160 : decode cX9_readTag 160 = .ok (.if_icmp .ne 9, 3) := by decide +kernel
theorem dX9_readTag_163 : decode cX9_readTag 163 = .ok (.iinc 3 1, 3) := by decide +kernel
theorem dX9_readTag_166 : decode cX9_readTag 166 = .ok (.goto (-34), 3) := by decide +kernel
theorem dX9_readTag_169 : decode cX9_readTag 169 = .ok (.iload_n 3, 1) := by decide +kernel
theorem dX9_readTag_170 : decode cX9_readTag 170 = .ok (.aload_n 0, 1) := by decide +kernel
theorem dX9_readTag_171 : decode cX9_readTag 171 = .ok (.getfield 139, 3) := by decide +kernel
theorem dX9_readTag_174 : decode cX9_readTag 174 = .ok (.if_icmp .ge 18, 3) := by decide +kernel
theorem dX9_readTag_177 : decode cX9_readTag 177 = .ok (.aload_n 0, 1) := by decide +kernel
theorem dX9_readTag_178 : decode cX9_readTag 178 = .ok (.getfield 142, 3) := by decide +kernel
theorem dX9_readTag_181 : decode cX9_readTag 181 = .ok (.iload_n 3, 1) := by decide +kernel
theorem dX9_readTag_182 : decode cX9_readTag 182 = .ok (.baload, 1) := by decide +kernel
theorem dX9_readTag_183 : decode cX9_readTag 183 = .ok (.bipush 62, 2) := by decide +kernel
theorem dX9_readTag_185 : decode cX9_readTag 185 = .ok (.if_icmp .eq 7, 3) := by decide +kernel
theorem dX9_readTag_188 : decode cX9_readTag 188 = .ok (.iconst 1, 1) := by decide +kernel
theorem dX9_readTag_189 : decode cX9_readTag 189 = .ok (.goto 4, 3) := by decide +kernel
theorem dX9_readTag_192 : decode cX9_readTag 192 = .ok (.iconst 0, 1) := by decide +kernel
theorem dX9_readTag_193 : decode cX9_readTag 193 = .ok (.istore 4, 2) := by decide +kernel
theorem dX9_readTag_195 : decode cX9_readTag 195 = .ok (.iload 4, 2) := by decide +kernel
theorem dX9_readTag_197 : decode cX9_readTag 197 = .ok (.ifCond .eq (-70), 3) := by decide +kernel
theorem dX9_readTag_200 : decode cX9_readTag 200 = .ok (.aload_n 0, 1) := by decide +kernel
theorem dX9_readTag_201 : decode cX9_readTag 201 = .ok (.iload_n 3, 1) := by decide +kernel
theorem dX9_readTag_202 : decode cX9_readTag 202 = .ok (.invokevirtual 220, 3) := by decide +kernel
theorem dX9_readTag_205 : decode cX9_readTag 205 = .ok (.istore_n 3, 1) := by decide +kernel
theorem dX9_readTag_206 : decode cX9_readTag 206 = .ok (.goto (-79), 3) := by decide +kernel
theorem dX9_readTag_209 : decode cX9_readTag 209 = .ok (.iload_n 3, 1) := by decide +kernel
theorem dX9_readTag_210 : decode cX9_readTag 210 = .ok (.aload_n 0, 1) := by decide +kernel
theorem dX9_readTag_211 : decode cX9_readTag 211 = .ok (.getfield 139, 3) := by decide +kernel
theorem dX9_readTag_214 : decode cX9_readTag 214 = .ok (.if_icmp .lt 14, 3) := by decide +kernel
theorem dX9_readTag_217 : decode cX9_readTag 217 = .ok (.aload_n 0, 1) := by decide +kernel
theorem dX9_readTag_218 : decode cX9_readTag 218 = .ok (.iconst 1, 1) := by decide +kernel
theorem dX9_readTag_219 : decode cX9_readTag 219 = .ok (.iload_n 1, 1) := by decide +kernel
theorem dX9_readTag_220 : decode cX9_readTag 220 = .ok (.invokevirtual 185, 3) := by decide +kernel
theorem dX9_readTag_223 : decode cX9_readTag 223 = .ok (.aload_n 0, 1) := by decide +kernel
theorem dX9_readTag_224 : decode cX9_readTag 224 = .ok (.getfield 139, 3) := by decide +kernel
theorem dX9_readTag_227 : decode cX9_readTag 227 = .ok (.ireturn, 1) := by decide +kernel
theorem dX9_readTag_228 : decode cX9_readTag 228 = .ok (.aload_n 0, 1) := by decide +kernel
theorem dX9_readTag_229 : decode cX9_readTag 229 = .ok (.getfield 208, 3) := by decide +kernel
theorem dX9_readTag_232 : decode cX9_readTag 232 = .ok (.iconst 0, 1) := by decide +kernel
theorem dX9_readTag_233 : decode cX9_readTag 233 = .ok (.aload_n 0, 1) := by decide +kernel
theorem dX9_readTag_234 : decode cX9_readTag 234 = .ok (.getfield 202, 3) := by decide +kernel
theorem dX9_readTag_237 : decode cX9_readTag 237 = .ok (.invokestatic 223, 3) := by decide +kernel
theorem dX9_readTag_240 : decode cX9_readTag 240 = .ok (.istore 5, 2) := by decide +kernel
theorem dX9_readTag_242 : decode cX9_readTag 242 = .ok (.iload_n 2, 1) := by decide +kernel
theorem dX9_readTag_243 : decode cX9_readTag 243 = .ok (.ifCond .eq 13, 3) := by decide +kernel
theorem dX9_readTag_246 : decode cX9_readTag 246 = .ok (.aload_n 0, 1) := by decide +kernel
theorem dX9_readTag_247 : decode cX9_readTag 247 = .ok (.iload_n 1, 1) := by decide +kernel
theorem dX9_readTag_248 : decode cX9_readTag 248 = .ok (.iload 5, 2) := by decide +kernel
theorem dX9_readTag_250 : decode cX9_readTag 250 = .ok (.invokevirtual 226, 3) := by decide +kernel
theorem dX9_readTag_253 : decode cX9_readTag 253 = .ok (.goto 40, 3) := by decide +kernel
theorem dX9_readTag_256 : decode cX9_readTag 256 = .ok (.iconst 0, 1) := by decide +kernel
theorem dX9_readTag_257 : decode cX9_readTag 257 = .ok (.istore 6, 2) := by decide +kernel
theorem dX9_readTag_259 : decode cX9_readTag 259 = .ok (.iload 6, 2) := by decide +kernel
theorem dX9_readTag_261 : decode cX9_readTag 261 = .ok (.aload_n 0, 1) := by decide +kernel
theorem dX9_readTag_262 : decode cX9_readTag 262 = .ok (.getfield 217, 3) := by decide +kernel
theorem dX9_readTag_265 : decode cX9_readTag 265 = .ok (.if_icmp .ge 21, 3) := by decide +kernel
theorem dX9_readTag_268 : decode cX9_readTag 268 = .ok (.aload_n 0, 1) := by decide +kernel
theorem dX9_readTag_269 : decode cX9_readTag 269 = .ok (.iconst 2, 1) := by decide +kernel
theorem dX9_readTag_270 : decode cX9_readTag 270 = .ok (.aload_n 0, 1) := by decide +kernel
theorem dX9_readTag_271 : decode cX9_readTag 271 = .ok (.getfield 229, 3) := by decide +kernel
theorem dX9_readTag_274 : decode cX9_readTag 274 = .ok (.iload 6, 2) := by decide +kernel
theorem dX9_readTag_276 : decode cX9_readTag 276 = .ok (.iaload, 1) := by decide +kernel
theorem dX9_readTag_277 : decode cX9_readTag 277 = .ok (.invokevirtual 185, 3) := by decide +kernel
theorem dX9_readTag_280 : decode cX9_readTag 280 = .ok (.iinc 6 1, 3) := by decide +kernel
theorem dX9_readTag_283 : decode cX9_readTag 283 = .ok (.goto (-24), 3) := by decide +kernel
theorem dX9_readTag_286 : decode cX9_readTag 286 = .ok (.aload_n 0, 1) := by decide +kernel
theorem dX9_readTag_287 : decode cX9_readTag 287 = .ok (.iload_n 1, 1) := by decide +kernel
theorem dX9_readTag_288 : decode cX9_readTag 288 = .ok (.iload 5, 2) := by decide +kernel
theorem dX9_readTag_290 : decode cX9_readTag 290 = .ok (.invokevirtual 232, 3) := by decide +kernel
theorem dX9_readTag_293 : decode cX9_readTag 293 = .ok (.iload_n 3, 1) := by decide +kernel
theorem dX9_readTag_294 : decode cX9_readTag 294 = .ok (.iconst 1, 1) := by decide +kernel
theorem dX9_readTag_295 : decode cX9_readTag 295 = .ok (.iadd, 1) := by decide +kernel
theorem dX9_readTag_296 : decode cX9_readTag 296 = .ok (.ireturn, 1) := by decide +kernel
theorem dX9_run_0 : decode cX9_run 0 = .ok (.iload_n 1, 1) := by decide +kernel
theorem dX9_run_1 : decode cX9_run 1 = .ok (.istore_n 3, 1) := by decide +kernel
theorem dX9_run_2 : decode cX9_run 2 = .ok (.iconst 1, 1) := by decide +kernel
theorem dX9_run_3 : decode cX9_run 3 = .ok (.istore 4, 2) := by decide +kernel
theorem dX9_run_5 : decode cX9_run 5 = .ok (.iconst 1, 1) := by decide +kernel
theorem dX9_run_6 : decode cX9_run 6 = .ok (.istore 5, 2) := by decide +kernel
theorem dX9_run_8 : decode cX9_run 8 = .ok (.iload 5, 2) := by decide +kernel
theorem dX9_run_10 : decode cX9_run 10 = .ok (.ifCond .eq 79, 3) := by decide +kernel
theorem dX9_run_13 : decode cX9_run 13 = .ok (.iload 4, 2) := by decide +kernel
theorem dX9_run_15 : decode cX9_run 15 = .ok (.ifCond .eq 19, 3) := by decide +kernel
theorem dX9_run_18 : decode cX9_run 18 = .ok (.aload_n 0, 1) := by decide +kernel
theorem dX9_run_19 : decode cX9_run 19 = .ok (.getfield 142, 3) := by decide +kernel
theorem dX9_run_22 : decode cX9_run 22 = .ok (.iload_n 3, 1) := by decide +kernel
theorem dX9_run_23 : decode cX9_run 23 = .ok (.baload, 1) := by decide +kernel
theorem dX9_run_24 : decode cX9_run 24 = .ok (.invokestatic 192, 3) := by decide +kernel
theorem dX9_run_27 : decode cX9_run 27 = .ok (.ifCond .eq 7, 3) := by decide +kernel
theorem dX9_run_30 : decode cX9_run 30 = .ok (.iconst 1, 1) := by decide +kernel
theorem dX9_run_31 : decode cX9_run 31 = .ok (.goto 4, 3) := by decide +kernel
theorem dX9_run_34 : decode cX9_run 34 = .ok (.iconst 0, 1) := by decide +kernel
theorem dX9_run_35 : decode cX9_run 35 = .ok (.istore 4, 2) := by decide +kernel
theorem dX9_run_37 : decode cX9_run 37 = .ok (.iinc 3 1, 3) := by decide +kernel
theorem dX9_run_40 : decode cX9_run 40 = .ok (.iload_n 3, 1) := by decide +kernel
theorem dX9_run_41 : decode cX9_run 41 = .ok (.aload_n 0, 1) := by decide +kernel
theorem dX9_run_42 : decode cX9_run 42 = .ok (.getfield 139, 3) := by decide +kernel
theorem dX9_run_45 : decode cX9_run 45 = .ok (.if_icmp .ge 38, 3) := by decide +kernel
theorem dX9_run_48 : decode cX9_run 48 = .ok (.iload_n 2, 1) := by decide +kernel
theorem dX9_run_49 : decode cX9_run 49 = .ok (.ifCond .eq 14, 3) := by decide +kernel
theorem dX9_run_52 : decode cX9_run 52 = .ok (.aload_n 0, 1) := by decide +kernel
theorem dX9_run_53 : decode cX9_run 53 = .ok (.iload_n 3, 1) := by decide +kernel
theorem dX9_run_54 : decode cX9_run 54 = .ok (.invokevirtual 162, 3) := by decide +kernel
theorem dX9_run_57 : decode cX9_run 57 = .ok (.ifCond .ne 26, 3) := by decide +kernel
theorem dX9_run_60 : decode cX9_run 60 = .ok (.goto 19, 3) := by decide +kernel
theorem dX9_run_63 : decode cX9_run 63 = .ok (.aload_n 0, 1) := by decide +kernel
theorem dX9_run_64 : decode cX9_run 64 = .ok (.iload_n 3, 1) := by decide +kernel
theorem dX9_run_65 : decode cX9_run 65 = .ok (.invokevirtual 169, 3) := by decide +kernel
theorem dX9_run_68 : decode cX9_run 68 = .ok (.ifCond .ne 15, 3) := by decide +kernel
theorem dX9_run_71 : decode cX9_run 71 = .ok (.aload_n 0, 1) := by decide +kernel
theorem dX9_run_72 : decode cX9_run 72 = .ok (.iload_n 3, 1) := by decide +kernel
theorem dX9_run_73 : decode cX9_run 73 = .ok (.invokevirtual 175, 3) := by decide +kernel
theorem dX9_run_76 : decode cX9_run 76 = .ok (.ifCond .ne 7, 3) := by decide +kernel
theorem dX9_run_79 : decode cX9_run 79 = .ok (.iconst 1, 1) := by decide +kernel
theorem dX9_run_80 : decode cX9_run 80 = .ok (.goto 4, 3) := by decide +kernel
theorem dX9_run_83 : decode cX9_run 83 = .ok (.iconst 0, 1) := by decide +kernel
theorem dX9_run_84 : decode cX9_run 84 = .ok (.istore 5, 2) := by decide +kernel
theorem dX9_run_86 : decode cX9_run 86 = .ok (.goto (-78), 3) := by decide +kernel
theorem dX9_run_89 : decode cX9_run 89 = .ok (.aload_n 0, 1) := by decide +kernel
theorem dX9_run_90 : decode cX9_run 90 = .ok (.getfield 156, 3) := by decide +kernel
theorem dX9_run_93 : decode cX9_run 93 = .ok (.aload_n 0, 1) := by decide +kernel
theorem dX9_run_94 : decode cX9_run 94 = .ok (.getfield 159, 3) := by decide +kernel
theorem dX9_run_97 : decode cX9_run 97 = .ok (.iconst 1, 1) := by decide +kernel
theorem dX9_run_98 : decode cX9_run 98 = .ok (.isub, 1) := by decide +kernel
theorem dX9_run_99 : decode cX9_run 99 = .ok (.iaload, 1) := by decide +kernel
theorem dX9_run_100 : decode cX9_run 100 = .ok (.istore 6, 2) := by decide +kernel
theorem dX9_run_102 : decode cX9_run 102 = .ok (.aload_n 0, 1) := by decide +kernel
theorem dX9_run_103 : decode cX9_run 103 = .ok (.getfield 105, 3) := by decide +kernel
theorem dX9_run_106 : decode cX9_run 106 = .ok (.iload 6, 2) := by decide +kernel
theorem dX9_run_108 : decode cX9_run 108 = .ok (.iaload, 1) := by decide +kernel
theorem dX9_run_109 : decode cX9_run 109 = .ok (.istore 7, 2) := by decide +kernel
theorem dX9_run_111 : decode cX9_run 111 = .ok (.iload 7, 2) := by decide +kernel
theorem dX9_run_113 : decode cX9_run 113 = .ok (.iconst (-1), 1) := by decide +kernel
theorem dX9_run_114 : decode cX9_run 114 = .ok (.if_icmp .eq 19, 3) := by decide +kernel
theorem dX9_run_117 : decode cX9_run 117 = .ok (.aload_n 0, 1) := by decide +kernel
theorem dX9_run_118 : decode cX9_run 118 = .ok (.getfield 86, 3) := by decide +kernel
theorem dX9_run_121 : decode cX9_run 121 = .ok (.iload 7, 2) := by decide +kernel
theorem dX9_run_123 : decode cX9_run 123 = .ok (.iaload, 1) := by decide +kernel
theorem dX9_run_124 : decode cX9_run 124 = .ok (.bipush 17, 2) := by decide +kernel
theorem dX9_run_126 : decode cX9_run 126 = .ok (.if_icmp .ne 7, 3) := by decide +kernel
theorem dX9_run_129 : decode cX9_run 129 = .ok (.iconst 1, 1) := by decide +kernel
theorem dX9_run_130 : decode cX9_run 130 = .ok (.goto 4, 3) := by decide +kernel
theorem dX9_run_133 : decode cX9_run 133 = .ok (.iconst 0, 1) := by decide +kernel
theorem dX9_run_134 : decode cX9_run 134 = .ok (.istore 8, 2) := by decide +kernel
theorem dX9_run_136 : decode cX9_run 136 = .ok (.iload 4, 2) := by decide +kernel
theorem dX9_run_138 : decode cX9_run 138 = .ok (.ifCond .eq 10, 3) := by decide +kernel
theorem dX9_run_141 : decode cX9_run 141 = .ok (.iload 8, 2) := by decide +kernel
theorem dX9_run_143 : decode cX9_run 143 = .ok (.ifCond .ne 5, 3) := by decide +kernel
theorem dX9_run_146 : decode cX9_run 146 = .ok (.iload_n 3, 1) := by decide +kernel
theorem dX9_run_147 : decode cX9_run 147 = .ok (.ireturn, 1) := by decide +kernel
theorem dX9_run_148 : decode cX9_run 148 = .ok (.iload 8, 2) := by decide +kernel
theorem dX9_run_150 : decode cX9_run 150 = .ok (.ifCond .ne 35, 3) := by decide +kernel
theorem dX9_run_153 : decode cX9_run 153 = .ok (.aload_n 0, 1) := by decide +kernel
theorem dX9_run_154 : decode cX9_run 154 = .ok (.iload 6, 2) := by decide +kernel
theorem dX9_run_156 : decode cX9_run 156 = .ok (.invokevirtual 82, 3) := by decide +kernel
theorem dX9_run_159 : decode cX9_run 159 = .ok (.istore 7, 2) := by decide +kernel
theorem dX9_run_161 : decode cX9_run 161 = .ok (.iload 7, 2) := by decide +kernel
theorem dX9_run_163 : decode cX9_run 163 = .ok (.iconst (-1), 1) := by decide +kernel
theorem dX9_run_164 : decode cX9_run 164 = .ok (.if_icmp .ne 12, 3) := by decide +kernel
theorem dX9_run_167 : decode cX9_run 167 = .ok (.aload_n 0, 1) := by decide +kernel
theorem dX9_run_168 : decode cX9_run 168 = .ok (.bipush 6, 2) := by decide +kernel
theorem dX9_run_170 : decode cX9_run 170 = .ok (.iload_n 1, 1) := by decide +kernel
theorem dX9_run_171 : decode cX9_run 171 = .ok (.invokevirtual 185, 3) := by decide +kernel
theorem dX9_run_174 : decode cX9_run 174 = .ok (.iload_n 3, 1) := by decide +kernel
theorem dX9_run_175 : decode cX9_run 175 = .ok (.ireturn, 1) := by decide +kernel
theorem dX9_run_176 : decode cX9_run 176 = .ok (.aload_n 0, 1) := by decide +kernel
theorem dX9_run_177 : decode cX9_run 177 = .ok (.getfield 86, 3) := by decide +kernel
theorem dX9_run_180 : decode cX9_run 180 = .ok (.iload 7, 2) := by decide +kernel
theorem dX9_run_182 : decode cX9_run 182 = .ok (.bipush 17, 2) := by decide +kernel
theorem dX9_run_184 : decode cX9_run 184 = .ok (.iastore, 1) := by decide +kernel
theorem dX9_run_185 : decode cX9_run 185 = .ok (.iload_n 1, 1) := by decide +kernel
theorem dX9_run_186 : decode cX9_run 186 = .ok (.istore 9, 2) := by decide +kernel
theorem dX9_run_188 : decode cX9_run 188 = .ok (.iload 9, 2) := by decide +kernel
theorem dX9_run_190 : decode cX9_run 190 = .ok (.iload_n 3, 1) := by decide +kernel
theorem dX9_run_191 : decode cX9_run 191 = .ok (.if_icmp .ge 122, 3) := by decide +kernel
theorem dX9_run_194 : decode cX9_run 194 = .ok (.aload_n 0, 1) := by decide +kernel
theorem dX9_run_195 : decode cX9_run 195 = .ok (.iconst 1, 1) := by decide +kernel
theorem dX9_run_196 : decode cX9_run 196 = .ok (.putfield 189, 3) := by decide +kernel
theorem dX9_run_199 : decode cX9_run 199 = .ok (.iload_n 2, 1) := by decide +kernel
theorem dX9_run_200 : decode cX9_run 200 = .ok (.ifCond .eq 13, 3) := by decide +kernel
theorem dX9_run_203 : decode cX9_run 203 = .ok (.aload_n 0, 1) := by decide +kernel
theorem dX9_run_204 : decode cX9_run 204 = .ok (.getfield 142, 3) := by decide +kernel
theorem dX9_run_207 : decode cX9_run 207 = .ok (.iload 9, 2) := by decide +kernel
theorem dX9_run_209 : decode cX9_run 209 = .ok (.baload, 1) := by decide +kernel
theorem dX9_run_210 : decode cX9_run 210 = .ok (.goto 14, 3) := by decide +kernel
theorem dX9_run_213 : decode cX9_run 213 = .ok (.aload_n 0, 1) := by decide +kernel
theorem dX9_run_214 : decode cX9_run 214 = .ok (.aload_n 0, 1) := by decide +kernel
theorem dX9_run_215 : decode cX9_run 215 = .ok (.getfield 142, 3) := by decide +kernel
theorem dX9_run_218 : decode cX9_run 218 = .ok (.iload 9, 2) := by decide +kernel
theorem dX9_run_220 : decode cX9_run 220 = .ok (.iload_n 3, 1) := by decide +kernel
theorem dX9_run_221 : decode cX9_run 221 = .ok (.invokevirtual 195, 3) := by decide +kernel
theorem dX9_run_224 : decode cX9_run 224 = .ok (.istore 10, 2) := by decide +kernel
theorem dX9_run_226 : decode cX9_run 226 = .ok (.aload_n 0, 1) := by decide +kernel
theorem dX9_run_227 : decode cX9_run 227 = .ok (.getfield 117, 3) := by decide +kernel
theorem dX9_run_230 : decode cX9_run 230 = .ok (.iload 7, 2) := by decide +kernel
theorem dX9_run_232 : decode cX9_run 232 = .ok (.iaload, 1) := by decide +kernel
theorem dX9_run_233 : decode cX9_run 233 = .ok (.sipush 400, 3) := by decide +kernel
theorem dX9_run_236 : decode cX9_run 236 = .ok (.if_icmp .ge 39, 3) := by decide +kernel
theorem dX9_run_239 : decode cX9_run 239 = .ok (.aload_n 0, 1) := by decide +kernel
theorem dX9_run_240 : decode cX9_run 240 = .ok (.getfield 199, 3) := by decide +kernel
theorem dX9_run_243 : decode cX9_run 243 = .ok (.sipush 400, 3) := by decide +kernel
theorem dX9_run_246 : decode cX9_run 246 = .ok (.iload 7, 2) := by decide +kernel
theorem dX9_run_248 : decode cX9_run 248 = .ok (.imul, 1) := by decide +kernel
theorem dX9_run_249 : decode cX9_run 249 = .ok (.aload_n 0, 1) := by decide +kernel
theorem dX9_run_250 : decode cX9_run 250 = .ok (.getfield 117, 3) := by decide +kernel
theorem dX9_run_253 : decode cX9_run 253 = .ok (.iload 7, 2) := by decide +kernel
theorem dX9_run_255 : decode cX9_run 255 = .ok (.iaload, 1) := by decide +kernel
theorem dX9_run_256 : decode cX9_run 256 = .ok (.iadd, 1) := by decide +kernel
theorem dX9_run_257 : decode cX9_run 257 = .ok (.iload 10, 2) := by decide +kernel
theorem dX9_run_259 : decode cX9_run 259 = .ok (.i2b, 1) := by decide +kernel
theorem dX9_run_260 : decode cX9_run 260 = .ok (.bastore, 1) := by decide +kernel
theorem dX9_run_261 : decode cX9_run 261 = .ok (.aload_n 0, 1) := by decide +kernel
theorem dX9_run_262 : decode cX9_run 262 = .ok (.getfield 117, 3) := by decide +kernel
theorem dX9_run_265 : decode cX9_run 265 = .ok (.iload 7, 2) := by decide +kernel
theorem dX9_run_267 : decode cX9_run 267 = .ok (.dup2, 1) := by decide +kernel
theorem dX9_run_268 : decode cX9_run 268 = .ok (.iaload, 1) := by decide +kernel
theorem dX9_run_269 : decode cX9_run 269 = .ok (.iconst 1, 1) := by decide +kernel
theorem dX9_run_270 : decode cX9_run 270 = .ok (.iadd, 1) := by decide +kernel
theorem dX9_run_271 : decode cX9_run 271 = .ok (.iastore, 1) := by decide +kernel
theorem dX9_run_272 : decode cX9_run 272 = .ok (.goto 29, 3) := by decide +kernel
theorem dX9_run_275 : decode cX9_run 275 = .ok (.aload_n 0, 1) := by decide +kernel
theorem dX9_run_276 : decode cX9_run 276 = .ok (.getfield 120, 3) := by decide +kernel
theorem dX9_run_279 : decode cX9_run 279 = .ok (.iload 7, 2) := by decide +kernel
theorem dX9_run_281 : decode cX9_run 281 = .ok (.baload, 1) := by decide +kernel
theorem dX9_run_282 : decode cX9_run 282 = .ok (.ifCond .ne 19, 3) := by decide +kernel
theorem dX9_run_285 : decode cX9_run 285 = .ok (.aload_n 0, 1) := by decide +kernel
theorem dX9_run_286 : decode cX9_run 286 = .ok (.getfield 120, 3) := by decide +kernel
theorem dX9_run_289 : decode cX9_run 289 = .ok (.iload 7, 2) := by decide +kernel
theorem dX9_run_291 : decode cX9_run 291 = .ok (.iconst 1, 1) := by decide +kernel
theorem dX9_run_292 : decode cX9_run 292 = .ok (.bastore, 1) := by decide +kernel
theorem dX9_run_293 : decode cX9_run 293 = .ok (.aload_n 0, 1) := by decide +kernel
theorem dX9_run_294 : decode cX9_run 294 = .ok (.bipush 7, 2) := by decide +kernel
theorem dX9_run_296 : decode cX9_run 296 = .ok (.iload 9, 2) := by decide +kernel
theorem dX9_run_298 : decode cX9_run 298 = .ok (.invokevirtual 185, 3) := by decide +kernel
theorem dX9_run_301 : decode cX9_run 301 = .ok (.iload 9, 2) := by decide +kernel
theorem dX9_run_303 : decode cX9_run 303 = .ok (.aload_n 0, 1) := by decide +kernel
theorem dX9_run_304 : decode cX9_run 304 = .ok (.getfield 189, 3) := by decide +kernel
theorem dX9_run_307 : decode cX9_run 307 = .ok (.iadd, 1) := by decide +kernel
theorem dX9_run_308 : decode cX9_run 308 = .ok (.istore 9, 2) := by decide +kernel
theorem dX9_run_310 : decode cX9_run 310 = .ok (.goto (-122), 3) := by decide +kernel
theorem dX9_run_313 : decode cX9_run 313 = .ok (.iload_n 3, 1) := by decide +kernel
theorem dX9_run_314 : decode cX9_run 314 = .ok (.ireturn, 1) := by decide +kernel
theorem dX9_readPage_0 : decode cX9_readPage 0 = .ok (.aload_n 0, 1) := by decide +kernel
theorem dX9_readPage_1 : decode cX9_readPage 1 = .ok (.iconst 0, 1) := by decide +kernel
theorem dX9_readPage_2 : decode cX9_readPage 2 = .ok (.putfield 130, 3) := by decide +kernel
theorem dX9_readPage_5 : decode cX9_readPage 5 = .ok (.aload_n 0, 1) := by decide +kernel
theorem dX9_readPage_6 : decode cX9_readPage 6 = .ok (.invokevirtual 152, 3) := by decide +kernel
theorem dX9_readPage_9 : decode cX9_readPage 9 = .ok (.aload_n 0, 1) := by decide +kernel
theorem dX9_readPage_10 : decode cX9_readPage 10 = .ok (.getfield 156, 3) := by decide +kernel
theorem dX9_readPage_13 : decode cX9_readPage 13 = .ok (.iconst 0, 1) := by decide +kernel
theorem dX9_readPage_14 : decode cX9_readPage 14 = .ok (.iconst 0, 1) := by decide +kernel
theorem dX9_readPage_15 : decode cX9_readPage 15 = .ok (.iastore, 1) := by decide +kernel
theorem dX9_readPage_16 : decode cX9_readPage 16 = .ok (.aload_n 0, 1) := by decide +kernel
theorem dX9_readPage_17 : decode cX9_readPage 17 = .ok (.iconst 1, 1) := by decide +kernel
theorem dX9_readPage_18 : decode cX9_readPage 18 = .ok (.putfield 159, 3) := by decide +kernel
theorem dX9_readPage_21 : decode cX9_readPage 21 = .ok (.iconst 0, 1) := by decide +kernel
theorem dX9_readPage_22 : decode cX9_readPage 22 = .ok (.istore_n 1, 1) := by decide +kernel
theorem dX9_readPage_23 : decode cX9_readPage 23 = .ok (.iload_n 1, 1) := by decide +kernel
theorem dX9_readPage_24 : decode cX9_readPage 24 = .ok (.aload_n 0, 1) := by decide +kernel
theorem dX9_readPage_25 : decode cX9_readPage 25 = .ok (.getfield 139, 3) := by decide +kernel
theorem dX9_readPage_28 : decode cX9_readPage 28 = .ok (.if_icmp .ge 86, 3) := by decide +kernel
theorem dX9_readPage_31 : decode cX9_readPage 31 = .ok (.aload_n 0, 1) := by decide +kernel
theorem dX9_readPage_32 : decode cX9_readPage 32 = .ok (.getfield 86, 3) := by decide +kernel
theorem dX9_readPage_35 : decode cX9_readPage 35 = .ok (.aload_n 0, 1) := by decide +kernel
theorem dX9_readPage_36 : decode cX9_readPage 36 = .ok (.getfield 156, 3) := by decide +kernel
theorem dX9_readPage_39 : decode cX9_readPage 39 = .ok (.aload_n 0, 1) := by decide +kernel
theorem dX9_readPage_40 : decode cX9_readPage 40 = .ok (.getfield 159, 3) := by decide +kernel
theorem dX9_readPage_43 : decode cX9_readPage 43 = .ok (.iconst 1, 1) := by decide +kernel
theorem dX9_readPage_44 : decode cX9_readPage 44 = .ok (.isub, 1) := by decide +kernel
theorem dX9_readPage_45 : decode cX9_readPage 45 = .ok (.iaload, 1) := by decide +kernel
theorem dX9_readPage_46 : decode cX9_readPage 46 = .ok (.iaload, 1) := by decide +kernel
theorem dX9_readPage_47 : decode cX9_readPage 47 = .ok (.bipush 15, 2) := by decide +kernel
theorem dX9_readPage_49 : decode cX9_readPage 49 = .ok (.if_icmp .ne 21, 3) := by decide +kernel
theorem dX9_readPage_52 : decode cX9_readPage 52 = .ok (.aload_n 0, 1) := by decide +kernel
theorem dX9_readPage_53 : decode cX9_readPage 53 = .ok (.iload_n 1, 1) := by decide +kernel
theorem dX9_readPage_54 : decode cX9_readPage 54 = .ok (.invokevirtual 162, 3) := by decide +kernel
theorem dX9_readPage_57 : decode cX9_readPage 57 = .ok (.ifCond .ne 13, 3) := by decide +kernel
theorem dX9_readPage_60 : decode cX9_readPage 60 = .ok (.aload_n 0, 1) := by decide +kernel
theorem dX9_readPage_61 : decode cX9_readPage 61 = .ok (.iload_n 1, 1) := by decide +kernel
theorem dX9_readPage_62 : decode cX9_readPage 62 = .ok (.iconst 1, 1) := by decide +kernel
theorem dX9_readPage_63 : decode cX9_readPage 63 = .ok (.invokevirtual 165, 3) := by decide +kernel
theorem dX9_readPage_66 : decode cX9_readPage 66 = .ok (.istore_n 1, 1) := by decide +kernel
theorem dX9_readPage_67 : decode cX9_readPage 67 = .ok (.goto (-44), 3) := by decide +kernel
theorem dX9_readPage_70 : decode cX9_readPage 70 = .ok (.aload_n 0, 1) := by decide +kernel
theorem dX9_readPage_71 : decode cX9_readPage 71 = .ok (.iload_n 1, 1) := by decide +kernel
theorem dX9_readPage_72 : decode cX9_readPage 72 = .ok (.invokevirtual 169, 3) := by decide +kernel
theorem dX9_readPage_75 : decode cX9_readPage 75 = .ok (.ifCond .eq 12, 3) := by decide +kernel
theorem dX9_readPage_78 : decode cX9_readPage 78 = .ok (.aload_n 0, 1) := by decide +kernel
theorem dX9_readPage_79 : decode cX9_readPage 79 = .ok (.iload_n 1, 1) := by decide +kernel
theorem dX9_readPage_80 : decode cX9_readPage 80 = .ok (.invokevirtual 172, 3) := by decide +kernel
theorem dX9_readPage_83 : decode cX9_readPage 83 = .ok (.istore_n 1, 1) := by decide +kernel
theorem dX9_readPage_84 : decode cX9_readPage 84 = .ok (.goto (-61), 3) := by decide +kernel
theorem dX9_readPage_87 : decode cX9_readPage 87 = .ok (.aload_n 0, 1) := by decide +kernel
theorem dX9_readPage_88 : decode cX9_readPage 88 = .ok (.iload_n 1, 1) := by decide +kernel
theorem dX9_readPage_89 : decode cX9_readPage 89 = .ok (.invokevirtual 175, 3) := by decide +kernel
theorem dX9_readPage_92 : decode cX9_readPage 92 = .ok (.ifCond .eq 12, 3) := by decide +kernel
theorem dX9_readPage_95 : decode cX9_readPage 95 = .ok (.aload_n 0, 1) := by decide +kernel
theorem dX9_readPage_96 : decode cX9_readPage 96 = .ok (.iload_n 1, 1) := by decide +kernel
theorem dX9_readPage_97 : decode cX9_readPage 97 = .ok (.invokevirtual 178, 3) := by decide +kernel
theorem dX9_readPage_100 : decode cX9_readPage 100 = .ok (.istore_n 1, 1) := by decide +kernel
theorem dX9_readPage_101 : decode cX9_readPage 101 = .ok (.goto (-78), 3) := by decide +kernel
theorem dX9_readPage_104 : decode cX9_readPage 104 = .ok (.aload_n 0, 1) := by decide +kernel
theorem dX9_readPage_105 : decode cX9_readPage 105 = .ok (.iload_n 1, 1) := by decide +kernel
theorem dX9_readPage_106 : decode cX9_readPage 106 = .ok (.iconst 0, 1) := by decide +kernel
theorem dX9_readPage_107 : decode cX9_readPage 107 = .ok (.invokevirtual 165, 3) := by decide +kernel
theorem dX9_readPage_110 : decode cX9_readPage 110 = .ok (.istore_n 1, 1) := by decide +kernel
theorem dX9_readPage_111 : decode cX9_readPage 111 = .ok (.goto (-88), 3) := by decide +kernel
theorem dX9_readPage_114 : decode cX9_readPage 114 = .ok (.aload_n 0, 1) := by decide +kernel
theorem dX9_readPage_115 : decode cX9_readPage 115 = .ok (.iconst 1, 1) := by decide +kernel
theorem dX9_readPage_116 : decode cX9_readPage 116 = .ok (.iconst (-1), 1) := by decide +kernel
theorem dX9_readPage_117 : decode cX9_readPage 117 = .ok (.iconst (-1), 1) := by decide +kernel
theorem dX9_readPage_118 : decode cX9_readPage 118 = .ok (.invokevirtual 181, 3) := by decide +kernel
theorem dX9_readPage_121 : decode cX9_readPage 121 = .ok (.return_, 1) := by decide +kernel
theorem dX9_sayEscaped_0 : decode cX9_sayEscaped 0 = .ok (.iconst 0, 1) := by decide +kernel
theorem dX9_sayEscaped_1 : decode cX9_sayEscaped 1 = .ok (.istore 5, 2) := by decide +kernel
theorem dX9_sayEscaped_3 : decode cX9_sayEscaped 3 = .ok (.iload 5, 2) := by decide +kernel
theorem dX9_sayEscaped_5 : decode cX9_sayEscaped 5 = .ok (.iload_n 3, 1) := by decide +kernel
theorem dX9_sayEscaped_6 : decode cX9_sayEscaped 6 = .ok (.if_icmp .ge 179, 3) := by decide +kernel
theorem dX9_sayEscaped_9 : decode cX9_sayEscaped 9 = .ok (.aload_n 1, 1) := by decide +kernel
theorem dX9_sayEscaped_10 : decode cX9_sayEscaped 10 = .ok (.iload_n 2, 1) := by decide +kernel
theorem dX9_sayEscaped_11 : decode cX9_sayEscaped 11 = .ok (.iload 5, 2) := by decide +kernel
theorem dX9_sayEscaped_13 : decode cX9_sayEscaped 13 = .ok (.iadd, 1) := by decide +kernel
theorem dX9_sayEscaped_14 : decode cX9_sayEscaped 14 = .ok (.baload, 1) := by decide +kernel
theorem dX9_sayEscaped_15 : decode cX9_sayEscaped 15 = .ok (.istore 6, 2) := by decide +kernel
theorem dX9_sayEscaped_17 : decode cX9_sayEscaped 17 = .ok (.iload 4, 2) := by decide +kernel
theorem dX9_sayEscaped_19 : decode cX9_sayEscaped 19 = .ok (.ifCond .ne 31, 3) := by decide +kernel
theorem dX9_sayEscaped_22 : decode cX9_sayEscaped 22 = .ok (.iload 6, 2) := by decide +kernel
theorem dX9_sayEscaped_24 : decode cX9_sayEscaped 24 = .ok (.bipush 60, 2) := by decide +kernel
theorem dX9_sayEscaped_26 : decode cX9_sayEscaped 26 = .ok (.if_icmp .eq 33, 3) := by decide +kernel
theorem dX9_sayEscaped_29 : decode cX9_sayEscaped 29 = .ok (.iload 6, 2) := by decide +kernel
theorem dX9_sayEscaped_31 : decode cX9_sayEscaped 31 = .ok (.bipush 62, 2) := by decide +kernel
theorem dX9_sayEscaped_33 : decode cX9_sayEscaped 33 = .ok (.if_icmp .eq 26, 3) := by decide +kernel
theorem dX9_sayEscaped_36 : decode cX9_sayEscaped 36 = .ok (.iload 6, 2) := by decide +kernel
theorem dX9_sayEscaped_38 : decode cX9_sayEscaped 38 = .ok (.bipush 38, 2) := by decide +kernel
theorem dX9_sayEscaped_40 : decode cX9_sayEscaped 40 = .ok (.if_icmp .eq 19, 3) := by decide +kernel
theorem dX9_sayEscaped_43 : decode cX9_sayEscaped 43 = .ok (.iload 6, 2) := by decide +kernel
theorem dX9_sayEscaped_45 : decode cX9_sayEscaped 45 = .ok (.bipush 34, 2) := by decide +kernel
theorem dX9_sayEscaped_47 : decode cX9_sayEscaped 47 = .ok (.if_icmp .eq 12, 3) := by decide +kernel
theorem dX9_sayEscaped_50 : decode cX9_sayEscaped 50 = .ok (.aload_n 0, 1) := by decide +kernel
theorem dX9_sayEscaped_51 : decode cX9_sayEscaped 51 = .ok (.iload 6, 2) := by decide +kernel
theorem dX9_sayEscaped_53 : decode cX9_sayEscaped 53 = .ok (.invokevirtual 11, 3) := by decide +kernel
theorem dX9_sayEscaped_56 : decode cX9_sayEscaped 56 = .ok (.goto 123, 3) := by decide +kernel
theorem dX9_sayEscaped_59 : decode cX9_sayEscaped 59 = .ok (.aload_n 0, 1) := by decide +kernel
theorem dX9_sayEscaped_60 : decode cX9_sayEscaped 60 = .ok (.bipush 38, 2) := by decide +kernel
theorem dX9_sayEscaped_62 : decode cX9_sayEscaped 62 = .ok (.invokevirtual 11, 3) := by decide +kernel
theorem dX9_sayEscaped_65 : decode cX9_sayEscaped 65 = .ok (.iload 6, 2) := by decide +kernel
theorem dX9_sayEscaped_67 : decode cX9_sayEscaped 67 = .ok (.bipush 38, 2) := by decide +kernel
theorem dX9_sayEscaped_69 : decode cX9_sayEscaped 69 = .ok (.if_icmp .eq 10, 3) := by decide +kernel
theorem dX9_sayEscaped_72 : decode cX9_sayEscaped 72 = .ok (.iload 6, 2) := by decide +kernel
theorem dX9_sayEscaped_74 : decode cX9_sayEscaped 74 = .ok (.bipush 34, 2) := by decide +kernel
theorem dX9_sayEscaped_76 : decode cX9_sayEscaped 76 = .ok (.if_icmp .ne 73, 3) := by decide +kernel
theorem dX9_sayEscaped_79 : decode cX9_sayEscaped 79 = .ok (.aload_n 0, 1) := by decide +kernel
theorem dX9_sayEscaped_80 : decode cX9_sayEscaped 80 = .ok (.iload 6, 2) := by decide +kernel
theorem dX9_sayEscaped_82 : decode cX9_sayEscaped 82 = .ok (.bipush 38, 2) := by decide +kernel
theorem dX9_sayEscaped_84 : decode cX9_sayEscaped 84 = .ok (.if_icmp .ne 8, 3) := by decide +kernel
theorem dX9_sayEscaped_87 : decode cX9_sayEscaped 87 = .ok (.bipush 97, 2) := by decide +kernel
theorem dX9_sayEscaped_89 : decode cX9_sayEscaped 89 = .ok (.goto 5, 3) := by decide +kernel
theorem dX9_sayEscaped_92 : decode cX9_sayEscaped 92 = .ok (.bipush 113, 2) := by decide +kernel
theorem dX9_sayEscaped_94 : decode cX9_sayEscaped 94 = .ok (.invokevirtual 11, 3) := by decide +kernel
theorem dX9_sayEscaped_97 : decode cX9_sayEscaped 97 = .ok (.aload_n 0, 1) := by decide +kernel
theorem dX9_sayEscaped_98 : decode cX9_sayEscaped 98 = .ok (.iload 6, 2) := by decide +kernel
theorem dX9_sayEscaped_100 : decode cX9_sayEscaped 100 = .ok (.bipush 38, 2) := by decide +kernel
theorem dX9_sayEscaped_102 : decode cX9_sayEscaped 102 = .ok (.if_icmp .ne 8, 3) := by decide +kernel
theorem dX9_sayEscaped_105 : decode cX9_sayEscaped 105 = .ok (.bipush 109, 2) := by decide +kernel
theorem dX9_sayEscaped_107 : decode cX9_sayEscaped 107 = .ok (.goto 5, 3) := by decide +kernel
theorem dX9_sayEscaped_110 : decode cX9_sayEscaped 110 = .ok (.bipush 117, 2) := by decide +kernel
theorem dX9_sayEscaped_112 : decode cX9_sayEscaped 112 = .ok (.invokevirtual 11, 3) := by decide +kernel
theorem dX9_sayEscaped_115 : decode cX9_sayEscaped 115 = .ok (.aload_n 0, 1) := by decide +kernel
theorem dX9_sayEscaped_116 : decode cX9_sayEscaped 116 = .ok (.iload 6, 2) := by decide +kernel
theorem dX9_sayEscaped_118 : decode cX9_sayEscaped 118 = .ok (.bipush 38, 2) := by decide +kernel
theorem dX9_sayEscaped_120 : decode cX9_sayEscaped 120 = .ok (.if_icmp .ne 8, 3) := by decide +kernel
theorem dX9_sayEscaped_123 : decode cX9_sayEscaped 123 = .ok (.bipush 112, 2) := by decide +kernel
theorem dX9_sayEscaped_125 : decode cX9_sayEscaped 125 = .ok (.goto 5, 3) := by decide +kernel
theorem dX9_sayEscaped_128 : decode cX9_sayEscaped 128 = .ok (.bipush 111, 2) := by decide +kernel
theorem dX9_sayEscaped_130 : decode cX9_sayEscaped 130 = .ok (.invokevirtual 11, 3) := by decide +kernel
theorem dX9_sayEscaped_133 : decode cX9_sayEscaped 133 = .ok (.iload 6, 2) := by decide +kernel
theorem dX9_sayEscaped_135 : decode cX9_sayEscaped 135 = .ok (.bipush 34, 2) := by decide +kernel
theorem dX9_sayEscaped_137 : decode cX9_sayEscaped 137 = .ok (.if_icmp .ne 36, 3) := by decide +kernel
theorem dX9_sayEscaped_140 : decode cX9_sayEscaped 140 = .ok (.aload_n 0, 1) := by decide +kernel
theorem dX9_sayEscaped_141 : decode cX9_sayEscaped 141 = .ok (.bipush 116, 2) := by decide +kernel
theorem dX9_sayEscaped_143 : decode cX9_sayEscaped 143 = .ok (.invokevirtual 11, 3) := by decide +kernel
theorem dX9_sayEscaped_146 : decode cX9_sayEscaped 146 = .ok (.goto 27, 3) := by decide +kernel
theorem dX9_sayEscaped_149 : decode cX9_sayEscaped 149 = .ok (.aload_n 0, 1) := by decide +kernel
theorem dX9_sayEscaped_150 : decode cX9_sayEscaped 150 = .ok (.iload 6, 2) := by decide +kernel
theorem dX9_sayEscaped_152 : decode cX9_sayEscaped 152 = .ok (.bipush 60, 2) := by decide +kernel
theorem dX9_sayEscaped_154 : decode cX9_sayEscaped 154 = .ok (.if_icmp .ne 8, 3) := by decide +kernel
theorem dX9_sayEscaped_157 : decode cX9_sayEscaped 157 = .ok (.bipush 108, 2) := by decide +kernel
theorem dX9_sayEscaped_159 : decode cX9_sayEscaped 159 = .ok (.goto 5, 3) := by decide +kernel
theorem dX9_sayEscaped_162 : decode cX9_sayEscaped 162 = .ok (.bipush 103, 2) := by decide +kernel
theorem dX9_sayEscaped_164 : decode cX9_sayEscaped 164 = .ok (.invokevirtual 11, 3) := by decide +kernel
theorem dX9_sayEscaped_167 : decode cX9_sayEscaped 167 = .ok (.aload_n 0, 1) := by decide +kernel
theorem dX9_sayEscaped_168 : decode cX9_sayEscaped 168 = .ok (.bipush 116, 2) := by decide +kernel
theorem dX9_sayEscaped_170 : decode cX9_sayEscaped 170 = .ok (.invokevirtual 11, 3) := by decide +kernel
theorem dX9_sayEscaped_173 : decode cX9_sayEscaped 173 = .ok (.aload_n 0, 1) := by decide +kernel
theorem dX9_sayEscaped_174 : decode cX9_sayEscaped 174 = .ok (.bipush 59, 2) := by decide +kernel
theorem dX9_sayEscaped_176 : decode cX9_sayEscaped 176 = .ok (.invokevirtual 11, 3) := by decide +kernel
theorem dX9_sayEscaped_179 : decode cX9_sayEscaped 179 = .ok (.iinc 5 1, 3) := by decide +kernel
theorem dX9_sayEscaped_182 : decode cX9_sayEscaped 182 = .ok (.goto (-179), 3) := by decide +kernel
theorem dX9_sayEscaped_185 : decode cX9_sayEscaped 185 = .ok (.return_, 1) := by decide +kernel
