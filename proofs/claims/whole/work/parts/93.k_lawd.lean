/-! The law: decode rows. -/
theorem d_LW_law_0 : decode code 0 = .ok (.new 8, 3) := by decide +kernel
theorem d_LW_law_3 : decode code 3 = .ok (.dup, 1) := by decide +kernel
theorem d_LW_law_4 : decode code 4 = .ok (.invokespecial 44, 3) := by decide +kernel
theorem d_LW_law_7 : decode code 7 = .ok (.astore_n 1, 1) := by decide +kernel
theorem d_LW_law_8 : decode code 8 = .ok (.new 45, 3) := by decide +kernel
theorem d_LW_law_11 : decode code 11 = .ok (.dup, 1) := by decide +kernel
theorem d_LW_law_12 : decode code 12 = .ok (.invokespecial 47, 3) := by decide +kernel
theorem d_LW_law_15 : decode code 15 = .ok (.astore_n 2, 1) := by decide +kernel
theorem d_LW_law_16 : decode code 16 = .ok (.iconst (1), 1) := by decide +kernel
theorem d_LW_law_17 : decode code 17 = .ok (.newarray .long, 2) := by decide +kernel
theorem d_LW_law_19 : decode code 19 = .ok (.astore_n 3, 1) := by decide +kernel
theorem d_LW_law_20 : decode code 20 = .ok (.iconst (0), 1) := by decide +kernel
theorem d_LW_law_21 : decode code 21 = .ok (.istore 4, 2) := by decide +kernel
theorem d_LW_law_23 : decode code 23 = .ok (.iload 4, 2) := by decide +kernel
theorem d_LW_law_25 : decode code 25 = .ok (.aload_n 0, 1) := by decide +kernel
theorem d_LW_law_26 : decode code 26 = .ok (.arraylength, 1) := by decide +kernel
theorem d_LW_law_27 : decode code 27 = .ok (.iconst (4), 1) := by decide +kernel
theorem d_LW_law_28 : decode code 28 = .ok (.isub, 1) := by decide +kernel
theorem d_LW_law_29 : decode code 29 = .ok (.if_icmp .gt (729), 3) := by decide +kernel
theorem d_LW_law_32 : decode code 32 = .ok (.aload_n 0, 1) := by decide +kernel
theorem d_LW_law_33 : decode code 33 = .ok (.iload 4, 2) := by decide +kernel
theorem d_LW_law_35 : decode code 35 = .ok (.iaload, 1) := by decide +kernel
theorem d_LW_law_36 : decode code 36 = .ok (.bipush (15), 2) := by decide +kernel
theorem d_LW_law_38 : decode code 38 = .ok (.iand, 1) := by decide +kernel
theorem d_LW_law_39 : decode code 39 = .ok (.tableswitch (713) (0) (15) #[77, 133, 208, 245, 301, 369, 449, 517, 542, 567, 580, 593, 649, 662, 675, 700], 77) := by decide +kernel
theorem d_LW_law_116 : decode code 116 = .ok (.aload_n 1, 1) := by decide +kernel
theorem d_LW_law_117 : decode code 117 = .ok (.aload_n 0, 1) := by decide +kernel
theorem d_LW_law_118 : decode code 118 = .ok (.iload 4, 2) := by decide +kernel
theorem d_LW_law_120 : decode code 120 = .ok (.iconst (1), 1) := by decide +kernel
theorem d_LW_law_121 : decode code 121 = .ok (.iadd, 1) := by decide +kernel
theorem d_LW_law_122 : decode code 122 = .ok (.iaload, 1) := by decide +kernel
theorem d_LW_law_123 : decode code 123 = .ok (.aload_n 3, 1) := by decide +kernel
theorem d_LW_law_124 : decode code 124 = .ok (.invokestatic 48, 3) := by decide +kernel
theorem d_LW_law_127 : decode code 127 = .ok (.istore 5, 2) := by decide +kernel
theorem d_LW_law_129 : decode code 129 = .ok (.aload_n 2, 1) := by decide +kernel
theorem d_LW_law_130 : decode code 130 = .ok (.aload_n 0, 1) := by decide +kernel
theorem d_LW_law_131 : decode code 131 = .ok (.iload 4, 2) := by decide +kernel
theorem d_LW_law_133 : decode code 133 = .ok (.iconst (1), 1) := by decide +kernel
theorem d_LW_law_134 : decode code 134 = .ok (.iadd, 1) := by decide +kernel
theorem d_LW_law_135 : decode code 135 = .ok (.iaload, 1) := by decide +kernel
theorem d_LW_law_136 : decode code 136 = .ok (.invokevirtual 53, 3) := by decide +kernel
theorem d_LW_law_139 : decode code 139 = .ok (.istore 6, 2) := by decide +kernel
theorem d_LW_law_141 : decode code 141 = .ok (.aload_n 2, 1) := by decide +kernel
theorem d_LW_law_142 : decode code 142 = .ok (.invokevirtual 54, 3) := by decide +kernel
theorem d_LW_law_145 : decode code 145 = .ok (.iload 5, 2) := by decide +kernel
theorem d_LW_law_147 : decode code 147 = .ok (.if_icmp .eq (5), 3) := by decide +kernel
theorem d_LW_law_150 : decode code 150 = .ok (.iconst (0), 1) := by decide +kernel
theorem d_LW_law_151 : decode code 151 = .ok (.ireturn, 1) := by decide +kernel
theorem d_LW_law_152 : decode code 152 = .ok (.iload 5, 2) := by decide +kernel
theorem d_LW_law_154 : decode code 154 = .ok (.ifCond .ne (15), 3) := by decide +kernel
theorem d_LW_law_157 : decode code 157 = .ok (.aload_n 3, 1) := by decide +kernel
theorem d_LW_law_158 : decode code 158 = .ok (.iconst (0), 1) := by decide +kernel
theorem d_LW_law_159 : decode code 159 = .ok (.laload, 1) := by decide +kernel
theorem d_LW_law_160 : decode code 160 = .ok (.iload 6, 2) := by decide +kernel
theorem d_LW_law_162 : decode code 162 = .ok (.i2l, 1) := by decide +kernel
theorem d_LW_law_163 : decode code 163 = .ok (.lcmp, 1) := by decide +kernel
theorem d_LW_law_164 : decode code 164 = .ok (.ifCond .eq (5), 3) := by decide +kernel
theorem d_LW_law_167 : decode code 167 = .ok (.iconst (0), 1) := by decide +kernel
theorem d_LW_law_168 : decode code 168 = .ok (.ireturn, 1) := by decide +kernel
theorem d_LW_law_169 : decode code 169 = .ok (.goto (583), 3) := by decide +kernel
theorem d_LW_law_172 : decode code 172 = .ok (.aload_n 1, 1) := by decide +kernel
theorem d_LW_law_173 : decode code 173 = .ok (.aload_n 0, 1) := by decide +kernel
theorem d_LW_law_174 : decode code 174 = .ok (.iload 4, 2) := by decide +kernel
theorem d_LW_law_176 : decode code 176 = .ok (.iconst (1), 1) := by decide +kernel
theorem d_LW_law_177 : decode code 177 = .ok (.iadd, 1) := by decide +kernel
theorem d_LW_law_178 : decode code 178 = .ok (.iaload, 1) := by decide +kernel
theorem d_LW_law_179 : decode code 179 = .ok (.aload_n 0, 1) := by decide +kernel
theorem d_LW_law_180 : decode code 180 = .ok (.iload 4, 2) := by decide +kernel
theorem d_LW_law_182 : decode code 182 = .ok (.iconst (2), 1) := by decide +kernel
theorem d_LW_law_183 : decode code 183 = .ok (.iadd, 1) := by decide +kernel
theorem d_LW_law_184 : decode code 184 = .ok (.iaload, 1) := by decide +kernel
theorem d_LW_law_185 : decode code 185 = .ok (.aload_n 3, 1) := by decide +kernel
theorem d_LW_law_186 : decode code 186 = .ok (.invokestatic 58, 3) := by decide +kernel
theorem d_LW_law_189 : decode code 189 = .ok (.istore 5, 2) := by decide +kernel
theorem d_LW_law_191 : decode code 191 = .ok (.aload_n 2, 1) := by decide +kernel
theorem d_LW_law_192 : decode code 192 = .ok (.aload_n 0, 1) := by decide +kernel
theorem d_LW_law_193 : decode code 193 = .ok (.iload 4, 2) := by decide +kernel
theorem d_LW_law_195 : decode code 195 = .ok (.iconst (1), 1) := by decide +kernel
theorem d_LW_law_196 : decode code 196 = .ok (.iadd, 1) := by decide +kernel
theorem d_LW_law_197 : decode code 197 = .ok (.iaload, 1) := by decide +kernel
theorem d_LW_law_198 : decode code 198 = .ok (.aload_n 0, 1) := by decide +kernel
theorem d_LW_law_199 : decode code 199 = .ok (.iload 4, 2) := by decide +kernel
theorem d_LW_law_201 : decode code 201 = .ok (.iconst (2), 1) := by decide +kernel
theorem d_LW_law_202 : decode code 202 = .ok (.iadd, 1) := by decide +kernel
theorem d_LW_law_203 : decode code 203 = .ok (.iaload, 1) := by decide +kernel
theorem d_LW_law_204 : decode code 204 = .ok (.invokevirtual 61, 3) := by decide +kernel
theorem d_LW_law_207 : decode code 207 = .ok (.istore 6, 2) := by decide +kernel
theorem d_LW_law_209 : decode code 209 = .ok (.aload_n 2, 1) := by decide +kernel
theorem d_LW_law_210 : decode code 210 = .ok (.invokevirtual 54, 3) := by decide +kernel
theorem d_LW_law_213 : decode code 213 = .ok (.iload 5, 2) := by decide +kernel
theorem d_LW_law_215 : decode code 215 = .ok (.if_icmp .eq (5), 3) := by decide +kernel
theorem d_LW_law_218 : decode code 218 = .ok (.iconst (0), 1) := by decide +kernel
theorem d_LW_law_219 : decode code 219 = .ok (.ireturn, 1) := by decide +kernel
theorem d_LW_law_220 : decode code 220 = .ok (.iload 5, 2) := by decide +kernel
theorem d_LW_law_222 : decode code 222 = .ok (.ifCond .ne (22), 3) := by decide +kernel
theorem d_LW_law_225 : decode code 225 = .ok (.aload_n 3, 1) := by decide +kernel
theorem d_LW_law_226 : decode code 226 = .ok (.iconst (0), 1) := by decide +kernel
theorem d_LW_law_227 : decode code 227 = .ok (.laload, 1) := by decide +kernel
theorem d_LW_law_228 : decode code 228 = .ok (.iload 6, 2) := by decide +kernel
theorem d_LW_law_230 : decode code 230 = .ok (.ifCond .eq (7), 3) := by decide +kernel
theorem d_LW_law_233 : decode code 233 = .ok (.lconst 1, 1) := by decide +kernel
theorem d_LW_law_234 : decode code 234 = .ok (.goto (4), 3) := by decide +kernel
theorem d_LW_law_237 : decode code 237 = .ok (.lconst 0, 1) := by decide +kernel
theorem d_LW_law_238 : decode code 238 = .ok (.lcmp, 1) := by decide +kernel
theorem d_LW_law_239 : decode code 239 = .ok (.ifCond .eq (5), 3) := by decide +kernel
theorem d_LW_law_242 : decode code 242 = .ok (.iconst (0), 1) := by decide +kernel
theorem d_LW_law_243 : decode code 243 = .ok (.ireturn, 1) := by decide +kernel
theorem d_LW_law_244 : decode code 244 = .ok (.goto (508), 3) := by decide +kernel
theorem d_LW_law_247 : decode code 247 = .ok (.aload_n 1, 1) := by decide +kernel
theorem d_LW_law_248 : decode code 248 = .ok (.aload_n 0, 1) := by decide +kernel
theorem d_LW_law_249 : decode code 249 = .ok (.iload 4, 2) := by decide +kernel
theorem d_LW_law_251 : decode code 251 = .ok (.iconst (1), 1) := by decide +kernel
theorem d_LW_law_252 : decode code 252 = .ok (.iadd, 1) := by decide +kernel
theorem d_LW_law_253 : decode code 253 = .ok (.iaload, 1) := by decide +kernel
theorem d_LW_law_254 : decode code 254 = .ok (.aload_n 0, 1) := by decide +kernel
theorem d_LW_law_255 : decode code 255 = .ok (.iload 4, 2) := by decide +kernel
theorem d_LW_law_257 : decode code 257 = .ok (.iconst (2), 1) := by decide +kernel
theorem d_LW_law_258 : decode code 258 = .ok (.iadd, 1) := by decide +kernel
theorem d_LW_law_259 : decode code 259 = .ok (.iaload, 1) := by decide +kernel
theorem d_LW_law_260 : decode code 260 = .ok (.invokevirtual 62, 3) := by decide +kernel
theorem d_LW_law_263 : decode code 263 = .ok (.aload_n 2, 1) := by decide +kernel
theorem d_LW_law_264 : decode code 264 = .ok (.aload_n 0, 1) := by decide +kernel
theorem d_LW_law_265 : decode code 265 = .ok (.iload 4, 2) := by decide +kernel
theorem d_LW_law_267 : decode code 267 = .ok (.iconst (1), 1) := by decide +kernel
theorem d_LW_law_268 : decode code 268 = .ok (.iadd, 1) := by decide +kernel
theorem d_LW_law_269 : decode code 269 = .ok (.iaload, 1) := by decide +kernel
theorem d_LW_law_270 : decode code 270 = .ok (.aload_n 0, 1) := by decide +kernel
theorem d_LW_law_271 : decode code 271 = .ok (.iload 4, 2) := by decide +kernel
theorem d_LW_law_273 : decode code 273 = .ok (.iconst (2), 1) := by decide +kernel
theorem d_LW_law_274 : decode code 274 = .ok (.iadd, 1) := by decide +kernel
theorem d_LW_law_275 : decode code 275 = .ok (.iaload, 1) := by decide +kernel
theorem d_LW_law_276 : decode code 276 = .ok (.invokevirtual 65, 3) := by decide +kernel
theorem d_LW_law_279 : decode code 279 = .ok (.if_icmp .eq (473), 3) := by decide +kernel
theorem d_LW_law_282 : decode code 282 = .ok (.iconst (0), 1) := by decide +kernel
theorem d_LW_law_283 : decode code 283 = .ok (.ireturn, 1) := by decide +kernel
theorem d_LW_law_284 : decode code 284 = .ok (.aload_n 1, 1) := by decide +kernel
theorem d_LW_law_285 : decode code 285 = .ok (.aload_n 0, 1) := by decide +kernel
theorem d_LW_law_286 : decode code 286 = .ok (.iload 4, 2) := by decide +kernel
theorem d_LW_law_288 : decode code 288 = .ok (.iconst (1), 1) := by decide +kernel
theorem d_LW_law_289 : decode code 289 = .ok (.iadd, 1) := by decide +kernel
theorem d_LW_law_290 : decode code 290 = .ok (.iaload, 1) := by decide +kernel
theorem d_LW_law_291 : decode code 291 = .ok (.aload_n 3, 1) := by decide +kernel
theorem d_LW_law_292 : decode code 292 = .ok (.invokestatic 66, 3) := by decide +kernel
theorem d_LW_law_295 : decode code 295 = .ok (.istore 5, 2) := by decide +kernel
theorem d_LW_law_297 : decode code 297 = .ok (.aload_n 2, 1) := by decide +kernel
theorem d_LW_law_298 : decode code 298 = .ok (.aload_n 0, 1) := by decide +kernel
theorem d_LW_law_299 : decode code 299 = .ok (.iload 4, 2) := by decide +kernel
theorem d_LW_law_301 : decode code 301 = .ok (.iconst (1), 1) := by decide +kernel
theorem d_LW_law_302 : decode code 302 = .ok (.iadd, 1) := by decide +kernel
theorem d_LW_law_303 : decode code 303 = .ok (.iaload, 1) := by decide +kernel
theorem d_LW_law_304 : decode code 304 = .ok (.invokevirtual 68, 3) := by decide +kernel
theorem d_LW_law_307 : decode code 307 = .ok (.istore 6, 2) := by decide +kernel
theorem d_LW_law_309 : decode code 309 = .ok (.aload_n 2, 1) := by decide +kernel
theorem d_LW_law_310 : decode code 310 = .ok (.invokevirtual 54, 3) := by decide +kernel
theorem d_LW_law_313 : decode code 313 = .ok (.iload 5, 2) := by decide +kernel
theorem d_LW_law_315 : decode code 315 = .ok (.if_icmp .eq (5), 3) := by decide +kernel
theorem d_LW_law_318 : decode code 318 = .ok (.iconst (0), 1) := by decide +kernel
theorem d_LW_law_319 : decode code 319 = .ok (.ireturn, 1) := by decide +kernel
theorem d_LW_law_320 : decode code 320 = .ok (.iload 5, 2) := by decide +kernel
theorem d_LW_law_322 : decode code 322 = .ok (.ifCond .ne (15), 3) := by decide +kernel
theorem d_LW_law_325 : decode code 325 = .ok (.aload_n 3, 1) := by decide +kernel
theorem d_LW_law_326 : decode code 326 = .ok (.iconst (0), 1) := by decide +kernel
theorem d_LW_law_327 : decode code 327 = .ok (.laload, 1) := by decide +kernel
theorem d_LW_law_328 : decode code 328 = .ok (.iload 6, 2) := by decide +kernel
theorem d_LW_law_330 : decode code 330 = .ok (.i2l, 1) := by decide +kernel
theorem d_LW_law_331 : decode code 331 = .ok (.lcmp, 1) := by decide +kernel
theorem d_LW_law_332 : decode code 332 = .ok (.ifCond .eq (5), 3) := by decide +kernel
theorem d_LW_law_335 : decode code 335 = .ok (.iconst (0), 1) := by decide +kernel
theorem d_LW_law_336 : decode code 336 = .ok (.ireturn, 1) := by decide +kernel
theorem d_LW_law_337 : decode code 337 = .ok (.goto (415), 3) := by decide +kernel
theorem d_LW_law_340 : decode code 340 = .ok (.aload_n 1, 1) := by decide +kernel
theorem d_LW_law_341 : decode code 341 = .ok (.aload_n 0, 1) := by decide +kernel
theorem d_LW_law_342 : decode code 342 = .ok (.iload 4, 2) := by decide +kernel
theorem d_LW_law_344 : decode code 344 = .ok (.iconst (1), 1) := by decide +kernel
theorem d_LW_law_345 : decode code 345 = .ok (.iadd, 1) := by decide +kernel
theorem d_LW_law_346 : decode code 346 = .ok (.iaload, 1) := by decide +kernel
theorem d_LW_law_347 : decode code 347 = .ok (.aload_n 0, 1) := by decide +kernel
theorem d_LW_law_348 : decode code 348 = .ok (.iload 4, 2) := by decide +kernel
theorem d_LW_law_350 : decode code 350 = .ok (.iconst (2), 1) := by decide +kernel
theorem d_LW_law_351 : decode code 351 = .ok (.iadd, 1) := by decide +kernel
theorem d_LW_law_352 : decode code 352 = .ok (.iaload, 1) := by decide +kernel
theorem d_LW_law_353 : decode code 353 = .ok (.aload_n 3, 1) := by decide +kernel
theorem d_LW_law_354 : decode code 354 = .ok (.invokestatic 69, 3) := by decide +kernel
theorem d_LW_law_357 : decode code 357 = .ok (.istore 5, 2) := by decide +kernel
theorem d_LW_law_359 : decode code 359 = .ok (.aload_n 2, 1) := by decide +kernel
theorem d_LW_law_360 : decode code 360 = .ok (.aload_n 0, 1) := by decide +kernel
theorem d_LW_law_361 : decode code 361 = .ok (.iload 4, 2) := by decide +kernel
theorem d_LW_law_363 : decode code 363 = .ok (.iconst (1), 1) := by decide +kernel
theorem d_LW_law_364 : decode code 364 = .ok (.iadd, 1) := by decide +kernel
theorem d_LW_law_365 : decode code 365 = .ok (.iaload, 1) := by decide +kernel
theorem d_LW_law_366 : decode code 366 = .ok (.aload_n 0, 1) := by decide +kernel
theorem d_LW_law_367 : decode code 367 = .ok (.iload 4, 2) := by decide +kernel
theorem d_LW_law_369 : decode code 369 = .ok (.iconst (2), 1) := by decide +kernel
theorem d_LW_law_370 : decode code 370 = .ok (.iadd, 1) := by decide +kernel
theorem d_LW_law_371 : decode code 371 = .ok (.iaload, 1) := by decide +kernel
theorem d_LW_law_372 : decode code 372 = .ok (.invokevirtual 71, 3) := by decide +kernel
theorem d_LW_law_375 : decode code 375 = .ok (.istore 6, 2) := by decide +kernel
theorem d_LW_law_377 : decode code 377 = .ok (.aload_n 2, 1) := by decide +kernel
theorem d_LW_law_378 : decode code 378 = .ok (.invokevirtual 54, 3) := by decide +kernel
theorem d_LW_law_381 : decode code 381 = .ok (.iload 5, 2) := by decide +kernel
theorem d_LW_law_383 : decode code 383 = .ok (.if_icmp .eq (5), 3) := by decide +kernel
theorem d_LW_law_386 : decode code 386 = .ok (.iconst (0), 1) := by decide +kernel
theorem d_LW_law_387 : decode code 387 = .ok (.ireturn, 1) := by decide +kernel
theorem d_LW_law_388 : decode code 388 = .ok (.iload 5, 2) := by decide +kernel
theorem d_LW_law_390 : decode code 390 = .ok (.ifCond .ne (15), 3) := by decide +kernel
theorem d_LW_law_393 : decode code 393 = .ok (.aload_n 3, 1) := by decide +kernel
theorem d_LW_law_394 : decode code 394 = .ok (.iconst (0), 1) := by decide +kernel
theorem d_LW_law_395 : decode code 395 = .ok (.laload, 1) := by decide +kernel
theorem d_LW_law_396 : decode code 396 = .ok (.iload 6, 2) := by decide +kernel
theorem d_LW_law_398 : decode code 398 = .ok (.i2l, 1) := by decide +kernel
theorem d_LW_law_399 : decode code 399 = .ok (.lcmp, 1) := by decide +kernel
theorem d_LW_law_400 : decode code 400 = .ok (.ifCond .eq (5), 3) := by decide +kernel
theorem d_LW_law_403 : decode code 403 = .ok (.iconst (0), 1) := by decide +kernel
theorem d_LW_law_404 : decode code 404 = .ok (.ireturn, 1) := by decide +kernel
theorem d_LW_law_405 : decode code 405 = .ok (.goto (347), 3) := by decide +kernel
theorem d_LW_law_408 : decode code 408 = .ok (.aload_n 1, 1) := by decide +kernel
theorem d_LW_law_409 : decode code 409 = .ok (.aload_n 0, 1) := by decide +kernel
theorem d_LW_law_410 : decode code 410 = .ok (.iload 4, 2) := by decide +kernel
theorem d_LW_law_412 : decode code 412 = .ok (.iconst (1), 1) := by decide +kernel
theorem d_LW_law_413 : decode code 413 = .ok (.iadd, 1) := by decide +kernel
theorem d_LW_law_414 : decode code 414 = .ok (.iaload, 1) := by decide +kernel
theorem d_LW_law_415 : decode code 415 = .ok (.aload_n 0, 1) := by decide +kernel
theorem d_LW_law_416 : decode code 416 = .ok (.iload 4, 2) := by decide +kernel
theorem d_LW_law_418 : decode code 418 = .ok (.iconst (2), 1) := by decide +kernel
theorem d_LW_law_419 : decode code 419 = .ok (.iadd, 1) := by decide +kernel
theorem d_LW_law_420 : decode code 420 = .ok (.iaload, 1) := by decide +kernel
theorem d_LW_law_421 : decode code 421 = .ok (.aload_n 0, 1) := by decide +kernel
theorem d_LW_law_422 : decode code 422 = .ok (.iload 4, 2) := by decide +kernel
theorem d_LW_law_424 : decode code 424 = .ok (.iconst (3), 1) := by decide +kernel
theorem d_LW_law_425 : decode code 425 = .ok (.iadd, 1) := by decide +kernel
theorem d_LW_law_426 : decode code 426 = .ok (.iaload, 1) := by decide +kernel
theorem d_LW_law_427 : decode code 427 = .ok (.aload_n 3, 1) := by decide +kernel
theorem d_LW_law_428 : decode code 428 = .ok (.invokestatic 72, 3) := by decide +kernel
theorem d_LW_law_431 : decode code 431 = .ok (.istore 5, 2) := by decide +kernel
theorem d_LW_law_433 : decode code 433 = .ok (.aload_n 2, 1) := by decide +kernel
theorem d_LW_law_434 : decode code 434 = .ok (.aload_n 0, 1) := by decide +kernel
theorem d_LW_law_435 : decode code 435 = .ok (.iload 4, 2) := by decide +kernel
theorem d_LW_law_437 : decode code 437 = .ok (.iconst (1), 1) := by decide +kernel
theorem d_LW_law_438 : decode code 438 = .ok (.iadd, 1) := by decide +kernel
theorem d_LW_law_439 : decode code 439 = .ok (.iaload, 1) := by decide +kernel
theorem d_LW_law_440 : decode code 440 = .ok (.aload_n 0, 1) := by decide +kernel
theorem d_LW_law_441 : decode code 441 = .ok (.iload 4, 2) := by decide +kernel
theorem d_LW_law_443 : decode code 443 = .ok (.iconst (2), 1) := by decide +kernel
theorem d_LW_law_444 : decode code 444 = .ok (.iadd, 1) := by decide +kernel
theorem d_LW_law_445 : decode code 445 = .ok (.iaload, 1) := by decide +kernel
theorem d_LW_law_446 : decode code 446 = .ok (.aload_n 0, 1) := by decide +kernel
theorem d_LW_law_447 : decode code 447 = .ok (.iload 4, 2) := by decide +kernel
theorem d_LW_law_449 : decode code 449 = .ok (.iconst (3), 1) := by decide +kernel
theorem d_LW_law_450 : decode code 450 = .ok (.iadd, 1) := by decide +kernel
theorem d_LW_law_451 : decode code 451 = .ok (.iaload, 1) := by decide +kernel
theorem d_LW_law_452 : decode code 452 = .ok (.invokevirtual 75, 3) := by decide +kernel
theorem d_LW_law_455 : decode code 455 = .ok (.istore 6, 2) := by decide +kernel
theorem d_LW_law_457 : decode code 457 = .ok (.aload_n 2, 1) := by decide +kernel
theorem d_LW_law_458 : decode code 458 = .ok (.invokevirtual 54, 3) := by decide +kernel
theorem d_LW_law_461 : decode code 461 = .ok (.iload 5, 2) := by decide +kernel
theorem d_LW_law_463 : decode code 463 = .ok (.if_icmp .eq (5), 3) := by decide +kernel
theorem d_LW_law_466 : decode code 466 = .ok (.iconst (0), 1) := by decide +kernel
theorem d_LW_law_467 : decode code 467 = .ok (.ireturn, 1) := by decide +kernel
theorem d_LW_law_468 : decode code 468 = .ok (.iload 5, 2) := by decide +kernel
theorem d_LW_law_470 : decode code 470 = .ok (.ifCond .ne (15), 3) := by decide +kernel
theorem d_LW_law_473 : decode code 473 = .ok (.aload_n 3, 1) := by decide +kernel
theorem d_LW_law_474 : decode code 474 = .ok (.iconst (0), 1) := by decide +kernel
theorem d_LW_law_475 : decode code 475 = .ok (.laload, 1) := by decide +kernel
theorem d_LW_law_476 : decode code 476 = .ok (.iload 6, 2) := by decide +kernel
theorem d_LW_law_478 : decode code 478 = .ok (.i2l, 1) := by decide +kernel
theorem d_LW_law_479 : decode code 479 = .ok (.lcmp, 1) := by decide +kernel
theorem d_LW_law_480 : decode code 480 = .ok (.ifCond .eq (5), 3) := by decide +kernel
theorem d_LW_law_483 : decode code 483 = .ok (.iconst (0), 1) := by decide +kernel
theorem d_LW_law_484 : decode code 484 = .ok (.ireturn, 1) := by decide +kernel
theorem d_LW_law_485 : decode code 485 = .ok (.goto (267), 3) := by decide +kernel
theorem d_LW_law_488 : decode code 488 = .ok (.aload_n 1, 1) := by decide +kernel
theorem d_LW_law_489 : decode code 489 = .ok (.aload_n 0, 1) := by decide +kernel
theorem d_LW_law_490 : decode code 490 = .ok (.iload 4, 2) := by decide +kernel
theorem d_LW_law_492 : decode code 492 = .ok (.iconst (1), 1) := by decide +kernel
theorem d_LW_law_493 : decode code 493 = .ok (.iadd, 1) := by decide +kernel
theorem d_LW_law_494 : decode code 494 = .ok (.iaload, 1) := by decide +kernel
theorem d_LW_law_495 : decode code 495 = .ok (.aload_n 0, 1) := by decide +kernel
theorem d_LW_law_496 : decode code 496 = .ok (.iload 4, 2) := by decide +kernel
theorem d_LW_law_498 : decode code 498 = .ok (.iconst (2), 1) := by decide +kernel
theorem d_LW_law_499 : decode code 499 = .ok (.iadd, 1) := by decide +kernel
theorem d_LW_law_500 : decode code 500 = .ok (.iaload, 1) := by decide +kernel
theorem d_LW_law_501 : decode code 501 = .ok (.aload_n 3, 1) := by decide +kernel
theorem d_LW_law_502 : decode code 502 = .ok (.invokestatic 76, 3) := by decide +kernel
theorem d_LW_law_505 : decode code 505 = .ok (.istore 5, 2) := by decide +kernel
theorem d_LW_law_507 : decode code 507 = .ok (.aload_n 2, 1) := by decide +kernel
theorem d_LW_law_508 : decode code 508 = .ok (.aload_n 0, 1) := by decide +kernel
theorem d_LW_law_509 : decode code 509 = .ok (.iload 4, 2) := by decide +kernel
theorem d_LW_law_511 : decode code 511 = .ok (.iconst (1), 1) := by decide +kernel
theorem d_LW_law_512 : decode code 512 = .ok (.iadd, 1) := by decide +kernel
theorem d_LW_law_513 : decode code 513 = .ok (.iaload, 1) := by decide +kernel
theorem d_LW_law_514 : decode code 514 = .ok (.aload_n 0, 1) := by decide +kernel
theorem d_LW_law_515 : decode code 515 = .ok (.iload 4, 2) := by decide +kernel
theorem d_LW_law_517 : decode code 517 = .ok (.iconst (2), 1) := by decide +kernel
theorem d_LW_law_518 : decode code 518 = .ok (.iadd, 1) := by decide +kernel
theorem d_LW_law_519 : decode code 519 = .ok (.iaload, 1) := by decide +kernel
theorem d_LW_law_520 : decode code 520 = .ok (.invokevirtual 78, 3) := by decide +kernel
theorem d_LW_law_523 : decode code 523 = .ok (.istore 6, 2) := by decide +kernel
theorem d_LW_law_525 : decode code 525 = .ok (.aload_n 2, 1) := by decide +kernel
theorem d_LW_law_526 : decode code 526 = .ok (.invokevirtual 54, 3) := by decide +kernel
theorem d_LW_law_529 : decode code 529 = .ok (.iload 5, 2) := by decide +kernel
theorem d_LW_law_531 : decode code 531 = .ok (.if_icmp .eq (5), 3) := by decide +kernel
theorem d_LW_law_534 : decode code 534 = .ok (.iconst (0), 1) := by decide +kernel
theorem d_LW_law_535 : decode code 535 = .ok (.ireturn, 1) := by decide +kernel
theorem d_LW_law_536 : decode code 536 = .ok (.iload 5, 2) := by decide +kernel
theorem d_LW_law_538 : decode code 538 = .ok (.ifCond .ne (15), 3) := by decide +kernel
theorem d_LW_law_541 : decode code 541 = .ok (.aload_n 3, 1) := by decide +kernel
theorem d_LW_law_542 : decode code 542 = .ok (.iconst (0), 1) := by decide +kernel
theorem d_LW_law_543 : decode code 543 = .ok (.laload, 1) := by decide +kernel
theorem d_LW_law_544 : decode code 544 = .ok (.iload 6, 2) := by decide +kernel
theorem d_LW_law_546 : decode code 546 = .ok (.i2l, 1) := by decide +kernel
theorem d_LW_law_547 : decode code 547 = .ok (.lcmp, 1) := by decide +kernel
theorem d_LW_law_548 : decode code 548 = .ok (.ifCond .eq (5), 3) := by decide +kernel
theorem d_LW_law_551 : decode code 551 = .ok (.iconst (0), 1) := by decide +kernel
theorem d_LW_law_552 : decode code 552 = .ok (.ireturn, 1) := by decide +kernel
theorem d_LW_law_553 : decode code 553 = .ok (.goto (199), 3) := by decide +kernel
theorem d_LW_law_556 : decode code 556 = .ok (.aload_n 1, 1) := by decide +kernel
theorem d_LW_law_557 : decode code 557 = .ok (.aload_n 0, 1) := by decide +kernel
theorem d_LW_law_558 : decode code 558 = .ok (.iload 4, 2) := by decide +kernel
theorem d_LW_law_560 : decode code 560 = .ok (.iconst (1), 1) := by decide +kernel
theorem d_LW_law_561 : decode code 561 = .ok (.iadd, 1) := by decide +kernel
theorem d_LW_law_562 : decode code 562 = .ok (.iaload, 1) := by decide +kernel
theorem d_LW_law_563 : decode code 563 = .ok (.invokevirtual 79, 3) := by decide +kernel
theorem d_LW_law_566 : decode code 566 = .ok (.aload_n 2, 1) := by decide +kernel
theorem d_LW_law_567 : decode code 567 = .ok (.aload_n 0, 1) := by decide +kernel
theorem d_LW_law_568 : decode code 568 = .ok (.iload 4, 2) := by decide +kernel
theorem d_LW_law_570 : decode code 570 = .ok (.iconst (1), 1) := by decide +kernel
theorem d_LW_law_571 : decode code 571 = .ok (.iadd, 1) := by decide +kernel
theorem d_LW_law_572 : decode code 572 = .ok (.iaload, 1) := by decide +kernel
theorem d_LW_law_573 : decode code 573 = .ok (.invokevirtual 82, 3) := by decide +kernel
theorem d_LW_law_576 : decode code 576 = .ok (.if_icmp .eq (176), 3) := by decide +kernel
theorem d_LW_law_579 : decode code 579 = .ok (.iconst (0), 1) := by decide +kernel
theorem d_LW_law_580 : decode code 580 = .ok (.ireturn, 1) := by decide +kernel
theorem d_LW_law_581 : decode code 581 = .ok (.aload_n 1, 1) := by decide +kernel
theorem d_LW_law_582 : decode code 582 = .ok (.aload_n 0, 1) := by decide +kernel
theorem d_LW_law_583 : decode code 583 = .ok (.iload 4, 2) := by decide +kernel
theorem d_LW_law_585 : decode code 585 = .ok (.iconst (1), 1) := by decide +kernel
theorem d_LW_law_586 : decode code 586 = .ok (.iadd, 1) := by decide +kernel
theorem d_LW_law_587 : decode code 587 = .ok (.iaload, 1) := by decide +kernel
theorem d_LW_law_588 : decode code 588 = .ok (.invokevirtual 83, 3) := by decide +kernel
theorem d_LW_law_591 : decode code 591 = .ok (.aload_n 2, 1) := by decide +kernel
theorem d_LW_law_592 : decode code 592 = .ok (.aload_n 0, 1) := by decide +kernel
theorem d_LW_law_593 : decode code 593 = .ok (.iload 4, 2) := by decide +kernel
theorem d_LW_law_595 : decode code 595 = .ok (.iconst (1), 1) := by decide +kernel
theorem d_LW_law_596 : decode code 596 = .ok (.iadd, 1) := by decide +kernel
theorem d_LW_law_597 : decode code 597 = .ok (.iaload, 1) := by decide +kernel
theorem d_LW_law_598 : decode code 598 = .ok (.invokevirtual 87, 3) := by decide +kernel
theorem d_LW_law_601 : decode code 601 = .ok (.if_icmp .eq (151), 3) := by decide +kernel
theorem d_LW_law_604 : decode code 604 = .ok (.iconst (0), 1) := by decide +kernel
theorem d_LW_law_605 : decode code 605 = .ok (.ireturn, 1) := by decide +kernel
theorem d_LW_law_606 : decode code 606 = .ok (.aload_n 1, 1) := by decide +kernel
theorem d_LW_law_607 : decode code 607 = .ok (.invokevirtual 88, 3) := by decide +kernel
theorem d_LW_law_610 : decode code 610 = .ok (.aload_n 2, 1) := by decide +kernel
theorem d_LW_law_611 : decode code 611 = .ok (.invokevirtual 91, 3) := by decide +kernel
theorem d_LW_law_614 : decode code 614 = .ok (.if_icmp .eq (138), 3) := by decide +kernel
theorem d_LW_law_617 : decode code 617 = .ok (.iconst (0), 1) := by decide +kernel
theorem d_LW_law_618 : decode code 618 = .ok (.ireturn, 1) := by decide +kernel
theorem d_LW_law_619 : decode code 619 = .ok (.aload_n 1, 1) := by decide +kernel
theorem d_LW_law_620 : decode code 620 = .ok (.invokevirtual 92, 3) := by decide +kernel
theorem d_LW_law_623 : decode code 623 = .ok (.aload_n 2, 1) := by decide +kernel
theorem d_LW_law_624 : decode code 624 = .ok (.invokevirtual 95, 3) := by decide +kernel
theorem d_LW_law_627 : decode code 627 = .ok (.if_icmp .eq (125), 3) := by decide +kernel
theorem d_LW_law_630 : decode code 630 = .ok (.iconst (0), 1) := by decide +kernel
theorem d_LW_law_631 : decode code 631 = .ok (.ireturn, 1) := by decide +kernel
theorem d_LW_law_632 : decode code 632 = .ok (.aload_n 1, 1) := by decide +kernel
theorem d_LW_law_633 : decode code 633 = .ok (.aload_n 0, 1) := by decide +kernel
theorem d_LW_law_634 : decode code 634 = .ok (.iload 4, 2) := by decide +kernel
theorem d_LW_law_636 : decode code 636 = .ok (.iconst (1), 1) := by decide +kernel
theorem d_LW_law_637 : decode code 637 = .ok (.iadd, 1) := by decide +kernel
theorem d_LW_law_638 : decode code 638 = .ok (.iaload, 1) := by decide +kernel
theorem d_LW_law_639 : decode code 639 = .ok (.aload_n 3, 1) := by decide +kernel
theorem d_LW_law_640 : decode code 640 = .ok (.invokestatic 96, 3) := by decide +kernel
theorem d_LW_law_643 : decode code 643 = .ok (.istore 5, 2) := by decide +kernel
theorem d_LW_law_645 : decode code 645 = .ok (.aload_n 2, 1) := by decide +kernel
theorem d_LW_law_646 : decode code 646 = .ok (.aload_n 0, 1) := by decide +kernel
theorem d_LW_law_647 : decode code 647 = .ok (.iload 4, 2) := by decide +kernel
theorem d_LW_law_649 : decode code 649 = .ok (.iconst (1), 1) := by decide +kernel
theorem d_LW_law_650 : decode code 650 = .ok (.iadd, 1) := by decide +kernel
theorem d_LW_law_651 : decode code 651 = .ok (.iaload, 1) := by decide +kernel
theorem d_LW_law_652 : decode code 652 = .ok (.invokevirtual 98, 3) := by decide +kernel
theorem d_LW_law_655 : decode code 655 = .ok (.istore 6, 2) := by decide +kernel
theorem d_LW_law_657 : decode code 657 = .ok (.aload_n 2, 1) := by decide +kernel
theorem d_LW_law_658 : decode code 658 = .ok (.invokevirtual 54, 3) := by decide +kernel
theorem d_LW_law_661 : decode code 661 = .ok (.iload 5, 2) := by decide +kernel
theorem d_LW_law_663 : decode code 663 = .ok (.if_icmp .eq (5), 3) := by decide +kernel
theorem d_LW_law_666 : decode code 666 = .ok (.iconst (0), 1) := by decide +kernel
theorem d_LW_law_667 : decode code 667 = .ok (.ireturn, 1) := by decide +kernel
theorem d_LW_law_668 : decode code 668 = .ok (.iload 5, 2) := by decide +kernel
theorem d_LW_law_670 : decode code 670 = .ok (.ifCond .ne (15), 3) := by decide +kernel
theorem d_LW_law_673 : decode code 673 = .ok (.aload_n 3, 1) := by decide +kernel
theorem d_LW_law_674 : decode code 674 = .ok (.iconst (0), 1) := by decide +kernel
theorem d_LW_law_675 : decode code 675 = .ok (.laload, 1) := by decide +kernel
theorem d_LW_law_676 : decode code 676 = .ok (.iload 6, 2) := by decide +kernel
theorem d_LW_law_678 : decode code 678 = .ok (.i2l, 1) := by decide +kernel
theorem d_LW_law_679 : decode code 679 = .ok (.lcmp, 1) := by decide +kernel
theorem d_LW_law_680 : decode code 680 = .ok (.ifCond .eq (5), 3) := by decide +kernel
theorem d_LW_law_683 : decode code 683 = .ok (.iconst (0), 1) := by decide +kernel
theorem d_LW_law_684 : decode code 684 = .ok (.ireturn, 1) := by decide +kernel
theorem d_LW_law_685 : decode code 685 = .ok (.goto (67), 3) := by decide +kernel
theorem d_LW_law_688 : decode code 688 = .ok (.aload_n 1, 1) := by decide +kernel
theorem d_LW_law_689 : decode code 689 = .ok (.invokevirtual 99, 3) := by decide +kernel
theorem d_LW_law_692 : decode code 692 = .ok (.aload_n 2, 1) := by decide +kernel
theorem d_LW_law_693 : decode code 693 = .ok (.invokevirtual 102, 3) := by decide +kernel
theorem d_LW_law_696 : decode code 696 = .ok (.if_icmp .eq (56), 3) := by decide +kernel
theorem d_LW_law_699 : decode code 699 = .ok (.iconst (0), 1) := by decide +kernel
theorem d_LW_law_700 : decode code 700 = .ok (.ireturn, 1) := by decide +kernel
theorem d_LW_law_701 : decode code 701 = .ok (.aload_n 1, 1) := by decide +kernel
theorem d_LW_law_702 : decode code 702 = .ok (.invokevirtual 103, 3) := by decide +kernel
theorem d_LW_law_705 : decode code 705 = .ok (.aload_n 2, 1) := by decide +kernel
theorem d_LW_law_706 : decode code 706 = .ok (.invokevirtual 106, 3) := by decide +kernel
theorem d_LW_law_709 : decode code 709 = .ok (.if_icmp .eq (43), 3) := by decide +kernel
theorem d_LW_law_712 : decode code 712 = .ok (.iconst (0), 1) := by decide +kernel
theorem d_LW_law_713 : decode code 713 = .ok (.ireturn, 1) := by decide +kernel
theorem d_LW_law_714 : decode code 714 = .ok (.aload_n 1, 1) := by decide +kernel
theorem d_LW_law_715 : decode code 715 = .ok (.aload_n 0, 1) := by decide +kernel
theorem d_LW_law_716 : decode code 716 = .ok (.iload 4, 2) := by decide +kernel
theorem d_LW_law_718 : decode code 718 = .ok (.iconst (1), 1) := by decide +kernel
theorem d_LW_law_719 : decode code 719 = .ok (.iadd, 1) := by decide +kernel
theorem d_LW_law_720 : decode code 720 = .ok (.iaload, 1) := by decide +kernel
theorem d_LW_law_721 : decode code 721 = .ok (.invokevirtual 107, 3) := by decide +kernel
theorem d_LW_law_724 : decode code 724 = .ok (.aload_n 2, 1) := by decide +kernel
theorem d_LW_law_725 : decode code 725 = .ok (.aload_n 0, 1) := by decide +kernel
theorem d_LW_law_726 : decode code 726 = .ok (.iload 4, 2) := by decide +kernel
theorem d_LW_law_728 : decode code 728 = .ok (.iconst (1), 1) := by decide +kernel
theorem d_LW_law_729 : decode code 729 = .ok (.iadd, 1) := by decide +kernel
theorem d_LW_law_730 : decode code 730 = .ok (.iaload, 1) := by decide +kernel
theorem d_LW_law_731 : decode code 731 = .ok (.invokevirtual 110, 3) := by decide +kernel
theorem d_LW_law_734 : decode code 734 = .ok (.if_icmp .eq (18), 3) := by decide +kernel
theorem d_LW_law_737 : decode code 737 = .ok (.iconst (0), 1) := by decide +kernel
theorem d_LW_law_738 : decode code 738 = .ok (.ireturn, 1) := by decide +kernel
theorem d_LW_law_739 : decode code 739 = .ok (.aload_n 1, 1) := by decide +kernel
theorem d_LW_law_740 : decode code 740 = .ok (.invokevirtual 111, 3) := by decide +kernel
theorem d_LW_law_743 : decode code 743 = .ok (.aload_n 2, 1) := by decide +kernel
theorem d_LW_law_744 : decode code 744 = .ok (.invokevirtual 114, 3) := by decide +kernel
theorem d_LW_law_747 : decode code 747 = .ok (.if_icmp .eq (5), 3) := by decide +kernel
theorem d_LW_law_750 : decode code 750 = .ok (.iconst (0), 1) := by decide +kernel
theorem d_LW_law_751 : decode code 751 = .ok (.ireturn, 1) := by decide +kernel
theorem d_LW_law_752 : decode code 752 = .ok (.iinc 4 4, 3) := by decide +kernel
theorem d_LW_law_755 : decode code 755 = .ok (.goto (-732), 3) := by decide +kernel
theorem d_LW_law_758 : decode code 758 = .ok (.iconst (1), 1) := by decide +kernel
theorem d_LW_law_759 : decode code 759 = .ok (.ireturn, 1) := by decide +kernel
