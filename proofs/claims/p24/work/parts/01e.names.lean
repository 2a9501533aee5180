theorem dL_refusesAny_113 : decode cL_refusesAny 113 = .ok (.aload_n 0, 1) := by decide +kernel
theorem dL_refusesAny_114 : decode cL_refusesAny 114 = .ok (.iload_n 2, 1) := by decide +kernel
theorem dL_refusesAny_115 : decode cL_refusesAny 115 = .ok (.bipush 99, 2) := by decide +kernel
theorem dL_refusesAny_117 : decode cL_refusesAny 117 = .ok (.invokevirtual 31, 3) := by decide +kernel
theorem dL_refusesAny_120 : decode cL_refusesAny 120 = .ok (.iconst (-1), 1) := by decide +kernel
theorem dL_refusesAny_121 : decode cL_refusesAny 121 = .ok (.if_icmp .ne 168, 3) := by decide +kernel
theorem dL_refusesAny_124 : decode cL_refusesAny 124 = .ok (.aload_n 0, 1) := by decide +kernel
theorem dL_refusesAny_125 : decode cL_refusesAny 125 = .ok (.iconst 3, 1) := by decide +kernel
theorem dL_refusesAny_126 : decode cL_refusesAny 126 = .ok (.invokevirtual 13, 3) := by decide +kernel
theorem dL_refusesAny_129 : decode cL_refusesAny 129 = .ok (.ifCond .eq 25, 3) := by decide +kernel
theorem dL_refusesAny_132 : decode cL_refusesAny 132 = .ok (.aload_n 0, 1) := by decide +kernel
theorem dL_refusesAny_133 : decode cL_refusesAny 133 = .ok (.iconst 0, 1) := by decide +kernel
theorem dL_refusesAny_134 : decode cL_refusesAny 134 = .ok (.iload_n 1, 1) := by decide +kernel
theorem dL_refusesAny_135 : decode cL_refusesAny 135 = .ok (.iconst 2, 1) := by decide +kernel
theorem dL_refusesAny_136 : decode cL_refusesAny 136 = .ok (.irem, 1) := by decide +kernel
theorem dL_refusesAny_137 : decode cL_refusesAny 137 = .ok (.ifCond .ne 7, 3) := by decide +kernel
theorem dL_refusesAny_140 : decode cL_refusesAny 140 = .ok (.iconst 0, 1) := by decide +kernel
theorem dL_refusesAny_141 : decode cL_refusesAny 141 = .ok (.goto 5, 3) := by decide +kernel
theorem dL_refusesAny_144 : decode cL_refusesAny 144 = .ok (.bipush 41, 2) := by decide +kernel
theorem dL_refusesAny_146 : decode cL_refusesAny 146 = .ok (.invokevirtual 31, 3) := by decide +kernel
theorem dL_refusesAny_149 : decode cL_refusesAny 149 = .ok (.bipush (-2), 2) := by decide +kernel
theorem dL_refusesAny_151 : decode cL_refusesAny 151 = .ok (.if_icmp .ne 138, 3) := by decide +kernel
theorem dL_refusesAny_154 : decode cL_refusesAny 154 = .ok (.aload_n 0, 1) := by decide +kernel
theorem dL_refusesAny_155 : decode cL_refusesAny 155 = .ok (.iload_n 2, 1) := by decide +kernel
theorem dL_refusesAny_156 : decode cL_refusesAny 156 = .ok (.invokevirtual 34, 3) := by decide +kernel
theorem dL_refusesAny_159 : decode cL_refusesAny 159 = .ok (.iconst (-1), 1) := by decide +kernel
theorem dL_refusesAny_160 : decode cL_refusesAny 160 = .ok (.if_icmp .ne 129, 3) := by decide +kernel
theorem dL_refusesAny_163 : decode cL_refusesAny 163 = .ok (.aload_n 0, 1) := by decide +kernel
theorem dL_refusesAny_164 : decode cL_refusesAny 164 = .ok (.iload_n 2, 1) := by decide +kernel
theorem dL_refusesAny_165 : decode cL_refusesAny 165 = .ok (.invokevirtual 37, 3) := by decide +kernel
theorem dL_refusesAny_168 : decode cL_refusesAny 168 = .ok (.iconst (-1), 1) := by decide +kernel
theorem dL_refusesAny_169 : decode cL_refusesAny 169 = .ok (.if_icmp .ne 120, 3) := by decide +kernel
theorem dL_refusesAny_172 : decode cL_refusesAny 172 = .ok (.aload_n 0, 1) := by decide +kernel
theorem dL_refusesAny_173 : decode cL_refusesAny 173 = .ok (.aload_n 0, 1) := by decide +kernel
theorem dL_refusesAny_174 : decode cL_refusesAny 174 = .ok (.iconst 3, 1) := by decide +kernel
theorem dL_refusesAny_175 : decode cL_refusesAny 175 = .ok (.invokevirtual 13, 3) := by decide +kernel
theorem dL_refusesAny_178 : decode cL_refusesAny 178 = .ok (.iconst 1, 1) := by decide +kernel
theorem dL_refusesAny_179 : decode cL_refusesAny 179 = .ok (.isub, 1) := by decide +kernel
theorem dL_refusesAny_180 : decode cL_refusesAny 180 = .ok (.invokevirtual 37, 3) := by decide +kernel
theorem dL_refusesAny_183 : decode cL_refusesAny 183 = .ok (.iconst (-1), 1) := by decide +kernel
theorem dL_refusesAny_184 : decode cL_refusesAny 184 = .ok (.if_icmp .ne 105, 3) := by decide +kernel
theorem dL_refusesAny_187 : decode cL_refusesAny 187 = .ok (.aload_n 0, 1) := by decide +kernel
theorem dL_refusesAny_188 : decode cL_refusesAny 188 = .ok (.invokevirtual 40, 3) := by decide +kernel
theorem dL_refusesAny_191 : decode cL_refusesAny 191 = .ok (.ifCond .lt 98, 3) := by decide +kernel
theorem dL_refusesAny_194 : decode cL_refusesAny 194 = .ok (.aload_n 0, 1) := by decide +kernel
theorem dL_refusesAny_195 : decode cL_refusesAny 195 = .ok (.invokevirtual 44, 3) := by decide +kernel
theorem dL_refusesAny_198 : decode cL_refusesAny 198 = .ok (.bipush (-3), 2) := by decide +kernel
theorem dL_refusesAny_200 : decode cL_refusesAny 200 = .ok (.if_icmp .ne 89, 3) := by decide +kernel
theorem dL_refusesAny_203 : decode cL_refusesAny 203 = .ok (.aload_n 0, 1) := by decide +kernel
theorem dL_refusesAny_204 : decode cL_refusesAny 204 = .ok (.iload_n 2, 1) := by decide +kernel
theorem dL_refusesAny_205 : decode cL_refusesAny 205 = .ok (.invokevirtual 47, 3) := by decide +kernel
theorem dL_refusesAny_208 : decode cL_refusesAny 208 = .ok (.iconst (-1), 1) := by decide +kernel
theorem dL_refusesAny_209 : decode cL_refusesAny 209 = .ok (.if_icmp .ne 80, 3) := by decide +kernel
theorem dL_refusesAny_212 : decode cL_refusesAny 212 = .ok (.aload_n 0, 1) := by decide +kernel
theorem dL_refusesAny_213 : decode cL_refusesAny 213 = .ok (.iconst 3, 1) := by decide +kernel
theorem dL_refusesAny_214 : decode cL_refusesAny 214 = .ok (.invokevirtual 13, 3) := by decide +kernel
theorem dL_refusesAny_217 : decode cL_refusesAny 217 = .ok (.ifCond .eq 13, 3) := by decide +kernel
theorem dL_refusesAny_220 : decode cL_refusesAny 220 = .ok (.aload_n 0, 1) := by decide +kernel
theorem dL_refusesAny_221 : decode cL_refusesAny 221 = .ok (.iconst 0, 1) := by decide +kernel
theorem dL_refusesAny_222 : decode cL_refusesAny 222 = .ok (.invokevirtual 47, 3) := by decide +kernel
theorem dL_refusesAny_225 : decode cL_refusesAny 225 = .ok (.bipush (-3), 2) := by decide +kernel
theorem dL_refusesAny_227 : decode cL_refusesAny 227 = .ok (.if_icmp .ne 62, 3) := by decide +kernel
theorem dL_refusesAny_230 : decode cL_refusesAny 230 = .ok (.aload_n 0, 1) := by decide +kernel
theorem dL_refusesAny_231 : decode cL_refusesAny 231 = .ok (.ldc2_w 50, 3) := by decide +kernel
theorem dL_refusesAny_234 : decode cL_refusesAny 234 = .ok (.invokevirtual 52, 3) := by decide +kernel
theorem dL_refusesAny_237 : decode cL_refusesAny 237 = .ok (.iconst 3, 1) := by decide +kernel
theorem dL_refusesAny_238 : decode cL_refusesAny 238 = .ok (.if_icmp .ne 51, 3) := by decide +kernel
theorem dL_refusesAny_241 : decode cL_refusesAny 241 = .ok (.aload_n 0, 1) := by decide +kernel
theorem dL_refusesAny_242 : decode cL_refusesAny 242 = .ok (.iconst 3, 1) := by decide +kernel
theorem dL_refusesAny_243 : decode cL_refusesAny 243 = .ok (.invokevirtual 13, 3) := by decide +kernel
theorem dL_refusesAny_246 : decode cL_refusesAny 246 = .ok (.ifCond .eq 13, 3) := by decide +kernel
theorem dL_refusesAny_249 : decode cL_refusesAny 249 = .ok (.aload_n 0, 1) := by decide +kernel
theorem dL_refusesAny_250 : decode cL_refusesAny 250 = .ok (.iconst 0, 1) := by decide +kernel
theorem dL_refusesAny_251 : decode cL_refusesAny 251 = .ok (.invokevirtual 47, 3) := by decide +kernel
theorem dL_refusesAny_254 : decode cL_refusesAny 254 = .ok (.bipush (-3), 2) := by decide +kernel
theorem dL_refusesAny_256 : decode cL_refusesAny 256 = .ok (.if_icmp .ne 33, 3) := by decide +kernel
theorem dL_refusesAny_259 : decode cL_refusesAny 259 = .ok (.aload_n 0, 1) := by decide +kernel
theorem dL_refusesAny_260 : decode cL_refusesAny 260 = .ok (.invokevirtual 56, 3) := by decide +kernel
theorem dL_refusesAny_263 : decode cL_refusesAny 263 = .ok (.bipush (-3), 2) := by decide +kernel
theorem dL_refusesAny_265 : decode cL_refusesAny 265 = .ok (.if_icmp .ne 24, 3) := by decide +kernel
theorem dL_refusesAny_268 : decode cL_refusesAny 268 = .ok (.aload_n 0, 1) := by decide +kernel
theorem dL_refusesAny_269 : decode cL_refusesAny 269 = .ok (.invokevirtual 59, 3) := by decide +kernel
theorem dL_refusesAny_272 : decode cL_refusesAny 272 = .ok (.bipush (-3), 2) := by decide +kernel
theorem dL_refusesAny_274 : decode cL_refusesAny 274 = .ok (.if_icmp .ne 15, 3) := by decide +kernel
theorem dL_refusesAny_277 : decode cL_refusesAny 277 = .ok (.aload_n 0, 1) := by decide +kernel
theorem dL_refusesAny_278 : decode cL_refusesAny 278 = .ok (.invokevirtual 40, 3) := by decide +kernel
theorem dL_refusesAny_281 : decode cL_refusesAny 281 = .ok (.iconst 3, 1) := by decide +kernel
theorem dL_refusesAny_282 : decode cL_refusesAny 282 = .ok (.if_icmp .ne 7, 3) := by decide +kernel
theorem dL_refusesAny_285 : decode cL_refusesAny 285 = .ok (.iconst 1, 1) := by decide +kernel
theorem dL_refusesAny_286 : decode cL_refusesAny 286 = .ok (.goto 4, 3) := by decide +kernel
theorem dL_refusesAny_289 : decode cL_refusesAny 289 = .ok (.iconst 0, 1) := by decide +kernel
theorem dL_refusesAny_290 : decode cL_refusesAny 290 = .ok (.istore_n 3, 1) := by decide +kernel
theorem dL_refusesAny_291 : decode cL_refusesAny 291 = .ok (.iload_n 3, 1) := by decide +kernel
theorem dL_refusesAny_292 : decode cL_refusesAny 292 = .ok (.ifCond .eq 265, 3) := by decide +kernel
theorem dL_refusesAny_295 : decode cL_refusesAny 295 = .ok (.aload_n 0, 1) := by decide +kernel
theorem dL_refusesAny_296 : decode cL_refusesAny 296 = .ok (.iload_n 2, 1) := by decide +kernel
theorem dL_refusesAny_297 : decode cL_refusesAny 297 = .ok (.iconst (-1), 1) := by decide +kernel
theorem dL_refusesAny_298 : decode cL_refusesAny 298 = .ok (.invokevirtual 19, 3) := by decide +kernel
theorem dL_refusesAny_301 : decode cL_refusesAny 301 = .ok (.iconst (-1), 1) := by decide +kernel
theorem dL_refusesAny_302 : decode cL_refusesAny 302 = .ok (.if_icmp .ne 255, 3) := by decide +kernel
theorem dL_refusesAny_305 : decode cL_refusesAny 305 = .ok (.aload_n 0, 1) := by decide +kernel
theorem dL_refusesAny_306 : decode cL_refusesAny 306 = .ok (.aload_n 0, 1) := by decide +kernel
theorem dL_refusesAny_307 : decode cL_refusesAny 307 = .ok (.iconst 4, 1) := by decide +kernel
theorem dL_refusesAny_308 : decode cL_refusesAny 308 = .ok (.invokevirtual 13, 3) := by decide +kernel
theorem dL_refusesAny_311 : decode cL_refusesAny 311 = .ok (.iconst (-1), 1) := by decide +kernel
theorem dL_refusesAny_312 : decode cL_refusesAny 312 = .ok (.invokevirtual 23, 3) := by decide +kernel
theorem dL_refusesAny_315 : decode cL_refusesAny 315 = .ok (.iconst (-1), 1) := by decide +kernel
theorem dL_refusesAny_316 : decode cL_refusesAny 316 = .ok (.if_icmp .ne 241, 3) := by decide +kernel
theorem dL_refusesAny_319 : decode cL_refusesAny 319 = .ok (.aload_n 0, 1) := by decide +kernel
theorem dL_refusesAny_320 : decode cL_refusesAny 320 = .ok (.iconst (-1), 1) := by decide +kernel
theorem dL_refusesAny_321 : decode cL_refusesAny 321 = .ok (.iconst 0, 1) := by decide +kernel
theorem dL_refusesAny_322 : decode cL_refusesAny 322 = .ok (.invokevirtual 23, 3) := by decide +kernel
theorem dL_refusesAny_325 : decode cL_refusesAny 325 = .ok (.iconst (-1), 1) := by decide +kernel
theorem dL_refusesAny_326 : decode cL_refusesAny 326 = .ok (.if_icmp .ne 231, 3) := by decide +kernel
theorem dL_refusesAny_329 : decode cL_refusesAny 329 = .ok (.aload_n 0, 1) := by decide +kernel
theorem dL_refusesAny_330 : decode cL_refusesAny 330 = .ok (.aload_n 0, 1) := by decide +kernel
theorem dL_refusesAny_331 : decode cL_refusesAny 331 = .ok (.iconst 5, 1) := by decide +kernel
theorem dL_refusesAny_332 : decode cL_refusesAny 332 = .ok (.invokevirtual 13, 3) := by decide +kernel
theorem dL_refusesAny_335 : decode cL_refusesAny 335 = .ok (.iload_n 1, 1) := by decide +kernel
theorem dL_refusesAny_336 : decode cL_refusesAny 336 = .ok (.iconst 2, 1) := by decide +kernel
theorem dL_refusesAny_337 : decode cL_refusesAny 337 = .ok (.irem, 1) := by decide +kernel
theorem dL_refusesAny_338 : decode cL_refusesAny 338 = .ok (.ifCond .ne 7, 3) := by decide +kernel
theorem dL_refusesAny_341 : decode cL_refusesAny 341 = .ok (.iconst 1, 1) := by decide +kernel
theorem dL_refusesAny_342 : decode cL_refusesAny 342 = .ok (.goto 4, 3) := by decide +kernel
theorem dL_refusesAny_345 : decode cL_refusesAny 345 = .ok (.iconst 0, 1) := by decide +kernel
theorem dL_refusesAny_346 : decode cL_refusesAny 346 = .ok (.invokevirtual 62, 3) := by decide +kernel
theorem dL_refusesAny_349 : decode cL_refusesAny 349 = .ok (.iconst (-1), 1) := by decide +kernel
theorem dL_refusesAny_350 : decode cL_refusesAny 350 = .ok (.if_icmp .ne 207, 3) := by decide +kernel
theorem dL_refusesAny_353 : decode cL_refusesAny 353 = .ok (.aload_n 0, 1) := by decide +kernel
theorem dL_refusesAny_354 : decode cL_refusesAny 354 = .ok (.iconst (-1), 1) := by decide +kernel
theorem dL_refusesAny_355 : decode cL_refusesAny 355 = .ok (.iconst 1, 1) := by decide +kernel
theorem dL_refusesAny_356 : decode cL_refusesAny 356 = .ok (.invokevirtual 62, 3) := by decide +kernel
theorem dL_refusesAny_359 : decode cL_refusesAny 359 = .ok (.iconst (-1), 1) := by decide +kernel
theorem dL_refusesAny_360 : decode cL_refusesAny 360 = .ok (.if_icmp .ne 197, 3) := by decide +kernel
theorem dL_refusesAny_363 : decode cL_refusesAny 363 = .ok (.aload_n 0, 1) := by decide +kernel
theorem dL_refusesAny_364 : decode cL_refusesAny 364 = .ok (.iload_n 1, 1) := by decide +kernel
theorem dL_refusesAny_365 : decode cL_refusesAny 365 = .ok (.iconst 2, 1) := by decide +kernel
theorem dL_refusesAny_366 : decode cL_refusesAny 366 = .ok (.irem, 1) := by decide +kernel
theorem dL_refusesAny_367 : decode cL_refusesAny 367 = .ok (.ifCond .ne 7, 3) := by decide +kernel
theorem dL_refusesAny_370 : decode cL_refusesAny 370 = .ok (.iconst (-1), 1) := by decide +kernel
theorem dL_refusesAny_371 : decode cL_refusesAny 371 = .ok (.goto 5, 3) := by decide +kernel
theorem dL_refusesAny_374 : decode cL_refusesAny 374 = .ok (.bipush 15, 2) := by decide +kernel
theorem dL_refusesAny_376 : decode cL_refusesAny 376 = .ok (.invokevirtual 13, 3) := by decide +kernel
theorem dL_refusesAny_379 : decode cL_refusesAny 379 = .ok (.bipush (-2), 2) := by decide +kernel
theorem dL_refusesAny_381 : decode cL_refusesAny 381 = .ok (.if_icmp .ne 176, 3) := by decide +kernel
theorem dL_refusesAny_384 : decode cL_refusesAny 384 = .ok (.aload_n 0, 1) := by decide +kernel
theorem dL_refusesAny_385 : decode cL_refusesAny 385 = .ok (.iload_n 1, 1) := by decide +kernel
theorem dL_refusesAny_386 : decode cL_refusesAny 386 = .ok (.iconst 2, 1) := by decide +kernel
theorem dL_refusesAny_387 : decode cL_refusesAny 387 = .ok (.irem, 1) := by decide +kernel
theorem dL_refusesAny_388 : decode cL_refusesAny 388 = .ok (.ifCond .ne 7, 3) := by decide +kernel
theorem dL_refusesAny_391 : decode cL_refusesAny 391 = .ok (.iconst (-1), 1) := by decide +kernel
theorem dL_refusesAny_392 : decode cL_refusesAny 392 = .ok (.goto 4, 3) := by decide +kernel
theorem dL_refusesAny_395 : decode cL_refusesAny 395 = .ok (.iconst 3, 1) := by decide +kernel
theorem dL_refusesAny_396 : decode cL_refusesAny 396 = .ok (.bipush 6, 2) := by decide +kernel
theorem dL_refusesAny_398 : decode cL_refusesAny 398 = .ok (.invokevirtual 66, 3) := by decide +kernel
theorem dL_refusesAny_401 : decode cL_refusesAny 401 = .ok (.bipush (-2), 2) := by decide +kernel
theorem dL_refusesAny_403 : decode cL_refusesAny 403 = .ok (.if_icmp .ne 154, 3) := by decide +kernel
theorem dL_refusesAny_406 : decode cL_refusesAny 406 = .ok (.aload_n 0, 1) := by decide +kernel
theorem dL_refusesAny_407 : decode cL_refusesAny 407 = .ok (.iconst 0, 1) := by decide +kernel
theorem dL_refusesAny_408 : decode cL_refusesAny 408 = .ok (.iload_n 1, 1) := by decide +kernel
theorem dL_refusesAny_409 : decode cL_refusesAny 409 = .ok (.iconst 2, 1) := by decide +kernel
theorem dL_refusesAny_410 : decode cL_refusesAny 410 = .ok (.irem, 1) := by decide +kernel
theorem dL_refusesAny_411 : decode cL_refusesAny 411 = .ok (.ifCond .ne 7, 3) := by decide +kernel
theorem dL_refusesAny_414 : decode cL_refusesAny 414 = .ok (.iconst 5, 1) := by decide +kernel
theorem dL_refusesAny_415 : decode cL_refusesAny 415 = .ok (.goto 5, 3) := by decide +kernel
theorem dL_refusesAny_418 : decode cL_refusesAny 418 = .ok (.bipush 41, 2) := by decide +kernel
theorem dL_refusesAny_420 : decode cL_refusesAny 420 = .ok (.invokevirtual 66, 3) := by decide +kernel
theorem dL_refusesAny_423 : decode cL_refusesAny 423 = .ok (.bipush (-2), 2) := by decide +kernel
theorem dL_refusesAny_425 : decode cL_refusesAny 425 = .ok (.if_icmp .ne 132, 3) := by decide +kernel
theorem dL_refusesAny_428 : decode cL_refusesAny 428 = .ok (.aload_n 0, 1) := by decide +kernel
theorem dL_refusesAny_429 : decode cL_refusesAny 429 = .ok (.iconst 1, 1) := by decide +kernel
theorem dL_refusesAny_430 : decode cL_refusesAny 430 = .ok (.iload_n 1, 1) := by decide +kernel
theorem dL_refusesAny_431 : decode cL_refusesAny 431 = .ok (.iconst 2, 1) := by decide +kernel
theorem dL_refusesAny_432 : decode cL_refusesAny 432 = .ok (.irem, 1) := by decide +kernel
theorem dL_refusesAny_433 : decode cL_refusesAny 433 = .ok (.ifCond .ne 7, 3) := by decide +kernel
theorem dL_refusesAny_436 : decode cL_refusesAny 436 = .ok (.iconst 3, 1) := by decide +kernel
theorem dL_refusesAny_437 : decode cL_refusesAny 437 = .ok (.goto 5, 3) := by decide +kernel
theorem dL_refusesAny_440 : decode cL_refusesAny 440 = .ok (.bipush 31, 2) := by decide +kernel
theorem dL_refusesAny_442 : decode cL_refusesAny 442 = .ok (.invokevirtual 66, 3) := by decide +kernel
theorem dL_refusesAny_445 : decode cL_refusesAny 445 = .ok (.bipush (-2), 2) := by decide +kernel
theorem dL_refusesAny_447 : decode cL_refusesAny 447 = .ok (.if_icmp .ne 110, 3) := by decide +kernel
theorem dL_refusesAny_450 : decode cL_refusesAny 450 = .ok (.aload_n 0, 1) := by decide +kernel
theorem dL_refusesAny_451 : decode cL_refusesAny 451 = .ok (.iconst 2, 1) := by decide +kernel
theorem dL_refusesAny_452 : decode cL_refusesAny 452 = .ok (.iload_n 1, 1) := by decide +kernel
theorem dL_refusesAny_453 : decode cL_refusesAny 453 = .ok (.iconst 2, 1) := by decide +kernel
theorem dL_refusesAny_454 : decode cL_refusesAny 454 = .ok (.irem, 1) := by decide +kernel
theorem dL_refusesAny_455 : decode cL_refusesAny 455 = .ok (.ifCond .ne 7, 3) := by decide +kernel
theorem dL_refusesAny_458 : decode cL_refusesAny 458 = .ok (.iconst 0, 1) := by decide +kernel
theorem dL_refusesAny_459 : decode cL_refusesAny 459 = .ok (.goto 4, 3) := by decide +kernel
theorem dL_refusesAny_462 : decode cL_refusesAny 462 = .ok (.iconst 4, 1) := by decide +kernel
theorem dL_refusesAny_463 : decode cL_refusesAny 463 = .ok (.invokevirtual 66, 3) := by decide +kernel
theorem dL_refusesAny_466 : decode cL_refusesAny 466 = .ok (.bipush (-2), 2) := by decide +kernel
theorem dL_refusesAny_468 : decode cL_refusesAny 468 = .ok (.if_icmp .ne 89, 3) := by decide +kernel
theorem dL_refusesAny_471 : decode cL_refusesAny 471 = .ok (.aload_n 0, 1) := by decide +kernel
theorem dL_refusesAny_472 : decode cL_refusesAny 472 = .ok (.iload_n 1, 1) := by decide +kernel
theorem dL_refusesAny_473 : decode cL_refusesAny 473 = .ok (.iconst 2, 1) := by decide +kernel
theorem dL_refusesAny_474 : decode cL_refusesAny 474 = .ok (.irem, 1) := by decide +kernel
theorem dL_refusesAny_475 : decode cL_refusesAny 475 = .ok (.ifCond .ne 7, 3) := by decide +kernel
theorem dL_refusesAny_478 : decode cL_refusesAny 478 = .ok (.iconst 0, 1) := by decide +kernel
theorem dL_refusesAny_479 : decode cL_refusesAny 479 = .ok (.goto 6, 3) := by decide +kernel
theorem dL_refusesAny_482 : decode cL_refusesAny 482 = .ok (.sipush 201, 3) := by decide +kernel
theorem dL_refusesAny_485 : decode cL_refusesAny 485 = .ok (.invokevirtual 69, 3) := by decide +kernel
theorem dL_refusesAny_488 : decode cL_refusesAny 488 = .ok (.bipush (-2), 2) := by decide +kernel
theorem dL_refusesAny_490 : decode cL_refusesAny 490 = .ok (.if_icmp .ne 67, 3) := by decide +kernel
theorem dL_refusesAny_493 : decode cL_refusesAny 493 = .ok (.aload_n 0, 1) := by decide +kernel
theorem dL_refusesAny_494 : decode cL_refusesAny 494 = .ok (.iload_n 1, 1) := by decide +kernel
theorem dL_refusesAny_495 : decode cL_refusesAny 495 = .ok (.iconst 2, 1) := by decide +kernel
theorem dL_refusesAny_496 : decode cL_refusesAny 496 = .ok (.irem, 1) := by decide +kernel
theorem dL_refusesAny_497 : decode cL_refusesAny 497 = .ok (.ifCond .ne 7, 3) := by decide +kernel
theorem dL_refusesAny_500 : decode cL_refusesAny 500 = .ok (.iconst (-1), 1) := by decide +kernel
theorem dL_refusesAny_501 : decode cL_refusesAny 501 = .ok (.goto 4, 3) := by decide +kernel
theorem dL_refusesAny_504 : decode cL_refusesAny 504 = .ok (.iconst 2, 1) := by decide +kernel
theorem dL_refusesAny_505 : decode cL_refusesAny 505 = .ok (.invokevirtual 72, 3) := by decide +kernel
theorem dL_refusesAny_508 : decode cL_refusesAny 508 = .ok (.bipush (-2), 2) := by decide +kernel
theorem dL_refusesAny_510 : decode cL_refusesAny 510 = .ok (.if_icmp .ne 47, 3) := by decide +kernel
theorem dL_refusesAny_513 : decode cL_refusesAny 513 = .ok (.aload_n 0, 1) := by decide +kernel
theorem dL_refusesAny_514 : decode cL_refusesAny 514 = .ok (.iload_n 1, 1) := by decide +kernel
theorem dL_refusesAny_515 : decode cL_refusesAny 515 = .ok (.iconst 2, 1) := by decide +kernel
theorem dL_refusesAny_516 : decode cL_refusesAny 516 = .ok (.irem, 1) := by decide +kernel
theorem dL_refusesAny_517 : decode cL_refusesAny 517 = .ok (.ifCond .ne 7, 3) := by decide +kernel
theorem dL_refusesAny_520 : decode cL_refusesAny 520 = .ok (.iconst (-1), 1) := by decide +kernel
theorem dL_refusesAny_521 : decode cL_refusesAny 521 = .ok (.goto 4, 3) := by decide +kernel
theorem dL_refusesAny_524 : decode cL_refusesAny 524 = .ok (.iconst 2, 1) := by decide +kernel
theorem dL_refusesAny_525 : decode cL_refusesAny 525 = .ok (.invokevirtual 75, 3) := by decide +kernel
theorem dL_refusesAny_528 : decode cL_refusesAny 528 = .ok (.bipush (-2), 2) := by decide +kernel
theorem dL_refusesAny_530 : decode cL_refusesAny 530 = .ok (.if_icmp .ne 27, 3) := by decide +kernel
theorem dL_refusesAny_533 : decode cL_refusesAny 533 = .ok (.aload_n 0, 1) := by decide +kernel
theorem dL_refusesAny_534 : decode cL_refusesAny 534 = .ok (.iload_n 1, 1) := by decide +kernel
theorem dL_refusesAny_535 : decode cL_refusesAny 535 = .ok (.iconst 2, 1) := by decide +kernel
theorem dL_refusesAny_536 : decode cL_refusesAny 536 = .ok (.irem, 1) := by decide +kernel
theorem dL_refusesAny_537 : decode cL_refusesAny 537 = .ok (.ifCond .ne 7, 3) := by decide +kernel
theorem dL_refusesAny_540 : decode cL_refusesAny 540 = .ok (.iconst (-1), 1) := by decide +kernel
theorem dL_refusesAny_541 : decode cL_refusesAny 541 = .ok (.goto 4, 3) := by decide +kernel
theorem dL_refusesAny_544 : decode cL_refusesAny 544 = .ok (.iconst 2, 1) := by decide +kernel
theorem dL_refusesAny_545 : decode cL_refusesAny 545 = .ok (.invokevirtual 78, 3) := by decide +kernel
theorem dL_refusesAny_548 : decode cL_refusesAny 548 = .ok (.bipush (-2), 2) := by decide +kernel
theorem dL_refusesAny_550 : decode cL_refusesAny 550 = .ok (.if_icmp .ne 7, 3) := by decide +kernel
theorem dL_refusesAny_553 : decode cL_refusesAny 553 = .ok (.iconst 1, 1) := by decide +kernel
theorem dL_refusesAny_554 : decode cL_refusesAny 554 = .ok (.goto 4, 3) := by decide +kernel
theorem dL_refusesAny_557 : decode cL_refusesAny 557 = .ok (.iconst 0, 1) := by decide +kernel
theorem dL_refusesAny_558 : decode cL_refusesAny 558 = .ok (.istore_n 3, 1) := by decide +kernel
theorem dL_refusesAny_559 : decode cL_refusesAny 559 = .ok (.iload_n 3, 1) := by decide +kernel
theorem dL_refusesAny_560 : decode cL_refusesAny 560 = .ok (.ireturn, 1) := by decide +kernel
set_option maxRecDepth 20000 in
theorem ggL_refuses_L_seen : GoodIn wsL_refuses wsL_seen := goodIn_r _ [4, 5, 6, 7, 8, 9, 10, 11, 12, 13, 14, 15, 16, 17, 18, 19, 20, 21, 22, 23, 24, 25, 26, 27, 28, 29, 30, 31, 32, 33, 34, 35, 36, 37, 38, 39, 40, 41, 42, 43, 44, 45, 46, 47, 48, 49, 50, 51, 52, 53, 54, 55, 56, 57, 58, 59, 60, 61, 62, 63, 64, 65, 66, 67, 68, 69, 70, 71, 72, 73, 74, 75, 76, 77, 78, 79, 80, 81, 82, 83, 84, 85, 86, 87, 88, 89, 90, 91, 92, 93, 94, 95, 96, 97, 98, 99, 100, 101, 102, 103, 359, 360, 361, 362, 363, 364, 365, 366, 367, 368, 369, 370, 371, 372, 373, 374, 375, 376, 377, 378, 379, 380, 381, 382, 383, 384, 385, 386, 387, 388, 389] (by decide +kernel) (by decide +kernel)
set_option maxRecDepth 20000 in
theorem gL_refuses_L_seen : GoodIn wsL_refuses (va_wsS RL 81 yL_seen wsL_seen) := goodIn_app (goodIn_of _ (by decide +kernel)) ggL_refuses_L_seen
set_option maxRecDepth 20000 in
theorem ggL_refuses_X5_count : GoodIn wsL_refuses wsX5_count := goodIn_r _ [11, 12, 13, 14, 15, 16, 17, 18, 19, 20, 21, 22, 23, 24, 25, 26, 27, 28, 10, 29, 30, 31, 32, 33, 34, 35, 36, 37, 38, 39, 40, 41, 42, 43, 44, 45, 46, 47, 48, 49, 50, 51, 52, 53, 54, 55, 56, 57, 58, 59, 60, 61, 62, 63, 64, 65, 66, 67, 68, 69, 359, 360, 361, 362, 363, 364, 365, 366, 367, 368, 369, 370, 371, 372, 373, 374, 375, 376, 377, 378, 379, 380, 381, 382, 383, 384, 385, 386, 387, 388, 389] (by decide +kernel) (by decide +kernel)
set_option maxRecDepth 20000 in
theorem gL_refuses_X5_count : GoodIn wsL_refuses (wsV RL 13 RX5 yX5_count wsX5_count) := goodIn_app (goodIn_of _ (by decide +kernel)) ggL_refuses_X5_count
set_option maxRecDepth 20000 in
theorem ggL_refuses_L_refusesAny : GoodIn wsL_refuses wsL_refusesAny := goodIn_r _ [106, 107, 7, 8, 9, 10, 11, 12, 13, 14, 15, 16, 17, 18, 19, 20, 21, 22, 23, 24, 25, 26, 27, 28, 29, 30, 31, 32, 33, 34, 35, 36, 37, 38, 39, 40, 41, 42, 43, 44, 45, 46, 47, 48, 49, 50, 51, 52, 53, 54, 55, 56, 57, 58, 59, 60, 61, 62, 63, 64, 65, 66, 67, 68, 69, 108, 109, 110, 111, 112, 113, 114, 115, 116, 117, 118, 119, 120, 121, 122, 123, 124, 125, 126, 127, 128, 129, 130, 131, 132, 87, 133, 134, 135, 136, 137, 138, 139, 140, 141, 142, 143, 144, 145, 146, 147, 148, 149, 150, 151, 152, 153, 154, 155, 156, 157, 158, 159, 160, 161, 162, 163, 164, 165, 166, 167, 168, 169, 170, 171, 172, 173, 174, 175, 176, 177, 178, 179, 180, 181, 182, 183, 184, 185, 186, 187, 188, 189, 190, 191, 84, 85, 86, 88, 79, 80, 81, 192, 90, 91, 92, 93, 193, 194, 195, 196, 74, 78, 197, 198, 199, 200, 201, 202, 203, 204, 205, 206, 207, 208, 209, 210, 211, 212, 213, 214, 215, 216, 217, 218, 219, 220, 221, 222, 223, 224, 225, 226, 227, 228, 229, 230, 231, 232, 233, 234, 235, 236, 237, 238, 239, 240, 241, 242, 243, 244, 245, 246, 247, 248, 97, 98, 99, 100, 249, 250, 251, 252, 253, 254, 255, 256, 257, 258, 259, 260, 261, 262, 263, 264, 265, 266, 267, 268, 269, 270, 271, 272, 273, 274, 275, 276, 277, 278, 279, 280, 281, 282, 283, 284, 285, 286, 287, 288, 289, 290, 291, 292, 293, 294, 295, 296, 297, 298, 299, 300, 83, 70, 71, 72, 73, 75, 76, 77, 82, 89, 94, 95, 96, 101, 102, 103, 301, 302, 303, 304, 305, 306, 307, 308, 309, 310, 311, 312, 313, 314, 315, 316, 317, 318, 319, 320, 321, 322, 323, 324, 325, 326, 327, 328, 329, 330, 331, 332, 333, 334, 335, 336, 337, 338, 339, 340, 341, 342, 343, 344, 345, 346, 347, 348, 349, 350, 351, 352, 353, 354, 355, 356, 357, 358, 359, 360, 361, 362, 363, 364, 365, 366, 367, 368, 369, 370, 371, 372, 373, 374, 375, 376, 377, 378, 379, 380, 381, 382, 383, 384, 385, 386, 387, 388, 389] (by decide +kernel) (by decide +kernel)
set_option maxRecDepth 20000 in
theorem gL_refuses_L_refusesAny : GoodIn wsL_refuses (va_wsS RL 85 yL_refusesAny wsL_refusesAny) := goodIn_app (goodIn_of _ (by decide +kernel)) ggL_refuses_L_refusesAny
theorem dL_refuses_0 : decode cL_refuses 0 = .ok (.aload_n 0, 1) := by decide +kernel
theorem dL_refuses_1 : decode cL_refuses 1 = .ok (.invokestatic 81, 3) := by decide +kernel
theorem dL_refuses_4 : decode cL_refuses 4 = .ok (.lstore_n 2, 1) := by decide +kernel
theorem dL_refuses_5 : decode cL_refuses 5 = .ok (.aload_n 0, 1) := by decide +kernel
theorem dL_refuses_6 : decode cL_refuses 6 = .ok (.bipush 14, 2) := by decide +kernel
theorem dL_refuses_8 : decode cL_refuses 8 = .ok (.invokevirtual 13, 3) := by decide +kernel
theorem dL_refuses_11 : decode cL_refuses 11 = .ok (.istore 4, 2) := by decide +kernel
theorem dL_refuses_13 : decode cL_refuses 13 = .ok (.aload_n 0, 1) := by decide +kernel
theorem dL_refuses_14 : decode cL_refuses 14 = .ok (.iload_n 1, 1) := by decide +kernel
theorem dL_refuses_15 : decode cL_refuses 15 = .ok (.invokestatic 85, 3) := by decide +kernel
theorem dL_refuses_18 : decode cL_refuses 18 = .ok (.ifCond .eq 27, 3) := by decide +kernel
theorem dL_refuses_21 : decode cL_refuses 21 = .ok (.aload_n 0, 1) := by decide +kernel
theorem dL_refuses_22 : decode cL_refuses 22 = .ok (.invokestatic 81, 3) := by decide +kernel
theorem dL_refuses_25 : decode cL_refuses 25 = .ok (.lload_n 2, 1) := by decide +kernel
theorem dL_refuses_26 : decode cL_refuses 26 = .ok (.lcmp, 1) := by decide +kernel
theorem dL_refuses_27 : decode cL_refuses 27 = .ok (.ifCond .ne 18, 3) := by decide +kernel
theorem dL_refuses_30 : decode cL_refuses 30 = .ok (.aload_n 0, 1) := by decide +kernel
theorem dL_refuses_31 : decode cL_refuses 31 = .ok (.bipush 14, 2) := by decide +kernel
theorem dL_refuses_33 : decode cL_refuses 33 = .ok (.invokevirtual 13, 3) := by decide +kernel
theorem dL_refuses_36 : decode cL_refuses 36 = .ok (.iload 4, 2) := by decide +kernel
theorem dL_refuses_38 : decode cL_refuses 38 = .ok (.if_icmp .ne 7, 3) := by decide +kernel
theorem dL_refuses_41 : decode cL_refuses 41 = .ok (.iconst 1, 1) := by decide +kernel
theorem dL_refuses_42 : decode cL_refuses 42 = .ok (.goto 4, 3) := by decide +kernel
theorem dL_refuses_45 : decode cL_refuses 45 = .ok (.iconst 0, 1) := by decide +kernel
theorem dL_refuses_46 : decode cL_refuses 46 = .ok (.ireturn, 1) := by decide +kernel
set_option maxRecDepth 20000 in
theorem ggL_word_X5_wipe : GoodIn wsL_word wsX5_wipe := goodIn_r _ [5, 6, 7, 8, 9, 10, 11, 12, 13, 29, 30, 31, 32, 33, 34, 35, 36, 37, 38] (by decide +kernel) (by decide +kernel)
set_option maxRecDepth 20000 in
theorem gL_word_X5_wipe : GoodIn wsL_word (wsV RL 40 RX5 yX5_wipe wsX5_wipe) := goodIn_app (goodIn_of _ (by decide +kernel)) ggL_word_X5_wipe
set_option maxRecDepth 20000 in
theorem ggL_word_X5_put : GoodIn wsL_word wsX5_put := goodIn_r _ [17, 6, 7, 18, 19, 4, 20, 21, 22, 23, 24, 25, 26, 11, 27, 13, 28, 29, 30, 31, 32, 33, 34, 35, 36, 37, 38] (by decide +kernel) (by decide +kernel)
set_option maxRecDepth 20000 in
theorem gL_word_X5_put : GoodIn wsL_word (wsV RL 52 RX5 yX5_put wsX5_put) := goodIn_app (goodIn_of _ (by decide +kernel)) ggL_word_X5_put
theorem dL_word_0 : decode cL_word 0 = .ok (.aload_n 0, 1) := by decide +kernel
theorem dL_word_1 : decode cL_word 1 = .ok (.invokevirtual 40, 3) := by decide +kernel
theorem dL_word_4 : decode cL_word 4 = .ok (.ifCond .lt 7, 3) := by decide +kernel
theorem dL_word_7 : decode cL_word 7 = .ok (.iconst 1, 1) := by decide +kernel
theorem dL_word_8 : decode cL_word 8 = .ok (.goto 4, 3) := by decide +kernel
theorem dL_word_11 : decode cL_word 11 = .ok (.iconst 0, 1) := by decide +kernel
theorem dL_word_12 : decode cL_word 12 = .ok (.istore_n 2, 1) := by decide +kernel
theorem dL_word_13 : decode cL_word 13 = .ok (.iconst 0, 1) := by decide +kernel
theorem dL_word_14 : decode cL_word 14 = .ok (.istore_n 3, 1) := by decide +kernel
theorem dL_word_15 : decode cL_word 15 = .ok (.iload_n 3, 1) := by decide +kernel
theorem dL_word_16 : decode cL_word 16 = .ok (.iconst 1, 1) := by decide +kernel
theorem dL_word_17 : decode cL_word 17 = .ok (.iload_n 1, 1) := by decide +kernel
theorem dL_word_18 : decode cL_word 18 = .ok (.bipush 7, 2) := by decide +kernel
theorem dL_word_20 : decode cL_word 20 = .ok (.irem, 1) := by decide +kernel
theorem dL_word_21 : decode cL_word 21 = .ok (.iadd, 1) := by decide +kernel
theorem dL_word_22 : decode cL_word 22 = .ok (.if_icmp .ge 63, 3) := by decide +kernel
theorem dL_word_25 : decode cL_word 25 = .ok (.iload_n 2, 1) := by decide +kernel
theorem dL_word_26 : decode cL_word 26 = .ok (.ifCond .eq 59, 3) := by decide +kernel
theorem dL_word_29 : decode cL_word 29 = .ok (.aload_n 0, 1) := by decide +kernel
theorem dL_word_30 : decode cL_word 30 = .ok (.bipush 97, 2) := by decide +kernel
theorem dL_word_32 : decode cL_word 32 = .ok (.iload_n 1, 1) := by decide +kernel
theorem dL_word_33 : decode cL_word 33 = .ok (.iconst 3, 1) := by decide +kernel
theorem dL_word_34 : decode cL_word 34 = .ok (.iconst 2, 1) := by decide +kernel
theorem dL_word_35 : decode cL_word 35 = .ok (.iload_n 3, 1) := by decide +kernel
theorem dL_word_36 : decode cL_word 36 = .ok (.imul, 1) := by decide +kernel
theorem dL_word_37 : decode cL_word 37 = .ok (.iadd, 1) := by decide +kernel
theorem dL_word_38 : decode cL_word 38 = .ok (.ishr, 1) := by decide +kernel
theorem dL_word_39 : decode cL_word 39 = .ok (.iconst 4, 1) := by decide +kernel
theorem dL_word_40 : decode cL_word 40 = .ok (.irem, 1) := by decide +kernel
theorem dL_word_41 : decode cL_word 41 = .ok (.ifCond .ne 14, 3) := by decide +kernel
theorem dL_word_44 : decode cL_word 44 = .ok (.iload_n 1, 1) := by decide +kernel
theorem dL_word_45 : decode cL_word 45 = .ok (.iconst 5, 1) := by decide +kernel
theorem dL_word_46 : decode cL_word 46 = .ok (.iload_n 3, 1) := by decide +kernel
theorem dL_word_47 : decode cL_word 47 = .ok (.iadd, 1) := by decide +kernel
theorem dL_word_48 : decode cL_word 48 = .ok (.ishr, 1) := by decide +kernel
theorem dL_word_49 : decode cL_word 49 = .ok (.bipush 26, 2) := by decide +kernel
theorem dL_word_51 : decode cL_word 51 = .ok (.irem, 1) := by decide +kernel
theorem dL_word_52 : decode cL_word 52 = .ok (.goto 10, 3) := by decide +kernel
theorem dL_word_55 : decode cL_word 55 = .ok (.iload_n 1, 1) := by decide +kernel
theorem dL_word_56 : decode cL_word 56 = .ok (.iconst 3, 1) := by decide +kernel
theorem dL_word_57 : decode cL_word 57 = .ok (.iload_n 3, 1) := by decide +kernel
theorem dL_word_58 : decode cL_word 58 = .ok (.iadd, 1) := by decide +kernel
theorem dL_word_59 : decode cL_word 59 = .ok (.ishr, 1) := by decide +kernel
theorem dL_word_60 : decode cL_word 60 = .ok (.iconst 3, 1) := by decide +kernel
theorem dL_word_61 : decode cL_word 61 = .ok (.irem, 1) := by decide +kernel
theorem dL_word_62 : decode cL_word 62 = .ok (.iadd, 1) := by decide +kernel
theorem dL_word_63 : decode cL_word 63 = .ok (.i2l, 1) := by decide +kernel
theorem dL_word_64 : decode cL_word 64 = .ok (.invokevirtual 52, 3) := by decide +kernel
theorem dL_word_67 : decode cL_word 67 = .ok (.iload_n 3, 1) := by decide +kernel
theorem dL_word_68 : decode cL_word 68 = .ok (.iconst 1, 1) := by decide +kernel
theorem dL_word_69 : decode cL_word 69 = .ok (.iadd, 1) := by decide +kernel
theorem dL_word_70 : decode cL_word 70 = .ok (.if_icmp .ne 7, 3) := by decide +kernel
theorem dL_word_73 : decode cL_word 73 = .ok (.iconst 1, 1) := by decide +kernel
theorem dL_word_74 : decode cL_word 74 = .ok (.goto 4, 3) := by decide +kernel
theorem dL_word_77 : decode cL_word 77 = .ok (.iconst 0, 1) := by decide +kernel
theorem dL_word_78 : decode cL_word 78 = .ok (.istore_n 2, 1) := by decide +kernel
theorem dL_word_79 : decode cL_word 79 = .ok (.iinc 3 1, 3) := by decide +kernel
theorem dL_word_82 : decode cL_word 82 = .ok (.goto (-67), 3) := by decide +kernel
theorem dL_word_85 : decode cL_word 85 = .ok (.iload_n 2, 1) := by decide +kernel
theorem dL_word_86 : decode cL_word 86 = .ok (.ireturn, 1) := by decide +kernel
set_option maxRecDepth 20000 in
theorem ggL_act_X5_count : GoodIn wsL_act wsX5_count := goodIn_r _ [6, 7, 8, 9, 10, 11, 12, 13, 14, 15, 16, 17, 18, 19, 20, 21, 22, 23, 5, 24, 25, 26, 27, 28, 29, 30, 31, 32, 33, 34, 35, 36, 37, 38, 39, 40, 41, 42, 43, 44, 45, 46, 47, 48, 49, 50, 51, 52, 53, 54, 55, 56, 57, 58, 59, 60, 61, 62, 63, 64, 296, 297, 298, 299, 300, 301, 302, 303, 304, 305, 306, 307, 308, 309, 310, 311, 312, 313, 314, 315, 316, 317, 318, 319, 320, 321, 322, 323, 324, 325, 326] (by decide +kernel) (by decide +kernel)
set_option maxRecDepth 20000 in
theorem gL_act_X5_count : GoodIn wsL_act (wsV RL 13 RX5 yX5_count wsX5_count) := goodIn_app (goodIn_of _ (by decide +kernel)) ggL_act_X5_count
set_option maxRecDepth 20000 in
theorem ggL_act_L_word : GoodIn wsL_act wsL_word := goodIn_r _ [68, 69, 70, 71, 5, 72, 10, 11, 73, 74, 75, 76, 77, 78, 79, 80, 81, 82, 83, 84, 85, 86, 87, 88, 89, 90, 91, 92, 93, 296, 297, 298, 299, 300, 301, 302, 303, 308, 309] (by decide +kernel) (by decide +kernel)
set_option maxRecDepth 20000 in
theorem gL_act_L_word : GoodIn wsL_act (va_wsS RL 89 yL_word wsL_word) := goodIn_app (goodIn_of _ (by decide +kernel)) ggL_act_L_word
set_option maxRecDepth 20000 in
theorem ggL_act_X5_find : GoodIn wsL_act wsX5_find := goodIn_r _ [97, 10, 7, 98, 99, 100, 76, 101, 78, 93, 102, 103, 104, 105, 106, 107, 108, 109, 110, 111, 112, 113, 114, 115, 116, 117, 118, 119, 120, 121, 122, 17, 123, 124, 125, 126, 127, 128, 19, 129, 130, 131, 132, 296, 297, 298, 299, 300, 301, 302, 303, 308, 309, 304, 305, 306, 307] (by decide +kernel) (by decide +kernel)
set_option maxRecDepth 20000 in
theorem gL_act_X5_find : GoodIn wsL_act (wsV RL 56 RX5 yX5_find wsX5_find) := goodIn_app (goodIn_of _ (by decide +kernel)) ggL_act_X5_find
set_option maxRecDepth 20000 in
theorem ggL_act_X5_entry : GoodIn wsL_act wsX5_entry := goodIn_r _ [136, 7, 137, 25, 138, 139, 140, 141, 130, 131, 17, 132, 19, 142, 56, 57, 32, 58, 59, 60, 143, 144, 145, 146, 124, 129, 147, 114, 111, 115, 116, 148, 149, 150, 113, 117, 118, 119, 151, 152, 5, 153, 296, 297, 298, 299, 300, 301, 302, 303, 304, 305, 306, 307, 312, 313, 314, 315, 316, 317, 318, 319, 320, 321, 322, 323, 324, 325, 326] (by decide +kernel) (by decide +kernel)
set_option maxRecDepth 20000 in
theorem gL_act_X5_entry : GoodIn wsL_act (wsV RL 19 RX5 yX5_entry wsX5_entry) := goodIn_app (goodIn_of _ (by decide +kernel)) ggL_act_X5_entry
set_option maxRecDepth 20000 in
theorem ggL_act_X5_put : GoodIn wsL_act wsX5_put := goodIn_r _ [82, 10, 11, 83, 84, 5, 85, 86, 87, 88, 89, 90, 91, 76, 92, 78, 93, 296, 297, 298, 299, 300, 301, 302, 303, 308, 309] (by decide +kernel) (by decide +kernel)
set_option maxRecDepth 20000 in
theorem gL_act_X5_put : GoodIn wsL_act (wsV RL 52 RX5 yX5_put wsX5_put) := goodIn_app (goodIn_of _ (by decide +kernel)) ggL_act_X5_put
set_option maxRecDepth 20000 in
theorem ggL_act_X5_read : GoodIn wsL_act wsX5_read := goodIn_r _ [157, 10, 158, 7, 12, 9, 159, 160, 161, 76, 162, 78, 93, 163, 164, 165, 102, 103, 104, 166, 167, 168, 169, 170, 171, 172, 173, 174, 17, 175, 176, 19, 20, 124, 177, 178, 179, 180, 109, 110, 111, 112, 113, 114, 115, 116, 117, 118, 119, 181, 182, 183, 184, 125, 126, 127, 128, 129, 130, 131, 132, 185, 186, 187, 188, 189, 190, 191, 192, 193, 194, 195, 196, 197, 198, 199, 200, 73, 74, 75, 77, 201, 202, 203, 5, 204, 25, 8, 205, 206, 207, 32, 208, 43, 34, 209, 210, 211, 212, 213, 214, 215, 216, 217, 218, 219, 220, 221, 222, 223, 224, 225, 226, 59, 227, 228, 229, 230, 231, 232, 233, 234, 44, 235, 50, 45, 236, 237, 238, 239, 60, 240, 241, 242, 243, 244, 245, 246, 247, 248, 249, 250, 251, 252, 253, 254, 255, 256, 257, 258, 259, 144, 145, 146, 260, 296, 297, 298, 299, 300, 301, 302, 303, 304, 305, 306, 307, 308, 309, 310, 311, 312, 313, 314, 315, 316, 317, 318, 319, 320, 321, 322, 323, 324, 325, 326] (by decide +kernel) (by decide +kernel)
set_option maxRecDepth 20000 in
theorem gL_act_X5_read : GoodIn wsL_act (wsV RL 44 RX5 yX5_read wsX5_read) := goodIn_app (goodIn_of _ (by decide +kernel)) ggL_act_X5_read
set_option maxRecDepth 20000 in
theorem ggL_act_X5_change : GoodIn wsL_act wsX5_change := goodIn_r _ [264, 7, 12, 137, 141, 130, 131, 17, 132, 19, 189, 190, 191, 192, 193, 194, 195, 196, 197, 198, 199, 200, 173, 174, 175, 176, 20, 124, 201, 202, 203, 5, 204, 25, 8, 205, 206, 207, 32, 208, 43, 34, 209, 210, 211, 212, 213, 214, 215, 216, 217, 218, 219, 220, 221, 222, 223, 224, 225, 226, 59, 227, 228, 229, 230, 231, 232, 233, 234, 44, 235, 50, 45, 236, 237, 238, 239, 60, 240, 241, 242, 243, 244, 245, 246, 247, 248, 249, 250, 251, 252, 253, 254, 255, 256, 257, 258, 259, 144, 145, 146, 129, 260, 114, 111, 115, 116, 296, 297, 298, 299, 300, 301, 302, 303, 304, 305, 306, 307, 310, 311, 312, 313, 314, 315, 316, 317, 318, 319, 320, 321, 322, 323, 324, 325, 326] (by decide +kernel) (by decide +kernel)
set_option maxRecDepth 20000 in
theorem gL_act_X5_change : GoodIn wsL_act (wsV RL 31 RX5 yX5_change wsX5_change) := goodIn_app (goodIn_of _ (by decide +kernel)) ggL_act_X5_change
set_option maxRecDepth 20000 in
theorem ggL_act_X5_drop : GoodIn wsL_act wsX5_drop := goodIn_r _ [268, 7, 12, 137, 141, 130, 131, 17, 132, 19, 189, 190, 191, 192, 193, 194, 195, 196, 197, 198, 199, 200, 173, 174, 175, 176, 20, 124, 269, 270, 271, 272, 129, 201, 202, 203, 5, 204, 25, 8, 205, 206, 207, 32, 208, 43, 34, 209, 210, 211, 212, 213, 214, 215, 216, 217, 218, 219, 220, 221, 222, 223, 224, 225, 226, 59, 227, 228, 229, 230, 231, 232, 233, 234, 44, 235, 50, 45, 236, 237, 238, 239, 60, 240, 241, 242, 243, 244, 245, 246, 247, 248, 249, 250, 251, 252, 253, 254, 255, 256, 257, 258, 259, 144, 145, 146, 260, 114, 111, 115, 116, 296, 297, 298, 299, 300, 301, 302, 303, 304, 305, 306, 307, 310, 311, 312, 313, 314, 315, 316, 317, 318, 319, 320, 321, 322, 323, 324, 325, 326] (by decide +kernel) (by decide +kernel)
set_option maxRecDepth 20000 in
theorem gL_act_X5_drop : GoodIn wsL_act (wsV RL 34 RX5 yX5_drop wsX5_drop) := goodIn_app (goodIn_of _ (by decide +kernel)) ggL_act_X5_drop
set_option maxRecDepth 20000 in
theorem ggL_act_X5_join : GoodIn wsL_act wsX5_join := goodIn_r _ [276, 7, 137, 12, 141, 130, 131, 17, 132, 19, 189, 190, 191, 192, 193, 194, 195, 196, 197, 198, 199, 200, 173, 174, 175, 176, 20, 124, 269, 270, 271, 272, 129, 201, 202, 203, 5, 204, 25, 8, 205, 206, 207, 32, 208, 43, 34, 209, 210, 211, 212, 213, 214, 215, 216, 217, 218, 219, 220, 221, 222, 223, 224, 225, 226, 59, 227, 228, 229, 230, 231, 232, 233, 234, 44, 235, 50, 45, 236, 237, 238, 239, 60, 240, 241, 242, 243, 244, 245, 246, 247, 248, 249, 250, 251, 252, 253, 254, 255, 256, 257, 258, 259, 144, 145, 146, 260, 114, 111, 115, 116, 296, 297, 298, 299, 300, 301, 302, 303, 304, 305, 306, 307, 310, 311, 312, 313, 314, 315, 316, 317, 318, 319, 320, 321, 322, 323, 324, 325, 326] (by decide +kernel) (by decide +kernel)
set_option maxRecDepth 20000 in
theorem gL_act_X5_join : GoodIn wsL_act (wsV RL 37 RX5 yX5_join wsX5_join) := goodIn_app (goodIn_of _ (by decide +kernel)) ggL_act_X5_join
set_option maxRecDepth 20000 in
theorem ggL_act_X5_rename : GoodIn wsL_act wsX5_rename := goodIn_r _ [280, 7, 10, 12, 137, 141, 130, 131, 17, 132, 19, 98, 99, 100, 76, 101, 78, 93, 102, 103, 104, 105, 106, 107, 108, 109, 110, 111, 112, 113, 114, 115, 116, 117, 118, 119, 120, 121, 122, 123, 124, 125, 126, 127, 128, 129, 189, 190, 191, 192, 193, 194, 195, 196, 197, 198, 199, 200, 173, 174, 175, 176, 20, 269, 270, 271, 272, 281, 182, 183, 184, 185, 186, 187, 188, 73, 74, 75, 77, 201, 202, 203, 5, 204, 25, 8, 205, 206, 207, 32, 208, 43, 34, 209, 210, 211, 212, 213, 214, 215, 216, 217, 218, 219, 220, 221, 222, 223, 224, 225, 226, 59, 227, 228, 229, 230, 231, 232, 233, 234, 44, 235, 50, 45, 236, 237, 238, 239, 60, 240, 241, 242, 243, 244, 245, 246, 247, 248, 249, 250, 251, 252, 253, 254, 255, 256, 257, 258, 259, 144, 145, 146, 260, 296, 297, 298, 299, 300, 301, 302, 303, 304, 305, 306, 307, 308, 309, 310, 311, 312, 313, 314, 315, 316, 317, 318, 319, 320, 321, 322, 323, 324, 325, 326] (by decide +kernel) (by decide +kernel)
set_option maxRecDepth 20000 in
theorem gL_act_X5_rename : GoodIn wsL_act (wsV RL 47 RX5 yX5_rename wsX5_rename) := goodIn_app (goodIn_of _ (by decide +kernel)) ggL_act_X5_rename
set_option maxRecDepth 20000 in
theorem ggL_act_X5_ifSet : GoodIn wsL_act wsX5_ifSet := goodIn_r _ [285, 7, 8, 286, 26, 287, 288, 5, 289, 290, 291, 205, 206, 207, 32, 208, 43, 34, 209, 210, 211, 212, 213, 214, 215, 216, 217, 218, 219, 220, 221, 222, 223, 224, 225, 226, 59, 227, 228, 229, 230, 231, 232, 233, 234, 44, 235, 50, 45, 236, 237, 238, 239, 60, 240, 241, 242, 243, 244, 245, 246, 247, 248, 249, 250, 251, 252, 253, 254, 255, 256, 257, 258, 259, 144, 145, 17, 146, 124, 129, 130, 131, 132, 19, 260, 114, 111, 115, 116, 296, 297, 298, 299, 300, 301, 302, 303, 304, 305, 306, 307, 312, 313, 314, 315, 316, 317, 318, 319, 320, 321, 322, 323, 324, 325, 326] (by decide +kernel) (by decide +kernel)
set_option maxRecDepth 20000 in
theorem gL_act_X5_ifSet : GoodIn wsL_act (wsV RL 66 RX5 yX5_ifSet wsX5_ifSet) := goodIn_app (goodIn_of _ (by decide +kernel)) ggL_act_X5_ifSet
set_option maxRecDepth 20000 in
theorem ggL_act_X5_set : GoodIn wsL_act wsX5_set := goodIn_r _ [295, 12, 7, 8, 287, 288, 5, 289, 290, 291, 189, 190, 191, 192, 193, 194, 195, 196, 197, 198, 199, 200, 173, 174, 17, 175, 176, 19, 20, 124, 201, 202, 203, 204, 25, 205, 206, 207, 32, 208, 43, 34, 209, 210, 211, 212, 213, 214, 215, 216, 217, 218, 219, 220, 221, 222, 223, 224, 225, 226, 59, 227, 228, 229, 230, 231, 232, 233, 234, 44, 235, 50, 45, 236, 237, 238, 239, 60, 240, 241, 242, 243, 244, 245, 246, 247, 248, 249, 250, 251, 252, 253, 254, 255, 256, 257, 258, 259, 144, 145, 146, 129, 130, 131, 132, 260, 114, 111, 115, 116, 296, 297, 298, 299, 300, 301, 302, 303, 304, 305, 306, 307, 310, 311, 312, 313, 314, 315, 316, 317, 318, 319, 320, 321, 322, 323, 324, 325, 326] (by decide +kernel) (by decide +kernel)
set_option maxRecDepth 20000 in
theorem gL_act_X5_set : GoodIn wsL_act (wsV RL 28 RX5 yX5_set wsX5_set) := goodIn_app (goodIn_of _ (by decide +kernel)) ggL_act_X5_set
theorem dL_act_0 : decode cL_act 0 = .ok (.iload_n 1, 1) := by decide +kernel
theorem dL_act_1 : decode cL_act 1 = .ok (.bipush 12, 2) := by decide +kernel
theorem dL_act_3 : decode cL_act 3 = .ok (.irem, 1) := by decide +kernel
theorem dL_act_4 : decode cL_act 4 = .ok (.istore_n 3, 1) := by decide +kernel
theorem dL_act_5 : decode cL_act 5 = .ok (.aload_n 0, 1) := by decide +kernel
theorem dL_act_6 : decode cL_act 6 = .ok (.iconst 3, 1) := by decide +kernel
theorem dL_act_7 : decode cL_act 7 = .ok (.invokevirtual 13, 3) := by decide +kernel
theorem dL_act_10 : decode cL_act 10 = .ok (.istore 4, 2) := by decide +kernel
theorem dL_act_12 : decode cL_act 12 = .ok (.aload_n 0, 1) := by decide +kernel
theorem dL_act_13 : decode cL_act 13 = .ok (.bipush 6, 2) := by decide +kernel
theorem dL_act_15 : decode cL_act 15 = .ok (.invokevirtual 13, 3) := by decide +kernel
theorem dL_act_18 : decode cL_act 18 = .ok (.istore 5, 2) := by decide +kernel
theorem dL_act_20 : decode cL_act 20 = .ok (.iload 4, 2) := by decide +kernel
theorem dL_act_22 : decode cL_act 22 = .ok (.ifCond .ne 7, 3) := by decide +kernel
theorem dL_act_25 : decode cL_act 25 = .ok (.iconst 0, 1) := by decide +kernel
theorem dL_act_26 : decode cL_act 26 = .ok (.goto 7, 3) := by decide +kernel
theorem dL_act_29 : decode cL_act 29 = .ok (.iload_n 2, 1) := by decide +kernel
theorem dL_act_30 : decode cL_act 30 = .ok (.iload 4, 2) := by decide +kernel
theorem dL_act_32 : decode cL_act 32 = .ok (.irem, 1) := by decide +kernel
theorem dL_act_33 : decode cL_act 33 = .ok (.istore 6, 2) := by decide +kernel
theorem dL_act_35 : decode cL_act 35 = .ok (.iload_n 3, 1) := by decide +kernel
theorem dL_act_36 : decode cL_act 36 = .ok (.bipush 6, 2) := by decide +kernel
theorem dL_act_38 : decode cL_act 38 = .ok (.if_icmp .ge 208, 3) := by decide +kernel
theorem dL_act_41 : decode cL_act 41 = .ok (.iconst 1, 1) := by decide +kernel
theorem dL_act_42 : decode cL_act 42 = .ok (.iload_n 2, 1) := by decide +kernel
theorem dL_act_43 : decode cL_act 43 = .ok (.bipush 40, 2) := by decide +kernel
theorem dL_act_45 : decode cL_act 45 = .ok (.irem, 1) := by decide +kernel
theorem dL_act_46 : decode cL_act 46 = .ok (.iadd, 1) := by decide +kernel
theorem dL_act_47 : decode cL_act 47 = .ok (.istore 7, 2) := by decide +kernel
theorem dL_act_49 : decode cL_act 49 = .ok (.aload_n 0, 1) := by decide +kernel
theorem dL_act_50 : decode cL_act 50 = .ok (.iload_n 1, 1) := by decide +kernel
theorem dL_act_51 : decode cL_act 51 = .ok (.bipush 12, 2) := by decide +kernel
theorem dL_act_53 : decode cL_act 53 = .ok (.idiv, 1) := by decide +kernel
theorem dL_act_54 : decode cL_act 54 = .ok (.invokestatic 89, 3) := by decide +kernel
theorem dL_act_57 : decode cL_act 57 = .ok (.istore 8, 2) := by decide +kernel
theorem dL_act_59 : decode cL_act 59 = .ok (.aload_n 0, 1) := by decide +kernel
theorem dL_act_60 : decode cL_act 60 = .ok (.invokevirtual 56, 3) := by decide +kernel
theorem dL_act_63 : decode cL_act 63 = .ok (.istore 9, 2) := by decide +kernel
theorem dL_act_65 : decode cL_act 65 = .ok (.iload 9, 2) := by decide +kernel
theorem dL_act_67 : decode cL_act 67 = .ok (.ifCond .ge 7, 3) := by decide +kernel
theorem dL_act_70 : decode cL_act 70 = .ok (.iconst 0, 1) := by decide +kernel
theorem dL_act_71 : decode cL_act 71 = .ok (.goto 10, 3) := by decide +kernel
theorem dL_act_74 : decode cL_act 74 = .ok (.aload_n 0, 1) := by decide +kernel
theorem dL_act_75 : decode cL_act 75 = .ok (.iload 9, 2) := by decide +kernel
theorem dL_act_77 : decode cL_act 77 = .ok (.iconst 0, 1) := by decide +kernel
theorem dL_act_78 : decode cL_act 78 = .ok (.invokevirtual 19, 3) := by decide +kernel
theorem dL_act_81 : decode cL_act 81 = .ok (.istore 10, 2) := by decide +kernel
theorem dL_act_83 : decode cL_act 83 = .ok (.iload 8, 2) := by decide +kernel
theorem dL_act_85 : decode cL_act 85 = .ok (.ifCond .eq 56, 3) := by decide +kernel
theorem dL_act_88 : decode cL_act 88 = .ok (.aload_n 0, 1) := by decide +kernel
theorem dL_act_89 : decode cL_act 89 = .ok (.ldc2_w 92, 3) := by decide +kernel
theorem dL_act_92 : decode cL_act 92 = .ok (.invokevirtual 52, 3) := by decide +kernel
theorem dL_act_95 : decode cL_act 95 = .ok (.ifCond .le 46, 3) := by decide +kernel
theorem dL_act_98 : decode cL_act 98 = .ok (.iload 7, 2) := by decide +kernel
theorem dL_act_100 : decode cL_act 100 = .ok (.bipush 10, 2) := by decide +kernel
theorem dL_act_102 : decode cL_act 102 = .ok (.if_icmp .lt 19, 3) := by decide +kernel
theorem dL_act_105 : decode cL_act 105 = .ok (.aload_n 0, 1) := by decide +kernel
theorem dL_act_106 : decode cL_act 106 = .ok (.bipush 48, 2) := by decide +kernel
theorem dL_act_108 : decode cL_act 108 = .ok (.iload 7, 2) := by decide +kernel
theorem dL_act_110 : decode cL_act 110 = .ok (.bipush 10, 2) := by decide +kernel
theorem dL_act_112 : decode cL_act 112 = .ok (.idiv, 1) := by decide +kernel
theorem dL_act_113 : decode cL_act 113 = .ok (.iadd, 1) := by decide +kernel
theorem dL_act_114 : decode cL_act 114 = .ok (.i2l, 1) := by decide +kernel
theorem dL_act_115 : decode cL_act 115 = .ok (.invokevirtual 52, 3) := by decide +kernel
theorem dL_act_118 : decode cL_act 118 = .ok (.ifCond .le 23, 3) := by decide +kernel
theorem dL_act_121 : decode cL_act 121 = .ok (.aload_n 0, 1) := by decide +kernel
theorem dL_act_122 : decode cL_act 122 = .ok (.bipush 48, 2) := by decide +kernel
theorem dL_act_124 : decode cL_act 124 = .ok (.iload 7, 2) := by decide +kernel
theorem dL_act_126 : decode cL_act 126 = .ok (.bipush 10, 2) := by decide +kernel
theorem dL_act_128 : decode cL_act 128 = .ok (.irem, 1) := by decide +kernel
theorem dL_act_129 : decode cL_act 129 = .ok (.iadd, 1) := by decide +kernel
theorem dL_act_130 : decode cL_act 130 = .ok (.i2l, 1) := by decide +kernel
theorem dL_act_131 : decode cL_act 131 = .ok (.invokevirtual 52, 3) := by decide +kernel
theorem dL_act_134 : decode cL_act 134 = .ok (.ifCond .le 7, 3) := by decide +kernel
theorem dL_act_137 : decode cL_act 137 = .ok (.iconst 1, 1) := by decide +kernel
theorem dL_act_138 : decode cL_act 138 = .ok (.goto 4, 3) := by decide +kernel
theorem dL_act_141 : decode cL_act 141 = .ok (.iconst 0, 1) := by decide +kernel
theorem dL_act_142 : decode cL_act 142 = .ok (.istore 8, 2) := by decide +kernel
theorem dL_act_144 : decode cL_act 144 = .ok (.iload 8, 2) := by decide +kernel
theorem dL_act_146 : decode cL_act 146 = .ok (.ifCond .eq 10, 3) := by decide +kernel
theorem dL_act_149 : decode cL_act 149 = .ok (.aload_n 0, 1) := by decide +kernel
theorem dL_act_150 : decode cL_act 150 = .ok (.invokevirtual 44, 3) := by decide +kernel
theorem dL_act_153 : decode cL_act 153 = .ok (.goto 4, 3) := by decide +kernel
theorem dL_act_156 : decode cL_act 156 = .ok (.iconst 0, 1) := by decide +kernel
theorem dL_act_157 : decode cL_act 157 = .ok (.istore 11, 2) := by decide +kernel
theorem dL_act_159 : decode cL_act 159 = .ok (.iload 9, 2) := by decide +kernel
theorem dL_act_161 : decode cL_act 161 = .ok (.ifCond .ge 33, 3) := by decide +kernel
theorem dL_act_164 : decode cL_act 164 = .ok (.iload 4, 2) := by decide +kernel
theorem dL_act_166 : decode cL_act 166 = .ok (.bipush 30, 2) := by decide +kernel
theorem dL_act_168 : decode cL_act 168 = .ok (.if_icmp .ne 26, 3) := by decide +kernel
theorem dL_act_171 : decode cL_act 171 = .ok (.iload 11, 2) := by decide +kernel
theorem dL_act_173 : decode cL_act 173 = .ok (.bipush (-4), 2) := by decide +kernel
theorem dL_act_175 : decode cL_act 175 = .ok (.if_icmp .ne 16, 3) := by decide +kernel
theorem dL_act_178 : decode cL_act 178 = .ok (.aload_n 0, 1) := by decide +kernel
theorem dL_act_179 : decode cL_act 179 = .ok (.bipush 13, 2) := by decide +kernel
theorem dL_act_181 : decode cL_act 181 = .ok (.invokevirtual 13, 3) := by decide +kernel
theorem dL_act_184 : decode cL_act 184 = .ok (.ifCond .le 7, 3) := by decide +kernel
theorem dL_act_187 : decode cL_act 187 = .ok (.iconst 0, 1) := by decide +kernel
theorem dL_act_188 : decode cL_act 188 = .ok (.goto 5, 3) := by decide +kernel
theorem dL_act_191 : decode cL_act 191 = .ok (.bipush (-9), 2) := by decide +kernel
theorem dL_act_193 : decode cL_act 193 = .ok (.ireturn, 1) := by decide +kernel
theorem dL_act_194 : decode cL_act 194 = .ok (.iload 11, 2) := by decide +kernel
theorem dL_act_196 : decode cL_act 196 = .ok (.iload 9, 2) := by decide +kernel
theorem dL_act_198 : decode cL_act 198 = .ok (.ifCond .ge 10, 3) := by decide +kernel
theorem dL_act_201 : decode cL_act 201 = .ok (.iload 4, 2) := by decide +kernel
theorem dL_act_203 : decode cL_act 203 = .ok (.iconst 1, 1) := by decide +kernel
theorem dL_act_204 : decode cL_act 204 = .ok (.iadd, 1) := by decide +kernel
theorem dL_act_205 : decode cL_act 205 = .ok (.goto 5, 3) := by decide +kernel
theorem dL_act_208 : decode cL_act 208 = .ok (.iload 4, 2) := by decide +kernel
theorem dL_act_210 : decode cL_act 210 = .ok (.if_icmp .ne 33, 3) := by decide +kernel
theorem dL_act_213 : decode cL_act 213 = .ok (.aload_n 0, 1) := by decide +kernel
theorem dL_act_214 : decode cL_act 214 = .ok (.bipush 6, 2) := by decide +kernel
theorem dL_act_216 : decode cL_act 216 = .ok (.invokevirtual 13, 3) := by decide +kernel
theorem dL_act_219 : decode cL_act 219 = .ok (.iload 5, 2) := by decide +kernel
theorem dL_act_221 : decode cL_act 221 = .ok (.iload 7, 2) := by decide +kernel
theorem dL_act_223 : decode cL_act 223 = .ok (.iadd, 1) := by decide +kernel
theorem dL_act_224 : decode cL_act 224 = .ok (.iload 10, 2) := by decide +kernel
theorem dL_act_226 : decode cL_act 226 = .ok (.isub, 1) := by decide +kernel
theorem dL_act_227 : decode cL_act 227 = .ok (.if_icmp .ne 16, 3) := by decide +kernel
theorem dL_act_230 : decode cL_act 230 = .ok (.aload_n 0, 1) := by decide +kernel
theorem dL_act_231 : decode cL_act 231 = .ok (.bipush 13, 2) := by decide +kernel
theorem dL_act_233 : decode cL_act 233 = .ok (.invokevirtual 13, 3) := by decide +kernel
theorem dL_act_236 : decode cL_act 236 = .ok (.ifCond .ne 7, 3) := by decide +kernel
theorem dL_act_239 : decode cL_act 239 = .ok (.iconst 1, 1) := by decide +kernel
theorem dL_act_240 : decode cL_act 240 = .ok (.goto 5, 3) := by decide +kernel
theorem dL_act_243 : decode cL_act 243 = .ok (.bipush (-9), 2) := by decide +kernel
theorem dL_act_245 : decode cL_act 245 = .ok (.ireturn, 1) := by decide +kernel
theorem dL_act_246 : decode cL_act 246 = .ok (.iload_n 3, 1) := by decide +kernel
theorem dL_act_247 : decode cL_act 247 = .ok (.bipush 6, 2) := by decide +kernel
theorem dL_act_249 : decode cL_act 249 = .ok (.if_icmp .ne 94, 3) := by decide +kernel
theorem dL_act_252 : decode cL_act 252 = .ok (.iload 4, 2) := by decide +kernel
theorem dL_act_254 : decode cL_act 254 = .ok (.ifCond .ne 7, 3) := by decide +kernel
theorem dL_act_257 : decode cL_act 257 = .ok (.iconst 0, 1) := by decide +kernel
theorem dL_act_258 : decode cL_act 258 = .ok (.goto 10, 3) := by decide +kernel
theorem dL_act_261 : decode cL_act 261 = .ok (.aload_n 0, 1) := by decide +kernel
theorem dL_act_262 : decode cL_act 262 = .ok (.iload 6, 2) := by decide +kernel
theorem dL_act_264 : decode cL_act 264 = .ok (.iconst 0, 1) := by decide +kernel
theorem dL_act_265 : decode cL_act 265 = .ok (.invokevirtual 19, 3) := by decide +kernel
theorem dL_act_268 : decode cL_act 268 = .ok (.istore 7, 2) := by decide +kernel
theorem dL_act_270 : decode cL_act 270 = .ok (.aload_n 0, 1) := by decide +kernel
theorem dL_act_271 : decode cL_act 271 = .ok (.iload 6, 2) := by decide +kernel
theorem dL_act_273 : decode cL_act 273 = .ok (.iconst 1, 1) := by decide +kernel
theorem dL_act_274 : decode cL_act 274 = .ok (.iload_n 2, 1) := by decide +kernel
theorem dL_act_275 : decode cL_act 275 = .ok (.iconst 3, 1) := by decide +kernel
theorem dL_act_276 : decode cL_act 276 = .ok (.idiv, 1) := by decide +kernel
theorem dL_act_277 : decode cL_act 277 = .ok (.bipush 40, 2) := by decide +kernel
theorem dL_act_279 : decode cL_act 279 = .ok (.irem, 1) := by decide +kernel
theorem dL_act_280 : decode cL_act 280 = .ok (.iadd, 1) := by decide +kernel
theorem dL_act_281 : decode cL_act 281 = .ok (.invokevirtual 31, 3) := by decide +kernel
theorem dL_act_284 : decode cL_act 284 = .ok (.istore 8, 2) := by decide +kernel
theorem dL_act_286 : decode cL_act 286 = .ok (.iload 4, 2) := by decide +kernel
theorem dL_act_288 : decode cL_act 288 = .ok (.ifCond .ne 18, 3) := by decide +kernel
theorem dL_act_291 : decode cL_act 291 = .ok (.iload 8, 2) := by decide +kernel
theorem dL_act_293 : decode cL_act 293 = .ok (.iconst (-1), 1) := by decide +kernel
theorem dL_act_294 : decode cL_act 294 = .ok (.if_icmp .ne 7, 3) := by decide +kernel
theorem dL_act_297 : decode cL_act 297 = .ok (.iconst 0, 1) := by decide +kernel
theorem dL_act_298 : decode cL_act 298 = .ok (.goto 44, 3) := by decide +kernel
theorem dL_act_301 : decode cL_act 301 = .ok (.bipush (-9), 2) := by decide +kernel
theorem dL_act_303 : decode cL_act 303 = .ok (.goto 39, 3) := by decide +kernel
theorem dL_act_306 : decode cL_act 306 = .ok (.iload 8, 2) := by decide +kernel
theorem dL_act_308 : decode cL_act 308 = .ok (.iload 7, 2) := by decide +kernel
theorem dL_act_310 : decode cL_act 310 = .ok (.if_icmp .ne 30, 3) := by decide +kernel
theorem dL_act_313 : decode cL_act 313 = .ok (.aload_n 0, 1) := by decide +kernel
theorem dL_act_314 : decode cL_act 314 = .ok (.bipush 6, 2) := by decide +kernel
theorem dL_act_316 : decode cL_act 316 = .ok (.invokevirtual 13, 3) := by decide +kernel
theorem dL_act_319 : decode cL_act 319 = .ok (.iload 5, 2) := by decide +kernel
theorem dL_act_321 : decode cL_act 321 = .ok (.iload 7, 2) := by decide +kernel
theorem dL_act_323 : decode cL_act 323 = .ok (.isub, 1) := by decide +kernel
theorem dL_act_324 : decode cL_act 324 = .ok (.iconst 1, 1) := by decide +kernel
theorem dL_act_325 : decode cL_act 325 = .ok (.iadd, 1) := by decide +kernel
theorem dL_act_326 : decode cL_act 326 = .ok (.iload_n 2, 1) := by decide +kernel
theorem dL_act_327 : decode cL_act 327 = .ok (.iconst 3, 1) := by decide +kernel
theorem dL_act_328 : decode cL_act 328 = .ok (.idiv, 1) := by decide +kernel
theorem dL_act_329 : decode cL_act 329 = .ok (.bipush 40, 2) := by decide +kernel
theorem dL_act_331 : decode cL_act 331 = .ok (.irem, 1) := by decide +kernel
theorem dL_act_332 : decode cL_act 332 = .ok (.iadd, 1) := by decide +kernel
theorem dL_act_333 : decode cL_act 333 = .ok (.if_icmp .ne 7, 3) := by decide +kernel
theorem dL_act_336 : decode cL_act 336 = .ok (.iconst 1, 1) := by decide +kernel
theorem dL_act_337 : decode cL_act 337 = .ok (.goto 5, 3) := by decide +kernel
theorem dL_act_340 : decode cL_act 340 = .ok (.bipush (-9), 2) := by decide +kernel
theorem dL_act_342 : decode cL_act 342 = .ok (.ireturn, 1) := by decide +kernel
theorem dL_act_343 : decode cL_act 343 = .ok (.iload_n 3, 1) := by decide +kernel
theorem dL_act_344 : decode cL_act 344 = .ok (.bipush 7, 2) := by decide +kernel
theorem dL_act_346 : decode cL_act 346 = .ok (.if_icmp .ne 89, 3) := by decide +kernel
theorem dL_act_349 : decode cL_act 349 = .ok (.iload 4, 2) := by decide +kernel
theorem dL_act_351 : decode cL_act 351 = .ok (.ifCond .ne 7, 3) := by decide +kernel
theorem dL_act_354 : decode cL_act 354 = .ok (.iconst 0, 1) := by decide +kernel
theorem dL_act_355 : decode cL_act 355 = .ok (.goto 10, 3) := by decide +kernel
theorem dL_act_358 : decode cL_act 358 = .ok (.aload_n 0, 1) := by decide +kernel
theorem dL_act_359 : decode cL_act 359 = .ok (.iload 6, 2) := by decide +kernel
theorem dL_act_361 : decode cL_act 361 = .ok (.iconst 0, 1) := by decide +kernel
theorem dL_act_362 : decode cL_act 362 = .ok (.invokevirtual 19, 3) := by decide +kernel
theorem dL_act_365 : decode cL_act 365 = .ok (.istore 7, 2) := by decide +kernel
theorem dL_act_367 : decode cL_act 367 = .ok (.aload_n 0, 1) := by decide +kernel
theorem dL_act_368 : decode cL_act 368 = .ok (.iload 6, 2) := by decide +kernel
theorem dL_act_370 : decode cL_act 370 = .ok (.invokevirtual 34, 3) := by decide +kernel
theorem dL_act_373 : decode cL_act 373 = .ok (.istore 8, 2) := by decide +kernel
theorem dL_act_375 : decode cL_act 375 = .ok (.iload 4, 2) := by decide +kernel
theorem dL_act_377 : decode cL_act 377 = .ok (.ifCond .ne 18, 3) := by decide +kernel
theorem dL_act_380 : decode cL_act 380 = .ok (.iload 8, 2) := by decide +kernel
theorem dL_act_382 : decode cL_act 382 = .ok (.iconst (-1), 1) := by decide +kernel
theorem dL_act_383 : decode cL_act 383 = .ok (.if_icmp .ne 7, 3) := by decide +kernel
theorem dL_act_386 : decode cL_act 386 = .ok (.iconst 0, 1) := by decide +kernel
theorem dL_act_387 : decode cL_act 387 = .ok (.goto 47, 3) := by decide +kernel
theorem dL_act_390 : decode cL_act 390 = .ok (.bipush (-9), 2) := by decide +kernel
theorem dL_act_392 : decode cL_act 392 = .ok (.goto 42, 3) := by decide +kernel
theorem dL_act_395 : decode cL_act 395 = .ok (.iload 8, 2) := by decide +kernel
theorem dL_act_397 : decode cL_act 397 = .ok (.iload 7, 2) := by decide +kernel
theorem dL_act_399 : decode cL_act 399 = .ok (.if_icmp .ne 33, 3) := by decide +kernel
theorem dL_act_402 : decode cL_act 402 = .ok (.aload_n 0, 1) := by decide +kernel
theorem dL_act_403 : decode cL_act 403 = .ok (.iconst 3, 1) := by decide +kernel
theorem dL_act_404 : decode cL_act 404 = .ok (.invokevirtual 13, 3) := by decide +kernel
theorem dL_act_407 : decode cL_act 407 = .ok (.iload 4, 2) := by decide +kernel
theorem dL_act_409 : decode cL_act 409 = .ok (.iconst 1, 1) := by decide +kernel
theorem dL_act_410 : decode cL_act 410 = .ok (.isub, 1) := by decide +kernel
theorem dL_act_411 : decode cL_act 411 = .ok (.if_icmp .ne 21, 3) := by decide +kernel
theorem dL_act_414 : decode cL_act 414 = .ok (.aload_n 0, 1) := by decide +kernel
theorem dL_act_415 : decode cL_act 415 = .ok (.bipush 6, 2) := by decide +kernel
theorem dL_act_417 : decode cL_act 417 = .ok (.invokevirtual 13, 3) := by decide +kernel
theorem dL_act_420 : decode cL_act 420 = .ok (.iload 5, 2) := by decide +kernel
theorem dL_act_422 : decode cL_act 422 = .ok (.iload 7, 2) := by decide +kernel
theorem dL_act_424 : decode cL_act 424 = .ok (.isub, 1) := by decide +kernel
theorem dL_act_425 : decode cL_act 425 = .ok (.if_icmp .ne 7, 3) := by decide +kernel
theorem dL_act_428 : decode cL_act 428 = .ok (.iconst 1, 1) := by decide +kernel
theorem dL_act_429 : decode cL_act 429 = .ok (.goto 5, 3) := by decide +kernel
theorem dL_act_432 : decode cL_act 432 = .ok (.bipush (-9), 2) := by decide +kernel
theorem dL_act_434 : decode cL_act 434 = .ok (.ireturn, 1) := by decide +kernel
theorem dL_act_435 : decode cL_act 435 = .ok (.iload_n 3, 1) := by decide +kernel
theorem dL_act_436 : decode cL_act 436 = .ok (.bipush 8, 2) := by decide +kernel
theorem dL_act_438 : decode cL_act 438 = .ok (.if_icmp .ne 127, 3) := by decide +kernel
theorem dL_act_441 : decode cL_act 441 = .ok (.iload 6, 2) := by decide +kernel
theorem dL_act_443 : decode cL_act 443 = .ok (.iconst 1, 1) := by decide +kernel
theorem dL_act_444 : decode cL_act 444 = .ok (.iadd, 1) := by decide +kernel
theorem dL_act_445 : decode cL_act 445 = .ok (.iload 4, 2) := by decide +kernel
theorem dL_act_447 : decode cL_act 447 = .ok (.if_icmp .ge 23, 3) := by decide +kernel
theorem dL_act_450 : decode cL_act 450 = .ok (.aload_n 0, 1) := by decide +kernel
theorem dL_act_451 : decode cL_act 451 = .ok (.iload 6, 2) := by decide +kernel
theorem dL_act_453 : decode cL_act 453 = .ok (.iconst 0, 1) := by decide +kernel
theorem dL_act_454 : decode cL_act 454 = .ok (.invokevirtual 19, 3) := by decide +kernel
theorem dL_act_457 : decode cL_act 457 = .ok (.aload_n 0, 1) := by decide +kernel
theorem dL_act_458 : decode cL_act 458 = .ok (.iload 6, 2) := by decide +kernel
theorem dL_act_460 : decode cL_act 460 = .ok (.iconst 1, 1) := by decide +kernel
theorem dL_act_461 : decode cL_act 461 = .ok (.iadd, 1) := by decide +kernel
theorem dL_act_462 : decode cL_act 462 = .ok (.iconst 0, 1) := by decide +kernel
theorem dL_act_463 : decode cL_act 463 = .ok (.invokevirtual 19, 3) := by decide +kernel
theorem dL_act_466 : decode cL_act 466 = .ok (.iadd, 1) := by decide +kernel
theorem dL_act_467 : decode cL_act 467 = .ok (.goto 4, 3) := by decide +kernel
theorem dL_act_470 : decode cL_act 470 = .ok (.iconst 0, 1) := by decide +kernel
theorem dL_act_471 : decode cL_act 471 = .ok (.istore 7, 2) := by decide +kernel
theorem dL_act_473 : decode cL_act 473 = .ok (.aload_n 0, 1) := by decide +kernel
theorem dL_act_474 : decode cL_act 474 = .ok (.iload 6, 2) := by decide +kernel
theorem dL_act_476 : decode cL_act 476 = .ok (.invokevirtual 37, 3) := by decide +kernel
theorem dL_act_479 : decode cL_act 479 = .ok (.istore 8, 2) := by decide +kernel
theorem dL_act_481 : decode cL_act 481 = .ok (.iload 7, 2) := by decide +kernel
theorem dL_act_483 : decode cL_act 483 = .ok (.ifCond .eq 10, 3) := by decide +kernel
theorem dL_act_486 : decode cL_act 486 = .ok (.iload 7, 2) := by decide +kernel
theorem dL_act_488 : decode cL_act 488 = .ok (.bipush 40, 2) := by decide +kernel
theorem dL_act_490 : decode cL_act 490 = .ok (.if_icmp .le 26, 3) := by decide +kernel
theorem dL_act_493 : decode cL_act 493 = .ok (.iload 8, 2) := by decide +kernel
theorem dL_act_495 : decode cL_act 495 = .ok (.iload 7, 2) := by decide +kernel
theorem dL_act_497 : decode cL_act 497 = .ok (.ifCond .ne 7, 3) := by decide +kernel
theorem dL_act_500 : decode cL_act 500 = .ok (.iconst (-1), 1) := by decide +kernel
theorem dL_act_501 : decode cL_act 501 = .ok (.goto 5, 3) := by decide +kernel
theorem dL_act_504 : decode cL_act 504 = .ok (.bipush (-4), 2) := by decide +kernel
theorem dL_act_506 : decode cL_act 506 = .ok (.if_icmp .ne 7, 3) := by decide +kernel
theorem dL_act_509 : decode cL_act 509 = .ok (.iconst 0, 1) := by decide +kernel
theorem dL_act_510 : decode cL_act 510 = .ok (.goto 5, 3) := by decide +kernel
theorem dL_act_513 : decode cL_act 513 = .ok (.bipush (-9), 2) := by decide +kernel
theorem dL_act_515 : decode cL_act 515 = .ok (.ireturn, 1) := by decide +kernel
theorem dL_act_516 : decode cL_act 516 = .ok (.iload 8, 2) := by decide +kernel
theorem dL_act_518 : decode cL_act 518 = .ok (.iload 7, 2) := by decide +kernel
theorem dL_act_520 : decode cL_act 520 = .ok (.if_icmp .ne 42, 3) := by decide +kernel
theorem dL_act_523 : decode cL_act 523 = .ok (.aload_n 0, 1) := by decide +kernel
theorem dL_act_524 : decode cL_act 524 = .ok (.iconst 3, 1) := by decide +kernel
theorem dL_act_525 : decode cL_act 525 = .ok (.invokevirtual 13, 3) := by decide +kernel
theorem dL_act_528 : decode cL_act 528 = .ok (.iload 4, 2) := by decide +kernel
theorem dL_act_530 : decode cL_act 530 = .ok (.iconst 1, 1) := by decide +kernel
theorem dL_act_531 : decode cL_act 531 = .ok (.isub, 1) := by decide +kernel
theorem dL_act_532 : decode cL_act 532 = .ok (.if_icmp .ne 30, 3) := by decide +kernel
theorem dL_act_535 : decode cL_act 535 = .ok (.aload_n 0, 1) := by decide +kernel
theorem dL_act_536 : decode cL_act 536 = .ok (.bipush 6, 2) := by decide +kernel
theorem dL_act_538 : decode cL_act 538 = .ok (.invokevirtual 13, 3) := by decide +kernel
theorem dL_act_541 : decode cL_act 541 = .ok (.iload 5, 2) := by decide +kernel
theorem dL_act_543 : decode cL_act 543 = .ok (.if_icmp .ne 19, 3) := by decide +kernel
theorem dL_act_546 : decode cL_act 546 = .ok (.aload_n 0, 1) := by decide +kernel
theorem dL_act_547 : decode cL_act 547 = .ok (.iload 6, 2) := by decide +kernel
theorem dL_act_549 : decode cL_act 549 = .ok (.iconst 0, 1) := by decide +kernel
theorem dL_act_550 : decode cL_act 550 = .ok (.invokevirtual 19, 3) := by decide +kernel
theorem dL_act_553 : decode cL_act 553 = .ok (.iload 7, 2) := by decide +kernel
theorem dL_act_555 : decode cL_act 555 = .ok (.if_icmp .ne 7, 3) := by decide +kernel
theorem dL_act_558 : decode cL_act 558 = .ok (.iconst 1, 1) := by decide +kernel
theorem dL_act_559 : decode cL_act 559 = .ok (.goto 5, 3) := by decide +kernel
theorem dL_act_562 : decode cL_act 562 = .ok (.bipush (-9), 2) := by decide +kernel
theorem dL_act_564 : decode cL_act 564 = .ok (.ireturn, 1) := by decide +kernel
theorem dL_act_565 : decode cL_act 565 = .ok (.iload_n 3, 1) := by decide +kernel
theorem dL_act_566 : decode cL_act 566 = .ok (.bipush 9, 2) := by decide +kernel
theorem dL_act_568 : decode cL_act 568 = .ok (.if_icmp .ne 159, 3) := by decide +kernel
theorem dL_act_571 : decode cL_act 571 = .ok (.aload_n 0, 1) := by decide +kernel
theorem dL_act_572 : decode cL_act 572 = .ok (.iload_n 1, 1) := by decide +kernel
theorem dL_act_573 : decode cL_act 573 = .ok (.bipush 12, 2) := by decide +kernel
theorem dL_act_575 : decode cL_act 575 = .ok (.idiv, 1) := by decide +kernel
theorem dL_act_576 : decode cL_act 576 = .ok (.invokestatic 89, 3) := by decide +kernel
theorem dL_act_579 : decode cL_act 579 = .ok (.istore 7, 2) := by decide +kernel
theorem dL_act_581 : decode cL_act 581 = .ok (.aload_n 0, 1) := by decide +kernel
theorem dL_act_582 : decode cL_act 582 = .ok (.invokevirtual 56, 3) := by decide +kernel
theorem dL_act_585 : decode cL_act 585 = .ok (.istore 8, 2) := by decide +kernel
theorem dL_act_587 : decode cL_act 587 = .ok (.iload 4, 2) := by decide +kernel
theorem dL_act_589 : decode cL_act 589 = .ok (.ifCond .ne 7, 3) := by decide +kernel
theorem dL_act_592 : decode cL_act 592 = .ok (.iconst 0, 1) := by decide +kernel
theorem dL_act_593 : decode cL_act 593 = .ok (.goto 10, 3) := by decide +kernel
theorem dL_act_596 : decode cL_act 596 = .ok (.aload_n 0, 1) := by decide +kernel
theorem dL_act_597 : decode cL_act 597 = .ok (.iload 6, 2) := by decide +kernel
theorem dL_act_599 : decode cL_act 599 = .ok (.iconst 0, 1) := by decide +kernel
theorem dL_act_600 : decode cL_act 600 = .ok (.invokevirtual 19, 3) := by decide +kernel
theorem dL_act_603 : decode cL_act 603 = .ok (.istore 9, 2) := by decide +kernel
theorem dL_act_605 : decode cL_act 605 = .ok (.aload_n 0, 1) := by decide +kernel
theorem dL_act_606 : decode cL_act 606 = .ok (.iload 6, 2) := by decide +kernel
theorem dL_act_608 : decode cL_act 608 = .ok (.invokevirtual 47, 3) := by decide +kernel
theorem dL_act_611 : decode cL_act 611 = .ok (.istore 10, 2) := by decide +kernel
theorem dL_act_613 : decode cL_act 613 = .ok (.iload 4, 2) := by decide +kernel
theorem dL_act_615 : decode cL_act 615 = .ok (.ifCond .eq 15, 3) := by decide +kernel
theorem dL_act_618 : decode cL_act 618 = .ok (.iload 8, 2) := by decide +kernel
theorem dL_act_620 : decode cL_act 620 = .ok (.ifCond .lt 38, 3) := by decide +kernel
theorem dL_act_623 : decode cL_act 623 = .ok (.iload 8, 2) := by decide +kernel
theorem dL_act_625 : decode cL_act 625 = .ok (.iload 6, 2) := by decide +kernel
theorem dL_act_627 : decode cL_act 627 = .ok (.if_icmp .eq 31, 3) := by decide +kernel
theorem dL_act_630 : decode cL_act 630 = .ok (.iload 7, 2) := by decide +kernel
theorem dL_act_632 : decode cL_act 632 = .ok (.ifCond .eq 23, 3) := by decide +kernel
theorem dL_act_635 : decode cL_act 635 = .ok (.iload 10, 2) := by decide +kernel
theorem dL_act_637 : decode cL_act 637 = .ok (.iload 4, 2) := by decide +kernel
theorem dL_act_639 : decode cL_act 639 = .ok (.ifCond .ne 7, 3) := by decide +kernel
theorem dL_act_642 : decode cL_act 642 = .ok (.iconst (-1), 1) := by decide +kernel
theorem dL_act_643 : decode cL_act 643 = .ok (.goto 5, 3) := by decide +kernel
theorem dL_act_646 : decode cL_act 646 = .ok (.bipush (-5), 2) := by decide +kernel
theorem dL_act_648 : decode cL_act 648 = .ok (.if_icmp .ne 7, 3) := by decide +kernel
theorem dL_act_651 : decode cL_act 651 = .ok (.iconst 0, 1) := by decide +kernel
theorem dL_act_652 : decode cL_act 652 = .ok (.goto 5, 3) := by decide +kernel
theorem dL_act_655 : decode cL_act 655 = .ok (.bipush (-9), 2) := by decide +kernel
theorem dL_act_657 : decode cL_act 657 = .ok (.ireturn, 1) := by decide +kernel
theorem dL_act_658 : decode cL_act 658 = .ok (.iload 7, 2) := by decide +kernel
theorem dL_act_660 : decode cL_act 660 = .ok (.ifCond .eq 64, 3) := by decide +kernel
theorem dL_act_663 : decode cL_act 663 = .ok (.iload 10, 2) := by decide +kernel
theorem dL_act_665 : decode cL_act 665 = .ok (.ifCond .lt 59, 3) := by decide +kernel
theorem dL_act_668 : decode cL_act 668 = .ok (.aload_n 0, 1) := by decide +kernel
theorem dL_act_669 : decode cL_act 669 = .ok (.iload 10, 2) := by decide +kernel
theorem dL_act_671 : decode cL_act 671 = .ok (.iconst 0, 1) := by decide +kernel
theorem dL_act_672 : decode cL_act 672 = .ok (.invokevirtual 19, 3) := by decide +kernel
theorem dL_act_675 : decode cL_act 675 = .ok (.iload 9, 2) := by decide +kernel
theorem dL_act_677 : decode cL_act 677 = .ok (.if_icmp .ne 47, 3) := by decide +kernel
theorem dL_act_680 : decode cL_act 680 = .ok (.aload_n 0, 1) := by decide +kernel
theorem dL_act_681 : decode cL_act 681 = .ok (.bipush 13, 2) := by decide +kernel
theorem dL_act_683 : decode cL_act 683 = .ok (.invokevirtual 13, 3) := by decide +kernel
theorem dL_act_686 : decode cL_act 686 = .ok (.ifCond .ne 38, 3) := by decide +kernel
theorem dL_act_689 : decode cL_act 689 = .ok (.aload_n 0, 1) := by decide +kernel
theorem dL_act_690 : decode cL_act 690 = .ok (.bipush 6, 2) := by decide +kernel
theorem dL_act_692 : decode cL_act 692 = .ok (.invokevirtual 13, 3) := by decide +kernel
theorem dL_act_695 : decode cL_act 695 = .ok (.iload 5, 2) := by decide +kernel
theorem dL_act_697 : decode cL_act 697 = .ok (.if_icmp .ne 27, 3) := by decide +kernel
theorem dL_act_700 : decode cL_act 700 = .ok (.aload_n 0, 1) := by decide +kernel
theorem dL_act_701 : decode cL_act 701 = .ok (.iload_n 1, 1) := by decide +kernel
theorem dL_act_702 : decode cL_act 702 = .ok (.bipush 12, 2) := by decide +kernel
theorem dL_act_704 : decode cL_act 704 = .ok (.idiv, 1) := by decide +kernel
theorem dL_act_705 : decode cL_act 705 = .ok (.invokestatic 89, 3) := by decide +kernel
theorem dL_act_708 : decode cL_act 708 = .ok (.ifCond .eq 16, 3) := by decide +kernel
theorem dL_act_711 : decode cL_act 711 = .ok (.aload_n 0, 1) := by decide +kernel
theorem dL_act_712 : decode cL_act 712 = .ok (.invokevirtual 56, 3) := by decide +kernel
theorem dL_act_715 : decode cL_act 715 = .ok (.iload 10, 2) := by decide +kernel
theorem dL_act_717 : decode cL_act 717 = .ok (.if_icmp .ne 7, 3) := by decide +kernel
theorem dL_act_720 : decode cL_act 720 = .ok (.iconst 1, 1) := by decide +kernel
theorem dL_act_721 : decode cL_act 721 = .ok (.goto 5, 3) := by decide +kernel
theorem dL_act_724 : decode cL_act 724 = .ok (.bipush (-9), 2) := by decide +kernel
theorem dL_act_726 : decode cL_act 726 = .ok (.ireturn, 1) := by decide +kernel
theorem dL_act_727 : decode cL_act 727 = .ok (.iload_n 2, 1) := by decide +kernel
theorem dL_act_728 : decode cL_act 728 = .ok (.iconst 3, 1) := by decide +kernel
theorem dL_act_729 : decode cL_act 729 = .ok (.irem, 1) := by decide +kernel
theorem dL_act_730 : decode cL_act 730 = .ok (.istore 7, 2) := by decide +kernel
theorem dL_act_732 : decode cL_act 732 = .ok (.aload_n 0, 1) := by decide +kernel
theorem dL_act_733 : decode cL_act 733 = .ok (.iload 7, 2) := by decide +kernel
theorem dL_act_735 : decode cL_act 735 = .ok (.invokevirtual 13, 3) := by decide +kernel
theorem dL_act_738 : decode cL_act 738 = .ok (.istore 8, 2) := by decide +kernel
theorem dL_act_740 : decode cL_act 740 = .ok (.iload 7, 2) := by decide +kernel
theorem dL_act_742 : decode cL_act 742 = .ok (.ifCond .ne 15, 3) := by decide +kernel
theorem dL_act_745 : decode cL_act 745 = .ok (.bipush 6, 2) := by decide +kernel
theorem dL_act_747 : decode cL_act 747 = .ok (.iload_n 2, 1) := by decide +kernel
theorem dL_act_748 : decode cL_act 748 = .ok (.iconst 3, 1) := by decide +kernel
theorem dL_act_749 : decode cL_act 749 = .ok (.idiv, 1) := by decide +kernel
theorem dL_act_750 : decode cL_act 750 = .ok (.bipush 35, 2) := by decide +kernel
theorem dL_act_752 : decode cL_act 752 = .ok (.irem, 1) := by decide +kernel
theorem dL_act_753 : decode cL_act 753 = .ok (.iadd, 1) := by decide +kernel
theorem dL_act_754 : decode cL_act 754 = .ok (.goto 27, 3) := by decide +kernel
theorem dL_act_757 : decode cL_act 757 = .ok (.iload 7, 2) := by decide +kernel
theorem dL_act_759 : decode cL_act 759 = .ok (.iconst 1, 1) := by decide +kernel
theorem dL_act_760 : decode cL_act 760 = .ok (.if_icmp .ne 14, 3) := by decide +kernel
theorem dL_act_763 : decode cL_act 763 = .ok (.iconst 4, 1) := by decide +kernel
theorem dL_act_764 : decode cL_act 764 = .ok (.iload_n 2, 1) := by decide +kernel
theorem dL_act_765 : decode cL_act 765 = .ok (.iconst 3, 1) := by decide +kernel
theorem dL_act_766 : decode cL_act 766 = .ok (.idiv, 1) := by decide +kernel
theorem dL_act_767 : decode cL_act 767 = .ok (.bipush 27, 2) := by decide +kernel
theorem dL_act_769 : decode cL_act 769 = .ok (.irem, 1) := by decide +kernel
theorem dL_act_770 : decode cL_act 770 = .ok (.iadd, 1) := by decide +kernel
theorem dL_act_771 : decode cL_act 771 = .ok (.goto 10, 3) := by decide +kernel
theorem dL_act_774 : decode cL_act 774 = .ok (.iconst 1, 1) := by decide +kernel
theorem dL_act_775 : decode cL_act 775 = .ok (.iload_n 2, 1) := by decide +kernel
theorem dL_act_776 : decode cL_act 776 = .ok (.iconst 3, 1) := by decide +kernel
theorem dL_act_777 : decode cL_act 777 = .ok (.idiv, 1) := by decide +kernel
theorem dL_act_778 : decode cL_act 778 = .ok (.iconst 3, 1) := by decide +kernel
theorem dL_act_779 : decode cL_act 779 = .ok (.irem, 1) := by decide +kernel
theorem dL_act_780 : decode cL_act 780 = .ok (.iadd, 1) := by decide +kernel
theorem dL_act_781 : decode cL_act 781 = .ok (.istore 9, 2) := by decide +kernel
theorem dL_act_783 : decode cL_act 783 = .ok (.aload_n 0, 1) := by decide +kernel
theorem dL_act_784 : decode cL_act 784 = .ok (.iload 7, 2) := by decide +kernel
theorem dL_act_786 : decode cL_act 786 = .ok (.iload 9, 2) := by decide +kernel
theorem dL_act_788 : decode cL_act 788 = .ok (.invokevirtual 66, 3) := by decide +kernel
theorem dL_act_791 : decode cL_act 791 = .ok (.istore 10, 2) := by decide +kernel
theorem dL_act_793 : decode cL_act 793 = .ok (.aload_n 0, 1) := by decide +kernel
theorem dL_act_794 : decode cL_act 794 = .ok (.iload 7, 2) := by decide +kernel
theorem dL_act_796 : decode cL_act 796 = .ok (.iload 9, 2) := by decide +kernel
theorem dL_act_798 : decode cL_act 798 = .ok (.invokevirtual 28, 3) := by decide +kernel
theorem dL_act_801 : decode cL_act 801 = .ok (.iload 8, 2) := by decide +kernel
theorem dL_act_803 : decode cL_act 803 = .ok (.if_icmp .ne 39, 3) := by decide +kernel
theorem dL_act_806 : decode cL_act 806 = .ok (.aload_n 0, 1) := by decide +kernel
theorem dL_act_807 : decode cL_act 807 = .ok (.iload 7, 2) := by decide +kernel
theorem dL_act_809 : decode cL_act 809 = .ok (.invokevirtual 13, 3) := by decide +kernel
theorem dL_act_812 : decode cL_act 812 = .ok (.iload 9, 2) := by decide +kernel
theorem dL_act_814 : decode cL_act 814 = .ok (.if_icmp .ne 28, 3) := by decide +kernel
theorem dL_act_817 : decode cL_act 817 = .ok (.aload_n 0, 1) := by decide +kernel
theorem dL_act_818 : decode cL_act 818 = .ok (.iconst 4, 1) := by decide +kernel
theorem dL_act_819 : decode cL_act 819 = .ok (.invokevirtual 13, 3) := by decide +kernel
theorem dL_act_822 : decode cL_act 822 = .ok (.iload 10, 2) := by decide +kernel
theorem dL_act_824 : decode cL_act 824 = .ok (.if_icmp .ne 18, 3) := by decide +kernel
theorem dL_act_827 : decode cL_act 827 = .ok (.aload_n 0, 1) := by decide +kernel
theorem dL_act_828 : decode cL_act 828 = .ok (.bipush 6, 2) := by decide +kernel
theorem dL_act_830 : decode cL_act 830 = .ok (.invokevirtual 13, 3) := by decide +kernel
theorem dL_act_833 : decode cL_act 833 = .ok (.iload 5, 2) := by decide +kernel
theorem dL_act_835 : decode cL_act 835 = .ok (.if_icmp .ne 7, 3) := by decide +kernel
theorem dL_act_838 : decode cL_act 838 = .ok (.iconst 1, 1) := by decide +kernel
theorem dL_act_839 : decode cL_act 839 = .ok (.goto 5, 3) := by decide +kernel
theorem dL_act_842 : decode cL_act 842 = .ok (.bipush (-9), 2) := by decide +kernel
theorem dL_act_844 : decode cL_act 844 = .ok (.ireturn, 1) := by decide +kernel
set_option maxRecDepth 20000 in
theorem ggL_law_X5_init : GoodIn wsL_law wsX5_init := goodIn_r _ [5, 6, 7, 8, 9, 10, 11, 12, 13, 14, 15, 16, 17, 18, 19, 20, 21, 22, 23, 24, 25, 26, 27, 28, 29, 30, 31, 32, 33, 34, 35, 36, 37, 38, 39, 40, 41, 42, 43, 44, 45, 46, 47, 48, 49, 50, 51, 52, 53, 54, 55, 56, 57, 58, 59, 60, 61, 62, 63, 64, 65, 66, 67, 68, 69, 70, 71, 2, 72, 73, 74, 75, 76, 77, 78, 79, 80, 81, 82, 83, 84, 85, 86, 87, 88, 89, 90, 91, 92, 93, 94, 95, 96, 97, 98, 99, 100, 101, 102, 103, 104, 105, 106, 107, 108, 109, 110, 111, 112, 113, 114, 115, 116, 117, 118, 119, 120, 121, 122, 123, 124, 125, 126, 127, 128, 129, 130, 131, 132, 431, 432, 433, 434, 423, 424, 425, 426, 427, 428, 429, 430, 435, 436, 437, 438, 439, 440, 441, 442, 443, 444, 445, 446, 447, 448, 449, 450, 451, 452, 453] (by decide +kernel) (by decide +kernel)
set_option maxRecDepth 20000 in
theorem gL_law_X5_init : GoodIn wsL_law (wsX5_init) := ggL_law_X5_init
set_option maxRecDepth 20000 in
theorem ggL_law_X5_undo : GoodIn wsL_law wsX5_undo := goodIn_r _ [136, 26, 137, 12, 138, 139, 140, 25, 141, 68, 67, 142, 143, 144, 11, 145, 34, 38, 35, 37, 69, 70, 71, 2, 72, 17, 73, 74, 75, 76, 16, 77, 55, 51, 53, 52, 54, 78, 79, 80, 81, 56, 82, 83, 84, 85, 86, 87, 88, 89, 90, 91, 44, 92, 93, 94, 95, 96, 97, 98, 99, 49, 50, 47, 48, 100, 101, 102, 103, 42, 43, 104, 105, 106, 107, 108, 109, 110, 111, 45, 46, 112, 113, 114, 115, 116, 117, 118, 119, 120, 121, 122, 123, 124, 125, 126, 127, 128, 129, 130, 131, 132, 423, 424, 425, 426, 427, 428, 429, 430, 452, 453, 431, 432, 433, 434, 435, 436, 437, 438, 439, 440, 441, 442, 443, 444, 445, 446, 447, 448, 449] (by decide +kernel) (by decide +kernel)
set_option maxRecDepth 20000 in
theorem gL_law_X5_undo : GoodIn wsL_law (wsV RL 95 RX5 yX5_undo wsX5_undo) := goodIn_app (goodIn_of _ (by decide +kernel)) ggL_law_X5_undo
set_option maxRecDepth 20000 in
theorem ggL_law_X5_restore : GoodIn wsL_law wsX5_restore := goodIn_r _ [149, 29, 26, 12, 27, 150, 151, 152, 2, 153, 154, 155, 156, 25, 157, 68, 67, 158, 159, 160, 161, 142, 143, 144, 11, 145, 34, 38, 35, 37, 162, 69, 70, 71, 72, 17, 73, 74, 75, 76, 16, 77, 55, 51, 53, 52, 54, 78, 79, 80, 81, 56, 82, 83, 84, 85, 86, 87, 88, 89, 90, 91, 44, 92, 93, 94, 95, 96, 97, 98, 99, 49, 50, 47, 48, 100, 101, 102, 103, 42, 43, 104, 105, 106, 107, 108, 109, 110, 111, 45, 46, 112, 113, 114, 115, 116, 117, 118, 119, 120, 121, 122, 123, 124, 125, 126, 127, 128, 129, 130, 131, 132, 423, 424, 425, 426, 427, 428, 429, 430, 431, 432, 433, 434, 452, 453, 435, 436, 437, 438, 439, 440, 441, 442, 443, 444, 445, 446, 447, 448, 449] (by decide +kernel) (by decide +kernel)
set_option maxRecDepth 20000 in
theorem gL_law_X5_restore : GoodIn wsL_law (wsV RL 78 RX5 yX5_restore wsX5_restore) := goodIn_app (goodIn_of _ (by decide +kernel)) ggL_law_X5_restore
set_option maxRecDepth 20000 in
theorem ggL_law_X5_count : GoodIn wsL_law wsX5_count := goodIn_r _ [166, 12, 73, 150, 22, 167, 26, 137, 168, 169, 170, 11, 171, 38, 35, 172, 173, 174, 2, 175, 17, 176, 177, 178, 179, 180, 181, 16, 182, 51, 183, 184, 185, 186, 187, 188, 189, 190, 55, 49, 48, 191, 192, 193, 194, 47, 195, 196, 197, 198, 199, 200, 201, 202, 44, 42, 203, 204, 205, 206, 423, 424, 425, 426, 427, 428, 429, 430, 431, 432, 433, 434, 450, 451, 452, 453, 435, 436, 437, 438, 439, 440, 441, 442, 443, 444, 445, 446, 447, 448, 449] (by decide +kernel) (by decide +kernel)
set_option maxRecDepth 20000 in
theorem gL_law_X5_count : GoodIn wsL_law (wsV RL 13 RX5 yX5_count wsX5_count) := goodIn_app (goodIn_of _ (by decide +kernel)) ggL_law_X5_count
set_option maxRecDepth 20000 in
theorem ggL_law_L_refuses : GoodIn wsL_law wsL_refuses := goodIn_r _ [210, 211, 212, 209, 213, 214, 215, 163, 164, 165, 2, 166, 12, 73, 150, 22, 167, 26, 137, 168, 169, 170, 11, 171, 38, 35, 172, 173, 174, 175, 17, 176, 177, 178, 179, 180, 181, 16, 182, 51, 183, 184, 185, 186, 187, 188, 189, 190, 55, 49, 48, 191, 192, 193, 194, 47, 195, 196, 197, 198, 199, 200, 201, 202, 44, 42, 203, 204, 205, 206, 216, 217, 218, 219, 220, 221, 222, 223, 224, 125, 126, 127, 225, 226, 121, 122, 123, 37, 124, 227, 129, 130, 131, 132, 228, 229, 230, 231, 232, 233, 234, 235, 236, 237, 238, 239, 240, 241, 242, 243, 244, 245, 246, 247, 248, 249, 250, 154, 155, 156, 25, 157, 68, 67, 158, 159, 160, 161, 142, 143, 144, 145, 34, 69, 70, 71, 72, 74, 75, 76, 77, 53, 52, 54, 78, 79, 80, 81, 56, 82, 83, 84, 85, 86, 87, 88, 89, 90, 91, 92, 93, 94, 95, 96, 97, 98, 99, 50, 100, 101, 102, 103, 43, 104, 105, 106, 107, 108, 109, 110, 111, 45, 46, 112, 113, 114, 115, 116, 117, 118, 119, 120, 128, 251, 252, 253, 254, 255, 256, 257, 258, 259, 260, 261, 262, 263, 264, 265, 266, 267, 268, 269, 270, 271, 272, 273, 21, 274, 61, 275, 276, 277, 278, 13, 279, 280, 281, 282, 60, 283, 284, 285, 286, 287, 288, 289, 290, 291, 292, 293, 294, 162, 295, 296, 297, 298, 299, 300, 301, 302, 303, 304, 305, 306, 307, 308, 309, 310, 311, 312, 313, 314, 315, 316, 317, 318, 319, 320, 321, 322, 323, 324, 325, 326, 327, 328, 329, 330, 331, 332, 333, 334, 335, 336, 337, 338, 339, 340, 341, 342, 343, 344, 345, 346, 347, 348, 349, 350, 351, 352, 353, 354, 355, 356, 357, 358, 359, 360, 361, 362, 363, 364, 365, 366, 367, 368, 369, 370, 371, 372, 373, 374, 375, 376, 377, 378, 379, 380, 381, 382, 383, 384, 385, 18, 386, 387, 388, 389, 390, 391, 392, 393, 394, 395, 396, 397, 398, 399, 400, 401, 27, 29, 151, 152, 153, 146, 147, 148, 149, 423, 424, 425, 426, 427, 428, 429, 430, 431, 432, 433, 434, 450, 451, 452, 453, 435, 436, 437, 438, 439, 440, 441, 442, 443, 444, 445, 446, 447, 448, 449] (by decide +kernel) (by decide +kernel)
set_option maxRecDepth 20000 in
theorem gL_law_L_refuses : GoodIn wsL_law (va_wsS RL 98 yL_refuses wsL_refuses) := goodIn_app (goodIn_of _ (by decide +kernel)) ggL_law_L_refuses
set_option maxRecDepth 20000 in
theorem ggL_law_X5_save : GoodIn wsL_law wsX5_save := goodIn_r _ [401, 27, 12, 29, 150, 151, 152, 2, 153, 162, 143, 144, 11, 145, 34, 38, 35, 37, 423, 424, 425, 426, 427, 428, 429, 430, 431, 432, 433, 434] (by decide +kernel) (by decide +kernel)
set_option maxRecDepth 20000 in
theorem gL_law_X5_save : GoodIn wsL_law (wsV RL 75 RX5 yX5_save wsX5_save) := goodIn_app (goodIn_of _ (by decide +kernel)) ggL_law_X5_save
set_option maxRecDepth 20000 in
theorem ggL_law_L_cell : GoodIn wsL_law wsL_cell := goodIn_r _ [404, 405, 406] (by decide +kernel) (by decide +kernel)
set_option maxRecDepth 20000 in
theorem gL_law_L_cell : GoodIn wsL_law (va_wsS RL 101 yL_cell wsL_cell) := goodIn_app (goodIn_of _ (by decide +kernel)) ggL_law_L_cell
set_option maxRecDepth 20000 in
theorem ggL_law_L_seen : GoodIn wsL_law wsL_seen := goodIn_r _ [213, 214, 215, 163, 164, 165, 2, 166, 12, 73, 150, 22, 167, 26, 137, 168, 169, 170, 11, 171, 38, 35, 172, 173, 174, 175, 17, 176, 177, 178, 179, 180, 181, 16, 182, 51, 183, 184, 185, 186, 187, 188, 189, 190, 55, 49, 48, 191, 192, 193, 194, 47, 195, 196, 197, 198, 199, 200, 201, 202, 44, 42, 203, 204, 205, 206, 216, 217, 218, 219, 220, 221, 222, 223, 224, 125, 126, 127, 225, 226, 121, 122, 123, 37, 124, 227, 129, 130, 131, 132, 228, 229, 230, 231, 232, 233, 234, 235, 236, 237, 423, 424, 425, 426, 427, 428, 429, 430, 431, 432, 433, 434, 450, 451, 452, 453, 435, 436, 437, 438, 439, 440, 441, 442, 443, 444, 445, 446, 447, 448, 449] (by decide +kernel) (by decide +kernel)
set_option maxRecDepth 20000 in
theorem gL_law_L_seen : GoodIn wsL_law (va_wsS RL 81 yL_seen wsL_seen) := goodIn_app (goodIn_of _ (by decide +kernel)) ggL_law_L_seen
set_option maxRecDepth 20000 in
theorem ggL_law_L_act : GoodIn wsL_law wsL_act := goodIn_r _ [409, 410, 163, 164, 165, 2, 166, 12, 73, 150, 22, 167, 26, 137, 168, 169, 170, 11, 171, 38, 35, 172, 173, 174, 175, 17, 176, 177, 178, 179, 180, 181, 16, 182, 51, 183, 184, 185, 186, 187, 188, 189, 190, 55, 49, 48, 191, 192, 193, 194, 47, 195, 196, 197, 198, 199, 200, 201, 202, 44, 42, 203, 204, 205, 206, 411, 412, 209, 413, 267, 268, 269, 270, 271, 272, 273, 21, 274, 61, 331, 332, 333, 334, 335, 336, 337, 338, 339, 340, 341, 342, 343, 344, 60, 345, 346, 347, 348, 318, 319, 320, 321, 286, 287, 288, 322, 323, 324, 325, 299, 300, 130, 301, 231, 129, 131, 132, 232, 233, 234, 326, 327, 328, 329, 37, 306, 307, 308, 309, 124, 125, 126, 127, 216, 217, 218, 219, 220, 221, 222, 223, 224, 225, 226, 121, 122, 123, 227, 228, 229, 230, 235, 236, 237, 275, 276, 277, 278, 13, 279, 280, 281, 282, 283, 284, 285, 289, 290, 291, 292, 293, 294, 162, 143, 144, 145, 34, 295, 296, 297, 298, 302, 303, 304, 305, 310, 311, 312, 313, 154, 155, 156, 25, 157, 68, 67, 158, 159, 160, 161, 142, 69, 70, 71, 72, 74, 75, 76, 77, 53, 52, 54, 78, 79, 80, 81, 56, 82, 83, 84, 85, 86, 87, 88, 89, 90, 91, 92, 93, 94, 95, 96, 97, 98, 99, 50, 100, 101, 102, 103, 43, 104, 105, 106, 107, 108, 109, 110, 111, 45, 46, 112, 113, 114, 115, 116, 117, 118, 119, 120, 128, 251, 252, 253, 254, 255, 256, 257, 258, 259, 260, 261, 262, 263, 264, 265, 266, 314, 315, 316, 317, 330, 382, 383, 384, 385, 18, 246, 247, 248, 249, 250, 242, 243, 244, 245, 423, 424, 425, 426, 427, 428, 429, 430, 431, 432, 433, 434, 450, 451, 452, 453, 435, 436, 437, 438, 439, 440, 441, 442, 443, 444, 445, 446, 447, 448, 449] (by decide +kernel) (by decide +kernel)
set_option maxRecDepth 20000 in
theorem gL_law_L_act : GoodIn wsL_law (va_wsS RL 105 yL_act wsL_act) := goodIn_app (goodIn_of _ (by decide +kernel)) ggL_law_L_act
set_option maxRecDepth 20000 in
theorem ggL_law_L_isOrdered : GoodIn wsL_law wsL_isOrdered := goodIn_r _ [416, 163, 164, 165, 2, 166, 12, 73, 150, 22, 167, 26, 137, 168, 169, 170, 11, 171, 38, 35, 172, 173, 174, 175, 17, 176, 177, 178, 179, 180, 181, 16, 182, 51, 183, 184, 185, 186, 187, 188, 189, 190, 55, 49, 48, 191, 192, 193, 194, 47, 195, 196, 197, 198, 199, 200, 201, 202, 44, 42, 203, 204, 205, 206, 216, 217, 218, 219, 220, 221, 222, 223, 224, 125, 126, 127, 225, 226, 121, 122, 123, 37, 124, 227, 129, 130, 131, 132, 228, 229, 230, 231, 232, 233, 234, 235, 236, 237, 423, 424, 425, 426, 427, 428, 429, 430, 431, 432, 433, 434, 450, 451, 452, 453, 435, 436, 437, 438, 439, 440, 441, 442, 443, 444, 445, 446, 447, 448, 449] (by decide +kernel) (by decide +kernel)
set_option maxRecDepth 20000 in
theorem gL_law_L_isOrdered : GoodIn wsL_law (va_wsS RL 109 yL_isOrdered wsL_isOrdered) := goodIn_app (goodIn_of _ (by decide +kernel)) ggL_law_L_isOrdered
set_option maxRecDepth 20000 in
theorem ggL_law_L_isLaid : GoodIn wsL_law wsL_isLaid := goodIn_r _ [419, 163, 164, 165, 2, 166, 12, 73, 150, 22, 167, 26, 137, 168, 169, 170, 11, 171, 38, 35, 172, 173, 174, 175, 17, 176, 177, 178, 179, 180, 181, 16, 182, 51, 183, 184, 185, 186, 187, 188, 189, 190, 55, 49, 48, 191, 192, 193, 194, 47, 195, 196, 197, 198, 199, 200, 201, 202, 44, 42, 203, 204, 205, 206, 354, 355, 356, 357, 358, 353, 359, 360, 361, 362, 105, 106, 107, 363, 364, 117, 118, 119, 45, 46, 120, 121, 122, 123, 37, 124, 125, 126, 127, 128, 129, 130, 131, 132, 365, 366, 367, 368, 369, 229, 230, 231, 232, 233, 234, 235, 236, 237, 216, 217, 218, 219, 220, 221, 222, 223, 224, 225, 226, 227, 228, 423, 424, 425, 426, 427, 428, 429, 430, 431, 432, 433, 434, 450, 451, 452, 453, 435, 436, 437, 438, 439, 440, 441, 442, 443, 444, 445, 446, 447, 448, 449] (by decide +kernel) (by decide +kernel)
set_option maxRecDepth 20000 in
theorem gL_law_L_isLaid : GoodIn wsL_law (va_wsS RL 113 yL_isLaid wsL_isLaid) := goodIn_app (goodIn_of _ (by decide +kernel)) ggL_law_L_isLaid
set_option maxRecDepth 20000 in
theorem ggL_law_L_isKept : GoodIn wsL_law wsL_isKept := goodIn_r _ [422, 216, 217, 218, 2, 219, 12, 220, 17, 221, 222, 223, 224, 125, 126, 11, 127, 38, 225, 200, 201, 16, 202, 44, 42, 226, 121, 122, 123, 37, 124, 227, 129, 130, 131, 132, 228, 229, 230, 231, 232, 233, 234, 235, 236, 237, 163, 164, 165, 166, 73, 150, 22, 167, 26, 137, 168, 169, 170, 171, 35, 172, 173, 174, 175, 176, 177, 178, 179, 180, 181, 182, 51, 183, 184, 185, 186, 187, 188, 189, 190, 55, 49, 48, 191, 192, 193, 194, 47, 195, 196, 197, 198, 199, 203, 204, 205, 206, 354, 355, 356, 357, 358, 353, 359, 360, 361, 362, 105, 106, 107, 363, 364, 117, 118, 119, 45, 46, 120, 128, 365, 366, 367, 368, 369, 423, 424, 425, 426, 427, 428, 429, 430, 431, 432, 433, 434, 435, 436, 437, 438, 439, 440, 441, 442, 443, 444, 445, 446, 447, 448, 449, 450, 451, 452, 453] (by decide +kernel) (by decide +kernel)
set_option maxRecDepth 20000 in
theorem gL_law_L_isKept : GoodIn wsL_law (va_wsS RL 116 yL_isKept wsL_isKept) := goodIn_app (goodIn_of _ (by decide +kernel)) ggL_law_L_isKept
theorem dL_law_0 : decode cL_law 0 = .ok (.new 14, 3) := by decide +kernel
theorem dL_law_3 : decode cL_law 3 = .ok (.dup, 1) := by decide +kernel
theorem dL_law_4 : decode cL_law 4 = .ok (.invokespecial 94, 3) := by decide +kernel
theorem dL_law_7 : decode cL_law 7 = .ok (.astore_n 1, 1) := by decide +kernel
theorem dL_law_8 : decode cL_law 8 = .ok (.aload_n 1, 1) := by decide +kernel
theorem dL_law_9 : decode cL_law 9 = .ok (.invokevirtual 95, 3) := by decide +kernel
theorem dL_law_12 : decode cL_law 12 = .ok (.bipush (-5), 2) := by decide +kernel
theorem dL_law_14 : decode cL_law 14 = .ok (.if_icmp .ne 100, 3) := by decide +kernel
theorem dL_law_17 : decode cL_law 17 = .ok (.aload_n 1, 1) := by decide +kernel
theorem dL_law_18 : decode cL_law 18 = .ok (.iconst 0, 1) := by decide +kernel
theorem dL_law_19 : decode cL_law 19 = .ok (.invokevirtual 78, 3) := by decide +kernel
theorem dL_law_22 : decode cL_law 22 = .ok (.bipush (-5), 2) := by decide +kernel
theorem dL_law_24 : decode cL_law 24 = .ok (.if_icmp .ne 90, 3) := by decide +kernel
theorem dL_law_27 : decode cL_law 27 = .ok (.aload_n 1, 1) := by decide +kernel
theorem dL_law_28 : decode cL_law 28 = .ok (.iconst 1, 1) := by decide +kernel
theorem dL_law_29 : decode cL_law 29 = .ok (.invokevirtual 78, 3) := by decide +kernel
theorem dL_law_32 : decode cL_law 32 = .ok (.bipush (-5), 2) := by decide +kernel
theorem dL_law_34 : decode cL_law 34 = .ok (.if_icmp .ne 80, 3) := by decide +kernel
theorem dL_law_37 : decode cL_law 37 = .ok (.aload_n 1, 1) := by decide +kernel
theorem dL_law_38 : decode cL_law 38 = .ok (.iconst 0, 1) := by decide +kernel
theorem dL_law_39 : decode cL_law 39 = .ok (.invokevirtual 13, 3) := by decide +kernel
theorem dL_law_42 : decode cL_law 42 = .ok (.bipush 12, 2) := by decide +kernel
theorem dL_law_44 : decode cL_law 44 = .ok (.if_icmp .ne 70, 3) := by decide +kernel
theorem dL_law_47 : decode cL_law 47 = .ok (.aload_n 1, 1) := by decide +kernel
theorem dL_law_48 : decode cL_law 48 = .ok (.iconst 1, 1) := by decide +kernel
theorem dL_law_49 : decode cL_law 49 = .ok (.invokevirtual 13, 3) := by decide +kernel
theorem dL_law_52 : decode cL_law 52 = .ok (.bipush 12, 2) := by decide +kernel
theorem dL_law_54 : decode cL_law 54 = .ok (.if_icmp .ne 60, 3) := by decide +kernel
theorem dL_law_57 : decode cL_law 57 = .ok (.aload_n 1, 1) := by decide +kernel
theorem dL_law_58 : decode cL_law 58 = .ok (.iconst 2, 1) := by decide +kernel
theorem dL_law_59 : decode cL_law 59 = .ok (.invokevirtual 13, 3) := by decide +kernel
theorem dL_law_62 : decode cL_law 62 = .ok (.iconst 2, 1) := by decide +kernel
theorem dL_law_63 : decode cL_law 63 = .ok (.if_icmp .ne 51, 3) := by decide +kernel
theorem dL_law_66 : decode cL_law 66 = .ok (.aload_n 1, 1) := by decide +kernel
theorem dL_law_67 : decode cL_law 67 = .ok (.bipush 8, 2) := by decide +kernel
theorem dL_law_69 : decode cL_law 69 = .ok (.invokevirtual 13, 3) := by decide +kernel
theorem dL_law_72 : decode cL_law 72 = .ok (.iconst 1, 1) := by decide +kernel
theorem dL_law_73 : decode cL_law 73 = .ok (.if_icmp .ne 41, 3) := by decide +kernel
theorem dL_law_76 : decode cL_law 76 = .ok (.aload_n 1, 1) := by decide +kernel
theorem dL_law_77 : decode cL_law 77 = .ok (.bipush 9, 2) := by decide +kernel
theorem dL_law_79 : decode cL_law 79 = .ok (.invokevirtual 13, 3) := by decide +kernel
theorem dL_law_82 : decode cL_law 82 = .ok (.iconst 1, 1) := by decide +kernel
theorem dL_law_83 : decode cL_law 83 = .ok (.if_icmp .ne 31, 3) := by decide +kernel
theorem dL_law_86 : decode cL_law 86 = .ok (.aload_n 1, 1) := by decide +kernel
theorem dL_law_87 : decode cL_law 87 = .ok (.iconst 0, 1) := by decide +kernel
theorem dL_law_88 : decode cL_law 88 = .ok (.invokestatic 98, 3) := by decide +kernel
theorem dL_law_91 : decode cL_law 91 = .ok (.ifCond .eq 23, 3) := by decide +kernel
theorem dL_law_94 : decode cL_law 94 = .ok (.aload_n 1, 1) := by decide +kernel
theorem dL_law_95 : decode cL_law 95 = .ok (.iconst 1, 1) := by decide +kernel
theorem dL_law_96 : decode cL_law 96 = .ok (.invokestatic 98, 3) := by decide +kernel
theorem dL_law_99 : decode cL_law 99 = .ok (.ifCond .eq 15, 3) := by decide +kernel
theorem dL_law_102 : decode cL_law 102 = .ok (.aload_n 1, 1) := by decide +kernel
theorem dL_law_103 : decode cL_law 103 = .ok (.iconst 1, 1) := by decide +kernel
theorem dL_law_104 : decode cL_law 104 = .ok (.invokevirtual 75, 3) := by decide +kernel
theorem dL_law_107 : decode cL_law 107 = .ok (.ifCond .ne 7, 3) := by decide +kernel
theorem dL_law_110 : decode cL_law 110 = .ok (.iconst 1, 1) := by decide +kernel
theorem dL_law_111 : decode cL_law 111 = .ok (.goto 4, 3) := by decide +kernel
theorem dL_law_114 : decode cL_law 114 = .ok (.iconst 0, 1) := by decide +kernel
theorem dL_law_115 : decode cL_law 115 = .ok (.istore_n 2, 1) := by decide +kernel
theorem dL_law_116 : decode cL_law 116 = .ok (.iconst 0, 1) := by decide +kernel
theorem dL_law_117 : decode cL_law 117 = .ok (.istore_n 3, 1) := by decide +kernel
theorem dL_law_118 : decode cL_law 118 = .ok (.iload_n 3, 1) := by decide +kernel
theorem dL_law_119 : decode cL_law 119 = .ok (.bipush 40, 2) := by decide +kernel
theorem dL_law_121 : decode cL_law 121 = .ok (.if_icmp .ge 278, 3) := by decide +kernel
theorem dL_law_124 : decode cL_law 124 = .ok (.iload_n 2, 1) := by decide +kernel
theorem dL_law_125 : decode cL_law 125 = .ok (.ifCond .eq 274, 3) := by decide +kernel
theorem dL_law_128 : decode cL_law 128 = .ok (.aload_n 0, 1) := by decide +kernel
theorem dL_law_129 : decode cL_law 129 = .ok (.iconst 2, 1) := by decide +kernel
theorem dL_law_130 : decode cL_law 130 = .ok (.iload_n 3, 1) := by decide +kernel
theorem dL_law_131 : decode cL_law 131 = .ok (.imul, 1) := by decide +kernel
theorem dL_law_132 : decode cL_law 132 = .ok (.invokestatic 101, 3) := by decide +kernel
theorem dL_law_135 : decode cL_law 135 = .ok (.istore 4, 2) := by decide +kernel
theorem dL_law_137 : decode cL_law 137 = .ok (.aload_n 0, 1) := by decide +kernel
theorem dL_law_138 : decode cL_law 138 = .ok (.iconst 2, 1) := by decide +kernel
theorem dL_law_139 : decode cL_law 139 = .ok (.iload_n 3, 1) := by decide +kernel
theorem dL_law_140 : decode cL_law 140 = .ok (.imul, 1) := by decide +kernel
theorem dL_law_141 : decode cL_law 141 = .ok (.iconst 1, 1) := by decide +kernel
theorem dL_law_142 : decode cL_law 142 = .ok (.iadd, 1) := by decide +kernel
theorem dL_law_143 : decode cL_law 143 = .ok (.invokestatic 101, 3) := by decide +kernel
theorem dL_law_146 : decode cL_law 146 = .ok (.istore 5, 2) := by decide +kernel
theorem dL_law_148 : decode cL_law 148 = .ok (.aload_n 1, 1) := by decide +kernel
theorem dL_law_149 : decode cL_law 149 = .ok (.invokestatic 81, 3) := by decide +kernel
theorem dL_law_152 : decode cL_law 152 = .ok (.lstore 6, 2) := by decide +kernel
theorem dL_law_154 : decode cL_law 154 = .ok (.aload_n 1, 1) := by decide +kernel
theorem dL_law_155 : decode cL_law 155 = .ok (.bipush 14, 2) := by decide +kernel
theorem dL_law_157 : decode cL_law 157 = .ok (.invokevirtual 13, 3) := by decide +kernel
theorem dL_law_160 : decode cL_law 160 = .ok (.istore 8, 2) := by decide +kernel
theorem dL_law_162 : decode cL_law 162 = .ok (.aload_n 1, 1) := by decide +kernel
theorem dL_law_163 : decode cL_law 163 = .ok (.iload 4, 2) := by decide +kernel
theorem dL_law_165 : decode cL_law 165 = .ok (.iload 5, 2) := by decide +kernel
theorem dL_law_167 : decode cL_law 167 = .ok (.invokestatic 105, 3) := by decide +kernel
theorem dL_law_170 : decode cL_law 170 = .ok (.istore 9, 2) := by decide +kernel
theorem dL_law_172 : decode cL_law 172 = .ok (.aload_n 1, 1) := by decide +kernel
theorem dL_law_173 : decode cL_law 173 = .ok (.bipush 14, 2) := by decide +kernel
theorem dL_law_175 : decode cL_law 175 = .ok (.invokevirtual 13, 3) := by decide +kernel
theorem dL_law_178 : decode cL_law 178 = .ok (.istore 10, 2) := by decide +kernel
theorem dL_law_180 : decode cL_law 180 = .ok (.iload 9, 2) := by decide +kernel
theorem dL_law_182 : decode cL_law 182 = .ok (.ifCond .lt 110, 3) := by decide +kernel
theorem dL_law_185 : decode cL_law 185 = .ok (.iload 9, 2) := by decide +kernel
theorem dL_law_187 : decode cL_law 187 = .ok (.ifCond .ne 23, 3) := by decide +kernel
theorem dL_law_190 : decode cL_law 190 = .ok (.iload 10, 2) := by decide +kernel
theorem dL_law_192 : decode cL_law 192 = .ok (.iload 8, 2) := by decide +kernel
theorem dL_law_194 : decode cL_law 194 = .ok (.if_icmp .ne 98, 3) := by decide +kernel
theorem dL_law_197 : decode cL_law 197 = .ok (.aload_n 1, 1) := by decide +kernel
theorem dL_law_198 : decode cL_law 198 = .ok (.invokestatic 81, 3) := by decide +kernel
theorem dL_law_201 : decode cL_law 201 = .ok (.lload 6, 2) := by decide +kernel
theorem dL_law_203 : decode cL_law 203 = .ok (.lcmp, 1) := by decide +kernel
theorem dL_law_204 : decode cL_law 204 = .ok (.ifCond .ne 88, 3) := by decide +kernel
theorem dL_law_207 : decode cL_law 207 = .ok (.goto 24, 3) := by decide +kernel
theorem dL_law_210 : decode cL_law 210 = .ok (.iload 10, 2) := by decide +kernel
theorem dL_law_212 : decode cL_law 212 = .ok (.iload 8, 2) := by decide +kernel
theorem dL_law_214 : decode cL_law 214 = .ok (.bipush 6, 2) := by decide +kernel
theorem dL_law_216 : decode cL_law 216 = .ok (.if_icmp .ge 10, 3) := by decide +kernel
theorem dL_law_219 : decode cL_law 219 = .ok (.iload 8, 2) := by decide +kernel
theorem dL_law_221 : decode cL_law 221 = .ok (.iconst 1, 1) := by decide +kernel
theorem dL_law_222 : decode cL_law 222 = .ok (.iadd, 1) := by decide +kernel
theorem dL_law_223 : decode cL_law 223 = .ok (.goto 5, 3) := by decide +kernel
theorem dL_law_226 : decode cL_law 226 = .ok (.bipush 6, 2) := by decide +kernel
theorem dL_law_228 : decode cL_law 228 = .ok (.if_icmp .ne 64, 3) := by decide +kernel
theorem dL_law_231 : decode cL_law 231 = .ok (.aload_n 1, 1) := by decide +kernel
theorem dL_law_232 : decode cL_law 232 = .ok (.invokestatic 109, 3) := by decide +kernel
theorem dL_law_235 : decode cL_law 235 = .ok (.ifCond .eq 57, 3) := by decide +kernel
theorem dL_law_238 : decode cL_law 238 = .ok (.aload_n 1, 1) := by decide +kernel
theorem dL_law_239 : decode cL_law 239 = .ok (.invokestatic 113, 3) := by decide +kernel
theorem dL_law_242 : decode cL_law 242 = .ok (.ifCond .eq 50, 3) := by decide +kernel
theorem dL_law_245 : decode cL_law 245 = .ok (.aload_n 1, 1) := by decide +kernel
theorem dL_law_246 : decode cL_law 246 = .ok (.iconst 3, 1) := by decide +kernel
theorem dL_law_247 : decode cL_law 247 = .ok (.invokevirtual 13, 3) := by decide +kernel
theorem dL_law_250 : decode cL_law 250 = .ok (.ifCond .eq 18, 3) := by decide +kernel
theorem dL_law_253 : decode cL_law 253 = .ok (.aload_n 1, 1) := by decide +kernel
theorem dL_law_254 : decode cL_law 254 = .ok (.iload 5, 2) := by decide +kernel
theorem dL_law_256 : decode cL_law 256 = .ok (.aload_n 1, 1) := by decide +kernel
theorem dL_law_257 : decode cL_law 257 = .ok (.iconst 3, 1) := by decide +kernel
theorem dL_law_258 : decode cL_law 258 = .ok (.invokevirtual 13, 3) := by decide +kernel
theorem dL_law_261 : decode cL_law 261 = .ok (.irem, 1) := by decide +kernel
theorem dL_law_262 : decode cL_law 262 = .ok (.invokestatic 116, 3) := by decide +kernel
theorem dL_law_265 : decode cL_law 265 = .ok (.ifCond .eq 27, 3) := by decide +kernel
theorem dL_law_268 : decode cL_law 268 = .ok (.iload_n 3, 1) := by decide +kernel
theorem dL_law_269 : decode cL_law 269 = .ok (.bipush 6, 2) := by decide +kernel
theorem dL_law_271 : decode cL_law 271 = .ok (.irem, 1) := by decide +kernel
theorem dL_law_272 : decode cL_law 272 = .ok (.iconst 5, 1) := by decide +kernel
theorem dL_law_273 : decode cL_law 273 = .ok (.if_icmp .ne 15, 3) := by decide +kernel
theorem dL_law_276 : decode cL_law 276 = .ok (.aload_n 1, 1) := by decide +kernel
theorem dL_law_277 : decode cL_law 277 = .ok (.iload 4, 2) := by decide +kernel
theorem dL_law_279 : decode cL_law 279 = .ok (.bipush 6, 2) := by decide +kernel
theorem dL_law_281 : decode cL_law 281 = .ok (.idiv, 1) := by decide +kernel
theorem dL_law_282 : decode cL_law 282 = .ok (.invokestatic 98, 3) := by decide +kernel
theorem dL_law_285 : decode cL_law 285 = .ok (.ifCond .eq 7, 3) := by decide +kernel
theorem dL_law_288 : decode cL_law 288 = .ok (.iconst 1, 1) := by decide +kernel
theorem dL_law_289 : decode cL_law 289 = .ok (.goto 4, 3) := by decide +kernel
theorem dL_law_292 : decode cL_law 292 = .ok (.iconst 0, 1) := by decide +kernel
theorem dL_law_293 : decode cL_law 293 = .ok (.istore_n 2, 1) := by decide +kernel
theorem dL_law_294 : decode cL_law 294 = .ok (.iload_n 2, 1) := by decide +kernel
theorem dL_law_295 : decode cL_law 295 = .ok (.ifCond .eq 98, 3) := by decide +kernel
theorem dL_law_298 : decode cL_law 298 = .ok (.iload 9, 2) := by decide +kernel
theorem dL_law_300 : decode cL_law 300 = .ok (.iconst 1, 1) := by decide +kernel
theorem dL_law_301 : decode cL_law 301 = .ok (.if_icmp .ne 92, 3) := by decide +kernel
theorem dL_law_304 : decode cL_law 304 = .ok (.iload 4, 2) := by decide +kernel
theorem dL_law_306 : decode cL_law 306 = .ok (.bipush 13, 2) := by decide +kernel
theorem dL_law_308 : decode cL_law 308 = .ok (.idiv, 1) := by decide +kernel
theorem dL_law_309 : decode cL_law 309 = .ok (.iconst 3, 1) := by decide +kernel
theorem dL_law_310 : decode cL_law 310 = .ok (.irem, 1) := by decide +kernel
theorem dL_law_311 : decode cL_law 311 = .ok (.ifCond .ne 82, 3) := by decide +kernel
theorem dL_law_314 : decode cL_law 314 = .ok (.aload_n 1, 1) := by decide +kernel
theorem dL_law_315 : decode cL_law 315 = .ok (.invokestatic 81, 3) := by decide +kernel
theorem dL_law_318 : decode cL_law 318 = .ok (.lstore 11, 2) := by decide +kernel
theorem dL_law_320 : decode cL_law 320 = .ok (.aload_n 1, 1) := by decide +kernel
theorem dL_law_321 : decode cL_law 321 = .ok (.iconst 3, 1) := by decide +kernel
theorem dL_law_322 : decode cL_law 322 = .ok (.invokevirtual 13, 3) := by decide +kernel
theorem dL_law_325 : decode cL_law 325 = .ok (.istore 13, 2) := by decide +kernel
theorem dL_law_327 : decode cL_law 327 = .ok (.aload_n 1, 1) := by decide +kernel
theorem dL_law_328 : decode cL_law 328 = .ok (.iconst 0, 1) := by decide +kernel
theorem dL_law_329 : decode cL_law 329 = .ok (.invokevirtual 75, 3) := by decide +kernel
theorem dL_law_332 : decode cL_law 332 = .ok (.iload 13, 2) := by decide +kernel
theorem dL_law_334 : decode cL_law 334 = .ok (.if_icmp .ne 57, 3) := by decide +kernel
theorem dL_law_337 : decode cL_law 337 = .ok (.aload_n 1, 1) := by decide +kernel
theorem dL_law_338 : decode cL_law 338 = .ok (.invokevirtual 95, 3) := by decide +kernel
theorem dL_law_341 : decode cL_law 341 = .ok (.iload 8, 2) := by decide +kernel
theorem dL_law_343 : decode cL_law 343 = .ok (.bipush 6, 2) := by decide +kernel
theorem dL_law_345 : decode cL_law 345 = .ok (.if_icmp .ge 8, 3) := by decide +kernel
theorem dL_law_348 : decode cL_law 348 = .ok (.iload 8, 2) := by decide +kernel
theorem dL_law_350 : decode cL_law 350 = .ok (.goto 4, 3) := by decide +kernel
theorem dL_law_353 : decode cL_law 353 = .ok (.iconst 5, 1) := by decide +kernel
theorem dL_law_354 : decode cL_law 354 = .ok (.if_icmp .ne 37, 3) := by decide +kernel
theorem dL_law_357 : decode cL_law 357 = .ok (.aload_n 1, 1) := by decide +kernel
theorem dL_law_358 : decode cL_law 358 = .ok (.invokestatic 81, 3) := by decide +kernel
theorem dL_law_361 : decode cL_law 361 = .ok (.lload 6, 2) := by decide +kernel
theorem dL_law_363 : decode cL_law 363 = .ok (.lcmp, 1) := by decide +kernel
theorem dL_law_364 : decode cL_law 364 = .ok (.ifCond .ne 27, 3) := by decide +kernel
theorem dL_law_367 : decode cL_law 367 = .ok (.aload_n 1, 1) := by decide +kernel
theorem dL_law_368 : decode cL_law 368 = .ok (.iconst 0, 1) := by decide +kernel
theorem dL_law_369 : decode cL_law 369 = .ok (.invokevirtual 78, 3) := by decide +kernel
theorem dL_law_372 : decode cL_law 372 = .ok (.iload 13, 2) := by decide +kernel
theorem dL_law_374 : decode cL_law 374 = .ok (.if_icmp .ne 17, 3) := by decide +kernel
theorem dL_law_377 : decode cL_law 377 = .ok (.aload_n 1, 1) := by decide +kernel
theorem dL_law_378 : decode cL_law 378 = .ok (.invokestatic 81, 3) := by decide +kernel
theorem dL_law_381 : decode cL_law 381 = .ok (.lload 11, 2) := by decide +kernel
theorem dL_law_383 : decode cL_law 383 = .ok (.lcmp, 1) := by decide +kernel
theorem dL_law_384 : decode cL_law 384 = .ok (.ifCond .ne 7, 3) := by decide +kernel
theorem dL_law_387 : decode cL_law 387 = .ok (.iconst 1, 1) := by decide +kernel
theorem dL_law_388 : decode cL_law 388 = .ok (.goto 4, 3) := by decide +kernel
theorem dL_law_391 : decode cL_law 391 = .ok (.iconst 0, 1) := by decide +kernel
theorem dL_law_392 : decode cL_law 392 = .ok (.istore_n 2, 1) := by decide +kernel
theorem dL_law_393 : decode cL_law 393 = .ok (.iinc 3 1, 3) := by decide +kernel
theorem dL_law_396 : decode cL_law 396 = .ok (.goto (-278), 3) := by decide +kernel
theorem dL_law_399 : decode cL_law 399 = .ok (.iload_n 2, 1) := by decide +kernel
theorem dL_law_400 : decode cL_law 400 = .ok (.ifCond .eq 37, 3) := by decide +kernel
theorem dL_law_403 : decode cL_law 403 = .ok (.aload_n 1, 1) := by decide +kernel
theorem dL_law_404 : decode cL_law 404 = .ok (.iconst 1, 1) := by decide +kernel
theorem dL_law_405 : decode cL_law 405 = .ok (.invokevirtual 78, 3) := by decide +kernel
theorem dL_law_408 : decode cL_law 408 = .ok (.ifCond .ne 29, 3) := by decide +kernel
theorem dL_law_411 : decode cL_law 411 = .ok (.aload_n 1, 1) := by decide +kernel
theorem dL_law_412 : decode cL_law 412 = .ok (.iconst 4, 1) := by decide +kernel
theorem dL_law_413 : decode cL_law 413 = .ok (.invokevirtual 13, 3) := by decide +kernel
theorem dL_law_416 : decode cL_law 416 = .ok (.ifCond .ne 21, 3) := by decide +kernel
theorem dL_law_419 : decode cL_law 419 = .ok (.aload_n 1, 1) := by decide +kernel
theorem dL_law_420 : decode cL_law 420 = .ok (.invokevirtual 95, 3) := by decide +kernel
theorem dL_law_423 : decode cL_law 423 = .ok (.ifCond .lt 14, 3) := by decide +kernel
theorem dL_law_426 : decode cL_law 426 = .ok (.aload_n 1, 1) := by decide +kernel
theorem dL_law_427 : decode cL_law 427 = .ok (.invokestatic 113, 3) := by decide +kernel
theorem dL_law_430 : decode cL_law 430 = .ok (.ifCond .eq 7, 3) := by decide +kernel
theorem dL_law_433 : decode cL_law 433 = .ok (.iconst 1, 1) := by decide +kernel
theorem dL_law_434 : decode cL_law 434 = .ok (.goto 4, 3) := by decide +kernel
theorem dL_law_437 : decode cL_law 437 = .ok (.iconst 0, 1) := by decide +kernel
theorem dL_law_438 : decode cL_law 438 = .ok (.ireturn, 1) := by decide +kernel
