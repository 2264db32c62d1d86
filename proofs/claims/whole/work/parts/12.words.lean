theorem FOK_in {ws : List Cond} (h : ws.all (fun w => decide (w ∈ lw_tbl) && goodWord w) = true) : ∀ w ∈ ws, w ∈ LT := fun w hw => by
  have h1 := List.all_eq_true.mp h w hw
  simp only [Bool.and_eq_true, decide_eq_true_eq] at h1
  exact LT_eq ▸ List.mem_filter.mpr h1
theorem kw_5 : (Cond.selects RX1 yX1_readSum yX1_readSum : Cond) ∈ LT := LT_of 5 (by decide +kernel) (by decide +kernel)
theorem kw_6 : (Cond.selects RX1 yX1_readProduct yX1_readProduct : Cond) ∈ LT := LT_of 6 (by decide +kernel) (by decide +kernel)
theorem kw_7 : (Cond.selects RX1 yX1_readUnit yX1_readUnit : Cond) ∈ LT := LT_of 7 (by decide +kernel) (by decide +kernel)
theorem kw_8 : (Cond.selects RX1 yX1_readOpen yX1_readOpen : Cond) ∈ LT := LT_of 8 (by decide +kernel) (by decide +kernel)
theorem kw_9 : (Cond.selects RX8 yX8_readSteps yX8_readSteps : Cond) ∈ LT := LT_of 9 (by decide +kernel) (by decide +kernel)
theorem kw_10 : (Cond.selects RX8 yX8_readStep yX8_readStep : Cond) ∈ LT := LT_of 10 (by decide +kernel) (by decide +kernel)
theorem kw_11 : (Cond.selects RX8 yX8_readAgain yX8_readAgain : Cond) ∈ LT := LT_of 11 (by decide +kernel) (by decide +kernel)
theorem kw_86 : (Cond.initialized RX9 : Cond) ∈ LT := LT_of 86 (by decide +kernel) (by decide +kernel)
theorem kw_87 : (Cond.initialized RX7 : Cond) ∈ LT := LT_of 87 (by decide +kernel) (by decide +kernel)
theorem kw_88 : (Cond.initialized RX4 : Cond) ∈ LT := LT_of 88 (by decide +kernel) (by decide +kernel)
theorem kw_89 : (Cond.initialized RX8 : Cond) ∈ LT := LT_of 89 (by decide +kernel) (by decide +kernel)
theorem kw_90 : (Cond.initialized RX6 : Cond) ∈ LT := LT_of 90 (by decide +kernel) (by decide +kernel)
theorem kw_91 : (Cond.initialized RX5 : Cond) ∈ LT := LT_of 91 (by decide +kernel) (by decide +kernel)
theorem kw_92 : (Cond.initialized RX2 : Cond) ∈ LT := LT_of 92 (by decide +kernel) (by decide +kernel)
theorem kw_93 : (Cond.initialized RX1 : Cond) ∈ LT := LT_of 93 (by decide +kernel) (by decide +kernel)
theorem kw_94 : (Cond.initialized RX0 : Cond) ∈ LT := LT_of 94 (by decide +kernel) (by decide +kernel)
theorem kw_96 : (Cond.initialized RJ9 : Cond) ∈ LT := LT_of 96 (by decide +kernel) (by decide +kernel)
theorem kw_106 : (Cond.initialized RJ10 : Cond) ∈ LT := LT_of 106 (by decide +kernel) (by decide +kernel)
theorem kw_123 : (Cond.fieldLink RX7 9 (TX7 0).1 (TX7 0).2.1 (TX7 0).2.2.1 : Cond) ∈ LT := LT_of 123 (by decide +kernel) (by decide +kernel)
theorem kw_124 : (Cond.fieldLink RX7 15 (TX7 1).1 (TX7 1).2.1 (TX7 1).2.2.1 : Cond) ∈ LT := LT_of 124 (by decide +kernel) (by decide +kernel)
theorem kw_126 : (Cond.fieldLink RX7 19 (TX7 2).1 (TX7 2).2.1 (TX7 2).2.2.1 : Cond) ∈ LT := LT_of 126 (by decide +kernel) (by decide +kernel)
theorem kw_127 : (Cond.fieldLink RX7 22 (TX7 3).1 (TX7 3).2.1 (TX7 3).2.2.1 : Cond) ∈ LT := LT_of 127 (by decide +kernel) (by decide +kernel)
theorem kw_128 : (Cond.fieldLink RX7 25 (TX7 4).1 (TX7 4).2.1 (TX7 4).2.2.1 : Cond) ∈ LT := LT_of 128 (by decide +kernel) (by decide +kernel)
theorem kw_129 : (Cond.fieldLink RX7 28 (TX7 5).1 (TX7 5).2.1 (TX7 5).2.2.1 : Cond) ∈ LT := LT_of 129 (by decide +kernel) (by decide +kernel)
theorem kw_130 : (Cond.fieldLink RX7 31 (TX7 6).1 (TX7 6).2.1 (TX7 6).2.2.1 : Cond) ∈ LT := LT_of 130 (by decide +kernel) (by decide +kernel)
theorem kw_154 : (Cond.fieldLink RX4 9 (TX4 0).1 (TX4 0).2.1 (TX4 0).2.2.1 : Cond) ∈ LT := LT_of 154 (by decide +kernel) (by decide +kernel)
theorem kw_156 : (Cond.fieldLink RX8 132 (TX4 0).1 (TX4 0).2.1 (TX4 0).2.2.1 : Cond) ∈ LT := LT_of 156 (by decide +kernel) (by decide +kernel)
theorem kw_157 : (Cond.fieldLink RX4 15 (TX4 1).1 (TX4 1).2.1 (TX4 1).2.2.1 : Cond) ∈ LT := LT_of 157 (by decide +kernel) (by decide +kernel)
theorem kw_159 : (Cond.fieldLink RX4 18 (TX4 2).1 (TX4 2).2.1 (TX4 2).2.2.1 : Cond) ∈ LT := LT_of 159 (by decide +kernel) (by decide +kernel)
theorem kw_161 : (Cond.fieldLink RX4 21 (TX4 3).1 (TX4 3).2.1 (TX4 3).2.2.1 : Cond) ∈ LT := LT_of 161 (by decide +kernel) (by decide +kernel)
theorem kw_163 : (Cond.fieldLink RX4 24 (TX4 4).1 (TX4 4).2.1 (TX4 4).2.2.1 : Cond) ∈ LT := LT_of 163 (by decide +kernel) (by decide +kernel)
theorem kw_164 : (Cond.fieldLink RX8 129 (TX4 4).1 (TX4 4).2.1 (TX4 4).2.2.1 : Cond) ∈ LT := LT_of 164 (by decide +kernel) (by decide +kernel)
theorem kw_165 : (Cond.fieldLink RX4 27 (TX4 5).1 (TX4 5).2.1 (TX4 5).2.2.1 : Cond) ∈ LT := LT_of 165 (by decide +kernel) (by decide +kernel)
theorem kw_167 : (Cond.fieldLink RX4 30 (TX4 6).1 (TX4 6).2.1 (TX4 6).2.2.1 : Cond) ∈ LT := LT_of 167 (by decide +kernel) (by decide +kernel)
theorem kw_168 : (Cond.fieldLink RX4 34 (TX4 7).1 (TX4 7).2.1 (TX4 7).2.2.1 : Cond) ∈ LT := LT_of 168 (by decide +kernel) (by decide +kernel)
theorem kw_170 : (Cond.fieldLink RX4 37 (TX4 8).1 (TX4 8).2.1 (TX4 8).2.2.1 : Cond) ∈ LT := LT_of 170 (by decide +kernel) (by decide +kernel)
theorem kw_172 : (Cond.fieldLink RX4 40 (TX4 9).1 (TX4 9).2.1 (TX4 9).2.2.1 : Cond) ∈ LT := LT_of 172 (by decide +kernel) (by decide +kernel)
theorem kw_174 : (Cond.fieldLink RX4 43 (TX4 10).1 (TX4 10).2.1 (TX4 10).2.2.1 : Cond) ∈ LT := LT_of 174 (by decide +kernel) (by decide +kernel)
theorem kw_175 : (Cond.fieldLink RX4 46 (TX4 11).1 (TX4 11).2.1 (TX4 11).2.2.1 : Cond) ∈ LT := LT_of 175 (by decide +kernel) (by decide +kernel)
theorem kw_209 : (Cond.fieldLink RX8 9 (TX8 0).1 (TX8 0).2.1 (TX8 0).2.2.1 : Cond) ∈ LT := LT_of 209 (by decide +kernel) (by decide +kernel)
theorem kw_210 : (Cond.fieldLink RX8 15 (TX8 1).1 (TX8 1).2.1 (TX8 1).2.2.1 : Cond) ∈ LT := LT_of 210 (by decide +kernel) (by decide +kernel)
theorem kw_211 : (Cond.fieldLink RX8 18 (TX8 2).1 (TX8 2).2.1 (TX8 2).2.2.1 : Cond) ∈ LT := LT_of 211 (by decide +kernel) (by decide +kernel)
theorem kw_212 : (Cond.fieldLink RX8 21 (TX8 3).1 (TX8 3).2.1 (TX8 3).2.2.1 : Cond) ∈ LT := LT_of 212 (by decide +kernel) (by decide +kernel)
theorem kw_213 : (Cond.fieldLink RX8 24 (TX8 4).1 (TX8 4).2.1 (TX8 4).2.2.1 : Cond) ∈ LT := LT_of 213 (by decide +kernel) (by decide +kernel)
theorem kw_214 : (Cond.fieldLink RX8 28 (TX8 5).1 (TX8 5).2.1 (TX8 5).2.2.1 : Cond) ∈ LT := LT_of 214 (by decide +kernel) (by decide +kernel)
theorem kw_215 : (Cond.fieldLink RX8 31 (TX8 6).1 (TX8 6).2.1 (TX8 6).2.2.1 : Cond) ∈ LT := LT_of 215 (by decide +kernel) (by decide +kernel)
theorem kw_238 : (Cond.fieldLink RX6 9 (TX6 0).1 (TX6 0).2.1 (TX6 0).2.2.1 : Cond) ∈ LT := LT_of 238 (by decide +kernel) (by decide +kernel)
theorem kw_248 : (Cond.fieldLink RX5 9 (TX5 0).1 (TX5 0).2.1 (TX5 0).2.2.1 : Cond) ∈ LT := LT_of 248 (by decide +kernel) (by decide +kernel)
theorem kw_250 : (Cond.fieldLink RX5 15 (TX5 1).1 (TX5 1).2.1 (TX5 1).2.2.1 : Cond) ∈ LT := LT_of 250 (by decide +kernel) (by decide +kernel)
theorem kw_251 : (Cond.fieldLink RX5 18 (TX5 2).1 (TX5 2).2.1 (TX5 2).2.2.1 : Cond) ∈ LT := LT_of 251 (by decide +kernel) (by decide +kernel)
theorem kw_252 : (Cond.fieldLink RX5 21 (TX5 3).1 (TX5 3).2.1 (TX5 3).2.2.1 : Cond) ∈ LT := LT_of 252 (by decide +kernel) (by decide +kernel)
theorem kw_254 : (Cond.fieldLink RX5 25 (TX5 4).1 (TX5 4).2.1 (TX5 4).2.2.1 : Cond) ∈ LT := LT_of 254 (by decide +kernel) (by decide +kernel)
theorem kw_275 : (Cond.fieldLink RX2 9 (TX2 0).1 (TX2 0).2.1 (TX2 0).2.2.1 : Cond) ∈ LT := LT_of 275 (by decide +kernel) (by decide +kernel)
theorem kw_276 : (Cond.fieldLink RX6 42 (TX2 0).1 (TX2 0).2.1 (TX2 0).2.2.1 : Cond) ∈ LT := LT_of 276 (by decide +kernel) (by decide +kernel)
theorem kw_277 : (Cond.fieldLink RX0 40 (TX2 0).1 (TX2 0).2.1 (TX2 0).2.2.1 : Cond) ∈ LT := LT_of 277 (by decide +kernel) (by decide +kernel)
theorem kw_278 : (Cond.fieldLink RX8 86 (TX2 0).1 (TX2 0).2.1 (TX2 0).2.2.1 : Cond) ∈ LT := LT_of 278 (by decide +kernel) (by decide +kernel)
theorem kw_280 : (Cond.fieldLink RX4 81 (TX2 0).1 (TX2 0).2.1 (TX2 0).2.2.1 : Cond) ∈ LT := LT_of 280 (by decide +kernel) (by decide +kernel)
theorem kw_281 : (Cond.fieldLink RX2 15 (TX2 1).1 (TX2 1).2.1 (TX2 1).2.2.1 : Cond) ∈ LT := LT_of 281 (by decide +kernel) (by decide +kernel)
theorem kw_282 : (Cond.fieldLink RX5 28 (TX2 1).1 (TX2 1).2.1 (TX2 1).2.2.1 : Cond) ∈ LT := LT_of 282 (by decide +kernel) (by decide +kernel)
theorem kw_284 : (Cond.fieldLink RX8 76 (TX2 1).1 (TX2 1).2.1 (TX2 1).2.2.1 : Cond) ∈ LT := LT_of 284 (by decide +kernel) (by decide +kernel)
theorem kw_285 : (Cond.fieldLink RX4 67 (TX2 1).1 (TX2 1).2.1 (TX2 1).2.2.1 : Cond) ∈ LT := LT_of 285 (by decide +kernel) (by decide +kernel)
theorem kw_286 : (Cond.fieldLink RX2 18 (TX2 2).1 (TX2 2).2.1 (TX2 2).2.2.1 : Cond) ∈ LT := LT_of 286 (by decide +kernel) (by decide +kernel)
theorem kw_287 : (Cond.fieldLink RX6 37 (TX2 2).1 (TX2 2).2.1 (TX2 2).2.2.1 : Cond) ∈ LT := LT_of 287 (by decide +kernel) (by decide +kernel)
theorem kw_288 : (Cond.fieldLink RX8 83 (TX2 2).1 (TX2 2).2.1 (TX2 2).2.2.1 : Cond) ∈ LT := LT_of 288 (by decide +kernel) (by decide +kernel)
theorem kw_290 : (Cond.fieldLink RX4 88 (TX2 2).1 (TX2 2).2.1 (TX2 2).2.2.1 : Cond) ∈ LT := LT_of 290 (by decide +kernel) (by decide +kernel)
theorem kw_291 : (Cond.fieldLink RX2 21 (TX2 3).1 (TX2 3).2.1 (TX2 3).2.2.1 : Cond) ∈ LT := LT_of 291 (by decide +kernel) (by decide +kernel)
theorem kw_293 : (Cond.fieldLink RX4 99 (TX2 3).1 (TX2 3).2.1 (TX2 3).2.2.1 : Cond) ∈ LT := LT_of 293 (by decide +kernel) (by decide +kernel)
theorem kw_294 : (Cond.fieldLink RX2 25 (TX2 4).1 (TX2 4).2.1 (TX2 4).2.2.1 : Cond) ∈ LT := LT_of 294 (by decide +kernel) (by decide +kernel)
theorem kw_296 : (Cond.fieldLink RX4 96 (TX2 4).1 (TX2 4).2.1 (TX2 4).2.2.1 : Cond) ∈ LT := LT_of 296 (by decide +kernel) (by decide +kernel)
theorem kw_297 : (Cond.fieldLink RX2 28 (TX2 5).1 (TX2 5).2.1 (TX2 5).2.2.1 : Cond) ∈ LT := LT_of 297 (by decide +kernel) (by decide +kernel)
theorem kw_298 : (Cond.fieldLink RX5 39 (TX2 5).1 (TX2 5).2.1 (TX2 5).2.2.1 : Cond) ∈ LT := LT_of 298 (by decide +kernel) (by decide +kernel)
theorem kw_299 : (Cond.fieldLink RX4 64 (TX2 5).1 (TX2 5).2.1 (TX2 5).2.2.1 : Cond) ∈ LT := LT_of 299 (by decide +kernel) (by decide +kernel)
theorem kw_301 : (Cond.fieldLink RX2 31 (TX2 6).1 (TX2 6).2.1 (TX2 6).2.2.1 : Cond) ∈ LT := LT_of 301 (by decide +kernel) (by decide +kernel)
theorem kw_302 : (Cond.fieldLink RX2 34 (TX2 7).1 (TX2 7).2.1 (TX2 7).2.2.1 : Cond) ∈ LT := LT_of 302 (by decide +kernel) (by decide +kernel)
theorem kw_303 : (Cond.fieldLink RX4 49 (TX2 7).1 (TX2 7).2.1 (TX2 7).2.2.1 : Cond) ∈ LT := LT_of 303 (by decide +kernel) (by decide +kernel)
theorem kw_331 : (Cond.methodLink RX1 28 yX1_add : Cond) ∈ LT := LT_of 331 (by decide +kernel) (by decide +kernel)
theorem kw_332 : (Cond.instanceMethod yX1_add : Cond) ∈ LT := LT_of 332 (by decide +kernel) (by decide +kernel)
theorem kw_333 : (Cond.selects RX1 yX1_add yX1_add : Cond) ∈ LT := LT_of 333 (by decide +kernel) (by decide +kernel)
theorem kw_334 : (Cond.code yX1_add cX1_add 2 none : Cond) ∈ LT := LT_of 334 (by decide +kernel) (by decide +kernel)
theorem kw_335 : (Cond.fieldLink RX1 9 (TX1 0).1 (TX1 0).2.1 (TX1 0).2.2.1 : Cond) ∈ LT := LT_of 335 (by decide +kernel) (by decide +kernel)
theorem kw_336 : (Cond.fieldLink RX1 15 (TX1 1).1 (TX1 1).2.1 (TX1 1).2.2.1 : Cond) ∈ LT := LT_of 336 (by decide +kernel) (by decide +kernel)
theorem kw_337 : (Cond.fieldLink RX1 18 (TX1 2).1 (TX1 2).2.1 (TX1 2).2.2.1 : Cond) ∈ LT := LT_of 337 (by decide +kernel) (by decide +kernel)
theorem kw_338 : (Cond.fieldLink RX1 21 (TX1 3).1 (TX1 3).2.1 (TX1 3).2.2.1 : Cond) ∈ LT := LT_of 338 (by decide +kernel) (by decide +kernel)
theorem kw_354 : (Cond.methodLink RX0 19 yX0_clear : Cond) ∈ LT := LT_of 354 (by decide +kernel) (by decide +kernel)
theorem kw_355 : (Cond.instanceMethod yX0_clear : Cond) ∈ LT := LT_of 355 (by decide +kernel) (by decide +kernel)
theorem kw_356 : (Cond.selects RX0 yX0_clear yX0_clear : Cond) ∈ LT := LT_of 356 (by decide +kernel) (by decide +kernel)
theorem kw_357 : (Cond.code yX0_clear cX0_clear 2 none : Cond) ∈ LT := LT_of 357 (by decide +kernel) (by decide +kernel)
theorem kw_358 : (Cond.fieldLink RX0 9 (TX0 0).1 (TX0 0).2.1 (TX0 0).2.2.1 : Cond) ∈ LT := LT_of 358 (by decide +kernel) (by decide +kernel)
theorem kw_360 : (Cond.fieldLink RX0 15 (TX0 1).1 (TX0 1).2.1 (TX0 1).2.2.1 : Cond) ∈ LT := LT_of 360 (by decide +kernel) (by decide +kernel)
theorem kw_449 : (Cond.methodLink RX4 54 arraycopyName : Cond) ∈ LT := LT_of 449 (by decide +kernel) (by decide +kernel)
theorem kw_450 : (Cond.static arraycopyName : Cond) ∈ LT := LT_of 450 (by decide +kernel) (by decide +kernel)
theorem kw_451 : (Cond.native arraycopyName : Cond) ∈ LT := LT_of 451 (by decide +kernel) (by decide +kernel)
theorem kw_464 : (Cond.methodLink RX5 33 yX4_leftOf : Cond) ∈ LT := LT_of 464 (by decide +kernel) (by decide +kernel)
theorem kw_465 : (Cond.instanceMethod yX4_leftOf : Cond) ∈ LT := LT_of 465 (by decide +kernel) (by decide +kernel)
theorem kw_466 : (Cond.selects RX4 yX4_leftOf yX4_leftOf : Cond) ∈ LT := LT_of 466 (by decide +kernel) (by decide +kernel)
theorem kw_467 : (Cond.code yX4_leftOf cX4_leftOf 3 (some .int) : Cond) ∈ LT := LT_of 467 (by decide +kernel) (by decide +kernel)
theorem kw_468 : (Cond.methodLink RX5 42 yX2_wordAt : Cond) ∈ LT := LT_of 468 (by decide +kernel) (by decide +kernel)
theorem kw_469 : (Cond.instanceMethod yX2_wordAt : Cond) ∈ LT := LT_of 469 (by decide +kernel) (by decide +kernel)
theorem kw_470 : (Cond.selects RX2 yX2_wordAt yX2_wordAt : Cond) ∈ LT := LT_of 470 (by decide +kernel) (by decide +kernel)
theorem kw_471 : (Cond.code yX2_wordAt cX2_wordAt 3 (some .int) : Cond) ∈ LT := LT_of 471 (by decide +kernel) (by decide +kernel)
theorem kw_472 : (Cond.methodLink RX5 46 yX4_nextOf : Cond) ∈ LT := LT_of 472 (by decide +kernel) (by decide +kernel)
theorem kw_473 : (Cond.instanceMethod yX4_nextOf : Cond) ∈ LT := LT_of 473 (by decide +kernel) (by decide +kernel)
theorem kw_474 : (Cond.selects RX4 yX4_nextOf yX4_nextOf : Cond) ∈ LT := LT_of 474 (by decide +kernel) (by decide +kernel)
theorem kw_475 : (Cond.code yX4_nextOf cX4_nextOf 3 (some .int) : Cond) ∈ LT := LT_of 475 (by decide +kernel) (by decide +kernel)
theorem kw_476 : (Cond.methodLink RX4 70 yX4_leftOf : Cond) ∈ LT := LT_of 476 (by decide +kernel) (by decide +kernel)
theorem kw_477 : (Cond.methodLink RX4 74 yX2_wordAt : Cond) ∈ LT := LT_of 477 (by decide +kernel) (by decide +kernel)
theorem kw_478 : (Cond.methodLink RX5 49 yX5_bestBehind : Cond) ∈ LT := LT_of 478 (by decide +kernel) (by decide +kernel)
theorem kw_479 : (Cond.instanceMethod yX5_bestBehind : Cond) ∈ LT := LT_of 479 (by decide +kernel) (by decide +kernel)
theorem kw_480 : (Cond.selects RX5 yX5_bestBehind yX5_bestBehind : Cond) ∈ LT := LT_of 480 (by decide +kernel) (by decide +kernel)
theorem kw_481 : (Cond.code yX5_bestBehind cX5_bestBehind 5 (some .int) : Cond) ∈ LT := LT_of 481 (by decide +kernel) (by decide +kernel)
theorem kw_483 : (Cond.static yX9_has : Cond) ∈ LT := LT_of 483 (by decide +kernel) (by decide +kernel)
theorem kw_484 : (Cond.code yX9_has cX9_has 2 (some .boolean) : Cond) ∈ LT := LT_of 484 (by decide +kernel) (by decide +kernel)
theorem kw_485 : (Cond.methodLink RX5 52 yX5_worth : Cond) ∈ LT := LT_of 485 (by decide +kernel) (by decide +kernel)
theorem kw_486 : (Cond.instanceMethod yX5_worth : Cond) ∈ LT := LT_of 486 (by decide +kernel) (by decide +kernel)
theorem kw_487 : (Cond.selects RX5 yX5_worth yX5_worth : Cond) ∈ LT := LT_of 487 (by decide +kernel) (by decide +kernel)
theorem kw_488 : (Cond.code yX5_worth cX5_worth 5 (some .int) : Cond) ∈ LT := LT_of 488 (by decide +kernel) (by decide +kernel)
theorem kw_489 : (Cond.methodLink RX5 56 yX5_choose : Cond) ∈ LT := LT_of 489 (by decide +kernel) (by decide +kernel)
theorem kw_490 : (Cond.instanceMethod yX5_choose : Cond) ∈ LT := LT_of 490 (by decide +kernel) (by decide +kernel)
theorem kw_491 : (Cond.selects RX5 yX5_choose yX5_choose : Cond) ∈ LT := LT_of 491 (by decide +kernel) (by decide +kernel)
theorem kw_492 : (Cond.code yX5_choose cX5_choose 6 none : Cond) ∈ LT := LT_of 492 (by decide +kernel) (by decide +kernel)
theorem kw_543 : (Cond.static Lib.Math.min.name : Cond) ∈ LT := LT_of 543 (by decide +kernel) (by decide +kernel)
theorem kw_544 : (Cond.code Lib.Math.min.name Lib.Math.min.code 2 (some .int) : Cond) ∈ LT := LT_of 544 (by decide +kernel) (by decide +kernel)
theorem kw_619 : (Cond.methodLink RX2 37 yX7_isAtEnd : Cond) ∈ LT := LT_of 619 (by decide +kernel) (by decide +kernel)
theorem kw_620 : (Cond.instanceMethod yX7_isAtEnd : Cond) ∈ LT := LT_of 620 (by decide +kernel) (by decide +kernel)
theorem kw_621 : (Cond.selects RX7 yX7_isAtEnd yX7_isAtEnd : Cond) ∈ LT := LT_of 621 (by decide +kernel) (by decide +kernel)
theorem kw_622 : (Cond.code yX7_isAtEnd cX7_isAtEnd 1 (some .boolean) : Cond) ∈ LT := LT_of 622 (by decide +kernel) (by decide +kernel)
theorem kw_623 : (Cond.methodLink RX7 34 yX7_peek : Cond) ∈ LT := LT_of 623 (by decide +kernel) (by decide +kernel)
theorem kw_624 : (Cond.instanceMethod yX7_peek : Cond) ∈ LT := LT_of 624 (by decide +kernel) (by decide +kernel)
theorem kw_625 : (Cond.selects RX7 yX7_peek yX7_peek : Cond) ∈ LT := LT_of 625 (by decide +kernel) (by decide +kernel)
theorem kw_626 : (Cond.code yX7_peek cX7_peek 1 (some .int) : Cond) ∈ LT := LT_of 626 (by decide +kernel) (by decide +kernel)
theorem kw_627 : (Cond.methodLink RX2 43 yX2_readClause : Cond) ∈ LT := LT_of 627 (by decide +kernel) (by decide +kernel)
theorem kw_628 : (Cond.instanceMethod yX2_readClause : Cond) ∈ LT := LT_of 628 (by decide +kernel) (by decide +kernel)
theorem kw_629 : (Cond.selects RX2 yX2_readClause yX2_readClause : Cond) ∈ LT := LT_of 629 (by decide +kernel) (by decide +kernel)
theorem kw_630 : (Cond.code yX2_readClause cX2_readClause 2 none : Cond) ∈ LT := LT_of 630 (by decide +kernel) (by decide +kernel)
theorem kw_632 : (Cond.methodLink RX2 53 yX7_takes_ : Cond) ∈ LT := LT_of 632 (by decide +kernel) (by decide +kernel)
theorem kw_633 : (Cond.instanceMethod yX7_takes_ : Cond) ∈ LT := LT_of 633 (by decide +kernel) (by decide +kernel)
theorem kw_634 : (Cond.selects RX7 yX7_takes_ yX7_takes_ : Cond) ∈ LT := LT_of 634 (by decide +kernel) (by decide +kernel)
theorem kw_635 : (Cond.code yX7_takes_ cX7_takes_ 4 (some .boolean) : Cond) ∈ LT := LT_of 635 (by decide +kernel) (by decide +kernel)
theorem kw_646 : (Cond.methodLink RX7 47 yX7_byteAt : Cond) ∈ LT := LT_of 646 (by decide +kernel) (by decide +kernel)
theorem kw_647 : (Cond.instanceMethod yX7_byteAt : Cond) ∈ LT := LT_of 647 (by decide +kernel) (by decide +kernel)
theorem kw_648 : (Cond.selects RX7 yX7_byteAt yX7_byteAt : Cond) ∈ LT := LT_of 648 (by decide +kernel) (by decide +kernel)
theorem kw_649 : (Cond.code yX7_byteAt cX7_byteAt 2 (some .int) : Cond) ∈ LT := LT_of 649 (by decide +kernel) (by decide +kernel)
theorem kw_688 : (Cond.methodLink RX7 55 yX7_isSmallLetter : Cond) ∈ LT := LT_of 688 (by decide +kernel) (by decide +kernel)
theorem kw_689 : (Cond.static yX7_isSmallLetter : Cond) ∈ LT := LT_of 689 (by decide +kernel) (by decide +kernel)
theorem kw_690 : (Cond.code yX7_isSmallLetter cX7_isSmallLetter 1 (some .boolean) : Cond) ∈ LT := LT_of 690 (by decide +kernel) (by decide +kernel)
theorem kw_691 : (Cond.methodLink RX2 57 yX2_readBed : Cond) ∈ LT := LT_of 691 (by decide +kernel) (by decide +kernel)
theorem kw_692 : (Cond.instanceMethod yX2_readBed : Cond) ∈ LT := LT_of 692 (by decide +kernel) (by decide +kernel)
theorem kw_693 : (Cond.selects RX2 yX2_readBed yX2_readBed : Cond) ∈ LT := LT_of 693 (by decide +kernel) (by decide +kernel)
theorem kw_694 : (Cond.code yX2_readBed cX2_readBed 2 none : Cond) ∈ LT := LT_of 694 (by decide +kernel) (by decide +kernel)
theorem kw_695 : (Cond.methodLink RX2 70 yX7_blame : Cond) ∈ LT := LT_of 695 (by decide +kernel) (by decide +kernel)
theorem kw_696 : (Cond.instanceMethod yX7_blame : Cond) ∈ LT := LT_of 696 (by decide +kernel) (by decide +kernel)
theorem kw_697 : (Cond.selects RX7 yX7_blame yX7_blame : Cond) ∈ LT := LT_of 697 (by decide +kernel) (by decide +kernel)
theorem kw_698 : (Cond.code yX7_blame cX7_blame 2 none : Cond) ∈ LT := LT_of 698 (by decide +kernel) (by decide +kernel)
theorem kw_699 : (Cond.methodLink RX2 74 yX7_number : Cond) ∈ LT := LT_of 699 (by decide +kernel) (by decide +kernel)
theorem kw_700 : (Cond.instanceMethod yX7_number : Cond) ∈ LT := LT_of 700 (by decide +kernel) (by decide +kernel)
theorem kw_701 : (Cond.selects RX7 yX7_number yX7_number : Cond) ∈ LT := LT_of 701 (by decide +kernel) (by decide +kernel)
theorem kw_702 : (Cond.code yX7_number cX7_number 4 (some .int) : Cond) ∈ LT := LT_of 702 (by decide +kernel) (by decide +kernel)
theorem kw_703 : (Cond.methodLink RX7 38 yX7_isDigit : Cond) ∈ LT := LT_of 703 (by decide +kernel) (by decide +kernel)
theorem kw_704 : (Cond.static yX7_isDigit : Cond) ∈ LT := LT_of 704 (by decide +kernel) (by decide +kernel)
theorem kw_705 : (Cond.code yX7_isDigit cX7_isDigit 1 (some .boolean) : Cond) ∈ LT := LT_of 705 (by decide +kernel) (by decide +kernel)
theorem kw_706 : (Cond.methodLink RX7 58 yX7_blame : Cond) ∈ LT := LT_of 706 (by decide +kernel) (by decide +kernel)
theorem kw_707 : (Cond.methodLink RX7 66 Lib.Math.min.name : Cond) ∈ LT := LT_of 707 (by decide +kernel) (by decide +kernel)
theorem kw_709 : (Cond.methodLink RX2 62 yX2_readLetter : Cond) ∈ LT := LT_of 709 (by decide +kernel) (by decide +kernel)
theorem kw_710 : (Cond.instanceMethod yX2_readLetter : Cond) ∈ LT := LT_of 710 (by decide +kernel) (by decide +kernel)
theorem kw_711 : (Cond.selects RX2 yX2_readLetter yX2_readLetter : Cond) ∈ LT := LT_of 711 (by decide +kernel) (by decide +kernel)
theorem kw_712 : (Cond.code yX2_readLetter cX2_readLetter 3 none : Cond) ∈ LT := LT_of 712 (by decide +kernel) (by decide +kernel)
theorem kw_713 : (Cond.methodLink RX2 78 yX7_isAtNumber : Cond) ∈ LT := LT_of 713 (by decide +kernel) (by decide +kernel)
theorem kw_714 : (Cond.instanceMethod yX7_isAtNumber : Cond) ∈ LT := LT_of 714 (by decide +kernel) (by decide +kernel)
theorem kw_715 : (Cond.selects RX7 yX7_isAtNumber yX7_isAtNumber : Cond) ∈ LT := LT_of 715 (by decide +kernel) (by decide +kernel)
theorem kw_716 : (Cond.code yX7_isAtNumber cX7_isAtNumber 1 (some .boolean) : Cond) ∈ LT := LT_of 716 (by decide +kernel) (by decide +kernel)
theorem kw_718 : (Cond.methodLink RX2 67 yX2_readReader : Cond) ∈ LT := LT_of 718 (by decide +kernel) (by decide +kernel)
theorem kw_719 : (Cond.instanceMethod yX2_readReader : Cond) ∈ LT := LT_of 719 (by decide +kernel) (by decide +kernel)
theorem kw_720 : (Cond.selects RX2 yX2_readReader yX2_readReader : Cond) ∈ LT := LT_of 720 (by decide +kernel) (by decide +kernel)
theorem kw_721 : (Cond.code yX2_readReader cX2_readReader 2 none : Cond) ∈ LT := LT_of 721 (by decide +kernel) (by decide +kernel)
theorem kw_722 : (Cond.methodLink RX2 47 yX7_need : Cond) ∈ LT := LT_of 722 (by decide +kernel) (by decide +kernel)
theorem kw_723 : (Cond.instanceMethod yX7_need : Cond) ∈ LT := LT_of 723 (by decide +kernel) (by decide +kernel)
theorem kw_724 : (Cond.selects RX7 yX7_need yX7_need : Cond) ∈ LT := LT_of 724 (by decide +kernel) (by decide +kernel)
theorem kw_725 : (Cond.code yX7_need cX7_need 2 none : Cond) ∈ LT := LT_of 725 (by decide +kernel) (by decide +kernel)
theorem kw_759 : (Cond.methodLink RX1 32 yX1_readSum : Cond) ∈ LT := LT_of 759 (by decide +kernel) (by decide +kernel)
theorem kw_761 : (Cond.instanceMethod yX1_readSum : Cond) ∈ LT := LT_of 761 (by decide +kernel) (by decide +kernel)
theorem kw_762 : (Cond.code yX1_readSum cX1_readSum 5 none : Cond) ∈ LT := LT_of 762 (by decide +kernel) (by decide +kernel)
theorem kw_763 : (Cond.methodLink RX1 41 yX1_readProduct : Cond) ∈ LT := LT_of 763 (by decide +kernel) (by decide +kernel)
theorem kw_765 : (Cond.instanceMethod yX1_readProduct : Cond) ∈ LT := LT_of 765 (by decide +kernel) (by decide +kernel)
theorem kw_766 : (Cond.code yX1_readProduct cX1_readProduct 5 none : Cond) ∈ LT := LT_of 766 (by decide +kernel) (by decide +kernel)
theorem kw_767 : (Cond.methodLink RX1 48 yX1_readUnit : Cond) ∈ LT := LT_of 767 (by decide +kernel) (by decide +kernel)
theorem kw_769 : (Cond.instanceMethod yX1_readUnit : Cond) ∈ LT := LT_of 769 (by decide +kernel) (by decide +kernel)
theorem kw_770 : (Cond.code yX1_readUnit cX1_readUnit 3 none : Cond) ∈ LT := LT_of 770 (by decide +kernel) (by decide +kernel)
theorem kw_771 : (Cond.methodLink RX1 51 yX7_isAtNumber : Cond) ∈ LT := LT_of 771 (by decide +kernel) (by decide +kernel)
theorem kw_772 : (Cond.methodLink RX1 55 yX7_number : Cond) ∈ LT := LT_of 772 (by decide +kernel) (by decide +kernel)
theorem kw_773 : (Cond.methodLink RX1 44 yX7_takes : Cond) ∈ LT := LT_of 773 (by decide +kernel) (by decide +kernel)
theorem kw_774 : (Cond.instanceMethod yX7_takes : Cond) ∈ LT := LT_of 774 (by decide +kernel) (by decide +kernel)
theorem kw_775 : (Cond.selects RX7 yX7_takes yX7_takes : Cond) ∈ LT := LT_of 775 (by decide +kernel) (by decide +kernel)
theorem kw_776 : (Cond.code yX7_takes cX7_takes 2 (some .boolean) : Cond) ∈ LT := LT_of 776 (by decide +kernel) (by decide +kernel)
theorem kw_777 : (Cond.methodLink RX1 59 yX1_readOpen : Cond) ∈ LT := LT_of 777 (by decide +kernel) (by decide +kernel)
theorem kw_779 : (Cond.instanceMethod yX1_readOpen : Cond) ∈ LT := LT_of 779 (by decide +kernel) (by decide +kernel)
theorem kw_780 : (Cond.code yX1_readOpen cX1_readOpen 4 none : Cond) ∈ LT := LT_of 780 (by decide +kernel) (by decide +kernel)
theorem kw_781 : (Cond.methodLink RX1 74 yX7_blame : Cond) ∈ LT := LT_of 781 (by decide +kernel) (by decide +kernel)
theorem kw_782 : (Cond.methodLink RX1 77 yX7_need : Cond) ∈ LT := LT_of 782 (by decide +kernel) (by decide +kernel)
theorem kw_784 : (Cond.methodLink RX1 65 yX7_takes_ : Cond) ∈ LT := LT_of 784 (by decide +kernel) (by decide +kernel)
theorem kw_786 : (Cond.methodLink RX1 70 yX1_readValue : Cond) ∈ LT := LT_of 786 (by decide +kernel) (by decide +kernel)
theorem kw_787 : (Cond.instanceMethod yX1_readValue : Cond) ∈ LT := LT_of 787 (by decide +kernel) (by decide +kernel)
theorem kw_788 : (Cond.selects RX1 yX1_readValue yX1_readValue : Cond) ∈ LT := LT_of 788 (by decide +kernel) (by decide +kernel)
theorem kw_789 : (Cond.code yX1_readValue cX1_readValue 3 none : Cond) ∈ LT := LT_of 789 (by decide +kernel) (by decide +kernel)
theorem kw_797 : (Cond.methodLink RX1 36 yX7_needEnd : Cond) ∈ LT := LT_of 797 (by decide +kernel) (by decide +kernel)
theorem kw_798 : (Cond.instanceMethod yX7_needEnd : Cond) ∈ LT := LT_of 798 (by decide +kernel) (by decide +kernel)
theorem kw_799 : (Cond.selects RX7 yX7_needEnd yX7_needEnd : Cond) ∈ LT := LT_of 799 (by decide +kernel) (by decide +kernel)
theorem kw_800 : (Cond.code yX7_needEnd cX7_needEnd 1 none : Cond) ∈ LT := LT_of 800 (by decide +kernel) (by decide +kernel)
theorem kw_801 : (Cond.methodLink RX7 62 yX7_isAtEnd : Cond) ∈ LT := LT_of 801 (by decide +kernel) (by decide +kernel)
theorem kw_813 : (Cond.methodLink RX8 34 yX8_readSteps : Cond) ∈ LT := LT_of 813 (by decide +kernel) (by decide +kernel)
theorem kw_815 : (Cond.instanceMethod yX8_readSteps : Cond) ∈ LT := LT_of 815 (by decide +kernel) (by decide +kernel)
theorem kw_816 : (Cond.code yX8_readSteps cX8_readSteps 5 none : Cond) ∈ LT := LT_of 816 (by decide +kernel) (by decide +kernel)
theorem kw_817 : (Cond.methodLink RX8 43 yX7_isAtEnd : Cond) ∈ LT := LT_of 817 (by decide +kernel) (by decide +kernel)
theorem kw_818 : (Cond.methodLink RX8 47 yX7_peek : Cond) ∈ LT := LT_of 818 (by decide +kernel) (by decide +kernel)
theorem kw_819 : (Cond.methodLink RX8 51 yX8_readStep : Cond) ∈ LT := LT_of 819 (by decide +kernel) (by decide +kernel)
theorem kw_821 : (Cond.instanceMethod yX8_readStep : Cond) ∈ LT := LT_of 821 (by decide +kernel) (by decide +kernel)
theorem kw_822 : (Cond.code yX8_readStep cX8_readStep 5 none : Cond) ∈ LT := LT_of 822 (by decide +kernel) (by decide +kernel)
theorem kw_824 : (Cond.methodLink RX8 60 yX7_takes_ : Cond) ∈ LT := LT_of 824 (by decide +kernel) (by decide +kernel)
theorem kw_825 : (Cond.methodLink RX8 64 yX7_number : Cond) ∈ LT := LT_of 825 (by decide +kernel) (by decide +kernel)
theorem kw_826 : (Cond.methodLink RX8 68 yX8_add : Cond) ∈ LT := LT_of 826 (by decide +kernel) (by decide +kernel)
theorem kw_827 : (Cond.instanceMethod yX8_add : Cond) ∈ LT := LT_of 827 (by decide +kernel) (by decide +kernel)
theorem kw_828 : (Cond.selects RX8 yX8_add yX8_add : Cond) ∈ LT := LT_of 828 (by decide +kernel) (by decide +kernel)
theorem kw_829 : (Cond.code yX8_add cX8_add 4 none : Cond) ∈ LT := LT_of 829 (by decide +kernel) (by decide +kernel)
theorem kw_836 : (Cond.methodLink RX8 95 yX8_readAgain : Cond) ∈ LT := LT_of 836 (by decide +kernel) (by decide +kernel)
theorem kw_838 : (Cond.instanceMethod yX8_readAgain : Cond) ∈ LT := LT_of 838 (by decide +kernel) (by decide +kernel)
theorem kw_839 : (Cond.code yX8_readAgain cX8_readAgain 5 none : Cond) ∈ LT := LT_of 839 (by decide +kernel) (by decide +kernel)
theorem kw_840 : (Cond.methodLink RX8 98 yX7_blame : Cond) ∈ LT := LT_of 840 (by decide +kernel) (by decide +kernel)
theorem kw_841 : (Cond.methodLink RX8 54 yX7_need : Cond) ∈ LT := LT_of 841 (by decide +kernel) (by decide +kernel)
theorem kw_842 : (Cond.methodLink RX8 38 yX7_needEnd : Cond) ∈ LT := LT_of 842 (by decide +kernel) (by decide +kernel)
theorem kw_847 : (Cond.constant RX8 102 (1000000) : Cond) ∈ LT := LT_of 847 (by decide +kernel) (by decide +kernel)
theorem kw_848 : (Cond.methodLink RX8 103 yX8_afterRound : Cond) ∈ LT := LT_of 848 (by decide +kernel) (by decide +kernel)
theorem kw_849 : (Cond.instanceMethod yX8_afterRound : Cond) ∈ LT := LT_of 849 (by decide +kernel) (by decide +kernel)
theorem kw_850 : (Cond.selects RX8 yX8_afterRound yX8_afterRound : Cond) ∈ LT := LT_of 850 (by decide +kernel) (by decide +kernel)
theorem kw_851 : (Cond.code yX8_afterRound cX8_afterRound 3 (some .int) : Cond) ∈ LT := LT_of 851 (by decide +kernel) (by decide +kernel)
theorem kw_852 : (Cond.methodLink RX8 107 yX8_isDone : Cond) ∈ LT := LT_of 852 (by decide +kernel) (by decide +kernel)
theorem kw_853 : (Cond.instanceMethod yX8_isDone : Cond) ∈ LT := LT_of 853 (by decide +kernel) (by decide +kernel)
theorem kw_854 : (Cond.selects RX8 yX8_isDone yX8_isDone : Cond) ∈ LT := LT_of 854 (by decide +kernel) (by decide +kernel)
theorem kw_855 : (Cond.code yX8_isDone cX8_isDone 5 (some .boolean) : Cond) ∈ LT := LT_of 855 (by decide +kernel) (by decide +kernel)
theorem kw_856 : (Cond.methodLink RX8 111 yX4_blow : Cond) ∈ LT := LT_of 856 (by decide +kernel) (by decide +kernel)
theorem kw_857 : (Cond.instanceMethod yX4_blow : Cond) ∈ LT := LT_of 857 (by decide +kernel) (by decide +kernel)
theorem kw_858 : (Cond.selects RX4 yX4_blow yX4_blow : Cond) ∈ LT := LT_of 858 (by decide +kernel) (by decide +kernel)
theorem kw_859 : (Cond.code yX4_blow cX4_blow 6 (some .boolean) : Cond) ∈ LT := LT_of 859 (by decide +kernel) (by decide +kernel)
theorem kw_860 : (Cond.methodLink RX4 111 yX4_toldBy : Cond) ∈ LT := LT_of 860 (by decide +kernel) (by decide +kernel)
theorem kw_861 : (Cond.instanceMethod yX4_toldBy : Cond) ∈ LT := LT_of 861 (by decide +kernel) (by decide +kernel)
theorem kw_862 : (Cond.selects RX4 yX4_toldBy yX4_toldBy : Cond) ∈ LT := LT_of 862 (by decide +kernel) (by decide +kernel)
theorem kw_863 : (Cond.code yX4_toldBy cX4_toldBy 6 (some .int) : Cond) ∈ LT := LT_of 863 (by decide +kernel) (by decide +kernel)
theorem kw_864 : (Cond.methodLink RX4 108 yX4_nextOf : Cond) ∈ LT := LT_of 864 (by decide +kernel) (by decide +kernel)
theorem kw_865 : (Cond.methodLink RX8 117 yX4_go : Cond) ∈ LT := LT_of 865 (by decide +kernel) (by decide +kernel)
theorem kw_866 : (Cond.instanceMethod yX4_go : Cond) ∈ LT := LT_of 866 (by decide +kernel) (by decide +kernel)
theorem kw_867 : (Cond.selects RX4 yX4_go yX4_go : Cond) ∈ LT := LT_of 867 (by decide +kernel) (by decide +kernel)
theorem kw_868 : (Cond.code yX4_go cX4_go 3 (some .boolean) : Cond) ∈ LT := LT_of 868 (by decide +kernel) (by decide +kernel)
theorem kw_869 : (Cond.methodLink RX4 84 yX4_wordsIn : Cond) ∈ LT := LT_of 869 (by decide +kernel) (by decide +kernel)
theorem kw_870 : (Cond.instanceMethod yX4_wordsIn : Cond) ∈ LT := LT_of 870 (by decide +kernel) (by decide +kernel)
theorem kw_871 : (Cond.selects RX4 yX4_wordsIn yX4_wordsIn : Cond) ∈ LT := LT_of 871 (by decide +kernel) (by decide +kernel)
theorem kw_872 : (Cond.code yX4_wordsIn cX4_wordsIn 4 (some .int) : Cond) ∈ LT := LT_of 872 (by decide +kernel) (by decide +kernel)
theorem kw_873 : (Cond.methodLink RX4 78 yX4_lyingAt : Cond) ∈ LT := LT_of 873 (by decide +kernel) (by decide +kernel)
theorem kw_874 : (Cond.instanceMethod yX4_lyingAt : Cond) ∈ LT := LT_of 874 (by decide +kernel) (by decide +kernel)
theorem kw_875 : (Cond.selects RX4 yX4_lyingAt yX4_lyingAt : Cond) ∈ LT := LT_of 875 (by decide +kernel) (by decide +kernel)
theorem kw_876 : (Cond.code yX4_lyingAt cX4_lyingAt 3 (some .int) : Cond) ∈ LT := LT_of 876 (by decide +kernel) (by decide +kernel)
theorem kw_877 : (Cond.methodLink RX8 121 yX4_clearBed : Cond) ∈ LT := LT_of 877 (by decide +kernel) (by decide +kernel)
theorem kw_878 : (Cond.instanceMethod yX4_clearBed : Cond) ∈ LT := LT_of 878 (by decide +kernel) (by decide +kernel)
theorem kw_879 : (Cond.selects RX4 yX4_clearBed yX4_clearBed : Cond) ∈ LT := LT_of 879 (by decide +kernel) (by decide +kernel)
theorem kw_880 : (Cond.code yX4_clearBed cX4_clearBed 2 (some .boolean) : Cond) ∈ LT := LT_of 880 (by decide +kernel) (by decide +kernel)
theorem kw_881 : (Cond.methodLink RX8 125 yX4_pour : Cond) ∈ LT := LT_of 881 (by decide +kernel) (by decide +kernel)
theorem kw_882 : (Cond.instanceMethod yX4_pour : Cond) ∈ LT := LT_of 882 (by decide +kernel) (by decide +kernel)
theorem kw_883 : (Cond.selects RX4 yX4_pour yX4_pour : Cond) ∈ LT := LT_of 883 (by decide +kernel) (by decide +kernel)
theorem kw_884 : (Cond.code yX4_pour cX4_pour 5 none : Cond) ∈ LT := LT_of 884 (by decide +kernel) (by decide +kernel)
theorem kw_885 : (Cond.methodLink RX4 115 yX4_wetBy : Cond) ∈ LT := LT_of 885 (by decide +kernel) (by decide +kernel)
theorem kw_886 : (Cond.instanceMethod yX4_wetBy : Cond) ∈ LT := LT_of 886 (by decide +kernel) (by decide +kernel)
theorem kw_887 : (Cond.selects RX4 yX4_wetBy yX4_wetBy : Cond) ∈ LT := LT_of 887 (by decide +kernel) (by decide +kernel)
theorem kw_888 : (Cond.code yX4_wetBy cX4_wetBy 2 (some .int) : Cond) ∈ LT := LT_of 888 (by decide +kernel) (by decide +kernel)
theorem kw_889 : (Cond.methodLink RX4 91 Lib.Math.min.name : Cond) ∈ LT := LT_of 889 (by decide +kernel) (by decide +kernel)
theorem kw_890 : (Cond.methodLink RX4 118 yX4_isTied : Cond) ∈ LT := LT_of 890 (by decide +kernel) (by decide +kernel)
theorem kw_891 : (Cond.instanceMethod yX4_isTied : Cond) ∈ LT := LT_of 891 (by decide +kernel) (by decide +kernel)
theorem kw_892 : (Cond.selects RX4 yX4_isTied yX4_isTied : Cond) ∈ LT := LT_of 892 (by decide +kernel) (by decide +kernel)
theorem kw_893 : (Cond.code yX4_isTied cX4_isTied 2 (some .boolean) : Cond) ∈ LT := LT_of 893 (by decide +kernel) (by decide +kernel)
theorem kw_895 : (Cond.methodLink RX4 122 yX4_runOf : Cond) ∈ LT := LT_of 895 (by decide +kernel) (by decide +kernel)
theorem kw_896 : (Cond.instanceMethod yX4_runOf : Cond) ∈ LT := LT_of 896 (by decide +kernel) (by decide +kernel)
theorem kw_897 : (Cond.selects RX4 yX4_runOf yX4_runOf : Cond) ∈ LT := LT_of 897 (by decide +kernel) (by decide +kernel)
theorem kw_898 : (Cond.code yX4_runOf cX4_runOf 9 (some .int) : Cond) ∈ LT := LT_of 898 (by decide +kernel) (by decide +kernel)
theorem kw_899 : (Cond.methodLink RX4 102 yX1_tells : Cond) ∈ LT := LT_of 899 (by decide +kernel) (by decide +kernel)
theorem kw_900 : (Cond.instanceMethod yX1_tells : Cond) ∈ LT := LT_of 900 (by decide +kernel) (by decide +kernel)
theorem kw_901 : (Cond.selects RX1 yX1_tells yX1_tells : Cond) ∈ LT := LT_of 901 (by decide +kernel) (by decide +kernel)
theorem kw_902 : (Cond.code yX1_tells cX1_tells 11 (some .int) : Cond) ∈ LT := LT_of 902 (by decide +kernel) (by decide +kernel)
theorem kw_903 : (Cond.methodLink RX1 95 yX1_joined : Cond) ∈ LT := LT_of 903 (by decide +kernel) (by decide +kernel)
theorem kw_904 : (Cond.static yX1_joined : Cond) ∈ LT := LT_of 904 (by decide +kernel) (by decide +kernel)
theorem kw_905 : (Cond.code yX1_joined cX1_joined 3 (some .int) : Cond) ∈ LT := LT_of 905 (by decide +kernel) (by decide +kernel)
theorem kw_906 : (Cond.methodLink RX4 126 yX4_runOut : Cond) ∈ LT := LT_of 906 (by decide +kernel) (by decide +kernel)
theorem kw_907 : (Cond.instanceMethod yX4_runOut : Cond) ∈ LT := LT_of 907 (by decide +kernel) (by decide +kernel)
theorem kw_908 : (Cond.selects RX4 yX4_runOut yX4_runOut : Cond) ∈ LT := LT_of 908 (by decide +kernel) (by decide +kernel)
theorem kw_909 : (Cond.code yX4_runOut cX4_runOut 6 none : Cond) ∈ LT := LT_of 909 (by decide +kernel) (by decide +kernel)
theorem kw_910 : (Cond.methodLink RX8 134 yX4_passYear : Cond) ∈ LT := LT_of 910 (by decide +kernel) (by decide +kernel)
theorem kw_911 : (Cond.instanceMethod yX4_passYear : Cond) ∈ LT := LT_of 911 (by decide +kernel) (by decide +kernel)
theorem kw_912 : (Cond.selects RX4 yX4_passYear yX4_passYear : Cond) ∈ LT := LT_of 912 (by decide +kernel) (by decide +kernel)
theorem kw_913 : (Cond.code yX4_passYear cX4_passYear 3 none : Cond) ∈ LT := LT_of 913 (by decide +kernel) (by decide +kernel)
theorem kw_914 : (Cond.methodLink RX4 130 yX4_ripen : Cond) ∈ LT := LT_of 914 (by decide +kernel) (by decide +kernel)
theorem kw_915 : (Cond.instanceMethod yX4_ripen : Cond) ∈ LT := LT_of 915 (by decide +kernel) (by decide +kernel)
theorem kw_916 : (Cond.selects RX4 yX4_ripen yX4_ripen : Cond) ∈ LT := LT_of 916 (by decide +kernel) (by decide +kernel)
theorem kw_917 : (Cond.code yX4_ripen cX4_ripen 2 none : Cond) ∈ LT := LT_of 917 (by decide +kernel) (by decide +kernel)
theorem kw_929 : (Cond.methodLink RX0 22 yX7_isAtEnd : Cond) ∈ LT := LT_of 929 (by decide +kernel) (by decide +kernel)
theorem kw_930 : (Cond.methodLink RX0 28 yX7_number : Cond) ∈ LT := LT_of 930 (by decide +kernel) (by decide +kernel)
theorem kw_931 : (Cond.methodLink RX0 32 yX7_blame : Cond) ∈ LT := LT_of 931 (by decide +kernel) (by decide +kernel)
theorem kw_932 : (Cond.methodLink RX0 36 yX7_need : Cond) ∈ LT := LT_of 932 (by decide +kernel) (by decide +kernel)
theorem kw_1105 : (Cond.methodLink RX0 45 yX4_lastAfter : Cond) ∈ LT := LT_of 1105 (by decide +kernel) (by decide +kernel)
theorem kw_1106 : (Cond.instanceMethod yX4_lastAfter : Cond) ∈ LT := LT_of 1106 (by decide +kernel) (by decide +kernel)
theorem kw_1107 : (Cond.selects RX4 yX4_lastAfter yX4_lastAfter : Cond) ∈ LT := LT_of 1107 (by decide +kernel) (by decide +kernel)
theorem kw_1108 : (Cond.code yX4_lastAfter cX4_lastAfter 7 (some .int) : Cond) ∈ LT := LT_of 1108 (by decide +kernel) (by decide +kernel)
theorem kw_1231 : (Cond.methodLink RX6 15 yX6_passHalf : Cond) ∈ LT := LT_of 1231 (by decide +kernel) (by decide +kernel)
theorem kw_1232 : (Cond.instanceMethod yX6_passHalf : Cond) ∈ LT := LT_of 1232 (by decide +kernel) (by decide +kernel)
theorem kw_1233 : (Cond.selects RX6 yX6_passHalf yX6_passHalf : Cond) ∈ LT := LT_of 1233 (by decide +kernel) (by decide +kernel)
theorem kw_1234 : (Cond.code yX6_passHalf cX6_passHalf 6 none : Cond) ∈ LT := LT_of 1234 (by decide +kernel) (by decide +kernel)
theorem kw_1235 : (Cond.methodLink RX6 25 yX6_draw : Cond) ∈ LT := LT_of 1235 (by decide +kernel) (by decide +kernel)
theorem kw_1236 : (Cond.instanceMethod yX6_draw : Cond) ∈ LT := LT_of 1236 (by decide +kernel) (by decide +kernel)
theorem kw_1237 : (Cond.selects RX6 yX6_draw yX6_draw : Cond) ∈ LT := LT_of 1237 (by decide +kernel) (by decide +kernel)
theorem kw_1238 : (Cond.code yX6_draw cX6_draw 3 (some .int) : Cond) ∈ LT := LT_of 1238 (by decide +kernel) (by decide +kernel)
theorem kw_1239 : (Cond.constant RX6 49 (1103515245) : Cond) ∈ LT := LT_of 1239 (by decide +kernel) (by decide +kernel)
theorem kw_1240 : (Cond.methodLink RX6 29 yX4_pour : Cond) ∈ LT := LT_of 1240 (by decide +kernel) (by decide +kernel)
theorem kw_1241 : (Cond.methodLink RX6 33 yX4_blow : Cond) ∈ LT := LT_of 1241 (by decide +kernel) (by decide +kernel)
theorem kw_1242 : (Cond.methodLink RX6 45 yX4_go : Cond) ∈ LT := LT_of 1242 (by decide +kernel) (by decide +kernel)
theorem kw_1243 : (Cond.methodLink RX6 19 yX4_passYear : Cond) ∈ LT := LT_of 1243 (by decide +kernel) (by decide +kernel)
theorem cb_m14 : (Int8.ofInt (-14)).toInt32 = -14 := by decide
theorem cb_m13 : (Int8.ofInt (-13)).toInt32 = -13 := by decide
theorem cb_m12 : (Int8.ofInt (-12)).toInt32 = -12 := by decide
theorem cb_m11 : (Int8.ofInt (-11)).toInt32 = -11 := by decide
theorem cb_m10 : (Int8.ofInt (-10)).toInt32 = -10 := by decide
theorem cb_m9 : (Int8.ofInt (-9)).toInt32 = -9 := by decide
theorem cb_m8 : (Int8.ofInt (-8)).toInt32 = -8 := by decide
theorem cb_m7 : (Int8.ofInt (-7)).toInt32 = -7 := by decide
theorem cb_m6 : (Int8.ofInt (-6)).toInt32 = -6 := by decide
theorem cb_m5 : (Int8.ofInt (-5)).toInt32 = -5 := by decide
theorem cb_m4 : (Int8.ofInt (-4)).toInt32 = -4 := by decide
theorem cb_m3 : (Int8.ofInt (-3)).toInt32 = -3 := by decide
theorem cb_m2 : (Int8.ofInt (-2)).toInt32 = -2 := by decide
theorem cb_6 : (Int8.ofInt (6)).toInt32 = 6 := by decide
theorem cb_7 : (Int8.ofInt (7)).toInt32 = 7 := by decide
theorem cb_8 : (Int8.ofInt (8)).toInt32 = 8 := by decide
theorem cb_10 : (Int8.ofInt (10)).toInt32 = 10 := by decide
theorem cb_11 : (Int8.ofInt (11)).toInt32 = 11 := by decide
theorem cb_12 : (Int8.ofInt (12)).toInt32 = 12 := by decide
theorem cb_15 : (Int8.ofInt (15)).toInt32 = 15 := by decide
theorem cb_16 : (Int8.ofInt (16)).toInt32 = 16 := by decide
theorem cb_20 : (Int8.ofInt (20)).toInt32 = 20 := by decide
theorem cb_24 : (Int8.ofInt (24)).toInt32 = 24 := by decide
theorem cb_30 : (Int8.ofInt (30)).toInt32 = 30 := by decide
theorem cb_32 : (Int8.ofInt (32)).toInt32 = 32 := by decide
theorem cb_37 : (Int8.ofInt (37)).toInt32 = 37 := by decide
theorem cb_40 : (Int8.ofInt (40)).toInt32 = 40 := by decide
theorem cb_42 : (Int8.ofInt (42)).toInt32 = 42 := by decide
theorem cb_43 : (Int8.ofInt (43)).toInt32 = 43 := by decide
theorem cb_45 : (Int8.ofInt (45)).toInt32 = 45 := by decide
theorem cb_47 : (Int8.ofInt (47)).toInt32 = 47 := by decide
theorem cb_48 : (Int8.ofInt (48)).toInt32 = 48 := by decide
theorem cb_57 : (Int8.ofInt (57)).toInt32 = 57 := by decide
theorem cb_59 : (Int8.ofInt (59)).toInt32 = 59 := by decide
theorem cb_60 : (Int8.ofInt (60)).toInt32 = 60 := by decide
theorem cb_72 : (Int8.ofInt (72)).toInt32 = 72 := by decide
theorem cb_91 : (Int8.ofInt (91)).toInt32 = 91 := by decide
theorem cb_93 : (Int8.ofInt (93)).toInt32 = 93 := by decide
theorem cb_97 : (Int8.ofInt (97)).toInt32 = 97 := by decide
theorem cb_99 : (Int8.ofInt (99)).toInt32 = 99 := by decide
theorem cb_122 : (Int8.ofInt (122)).toInt32 = 122 := by decide
theorem ci_m1 : Int32.ofInt (-1) = -1 := by decide
theorem ci_0 : Int32.ofInt (0) = 0 := by decide
theorem ci_1 : Int32.ofInt (1) = 1 := by decide
theorem ci_2 : Int32.ofInt (2) = 2 := by decide
theorem ci_3 : Int32.ofInt (3) = 3 := by decide
theorem ci_4 : Int32.ofInt (4) = 4 := by decide
theorem ci_5 : Int32.ofInt (5) = 5 := by decide
theorem ii_m8 (x : Int32) : x + Int32.ofInt (-8) = x + (-8) := congrArg (x + ·) (by decide)
theorem ii_m1 (x : Int32) : x + Int32.ofInt (-1) = x + (-1) := congrArg (x + ·) (by decide)
theorem ii_1 (x : Int32) : x + Int32.ofInt (1) = x + 1 := congrArg (x + ·) (by decide)
theorem cs_150 : (Int16.ofInt (150)).toInt32 = 150 := by decide
theorem cs_200 : (Int16.ofInt (200)).toInt32 = 200 := by decide
theorem cs_255 : (Int16.ofInt (255)).toInt32 = 255 := by decide
theorem cs_400 : (Int16.ofInt (400)).toInt32 = 400 := by decide
theorem cs_600 : (Int16.ofInt (600)).toInt32 = 600 := by decide
theorem cs_999 : (Int16.ofInt (999)).toInt32 = 999 := by decide
theorem cs_1000 : (Int16.ofInt (1000)).toInt32 = 1000 := by decide
theorem cs_12345 : (Int16.ofInt (12345)).toInt32 = 12345 := by decide
theorem cs_32767 : (Int16.ofInt (32767)).toInt32 = 32767 := by decide
theorem hy_X0_clear : yX0_clear.cls = RX0 ∧ yX0_clear.cls ≠ "java/lang/invoke/MethodHandle" ∧ yX0_clear.cls ≠ "java/lang/invoke/VarHandle" ∧ (parseMethodDescriptor yX0_clear.desc).map (fun d => d.parameters.length) = some 0 := by decide +kernel
theorem hy_X1_add : yX1_add.cls = RX1 ∧ yX1_add.cls ≠ "java/lang/invoke/MethodHandle" ∧ yX1_add.cls ≠ "java/lang/invoke/VarHandle" ∧ (parseMethodDescriptor yX1_add.desc).map (fun d => d.parameters.length) = some 1 := by decide +kernel
theorem hs_X1_joined : yX1_joined.cls = RX1 ∧ yX1_joined.cls ≠ "java/lang/invoke/MethodHandle" ∧ yX1_joined.cls ≠ "java/lang/invoke/VarHandle" ∧ (parseMethodDescriptor yX1_joined.desc).map (fun d => d.parameters.length) = some 3 := by decide +kernel
theorem hy_X1_readOpen : yX1_readOpen.cls = RX1 ∧ yX1_readOpen.cls ≠ "java/lang/invoke/MethodHandle" ∧ yX1_readOpen.cls ≠ "java/lang/invoke/VarHandle" ∧ (parseMethodDescriptor yX1_readOpen.desc).map (fun d => d.parameters.length) = some 3 := by decide +kernel
theorem hy_X1_readProduct : yX1_readProduct.cls = RX1 ∧ yX1_readProduct.cls ≠ "java/lang/invoke/MethodHandle" ∧ yX1_readProduct.cls ≠ "java/lang/invoke/VarHandle" ∧ (parseMethodDescriptor yX1_readProduct.desc).map (fun d => d.parameters.length) = some 2 := by decide +kernel
theorem hy_X1_readSum : yX1_readSum.cls = RX1 ∧ yX1_readSum.cls ≠ "java/lang/invoke/MethodHandle" ∧ yX1_readSum.cls ≠ "java/lang/invoke/VarHandle" ∧ (parseMethodDescriptor yX1_readSum.desc).map (fun d => d.parameters.length) = some 2 := by decide +kernel
theorem hy_X1_readUnit : yX1_readUnit.cls = RX1 ∧ yX1_readUnit.cls ≠ "java/lang/invoke/MethodHandle" ∧ yX1_readUnit.cls ≠ "java/lang/invoke/VarHandle" ∧ (parseMethodDescriptor yX1_readUnit.desc).map (fun d => d.parameters.length) = some 2 := by decide +kernel
theorem hy_X1_readValue : yX1_readValue.cls = RX1 ∧ yX1_readValue.cls ≠ "java/lang/invoke/MethodHandle" ∧ yX1_readValue.cls ≠ "java/lang/invoke/VarHandle" ∧ (parseMethodDescriptor yX1_readValue.desc).map (fun d => d.parameters.length) = some 1 := by decide +kernel
theorem hy_X1_tells : yX1_tells.cls = RX1 ∧ yX1_tells.cls ≠ "java/lang/invoke/MethodHandle" ∧ yX1_tells.cls ≠ "java/lang/invoke/VarHandle" ∧ (parseMethodDescriptor yX1_tells.desc).map (fun d => d.parameters.length) = some 7 := by decide +kernel
theorem hy_X2_readBed : yX2_readBed.cls = RX2 ∧ yX2_readBed.cls ≠ "java/lang/invoke/MethodHandle" ∧ yX2_readBed.cls ≠ "java/lang/invoke/VarHandle" ∧ (parseMethodDescriptor yX2_readBed.desc).map (fun d => d.parameters.length) = some 1 := by decide +kernel
theorem hy_X2_readClause : yX2_readClause.cls = RX2 ∧ yX2_readClause.cls ≠ "java/lang/invoke/MethodHandle" ∧ yX2_readClause.cls ≠ "java/lang/invoke/VarHandle" ∧ (parseMethodDescriptor yX2_readClause.desc).map (fun d => d.parameters.length) = some 1 := by decide +kernel
theorem hy_X2_readLetter : yX2_readLetter.cls = RX2 ∧ yX2_readLetter.cls ≠ "java/lang/invoke/MethodHandle" ∧ yX2_readLetter.cls ≠ "java/lang/invoke/VarHandle" ∧ (parseMethodDescriptor yX2_readLetter.desc).map (fun d => d.parameters.length) = some 1 := by decide +kernel
theorem hy_X2_readReader : yX2_readReader.cls = RX2 ∧ yX2_readReader.cls ≠ "java/lang/invoke/MethodHandle" ∧ yX2_readReader.cls ≠ "java/lang/invoke/VarHandle" ∧ (parseMethodDescriptor yX2_readReader.desc).map (fun d => d.parameters.length) = some 1 := by decide +kernel
theorem hy_X2_wordAt : yX2_wordAt.cls = RX2 ∧ yX2_wordAt.cls ≠ "java/lang/invoke/MethodHandle" ∧ yX2_wordAt.cls ≠ "java/lang/invoke/VarHandle" ∧ (parseMethodDescriptor yX2_wordAt.desc).map (fun d => d.parameters.length) = some 2 := by decide +kernel
theorem hy_X4_blow : yX4_blow.cls = RX4 ∧ yX4_blow.cls ≠ "java/lang/invoke/MethodHandle" ∧ yX4_blow.cls ≠ "java/lang/invoke/VarHandle" ∧ (parseMethodDescriptor yX4_blow.desc).map (fun d => d.parameters.length) = some 2 := by decide +kernel
theorem hy_X4_clearBed : yX4_clearBed.cls = RX4 ∧ yX4_clearBed.cls ≠ "java/lang/invoke/MethodHandle" ∧ yX4_clearBed.cls ≠ "java/lang/invoke/VarHandle" ∧ (parseMethodDescriptor yX4_clearBed.desc).map (fun d => d.parameters.length) = some 1 := by decide +kernel
theorem hy_X4_go : yX4_go.cls = RX4 ∧ yX4_go.cls ≠ "java/lang/invoke/MethodHandle" ∧ yX4_go.cls ≠ "java/lang/invoke/VarHandle" ∧ (parseMethodDescriptor yX4_go.desc).map (fun d => d.parameters.length) = some 2 := by decide +kernel
theorem hy_X4_isTied : yX4_isTied.cls = RX4 ∧ yX4_isTied.cls ≠ "java/lang/invoke/MethodHandle" ∧ yX4_isTied.cls ≠ "java/lang/invoke/VarHandle" ∧ (parseMethodDescriptor yX4_isTied.desc).map (fun d => d.parameters.length) = some 1 := by decide +kernel
theorem hy_X4_lastAfter : yX4_lastAfter.cls = RX4 ∧ yX4_lastAfter.cls ≠ "java/lang/invoke/MethodHandle" ∧ yX4_lastAfter.cls ≠ "java/lang/invoke/VarHandle" ∧ (parseMethodDescriptor yX4_lastAfter.desc).map (fun d => d.parameters.length) = some 4 := by decide +kernel
theorem hy_X4_leftOf : yX4_leftOf.cls = RX4 ∧ yX4_leftOf.cls ≠ "java/lang/invoke/MethodHandle" ∧ yX4_leftOf.cls ≠ "java/lang/invoke/VarHandle" ∧ (parseMethodDescriptor yX4_leftOf.desc).map (fun d => d.parameters.length) = some 2 := by decide +kernel
theorem hy_X4_lyingAt : yX4_lyingAt.cls = RX4 ∧ yX4_lyingAt.cls ≠ "java/lang/invoke/MethodHandle" ∧ yX4_lyingAt.cls ≠ "java/lang/invoke/VarHandle" ∧ (parseMethodDescriptor yX4_lyingAt.desc).map (fun d => d.parameters.length) = some 2 := by decide +kernel
theorem hy_X4_nextOf : yX4_nextOf.cls = RX4 ∧ yX4_nextOf.cls ≠ "java/lang/invoke/MethodHandle" ∧ yX4_nextOf.cls ≠ "java/lang/invoke/VarHandle" ∧ (parseMethodDescriptor yX4_nextOf.desc).map (fun d => d.parameters.length) = some 2 := by decide +kernel
theorem hy_X4_passYear : yX4_passYear.cls = RX4 ∧ yX4_passYear.cls ≠ "java/lang/invoke/MethodHandle" ∧ yX4_passYear.cls ≠ "java/lang/invoke/VarHandle" ∧ (parseMethodDescriptor yX4_passYear.desc).map (fun d => d.parameters.length) = some 1 := by decide +kernel
theorem hy_X4_pour : yX4_pour.cls = RX4 ∧ yX4_pour.cls ≠ "java/lang/invoke/MethodHandle" ∧ yX4_pour.cls ≠ "java/lang/invoke/VarHandle" ∧ (parseMethodDescriptor yX4_pour.desc).map (fun d => d.parameters.length) = some 3 := by decide +kernel
theorem hy_X4_ripen : yX4_ripen.cls = RX4 ∧ yX4_ripen.cls ≠ "java/lang/invoke/MethodHandle" ∧ yX4_ripen.cls ≠ "java/lang/invoke/VarHandle" ∧ (parseMethodDescriptor yX4_ripen.desc).map (fun d => d.parameters.length) = some 1 := by decide +kernel
theorem hy_X4_runOf : yX4_runOf.cls = RX4 ∧ yX4_runOf.cls ≠ "java/lang/invoke/MethodHandle" ∧ yX4_runOf.cls ≠ "java/lang/invoke/VarHandle" ∧ (parseMethodDescriptor yX4_runOf.desc).map (fun d => d.parameters.length) = some 5 := by decide +kernel
theorem hy_X4_runOut : yX4_runOut.cls = RX4 ∧ yX4_runOut.cls ≠ "java/lang/invoke/MethodHandle" ∧ yX4_runOut.cls ≠ "java/lang/invoke/VarHandle" ∧ (parseMethodDescriptor yX4_runOut.desc).map (fun d => d.parameters.length) = some 3 := by decide +kernel
theorem hy_X4_toldBy : yX4_toldBy.cls = RX4 ∧ yX4_toldBy.cls ≠ "java/lang/invoke/MethodHandle" ∧ yX4_toldBy.cls ≠ "java/lang/invoke/VarHandle" ∧ (parseMethodDescriptor yX4_toldBy.desc).map (fun d => d.parameters.length) = some 3 := by decide +kernel
theorem hy_X4_wetBy : yX4_wetBy.cls = RX4 ∧ yX4_wetBy.cls ≠ "java/lang/invoke/MethodHandle" ∧ yX4_wetBy.cls ≠ "java/lang/invoke/VarHandle" ∧ (parseMethodDescriptor yX4_wetBy.desc).map (fun d => d.parameters.length) = some 1 := by decide +kernel
theorem hy_X4_wordsIn : yX4_wordsIn.cls = RX4 ∧ yX4_wordsIn.cls ≠ "java/lang/invoke/MethodHandle" ∧ yX4_wordsIn.cls ≠ "java/lang/invoke/VarHandle" ∧ (parseMethodDescriptor yX4_wordsIn.desc).map (fun d => d.parameters.length) = some 1 := by decide +kernel
theorem hy_X5_bestBehind : yX5_bestBehind.cls = RX5 ∧ yX5_bestBehind.cls ≠ "java/lang/invoke/MethodHandle" ∧ yX5_bestBehind.cls ≠ "java/lang/invoke/VarHandle" ∧ (parseMethodDescriptor yX5_bestBehind.desc).map (fun d => d.parameters.length) = some 2 := by decide +kernel
theorem hy_X5_choose : yX5_choose.cls = RX5 ∧ yX5_choose.cls ≠ "java/lang/invoke/MethodHandle" ∧ yX5_choose.cls ≠ "java/lang/invoke/VarHandle" ∧ (parseMethodDescriptor yX5_choose.desc).map (fun d => d.parameters.length) = some 1 := by decide +kernel
theorem hy_X5_worth : yX5_worth.cls = RX5 ∧ yX5_worth.cls ≠ "java/lang/invoke/MethodHandle" ∧ yX5_worth.cls ≠ "java/lang/invoke/VarHandle" ∧ (parseMethodDescriptor yX5_worth.desc).map (fun d => d.parameters.length) = some 3 := by decide +kernel
theorem hy_X6_draw : yX6_draw.cls = RX6 ∧ yX6_draw.cls ≠ "java/lang/invoke/MethodHandle" ∧ yX6_draw.cls ≠ "java/lang/invoke/VarHandle" ∧ (parseMethodDescriptor yX6_draw.desc).map (fun d => d.parameters.length) = some 1 := by decide +kernel
theorem hy_X6_passHalf : yX6_passHalf.cls = RX6 ∧ yX6_passHalf.cls ≠ "java/lang/invoke/MethodHandle" ∧ yX6_passHalf.cls ≠ "java/lang/invoke/VarHandle" ∧ (parseMethodDescriptor yX6_passHalf.desc).map (fun d => d.parameters.length) = some 4 := by decide +kernel
theorem hy_X7_blame : yX7_blame.cls = RX7 ∧ yX7_blame.cls ≠ "java/lang/invoke/MethodHandle" ∧ yX7_blame.cls ≠ "java/lang/invoke/VarHandle" ∧ (parseMethodDescriptor yX7_blame.desc).map (fun d => d.parameters.length) = some 1 := by decide +kernel
theorem hy_X7_byteAt : yX7_byteAt.cls = RX7 ∧ yX7_byteAt.cls ≠ "java/lang/invoke/MethodHandle" ∧ yX7_byteAt.cls ≠ "java/lang/invoke/VarHandle" ∧ (parseMethodDescriptor yX7_byteAt.desc).map (fun d => d.parameters.length) = some 1 := by decide +kernel
theorem hy_X7_isAtEnd : yX7_isAtEnd.cls = RX7 ∧ yX7_isAtEnd.cls ≠ "java/lang/invoke/MethodHandle" ∧ yX7_isAtEnd.cls ≠ "java/lang/invoke/VarHandle" ∧ (parseMethodDescriptor yX7_isAtEnd.desc).map (fun d => d.parameters.length) = some 0 := by decide +kernel
theorem hy_X7_isAtNumber : yX7_isAtNumber.cls = RX7 ∧ yX7_isAtNumber.cls ≠ "java/lang/invoke/MethodHandle" ∧ yX7_isAtNumber.cls ≠ "java/lang/invoke/VarHandle" ∧ (parseMethodDescriptor yX7_isAtNumber.desc).map (fun d => d.parameters.length) = some 0 := by decide +kernel
theorem hs_X7_isDigit : yX7_isDigit.cls = RX7 ∧ yX7_isDigit.cls ≠ "java/lang/invoke/MethodHandle" ∧ yX7_isDigit.cls ≠ "java/lang/invoke/VarHandle" ∧ (parseMethodDescriptor yX7_isDigit.desc).map (fun d => d.parameters.length) = some 1 := by decide +kernel
theorem hs_X7_isSmallLetter : yX7_isSmallLetter.cls = RX7 ∧ yX7_isSmallLetter.cls ≠ "java/lang/invoke/MethodHandle" ∧ yX7_isSmallLetter.cls ≠ "java/lang/invoke/VarHandle" ∧ (parseMethodDescriptor yX7_isSmallLetter.desc).map (fun d => d.parameters.length) = some 1 := by decide +kernel
theorem hy_X7_need : yX7_need.cls = RX7 ∧ yX7_need.cls ≠ "java/lang/invoke/MethodHandle" ∧ yX7_need.cls ≠ "java/lang/invoke/VarHandle" ∧ (parseMethodDescriptor yX7_need.desc).map (fun d => d.parameters.length) = some 1 := by decide +kernel
theorem hy_X7_needEnd : yX7_needEnd.cls = RX7 ∧ yX7_needEnd.cls ≠ "java/lang/invoke/MethodHandle" ∧ yX7_needEnd.cls ≠ "java/lang/invoke/VarHandle" ∧ (parseMethodDescriptor yX7_needEnd.desc).map (fun d => d.parameters.length) = some 0 := by decide +kernel
theorem hy_X7_number : yX7_number.cls = RX7 ∧ yX7_number.cls ≠ "java/lang/invoke/MethodHandle" ∧ yX7_number.cls ≠ "java/lang/invoke/VarHandle" ∧ (parseMethodDescriptor yX7_number.desc).map (fun d => d.parameters.length) = some 2 := by decide +kernel
theorem hy_X7_peek : yX7_peek.cls = RX7 ∧ yX7_peek.cls ≠ "java/lang/invoke/MethodHandle" ∧ yX7_peek.cls ≠ "java/lang/invoke/VarHandle" ∧ (parseMethodDescriptor yX7_peek.desc).map (fun d => d.parameters.length) = some 0 := by decide +kernel
theorem hy_X7_takes : yX7_takes.cls = RX7 ∧ yX7_takes.cls ≠ "java/lang/invoke/MethodHandle" ∧ yX7_takes.cls ≠ "java/lang/invoke/VarHandle" ∧ (parseMethodDescriptor yX7_takes.desc).map (fun d => d.parameters.length) = some 1 := by decide +kernel
theorem hy_X7_takes_ : yX7_takes_.cls = RX7 ∧ yX7_takes_.cls ≠ "java/lang/invoke/MethodHandle" ∧ yX7_takes_.cls ≠ "java/lang/invoke/VarHandle" ∧ (parseMethodDescriptor yX7_takes_.desc).map (fun d => d.parameters.length) = some 1 := by decide +kernel
theorem hy_X8_add : yX8_add.cls = RX8 ∧ yX8_add.cls ≠ "java/lang/invoke/MethodHandle" ∧ yX8_add.cls ≠ "java/lang/invoke/VarHandle" ∧ (parseMethodDescriptor yX8_add.desc).map (fun d => d.parameters.length) = some 3 := by decide +kernel
theorem hy_X8_afterRound : yX8_afterRound.cls = RX8 ∧ yX8_afterRound.cls ≠ "java/lang/invoke/MethodHandle" ∧ yX8_afterRound.cls ≠ "java/lang/invoke/VarHandle" ∧ (parseMethodDescriptor yX8_afterRound.desc).map (fun d => d.parameters.length) = some 1 := by decide +kernel
theorem hy_X8_isDone : yX8_isDone.cls = RX8 ∧ yX8_isDone.cls ≠ "java/lang/invoke/MethodHandle" ∧ yX8_isDone.cls ≠ "java/lang/invoke/VarHandle" ∧ (parseMethodDescriptor yX8_isDone.desc).map (fun d => d.parameters.length) = some 4 := by decide +kernel
theorem hy_X8_readAgain : yX8_readAgain.cls = RX8 ∧ yX8_readAgain.cls ≠ "java/lang/invoke/MethodHandle" ∧ yX8_readAgain.cls ≠ "java/lang/invoke/VarHandle" ∧ (parseMethodDescriptor yX8_readAgain.desc).map (fun d => d.parameters.length) = some 3 := by decide +kernel
theorem hy_X8_readStep : yX8_readStep.cls = RX8 ∧ yX8_readStep.cls ≠ "java/lang/invoke/MethodHandle" ∧ yX8_readStep.cls ≠ "java/lang/invoke/VarHandle" ∧ (parseMethodDescriptor yX8_readStep.desc).map (fun d => d.parameters.length) = some 3 := by decide +kernel
theorem hy_X8_readSteps : yX8_readSteps.cls = RX8 ∧ yX8_readSteps.cls ≠ "java/lang/invoke/MethodHandle" ∧ yX8_readSteps.cls ≠ "java/lang/invoke/VarHandle" ∧ (parseMethodDescriptor yX8_readSteps.desc).map (fun d => d.parameters.length) = some 3 := by decide +kernel
theorem hn_X9_has : yX9_has.cls ≠ "java/lang/invoke/MethodHandle" ∧ yX9_has.cls ≠ "java/lang/invoke/VarHandle" ∧ (parseMethodDescriptor yX9_has.desc).map (fun d => d.parameters.length) = some 2 := by decide +kernel
def cs_X0 (cy : Nat → ClassId) (a : Nat → Nat) (b_last : (Nat → Int32)) (b_lines : Int32) : va_W := [(a 0, .inr (0, [.ref (a 1), .int b_lines])), (a 1, .inl (cy 1, 6, .inl b_last))]
theorem FOK_X0 : FOK RX0 TX0 2 tyX0 := ⟨FOK_in (by decide +kernel), tyX0_ok, nmX0⟩
def cs_X1 (cy : Nat → ClassId) (a : Nat → Nat) (l_code : (Nat → Int32)) (l_values : (Nat → Int32)) (l_stack : (Nat → Int32)) (l_length : Int32) : va_W := [(a 0, .inr (1, [.ref (a 1), .ref (a 2), .ref (a 3), .int l_length])), (a 1, .inl (cy 1, 150, .inl l_code)), (a 2, .inl (cy 1, 7, .inl l_values)), (a 3, .inl (cy 1, 32, .inl l_stack))]
theorem FOK_X1 : FOK RX1 TX1 4 tyX1 := ⟨FOK_in (by decide +kernel), tyX1_ok, nmX1⟩
def cs_X2 (cy : Nat → ClassId) (a : Nat → Nat) (p_beds : Int32) (p_letters : Int32) (p_readers : Int32) (p_far : (Nat → Int32)) (p_drain : (Nat → Int32)) (p_length : (Nat → Int32)) (p_words : (Nat → Int32)) (p_home : (Nat → Int32)) : va_W := [(a 0, .inr (2, [.int p_beds, .int p_letters, .int p_readers, .ref (a 1), .ref (a 2), .ref (a 3), .ref (a 4), .ref (a 5)])), (a 1, .inl (cy 1, 6, .inl p_far)), (a 2, .inl (cy 1, 6, .inl p_drain)), (a 3, .inl (cy 1, 6, .inl p_length)), (a 4, .inl (cy 1, 48, .inl p_words)), (a 5, .inl (cy 1, 5, .inl p_home))]
theorem FOK_X2 : FOK RX2 TX2 8 tyX2 := ⟨FOK_in (by decide +kernel), tyX2_ok, nmX2⟩
def cs_X4 (cy : Nat → ClassId) (a : Nat → Nat) (s_year : Int32) (s_wet : Int32) (s_lost : Int32) (s_eaten : Int32) (s_tied : Int32) (s_ripeMany : Int32) (s_gone : (Nat → Int32)) (s_place : (Nat → Int32)) (s_heard : (Nat → Int32)) (s_many : (Nat → Int32)) (s_lying : (Nat → Int32)) (s_ripe : (Nat → Int32)) : va_W := [(a 0, .inr (4, [.int s_year, .int s_wet, .int s_lost, .int s_eaten, .int s_tied, .int s_ripeMany, .ref (a 1), .ref (a 2), .ref (a 3), .ref (a 4), .ref (a 5), .ref (a 6)])), (a 1, .inl (cy 1, 6, .inl s_gone)), (a 2, .inl (cy 1, 5, .inl s_place)), (a 3, .inl (cy 1, 5, .inl s_heard)), (a 4, .inl (cy 1, 6, .inl s_many)), (a 5, .inl (cy 1, 72, .inl s_lying)), (a 6, .inl (cy 1, 60, .inl s_ripe))]
theorem FOK_X4 : FOK RX4 TX4 12 tyX4 := ⟨FOK_in (by decide +kernel), tyX4_ok, nmX4⟩
def cs_X5 (cy : Nat → ClassId) (a : Nat → Nat) (f_order : (Nat → Int32)) (f_seam : (Nat → Int32)) (f_toCome : (Nat → Int32)) (f_places : Int32) (f_seams : Int32) : va_W := [(a 0, .inr (5, [.ref (a 1), .ref (a 2), .ref (a 3), .int f_places, .int f_seams])), (a 1, .inl (cy 1, 6, .inl f_order)), (a 2, .inl (cy 1, 36, .inl f_seam)), (a 3, .inl (cy 1, 384, .inl f_toCome))]
theorem FOK_X5 : FOK RX5 TX5 5 tyX5 := ⟨FOK_in (by decide +kernel), tyX5_ok, nmX5⟩
def cs_X6 (cy : Nat → ClassId) (a : Nat → Nat) (u_drawn : Int32) : va_W := [(a 0, .inr (6, [.int u_drawn]))]
theorem FOK_X6 : FOK RX6 TX6 1 tyX6 := ⟨FOK_in (by decide +kernel), tyX6_ok, nmX6⟩
def cs_X7 (cy : Nat → ClassId) (a : Nat → Nat) (t_bytes : (Nat → Int32)) (t_held : Int32) (t_end : Int32) (t_at : Int32) (t_start : Int32) (t_faultKind : Int32) (t_faultPlace : Int32) : va_W := [(a 0, .inr (7, [.ref (a 1), .int t_held, .int t_end, .int t_at, .int t_start, .int t_faultKind, .int t_faultPlace])), (a 1, .inl (cy 0, 600, .inl t_bytes))]
theorem FOK_X7 : FOK RX7 TX7 7 tyX7 := ⟨FOK_in (by decide +kernel), tyX7_ok, nmX7⟩
def cs_X8 (cy : Nat → ClassId) (a : Nat → Nat) (w_kind : (Nat → Int32)) (w_first : (Nat → Int32)) (w_second : (Nat → Int32)) (w_rounds : (Nat → Int32)) (w_length : Int32) (w_begun : Int32) (w_refused : Int32) : va_W := [(a 0, .inr (8, [.ref (a 1), .ref (a 2), .ref (a 3), .ref (a 4), .int w_length, .int w_begun, .int w_refused])), (a 1, .inl (cy 1, 150, .inl w_kind)), (a 2, .inl (cy 1, 150, .inl w_first)), (a 3, .inl (cy 1, 150, .inl w_second)), (a 4, .inl (cy 1, 150, .inl w_rounds))]
theorem FOK_X8 : FOK RX8 TX8 7 tyX8 := ⟨FOK_in (by decide +kernel), tyX8_ok, nmX8⟩
