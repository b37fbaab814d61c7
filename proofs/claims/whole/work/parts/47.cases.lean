theorem n_79 : Cond.methodLink RL 13 yX3_add ∈ gT := gT_in (List.mem_append_right _ (List.mem_of_getElem? (i := 79) (by decide +kernel))) rfl
theorem n_80 : Cond.instanceMethod yX3_add ∈ gT := gT_in (List.mem_append_right _ (List.mem_of_getElem? (i := 80) (by decide +kernel))) rfl
theorem n_81 : Cond.selects RX3 yX3_add yX3_add ∈ gT := gT_in (List.mem_append_right _ (List.mem_of_getElem? (i := 81) (by decide +kernel))) rfl
theorem n_128 : Cond.methodLink RL 18 yX3_drop ∈ gT := gT_in (List.mem_append_right _ (List.mem_of_getElem? (i := 128) (by decide +kernel))) rfl
theorem n_129 : Cond.instanceMethod yX3_drop ∈ gT := gT_in (List.mem_append_right _ (List.mem_of_getElem? (i := 129) (by decide +kernel))) rfl
theorem n_130 : Cond.selects RX3 yX3_drop yX3_drop ∈ gT := gT_in (List.mem_append_right _ (List.mem_of_getElem? (i := 130) (by decide +kernel))) rfl
theorem n_136 : Cond.methodLink RL 22 yX3_bound ∈ gT := gT_in (List.mem_append_right _ (List.mem_of_getElem? (i := 136) (by decide +kernel))) rfl
theorem n_137 : Cond.instanceMethod yX3_bound ∈ gT := gT_in (List.mem_append_right _ (List.mem_of_getElem? (i := 137) (by decide +kernel))) rfl
theorem n_138 : Cond.selects RX3 yX3_bound yX3_bound ∈ gT := gT_in (List.mem_append_right _ (List.mem_of_getElem? (i := 138) (by decide +kernel))) rfl
theorem n_141 : Cond.methodLink RL 26 yX3_join ∈ gT := gT_in (List.mem_append_right _ (List.mem_of_getElem? (i := 141) (by decide +kernel))) rfl
theorem n_142 : Cond.instanceMethod yX3_join ∈ gT := gT_in (List.mem_append_right _ (List.mem_of_getElem? (i := 142) (by decide +kernel))) rfl
theorem n_143 : Cond.selects RX3 yX3_join yX3_join ∈ gT := gT_in (List.mem_append_right _ (List.mem_of_getElem? (i := 143) (by decide +kernel))) rfl
theorem n_178 : Cond.methodLink RL 31 yX3_exchange ∈ gT := gT_in (List.mem_append_right _ (List.mem_of_getElem? (i := 178) (by decide +kernel))) rfl
theorem n_179 : Cond.instanceMethod yX3_exchange ∈ gT := gT_in (List.mem_append_right _ (List.mem_of_getElem? (i := 179) (by decide +kernel))) rfl
theorem n_180 : Cond.selects RX3 yX3_exchange yX3_exchange ∈ gT := gT_in (List.mem_append_right _ (List.mem_of_getElem? (i := 180) (by decide +kernel))) rfl
theorem n_182 : Cond.methodLink RL 36 yX3_clear ∈ gT := gT_in (List.mem_append_right _ (List.mem_of_getElem? (i := 182) (by decide +kernel))) rfl
theorem n_183 : Cond.instanceMethod yX3_clear ∈ gT := gT_in (List.mem_append_right _ (List.mem_of_getElem? (i := 183) (by decide +kernel))) rfl
theorem n_184 : Cond.selects RX3 yX3_clear yX3_clear ∈ gT := gT_in (List.mem_append_right _ (List.mem_of_getElem? (i := 184) (by decide +kernel))) rfl
theorem n_186 : Cond.methodLink RL 40 yX3_rowOf ∈ gT := gT_in (List.mem_append_right _ (List.mem_of_getElem? (i := 186) (by decide +kernel))) rfl
theorem n_187 : Cond.instanceMethod yX3_rowOf ∈ gT := gT_in (List.mem_append_right _ (List.mem_of_getElem? (i := 187) (by decide +kernel))) rfl
theorem n_188 : Cond.selects RX3 yX3_rowOf yX3_rowOf ∈ gT := gT_in (List.mem_append_right _ (List.mem_of_getElem? (i := 188) (by decide +kernel))) rfl
theorem n_230 : Cond.methodLink RL 44 yX3_upperBit ∈ gT := gT_in (List.mem_append_right _ (List.mem_of_getElem? (i := 230) (by decide +kernel))) rfl
theorem n_231 : Cond.instanceMethod yX3_upperBit ∈ gT := gT_in (List.mem_append_right _ (List.mem_of_getElem? (i := 231) (by decide +kernel))) rfl
theorem n_232 : Cond.selects RX3 yX3_upperBit yX3_upperBit ∈ gT := gT_in (List.mem_append_right _ (List.mem_of_getElem? (i := 232) (by decide +kernel))) rfl
theorem n_248 : Cond.methodLink RL 48 yX3_partOf ∈ gT := gT_in (List.mem_append_right _ (List.mem_of_getElem? (i := 248) (by decide +kernel))) rfl
theorem n_249 : Cond.instanceMethod yX3_partOf ∈ gT := gT_in (List.mem_append_right _ (List.mem_of_getElem? (i := 249) (by decide +kernel))) rfl
theorem n_250 : Cond.selects RX3 yX3_partOf yX3_partOf ∈ gT := gT_in (List.mem_append_right _ (List.mem_of_getElem? (i := 250) (by decide +kernel))) rfl
theorem n_261 : Cond.methodLink RL 53 yX3_sample ∈ gT := gT_in (List.mem_append_right _ (List.mem_of_getElem? (i := 261) (by decide +kernel))) rfl
theorem n_262 : Cond.instanceMethod yX3_sample ∈ gT := gT_in (List.mem_append_right _ (List.mem_of_getElem? (i := 262) (by decide +kernel))) rfl
theorem n_263 : Cond.selects RX3 yX3_sample yX3_sample ∈ gT := gT_in (List.mem_append_right _ (List.mem_of_getElem? (i := 263) (by decide +kernel))) rfl
theorem n_269 : Cond.methodLink RL 57 yX3_lowerBits ∈ gT := gT_in (List.mem_append_right _ (List.mem_of_getElem? (i := 269) (by decide +kernel))) rfl
theorem n_270 : Cond.instanceMethod yX3_lowerBits ∈ gT := gT_in (List.mem_append_right _ (List.mem_of_getElem? (i := 270) (by decide +kernel))) rfl
theorem n_271 : Cond.selects RX3 yX3_lowerBits yX3_lowerBits ∈ gT := gT_in (List.mem_append_right _ (List.mem_of_getElem? (i := 271) (by decide +kernel))) rfl
theorem n_282 : Cond.methodLink RL 62 yX3_next ∈ gT := gT_in (List.mem_append_right _ (List.mem_of_getElem? (i := 282) (by decide +kernel))) rfl
theorem n_283 : Cond.instanceMethod yX3_next ∈ gT := gT_in (List.mem_append_right _ (List.mem_of_getElem? (i := 283) (by decide +kernel))) rfl
theorem n_284 : Cond.selects RX3 yX3_next yX3_next ∈ gT := gT_in (List.mem_append_right _ (List.mem_of_getElem? (i := 284) (by decide +kernel))) rfl
theorem n_293 : Cond.methodLink RL 66 yX3_below ∈ gT := gT_in (List.mem_append_right _ (List.mem_of_getElem? (i := 293) (by decide +kernel))) rfl
theorem n_294 : Cond.instanceMethod yX3_below ∈ gT := gT_in (List.mem_append_right _ (List.mem_of_getElem? (i := 294) (by decide +kernel))) rfl
theorem n_295 : Cond.selects RX3 yX3_below yX3_below ∈ gT := gT_in (List.mem_append_right _ (List.mem_of_getElem? (i := 295) (by decide +kernel))) rfl
theorem n_297 : Cond.methodLink RL 70 yX3_common ∈ gT := gT_in (List.mem_append_right _ (List.mem_of_getElem? (i := 297) (by decide +kernel))) rfl
theorem n_298 : Cond.instanceMethod yX3_common ∈ gT := gT_in (List.mem_append_right _ (List.mem_of_getElem? (i := 298) (by decide +kernel))) rfl
theorem n_299 : Cond.selects RX3 yX3_common yX3_common ∈ gT := gT_in (List.mem_append_right _ (List.mem_of_getElem? (i := 299) (by decide +kernel))) rfl
theorem n_320 : Cond.methodLink RL 74 yX3_perNumber ∈ gT := gT_in (List.mem_append_right _ (List.mem_of_getElem? (i := 320) (by decide +kernel))) rfl
theorem n_321 : Cond.instanceMethod yX3_perNumber ∈ gT := gT_in (List.mem_append_right _ (List.mem_of_getElem? (i := 321) (by decide +kernel))) rfl
theorem n_322 : Cond.selects RX3 yX3_perNumber yX3_perNumber ∈ gT := gT_in (List.mem_append_right _ (List.mem_of_getElem? (i := 322) (by decide +kernel))) rfl
theorem n_329 : Cond.methodLink RL 78 yX3_bestBound ∈ gT := gT_in (List.mem_append_right _ (List.mem_of_getElem? (i := 329) (by decide +kernel))) rfl
theorem n_330 : Cond.instanceMethod yX3_bestBound ∈ gT := gT_in (List.mem_append_right _ (List.mem_of_getElem? (i := 330) (by decide +kernel))) rfl
theorem n_331 : Cond.selects RX3 yX3_bestBound yX3_bestBound ∈ gT := gT_in (List.mem_append_right _ (List.mem_of_getElem? (i := 331) (by decide +kernel))) rfl
theorem n_337 : Cond.methodLink RL 82 yX3_gapOf ∈ gT := gT_in (List.mem_append_right _ (List.mem_of_getElem? (i := 337) (by decide +kernel))) rfl
theorem n_338 : Cond.instanceMethod yX3_gapOf ∈ gT := gT_in (List.mem_append_right _ (List.mem_of_getElem? (i := 338) (by decide +kernel))) rfl
theorem n_339 : Cond.selects RX3 yX3_gapOf yX3_gapOf ∈ gT := gT_in (List.mem_append_right _ (List.mem_of_getElem? (i := 339) (by decide +kernel))) rfl
theorem n_350 : Cond.methodLink RL 86 yX3_count ∈ gT := gT_in (List.mem_append_right _ (List.mem_of_getElem? (i := 350) (by decide +kernel))) rfl
theorem n_351 : Cond.instanceMethod yX3_count ∈ gT := gT_in (List.mem_append_right _ (List.mem_of_getElem? (i := 351) (by decide +kernel))) rfl
theorem n_352 : Cond.selects RX3 yX3_count yX3_count ∈ gT := gT_in (List.mem_append_right _ (List.mem_of_getElem? (i := 352) (by decide +kernel))) rfl
theorem n_354 : Cond.methodLink RL 90 yX3_undo ∈ gT := gT_in (List.mem_append_right _ (List.mem_of_getElem? (i := 354) (by decide +kernel))) rfl
theorem n_355 : Cond.instanceMethod yX3_undo ∈ gT := gT_in (List.mem_append_right _ (List.mem_of_getElem? (i := 355) (by decide +kernel))) rfl
theorem n_356 : Cond.selects RX3 yX3_undo yX3_undo ∈ gT := gT_in (List.mem_append_right _ (List.mem_of_getElem? (i := 356) (by decide +kernel))) rfl
theorem n_366 : Cond.methodLink RL 94 yX3_type ∈ gT := gT_in (List.mem_append_right _ (List.mem_of_getElem? (i := 366) (by decide +kernel))) rfl
theorem n_367 : Cond.instanceMethod yX3_type ∈ gT := gT_in (List.mem_append_right _ (List.mem_of_getElem? (i := 367) (by decide +kernel))) rfl
theorem n_368 : Cond.selects RX3 yX3_type yX3_type ∈ gT := gT_in (List.mem_append_right _ (List.mem_of_getElem? (i := 368) (by decide +kernel))) rfl
theorem n_374 : Cond.methodLink RL 98 yX3_clearText ∈ gT := gT_in (List.mem_append_right _ (List.mem_of_getElem? (i := 374) (by decide +kernel))) rfl
theorem n_375 : Cond.instanceMethod yX3_clearText ∈ gT := gT_in (List.mem_append_right _ (List.mem_of_getElem? (i := 375) (by decide +kernel))) rfl
theorem n_376 : Cond.selects RX3 yX3_clearText yX3_clearText ∈ gT := gT_in (List.mem_append_right _ (List.mem_of_getElem? (i := 376) (by decide +kernel))) rfl
theorem n_378 : Cond.methodLink RL 102 yX3_fault ∈ gT := gT_in (List.mem_append_right _ (List.mem_of_getElem? (i := 378) (by decide +kernel))) rfl
theorem n_379 : Cond.instanceMethod yX3_fault ∈ gT := gT_in (List.mem_append_right _ (List.mem_of_getElem? (i := 379) (by decide +kernel))) rfl
theorem n_380 : Cond.selects RX3 yX3_fault yX3_fault ∈ gT := gT_in (List.mem_append_right _ (List.mem_of_getElem? (i := 380) (by decide +kernel))) rfl
theorem n_398 : Cond.methodLink RL 106 yX3_read ∈ gT := gT_in (List.mem_append_right _ (List.mem_of_getElem? (i := 398) (by decide +kernel))) rfl
theorem n_399 : Cond.instanceMethod yX3_read ∈ gT := gT_in (List.mem_append_right _ (List.mem_of_getElem? (i := 399) (by decide +kernel))) rfl
theorem n_400 : Cond.selects RX3 yX3_read yX3_read ∈ gT := gT_in (List.mem_append_right _ (List.mem_of_getElem? (i := 400) (by decide +kernel))) rfl
theorem n_463 : Cond.methodLink RL 17 yX4_add ∈ gT := gT_in (List.mem_append_right _ (List.mem_of_getElem? (i := 463) (by decide +kernel))) rfl
theorem n_464 : Cond.instanceMethod yX4_add ∈ gT := gT_in (List.mem_append_right _ (List.mem_of_getElem? (i := 464) (by decide +kernel))) rfl
theorem n_465 : Cond.selects RX4 yX4_add yX4_add ∈ gT := gT_in (List.mem_append_right _ (List.mem_of_getElem? (i := 465) (by decide +kernel))) rfl
theorem n_493 : Cond.methodLink RL 21 yX4_drop ∈ gT := gT_in (List.mem_append_right _ (List.mem_of_getElem? (i := 493) (by decide +kernel))) rfl
theorem n_494 : Cond.instanceMethod yX4_drop ∈ gT := gT_in (List.mem_append_right _ (List.mem_of_getElem? (i := 494) (by decide +kernel))) rfl
theorem n_495 : Cond.selects RX4 yX4_drop yX4_drop ∈ gT := gT_in (List.mem_append_right _ (List.mem_of_getElem? (i := 495) (by decide +kernel))) rfl
theorem n_497 : Cond.methodLink RL 25 yX4_bound ∈ gT := gT_in (List.mem_append_right _ (List.mem_of_getElem? (i := 497) (by decide +kernel))) rfl
theorem n_498 : Cond.instanceMethod yX4_bound ∈ gT := gT_in (List.mem_append_right _ (List.mem_of_getElem? (i := 498) (by decide +kernel))) rfl
theorem n_499 : Cond.selects RX4 yX4_bound yX4_bound ∈ gT := gT_in (List.mem_append_right _ (List.mem_of_getElem? (i := 499) (by decide +kernel))) rfl
theorem n_501 : Cond.methodLink RL 30 yX4_join ∈ gT := gT_in (List.mem_append_right _ (List.mem_of_getElem? (i := 501) (by decide +kernel))) rfl
theorem n_502 : Cond.instanceMethod yX4_join ∈ gT := gT_in (List.mem_append_right _ (List.mem_of_getElem? (i := 502) (by decide +kernel))) rfl
theorem n_503 : Cond.selects RX4 yX4_join yX4_join ∈ gT := gT_in (List.mem_append_right _ (List.mem_of_getElem? (i := 503) (by decide +kernel))) rfl
theorem n_505 : Cond.methodLink RL 35 yX4_exchange ∈ gT := gT_in (List.mem_append_right _ (List.mem_of_getElem? (i := 505) (by decide +kernel))) rfl
theorem n_506 : Cond.instanceMethod yX4_exchange ∈ gT := gT_in (List.mem_append_right _ (List.mem_of_getElem? (i := 506) (by decide +kernel))) rfl
theorem n_507 : Cond.selects RX4 yX4_exchange yX4_exchange ∈ gT := gT_in (List.mem_append_right _ (List.mem_of_getElem? (i := 507) (by decide +kernel))) rfl
theorem n_509 : Cond.methodLink RL 39 yX4_clear ∈ gT := gT_in (List.mem_append_right _ (List.mem_of_getElem? (i := 509) (by decide +kernel))) rfl
theorem n_510 : Cond.instanceMethod yX4_clear ∈ gT := gT_in (List.mem_append_right _ (List.mem_of_getElem? (i := 510) (by decide +kernel))) rfl
theorem n_511 : Cond.selects RX4 yX4_clear yX4_clear ∈ gT := gT_in (List.mem_append_right _ (List.mem_of_getElem? (i := 511) (by decide +kernel))) rfl
theorem n_513 : Cond.methodLink RL 43 yX4_rowOf ∈ gT := gT_in (List.mem_append_right _ (List.mem_of_getElem? (i := 513) (by decide +kernel))) rfl
theorem n_514 : Cond.instanceMethod yX4_rowOf ∈ gT := gT_in (List.mem_append_right _ (List.mem_of_getElem? (i := 514) (by decide +kernel))) rfl
theorem n_515 : Cond.selects RX4 yX4_rowOf yX4_rowOf ∈ gT := gT_in (List.mem_append_right _ (List.mem_of_getElem? (i := 515) (by decide +kernel))) rfl
theorem n_550 : Cond.methodLink RL 47 yX4_upperBit ∈ gT := gT_in (List.mem_append_right _ (List.mem_of_getElem? (i := 550) (by decide +kernel))) rfl
theorem n_551 : Cond.instanceMethod yX4_upperBit ∈ gT := gT_in (List.mem_append_right _ (List.mem_of_getElem? (i := 551) (by decide +kernel))) rfl
theorem n_552 : Cond.selects RX4 yX4_upperBit yX4_upperBit ∈ gT := gT_in (List.mem_append_right _ (List.mem_of_getElem? (i := 552) (by decide +kernel))) rfl
theorem n_555 : Cond.methodLink RL 52 yX4_partOf ∈ gT := gT_in (List.mem_append_right _ (List.mem_of_getElem? (i := 555) (by decide +kernel))) rfl
theorem n_556 : Cond.instanceMethod yX4_partOf ∈ gT := gT_in (List.mem_append_right _ (List.mem_of_getElem? (i := 556) (by decide +kernel))) rfl
theorem n_557 : Cond.selects RX4 yX4_partOf yX4_partOf ∈ gT := gT_in (List.mem_append_right _ (List.mem_of_getElem? (i := 557) (by decide +kernel))) rfl
theorem n_563 : Cond.methodLink RL 56 yX4_sample ∈ gT := gT_in (List.mem_append_right _ (List.mem_of_getElem? (i := 563) (by decide +kernel))) rfl
theorem n_564 : Cond.instanceMethod yX4_sample ∈ gT := gT_in (List.mem_append_right _ (List.mem_of_getElem? (i := 564) (by decide +kernel))) rfl
theorem n_565 : Cond.selects RX4 yX4_sample yX4_sample ∈ gT := gT_in (List.mem_append_right _ (List.mem_of_getElem? (i := 565) (by decide +kernel))) rfl
theorem n_567 : Cond.methodLink RL 61 yX4_lowerBits ∈ gT := gT_in (List.mem_append_right _ (List.mem_of_getElem? (i := 567) (by decide +kernel))) rfl
theorem n_568 : Cond.instanceMethod yX4_lowerBits ∈ gT := gT_in (List.mem_append_right _ (List.mem_of_getElem? (i := 568) (by decide +kernel))) rfl
theorem n_569 : Cond.selects RX4 yX4_lowerBits yX4_lowerBits ∈ gT := gT_in (List.mem_append_right _ (List.mem_of_getElem? (i := 569) (by decide +kernel))) rfl
theorem n_574 : Cond.methodLink RL 65 yX4_next ∈ gT := gT_in (List.mem_append_right _ (List.mem_of_getElem? (i := 574) (by decide +kernel))) rfl
theorem n_575 : Cond.instanceMethod yX4_next ∈ gT := gT_in (List.mem_append_right _ (List.mem_of_getElem? (i := 575) (by decide +kernel))) rfl
theorem n_576 : Cond.selects RX4 yX4_next yX4_next ∈ gT := gT_in (List.mem_append_right _ (List.mem_of_getElem? (i := 576) (by decide +kernel))) rfl
theorem n_582 : Cond.methodLink RL 69 yX4_below ∈ gT := gT_in (List.mem_append_right _ (List.mem_of_getElem? (i := 582) (by decide +kernel))) rfl
theorem n_583 : Cond.instanceMethod yX4_below ∈ gT := gT_in (List.mem_append_right _ (List.mem_of_getElem? (i := 583) (by decide +kernel))) rfl
theorem n_584 : Cond.selects RX4 yX4_below yX4_below ∈ gT := gT_in (List.mem_append_right _ (List.mem_of_getElem? (i := 584) (by decide +kernel))) rfl
theorem n_586 : Cond.methodLink RL 73 yX4_common ∈ gT := gT_in (List.mem_append_right _ (List.mem_of_getElem? (i := 586) (by decide +kernel))) rfl
theorem n_587 : Cond.instanceMethod yX4_common ∈ gT := gT_in (List.mem_append_right _ (List.mem_of_getElem? (i := 587) (by decide +kernel))) rfl
theorem n_588 : Cond.selects RX4 yX4_common yX4_common ∈ gT := gT_in (List.mem_append_right _ (List.mem_of_getElem? (i := 588) (by decide +kernel))) rfl
theorem n_602 : Cond.methodLink RL 77 yX4_perNumber ∈ gT := gT_in (List.mem_append_right _ (List.mem_of_getElem? (i := 602) (by decide +kernel))) rfl
theorem n_603 : Cond.instanceMethod yX4_perNumber ∈ gT := gT_in (List.mem_append_right _ (List.mem_of_getElem? (i := 603) (by decide +kernel))) rfl
theorem n_604 : Cond.selects RX4 yX4_perNumber yX4_perNumber ∈ gT := gT_in (List.mem_append_right _ (List.mem_of_getElem? (i := 604) (by decide +kernel))) rfl
theorem n_611 : Cond.methodLink RL 81 yX4_bestBound ∈ gT := gT_in (List.mem_append_right _ (List.mem_of_getElem? (i := 611) (by decide +kernel))) rfl
theorem n_612 : Cond.instanceMethod yX4_bestBound ∈ gT := gT_in (List.mem_append_right _ (List.mem_of_getElem? (i := 612) (by decide +kernel))) rfl
theorem n_613 : Cond.selects RX4 yX4_bestBound yX4_bestBound ∈ gT := gT_in (List.mem_append_right _ (List.mem_of_getElem? (i := 613) (by decide +kernel))) rfl
theorem n_615 : Cond.methodLink RL 85 yX4_gapOf ∈ gT := gT_in (List.mem_append_right _ (List.mem_of_getElem? (i := 615) (by decide +kernel))) rfl
theorem n_616 : Cond.instanceMethod yX4_gapOf ∈ gT := gT_in (List.mem_append_right _ (List.mem_of_getElem? (i := 616) (by decide +kernel))) rfl
theorem n_617 : Cond.selects RX4 yX4_gapOf yX4_gapOf ∈ gT := gT_in (List.mem_append_right _ (List.mem_of_getElem? (i := 617) (by decide +kernel))) rfl
theorem n_619 : Cond.methodLink RL 89 yX4_count ∈ gT := gT_in (List.mem_append_right _ (List.mem_of_getElem? (i := 619) (by decide +kernel))) rfl
theorem n_620 : Cond.instanceMethod yX4_count ∈ gT := gT_in (List.mem_append_right _ (List.mem_of_getElem? (i := 620) (by decide +kernel))) rfl
theorem n_621 : Cond.selects RX4 yX4_count yX4_count ∈ gT := gT_in (List.mem_append_right _ (List.mem_of_getElem? (i := 621) (by decide +kernel))) rfl
theorem n_623 : Cond.methodLink RL 93 yX4_undo ∈ gT := gT_in (List.mem_append_right _ (List.mem_of_getElem? (i := 623) (by decide +kernel))) rfl
theorem n_624 : Cond.instanceMethod yX4_undo ∈ gT := gT_in (List.mem_append_right _ (List.mem_of_getElem? (i := 624) (by decide +kernel))) rfl
theorem n_625 : Cond.selects RX4 yX4_undo yX4_undo ∈ gT := gT_in (List.mem_append_right _ (List.mem_of_getElem? (i := 625) (by decide +kernel))) rfl
theorem n_627 : Cond.methodLink RL 97 yX4_type ∈ gT := gT_in (List.mem_append_right _ (List.mem_of_getElem? (i := 627) (by decide +kernel))) rfl
theorem n_628 : Cond.instanceMethod yX4_type ∈ gT := gT_in (List.mem_append_right _ (List.mem_of_getElem? (i := 628) (by decide +kernel))) rfl
theorem n_629 : Cond.selects RX4 yX4_type yX4_type ∈ gT := gT_in (List.mem_append_right _ (List.mem_of_getElem? (i := 629) (by decide +kernel))) rfl
theorem n_631 : Cond.methodLink RL 101 yX4_clearText ∈ gT := gT_in (List.mem_append_right _ (List.mem_of_getElem? (i := 631) (by decide +kernel))) rfl
theorem n_632 : Cond.instanceMethod yX4_clearText ∈ gT := gT_in (List.mem_append_right _ (List.mem_of_getElem? (i := 632) (by decide +kernel))) rfl
theorem n_633 : Cond.selects RX4 yX4_clearText yX4_clearText ∈ gT := gT_in (List.mem_append_right _ (List.mem_of_getElem? (i := 633) (by decide +kernel))) rfl
theorem n_635 : Cond.methodLink RL 105 yX4_fault ∈ gT := gT_in (List.mem_append_right _ (List.mem_of_getElem? (i := 635) (by decide +kernel))) rfl
theorem n_636 : Cond.instanceMethod yX4_fault ∈ gT := gT_in (List.mem_append_right _ (List.mem_of_getElem? (i := 636) (by decide +kernel))) rfl
theorem n_637 : Cond.selects RX4 yX4_fault yX4_fault ∈ gT := gT_in (List.mem_append_right _ (List.mem_of_getElem? (i := 637) (by decide +kernel))) rfl
theorem n_651 : Cond.methodLink RL 109 yX4_read ∈ gT := gT_in (List.mem_append_right _ (List.mem_of_getElem? (i := 651) (by decide +kernel))) rfl
theorem n_652 : Cond.instanceMethod yX4_read ∈ gT := gT_in (List.mem_append_right _ (List.mem_of_getElem? (i := 652) (by decide +kernel))) rfl
theorem n_653 : Cond.selects RX4 yX4_read yX4_read ∈ gT := gT_in (List.mem_append_right _ (List.mem_of_getElem? (i := 653) (by decide +kernel))) rfl
theorem g_case_0 {g : Gm} {L : Nat} {xs : Nat → Int32} (hC : LCx g L xs) {w : rW} (hI : Inv w) {i : Int} (hi : 0 ≤ i) (hiL : i + 4 ≤ L) (k : ∀ w2, Inv w2 → WL g 810 [vr 99, vr 0, vr 9, vi i] [] w2) : WL g 140 [vr 99, vr 0, vr 9, vi i] [] w := by
  refine g_aload hC 1 dL_law_140 rfl rfl ?_
  refine g_aload hC 0 dL_law_141 rfl rfl ?_
  refine g_iload hC 3 dL_law_142 rfl rfl ?_
  refine g_iconst hC dL_law_143 ?_
  refine g_iadd hC dL_law_144 ?_
  refine g_sld hC dL_law_145 (by omega) (by omega) ?_
  refine g_aload hC 0 dL_law_146 rfl rfl ?_
  refine g_iload hC 3 dL_law_147 rfl rfl ?_
  refine g_iconst hC dL_law_148 ?_
  refine g_iadd hC dL_law_149 ?_
  refine g_sld hC dL_law_150 (by omega) (by omega) ?_
  refine g_callV hC 3 [vi (sc xs (i + 1)), vi (sc xs (i + 2))] dL_law_151 ok_X3_add n_79 n_80 n_81 rfl (by decide) rfl ⟨Nat.le_of_ble_eq_true rfl, Nat.le_of_ble_eq_true rfl⟩ (Nat.le_of_ble_eq_true rfl) (avk rfl) rfl (Nat.le_of_ble_eq_true rfl) (j_add hI (sc_r _ _) (sc_r _ _)) (fun v1 w1 hv1 => ?_)
  obtain ⟨r, rfl, hr, hW⟩ := hv1
  refine g_aload hC 2 dL_law_154 rfl rfl ?_
  refine g_aload hC 0 dL_law_155 rfl rfl ?_
  refine g_iload hC 3 dL_law_156 rfl rfl ?_
  refine g_iconst hC dL_law_157 ?_
  refine g_iadd hC dL_law_158 ?_
  refine g_sld hC dL_law_159 (by omega) (by omega) ?_
  refine g_aload hC 0 dL_law_160 rfl rfl ?_
  refine g_iload hC 3 dL_law_161 rfl rfl ?_
  refine g_iconst hC dL_law_162 ?_
  refine g_iadd hC dL_law_163 ?_
  refine g_sld hC dL_law_164 (by omega) (by omega) ?_
  refine g_callV hC 4 [vi (sc xs (i + 1)), vi (sc xs (i + 2))] dL_law_165 ok_X4_add n_463 n_464 n_465 rfl (by decide) rfl ⟨Nat.le_of_ble_eq_true rfl, Nat.le_of_ble_eq_true rfl⟩ (Nat.le_of_ble_eq_true rfl) (avk rfl) rfl (Nat.le_of_ble_eq_true rfl) hW (fun v2 w2 hv2 => ?_)
  obtain ⟨rfl, hI2⟩ := hv2
  exact g_icmp_eq hC 810 dL_law_168 (by decide) hr hr (fun _ => k _ hI2) (fun z => absurd rfl z)

theorem g_case_1 {g : Gm} {L : Nat} {xs : Nat → Int32} (hC : LCx g L xs) {w : rW} (hI : Inv w) {i : Int} (hi : 0 ≤ i) (hiL : i + 4 ≤ L) (k : ∀ w2, Inv w2 → WL g 810 [vr 99, vr 0, vr 9, vi i] [] w2) : WL g 173 [vr 99, vr 0, vr 9, vi i] [] w := by
  refine g_aload hC 1 dL_law_173 rfl rfl ?_
  refine g_aload hC 0 dL_law_174 rfl rfl ?_
  refine g_iload hC 3 dL_law_175 rfl rfl ?_
  refine g_iconst hC dL_law_176 ?_
  refine g_iadd hC dL_law_177 ?_
  refine g_sld hC dL_law_178 (by omega) (by omega) ?_
  refine g_aload hC 0 dL_law_179 rfl rfl ?_
  refine g_iload hC 3 dL_law_180 rfl rfl ?_
  refine g_iconst hC dL_law_181 ?_
  refine g_iadd hC dL_law_182 ?_
  refine g_sld hC dL_law_183 (by omega) (by omega) ?_
  refine g_callV hC 3 [vi (sc xs (i + 1)), vi (sc xs (i + 2))] dL_law_184 ok_X3_drop n_128 n_129 n_130 rfl (by decide) rfl ⟨Nat.le_of_ble_eq_true rfl, Nat.le_of_ble_eq_true rfl⟩ (Nat.le_of_ble_eq_true rfl) (avk rfl) rfl (Nat.le_of_ble_eq_true rfl) (j_drop hI (sc_r _ _) (sc_r _ _)) (fun v1 w1 hv1 => ?_)
  obtain ⟨r, rfl, hr, hW⟩ := hv1
  refine g_aload hC 2 dL_law_187 rfl rfl ?_
  refine g_aload hC 0 dL_law_188 rfl rfl ?_
  refine g_iload hC 3 dL_law_189 rfl rfl ?_
  refine g_iconst hC dL_law_190 ?_
  refine g_iadd hC dL_law_191 ?_
  refine g_sld hC dL_law_192 (by omega) (by omega) ?_
  refine g_aload hC 0 dL_law_193 rfl rfl ?_
  refine g_iload hC 3 dL_law_194 rfl rfl ?_
  refine g_iconst hC dL_law_195 ?_
  refine g_iadd hC dL_law_196 ?_
  refine g_sld hC dL_law_197 (by omega) (by omega) ?_
  refine g_callV hC 4 [vi (sc xs (i + 1)), vi (sc xs (i + 2))] dL_law_198 ok_X4_drop n_493 n_494 n_495 rfl (by decide) rfl ⟨Nat.le_of_ble_eq_true rfl, Nat.le_of_ble_eq_true rfl⟩ (Nat.le_of_ble_eq_true rfl) (avk rfl) rfl (Nat.le_of_ble_eq_true rfl) hW (fun v2 w2 hv2 => ?_)
  obtain ⟨rfl, hI2⟩ := hv2
  exact g_icmp_eq hC 810 dL_law_201 (by decide) hr hr (fun _ => k _ hI2) (fun z => absurd rfl z)

theorem g_case_2 {g : Gm} {L : Nat} {xs : Nat → Int32} (hC : LCx g L xs) {w : rW} (hI : Inv w) {i : Int} (hi : 0 ≤ i) (hiL : i + 4 ≤ L) (k : ∀ w2, Inv w2 → WL g 810 [vr 99, vr 0, vr 9, vi i] [] w2) : WL g 206 [vr 99, vr 0, vr 9, vi i] [] w := by
  refine g_aload hC 1 dL_law_206 rfl rfl ?_
  refine g_aload hC 0 dL_law_207 rfl rfl ?_
  refine g_iload hC 3 dL_law_208 rfl rfl ?_
  refine g_iconst hC dL_law_209 ?_
  refine g_iadd hC dL_law_210 ?_
  refine g_sld hC dL_law_211 (by omega) (by omega) ?_
  refine g_aload hC 0 dL_law_212 rfl rfl ?_
  refine g_iload hC 3 dL_law_213 rfl rfl ?_
  refine g_iconst hC dL_law_214 ?_
  refine g_iadd hC dL_law_215 ?_
  refine g_sld hC dL_law_216 (by omega) (by omega) ?_
  refine g_callV hC 3 [vi (sc xs (i + 1)), vi (sc xs (i + 2))] dL_law_217 ok_X3_bound n_136 n_137 n_138 rfl (by decide) rfl ⟨Nat.le_of_ble_eq_true rfl, Nat.le_of_ble_eq_true rfl⟩ (Nat.le_of_ble_eq_true rfl) (avk rfl) rfl (Nat.le_of_ble_eq_true rfl) (j_bound hI (sc_r _ _) (sc_r _ _)) (fun v1 w1 hv1 => ?_)
  obtain ⟨r, rfl, hr, hW⟩ := hv1
  refine g_aload hC 2 dL_law_220 rfl rfl ?_
  refine g_aload hC 0 dL_law_221 rfl rfl ?_
  refine g_iload hC 3 dL_law_222 rfl rfl ?_
  refine g_iconst hC dL_law_223 ?_
  refine g_iadd hC dL_law_224 ?_
  refine g_sld hC dL_law_225 (by omega) (by omega) ?_
  refine g_aload hC 0 dL_law_226 rfl rfl ?_
  refine g_iload hC 3 dL_law_227 rfl rfl ?_
  refine g_iconst hC dL_law_228 ?_
  refine g_iadd hC dL_law_229 ?_
  refine g_sld hC dL_law_230 (by omega) (by omega) ?_
  refine g_callV hC 4 [vi (sc xs (i + 1)), vi (sc xs (i + 2))] dL_law_231 ok_X4_bound n_497 n_498 n_499 rfl (by decide) rfl ⟨Nat.le_of_ble_eq_true rfl, Nat.le_of_ble_eq_true rfl⟩ (Nat.le_of_ble_eq_true rfl) (avk rfl) rfl (Nat.le_of_ble_eq_true rfl) hW (fun v2 w2 hv2 => ?_)
  obtain ⟨rfl, hI2⟩ := hv2
  exact g_icmp_eq hC 810 dL_law_234 (by decide) hr hr (fun _ => k _ hI2) (fun z => absurd rfl z)

theorem g_case_3 {g : Gm} {L : Nat} {xs : Nat → Int32} (hC : LCx g L xs) {w : rW} (hI : Inv w) {i : Int} (hi : 0 ≤ i) (hiL : i + 4 ≤ L) (k : ∀ w2, Inv w2 → WL g 810 [vr 99, vr 0, vr 9, vi i] [] w2) : WL g 239 [vr 99, vr 0, vr 9, vi i] [] w := by
  refine g_aload hC 1 dL_law_239 rfl rfl ?_
  refine g_aload hC 0 dL_law_240 rfl rfl ?_
  refine g_iload hC 3 dL_law_241 rfl rfl ?_
  refine g_iconst hC dL_law_242 ?_
  refine g_iadd hC dL_law_243 ?_
  refine g_sld hC dL_law_244 (by omega) (by omega) ?_
  refine g_callV hC 3 [vi (sc xs (i + 1))] dL_law_245 ok_X3_join n_141 n_142 n_143 rfl (by decide) rfl ⟨Nat.le_of_ble_eq_true rfl, Nat.le_of_ble_eq_true rfl⟩ (Nat.le_of_ble_eq_true rfl) (avk rfl) rfl (Nat.le_of_ble_eq_true rfl) (j_join hI (sc_r _ _)) (fun v1 w1 hv1 => ?_)
  obtain ⟨r, rfl, hr, hW⟩ := hv1
  refine g_aload hC 2 dL_law_248 rfl rfl ?_
  refine g_aload hC 0 dL_law_249 rfl rfl ?_
  refine g_iload hC 3 dL_law_250 rfl rfl ?_
  refine g_iconst hC dL_law_251 ?_
  refine g_iadd hC dL_law_252 ?_
  refine g_sld hC dL_law_253 (by omega) (by omega) ?_
  refine g_callV hC 4 [vi (sc xs (i + 1))] dL_law_254 ok_X4_join n_501 n_502 n_503 rfl (by decide) rfl ⟨Nat.le_of_ble_eq_true rfl, Nat.le_of_ble_eq_true rfl⟩ (Nat.le_of_ble_eq_true rfl) (avk rfl) rfl (Nat.le_of_ble_eq_true rfl) hW (fun v2 w2 hv2 => ?_)
  obtain ⟨rfl, hI2⟩ := hv2
  exact g_icmp_eq hC 810 dL_law_257 (by decide) hr hr (fun _ => k _ hI2) (fun z => absurd rfl z)

theorem g_case_4 {g : Gm} {L : Nat} {xs : Nat → Int32} (hC : LCx g L xs) {w : rW} (hI : Inv w) {i : Int} (hi : 0 ≤ i) (hiL : i + 4 ≤ L) (k : ∀ w2, Inv w2 → WL g 810 [vr 99, vr 0, vr 9, vi i] [] w2) : WL g 262 [vr 99, vr 0, vr 9, vi i] [] w := by
  refine g_aload hC 1 dL_law_262 rfl rfl ?_
  refine g_callV hC 3 [] dL_law_263 ok_X3_exchange n_178 n_179 n_180 rfl (by decide) rfl ⟨Nat.le_of_ble_eq_true rfl, Nat.le_of_ble_eq_true rfl⟩ (Nat.le_of_ble_eq_true rfl) (avk rfl) rfl (Nat.le_of_ble_eq_true rfl) (j_exchange hI) (fun v1 w1 hv1 => ?_)
  obtain ⟨r, rfl, hr, hW⟩ := hv1
  refine g_aload hC 2 dL_law_266 rfl rfl ?_
  refine g_callV hC 4 [] dL_law_267 ok_X4_exchange n_505 n_506 n_507 rfl (by decide) rfl ⟨Nat.le_of_ble_eq_true rfl, Nat.le_of_ble_eq_true rfl⟩ (Nat.le_of_ble_eq_true rfl) (avk rfl) rfl (Nat.le_of_ble_eq_true rfl) hW (fun v2 w2 hv2 => ?_)
  obtain ⟨rfl, hI2⟩ := hv2
  exact g_icmp_eq hC 810 dL_law_270 (by decide) hr hr (fun _ => k _ hI2) (fun z => absurd rfl z)

theorem g_case_5 {g : Gm} {L : Nat} {xs : Nat → Int32} (hC : LCx g L xs) {w : rW} (hI : Inv w) {i : Int} (hi : 0 ≤ i) (hiL : i + 4 ≤ L) (k : ∀ w2, Inv w2 → WL g 810 [vr 99, vr 0, vr 9, vi i] [] w2) : WL g 275 [vr 99, vr 0, vr 9, vi i] [] w := by
  refine g_aload hC 1 dL_law_275 rfl rfl ?_
  refine g_aload hC 0 dL_law_276 rfl rfl ?_
  refine g_iload hC 3 dL_law_277 rfl rfl ?_
  refine g_iconst hC dL_law_278 ?_
  refine g_iadd hC dL_law_279 ?_
  refine g_sld hC dL_law_280 (by omega) (by omega) ?_
  refine g_callV hC 3 [vi (sc xs (i + 1))] dL_law_281 ok_X3_clear n_182 n_183 n_184 rfl (by decide) rfl ⟨Nat.le_of_ble_eq_true rfl, Nat.le_of_ble_eq_true rfl⟩ (Nat.le_of_ble_eq_true rfl) (avk rfl) rfl (Nat.le_of_ble_eq_true rfl) (j_clear hI (sc_r _ _)) (fun v1 w1 hv1 => ?_)
  obtain ⟨r, rfl, hr, hW⟩ := hv1
  refine g_aload hC 2 dL_law_284 rfl rfl ?_
  refine g_aload hC 0 dL_law_285 rfl rfl ?_
  refine g_iload hC 3 dL_law_286 rfl rfl ?_
  refine g_iconst hC dL_law_287 ?_
  refine g_iadd hC dL_law_288 ?_
  refine g_sld hC dL_law_289 (by omega) (by omega) ?_
  refine g_callV hC 4 [vi (sc xs (i + 1))] dL_law_290 ok_X4_clear n_509 n_510 n_511 rfl (by decide) rfl ⟨Nat.le_of_ble_eq_true rfl, Nat.le_of_ble_eq_true rfl⟩ (Nat.le_of_ble_eq_true rfl) (avk rfl) rfl (Nat.le_of_ble_eq_true rfl) hW (fun v2 w2 hv2 => ?_)
  obtain ⟨rfl, hI2⟩ := hv2
  exact g_icmp_eq hC 810 dL_law_293 (by decide) hr hr (fun _ => k _ hI2) (fun z => absurd rfl z)

theorem g_case_6 {g : Gm} {L : Nat} {xs : Nat → Int32} (hC : LCx g L xs) {w : rW} (hI : Inv w) {i : Int} (hi : 0 ≤ i) (hiL : i + 4 ≤ L) (k : ∀ w2, Inv w2 → WL g 810 [vr 99, vr 0, vr 9, vi i] [] w2) : WL g 298 [vr 99, vr 0, vr 9, vi i] [] w := by
  refine g_aload hC 1 dL_law_298 rfl rfl ?_
  refine g_aload hC 0 dL_law_299 rfl rfl ?_
  refine g_iload hC 3 dL_law_300 rfl rfl ?_
  refine g_iconst hC dL_law_301 ?_
  refine g_iadd hC dL_law_302 ?_
  refine g_sld hC dL_law_303 (by omega) (by omega) ?_
  refine g_aload hC 0 dL_law_304 rfl rfl ?_
  refine g_iload hC 3 dL_law_305 rfl rfl ?_
  refine g_iconst hC dL_law_306 ?_
  refine g_iadd hC dL_law_307 ?_
  refine g_sld hC dL_law_308 (by omega) (by omega) ?_
  refine g_callV hC 3 [vi (sc xs (i + 1)), vi (sc xs (i + 2))] dL_law_309 ok_X3_rowOf n_186 n_187 n_188 rfl (by decide) rfl ⟨Nat.le_of_ble_eq_true rfl, Nat.le_of_ble_eq_true rfl⟩ (Nat.le_of_ble_eq_true rfl) (avk rfl) rfl (Nat.le_of_ble_eq_true rfl) (j_rowOf hI (sc_r _ _) (sc_r _ _)) (fun v1 w1 hv1 => ?_)
  obtain ⟨r, rfl, hr, hW⟩ := hv1
  refine g_aload hC 2 dL_law_312 rfl rfl ?_
  refine g_aload hC 0 dL_law_313 rfl rfl ?_
  refine g_iload hC 3 dL_law_314 rfl rfl ?_
  refine g_iconst hC dL_law_315 ?_
  refine g_iadd hC dL_law_316 ?_
  refine g_sld hC dL_law_317 (by omega) (by omega) ?_
  refine g_aload hC 0 dL_law_318 rfl rfl ?_
  refine g_iload hC 3 dL_law_319 rfl rfl ?_
  refine g_iconst hC dL_law_320 ?_
  refine g_iadd hC dL_law_321 ?_
  refine g_sld hC dL_law_322 (by omega) (by omega) ?_
  refine g_callV hC 4 [vi (sc xs (i + 1)), vi (sc xs (i + 2))] dL_law_323 ok_X4_rowOf n_513 n_514 n_515 rfl (by decide) rfl ⟨Nat.le_of_ble_eq_true rfl, Nat.le_of_ble_eq_true rfl⟩ (Nat.le_of_ble_eq_true rfl) (avk rfl) rfl (Nat.le_of_ble_eq_true rfl) hW (fun v2 w2 hv2 => ?_)
  obtain ⟨rfl, hI2⟩ := hv2
  exact g_icmp_eq hC 810 dL_law_326 (by decide) hr hr (fun _ => k _ hI2) (fun z => absurd rfl z)

theorem g_case_7 {g : Gm} {L : Nat} {xs : Nat → Int32} (hC : LCx g L xs) {w : rW} (hI : Inv w) {i : Int} (hi : 0 ≤ i) (hiL : i + 4 ≤ L) (k : ∀ w2, Inv w2 → WL g 810 [vr 99, vr 0, vr 9, vi i] [] w2) : WL g 331 [vr 99, vr 0, vr 9, vi i] [] w := by
  refine g_aload hC 1 dL_law_331 rfl rfl ?_
  refine g_aload hC 0 dL_law_332 rfl rfl ?_
  refine g_iload hC 3 dL_law_333 rfl rfl ?_
  refine g_iconst hC dL_law_334 ?_
  refine g_iadd hC dL_law_335 ?_
  refine g_sld hC dL_law_336 (by omega) (by omega) ?_
  refine g_aload hC 0 dL_law_337 rfl rfl ?_
  refine g_iload hC 3 dL_law_338 rfl rfl ?_
  refine g_iconst hC dL_law_339 ?_
  refine g_iadd hC dL_law_340 ?_
  refine g_sld hC dL_law_341 (by omega) (by omega) ?_
  refine g_callV hC 3 [vi (sc xs (i + 1)), vi (sc xs (i + 2))] dL_law_342 ok_X3_upperBit n_230 n_231 n_232 rfl (by decide) rfl ⟨Nat.le_of_ble_eq_true rfl, Nat.le_of_ble_eq_true rfl⟩ (Nat.le_of_ble_eq_true rfl) (avk rfl) rfl (Nat.le_of_ble_eq_true rfl) (j_upperBit hI (sc_r _ _) (sc_r _ _)) (fun v1 w1 hv1 => ?_)
  obtain ⟨r, rfl, hr, hW⟩ := hv1
  refine g_aload hC 2 dL_law_345 rfl rfl ?_
  refine g_aload hC 0 dL_law_346 rfl rfl ?_
  refine g_iload hC 3 dL_law_347 rfl rfl ?_
  refine g_iconst hC dL_law_348 ?_
  refine g_iadd hC dL_law_349 ?_
  refine g_sld hC dL_law_350 (by omega) (by omega) ?_
  refine g_aload hC 0 dL_law_351 rfl rfl ?_
  refine g_iload hC 3 dL_law_352 rfl rfl ?_
  refine g_iconst hC dL_law_353 ?_
  refine g_iadd hC dL_law_354 ?_
  refine g_sld hC dL_law_355 (by omega) (by omega) ?_
  refine g_callV hC 4 [vi (sc xs (i + 1)), vi (sc xs (i + 2))] dL_law_356 ok_X4_upperBit n_550 n_551 n_552 rfl (by decide) rfl ⟨Nat.le_of_ble_eq_true rfl, Nat.le_of_ble_eq_true rfl⟩ (Nat.le_of_ble_eq_true rfl) (avk rfl) rfl (Nat.le_of_ble_eq_true rfl) hW (fun v2 w2 hv2 => ?_)
  obtain ⟨rfl, hI2⟩ := hv2
  exact g_icmp_eq hC 810 dL_law_359 (by decide) hr hr (fun _ => k _ hI2) (fun z => absurd rfl z)

theorem g_case_8 {g : Gm} {L : Nat} {xs : Nat → Int32} (hC : LCx g L xs) {w : rW} (hI : Inv w) {i : Int} (hi : 0 ≤ i) (hiL : i + 4 ≤ L) (k : ∀ w2, Inv w2 → WL g 810 [vr 99, vr 0, vr 9, vi i] [] w2) : WL g 364 [vr 99, vr 0, vr 9, vi i] [] w := by
  refine g_aload hC 1 dL_law_364 rfl rfl ?_
  refine g_aload hC 0 dL_law_365 rfl rfl ?_
  refine g_iload hC 3 dL_law_366 rfl rfl ?_
  refine g_iconst hC dL_law_367 ?_
  refine g_iadd hC dL_law_368 ?_
  refine g_sld hC dL_law_369 (by omega) (by omega) ?_
  refine g_aload hC 0 dL_law_370 rfl rfl ?_
  refine g_iload hC 3 dL_law_371 rfl rfl ?_
  refine g_iconst hC dL_law_372 ?_
  refine g_iadd hC dL_law_373 ?_
  refine g_sld hC dL_law_374 (by omega) (by omega) ?_
  refine g_aload hC 0 dL_law_375 rfl rfl ?_
  refine g_iload hC 3 dL_law_376 rfl rfl ?_
  refine g_iconst hC dL_law_377 ?_
  refine g_iadd hC dL_law_378 ?_
  refine g_sld hC dL_law_379 (by omega) (by omega) ?_
  refine g_callV hC 3 [vi (sc xs (i + 1)), vi (sc xs (i + 2)), vi (sc xs (i + 3))] dL_law_380 ok_X3_partOf n_248 n_249 n_250 rfl (by decide) rfl ⟨Nat.le_of_ble_eq_true rfl, Nat.le_of_ble_eq_true rfl⟩ (Nat.le_of_ble_eq_true rfl) (avk rfl) rfl (Nat.le_of_ble_eq_true rfl) (j_partOf hI (sc_r _ _) (sc_r _ _) (sc_r _ _)) (fun v1 w1 hv1 => ?_)
  obtain ⟨r, rfl, hr, hW⟩ := hv1
  refine g_aload hC 2 dL_law_383 rfl rfl ?_
  refine g_aload hC 0 dL_law_384 rfl rfl ?_
  refine g_iload hC 3 dL_law_385 rfl rfl ?_
  refine g_iconst hC dL_law_386 ?_
  refine g_iadd hC dL_law_387 ?_
  refine g_sld hC dL_law_388 (by omega) (by omega) ?_
  refine g_aload hC 0 dL_law_389 rfl rfl ?_
  refine g_iload hC 3 dL_law_390 rfl rfl ?_
  refine g_iconst hC dL_law_391 ?_
  refine g_iadd hC dL_law_392 ?_
  refine g_sld hC dL_law_393 (by omega) (by omega) ?_
  refine g_aload hC 0 dL_law_394 rfl rfl ?_
  refine g_iload hC 3 dL_law_395 rfl rfl ?_
  refine g_iconst hC dL_law_396 ?_
  refine g_iadd hC dL_law_397 ?_
  refine g_sld hC dL_law_398 (by omega) (by omega) ?_
  refine g_callV hC 4 [vi (sc xs (i + 1)), vi (sc xs (i + 2)), vi (sc xs (i + 3))] dL_law_399 ok_X4_partOf n_555 n_556 n_557 rfl (by decide) rfl ⟨Nat.le_of_ble_eq_true rfl, Nat.le_of_ble_eq_true rfl⟩ (Nat.le_of_ble_eq_true rfl) (avk rfl) rfl (Nat.le_of_ble_eq_true rfl) hW (fun v2 w2 hv2 => ?_)
  obtain ⟨rfl, hI2⟩ := hv2
  exact g_icmp_eq hC 810 dL_law_402 (by decide) hr hr (fun _ => k _ hI2) (fun z => absurd rfl z)

theorem g_case_9 {g : Gm} {L : Nat} {xs : Nat → Int32} (hC : LCx g L xs) {w : rW} (hI : Inv w) {i : Int} (hi : 0 ≤ i) (hiL : i + 4 ≤ L) (k : ∀ w2, Inv w2 → WL g 810 [vr 99, vr 0, vr 9, vi i] [] w2) : WL g 407 [vr 99, vr 0, vr 9, vi i] [] w := by
  refine g_aload hC 1 dL_law_407 rfl rfl ?_
  refine g_aload hC 0 dL_law_408 rfl rfl ?_
  refine g_iload hC 3 dL_law_409 rfl rfl ?_
  refine g_iconst hC dL_law_410 ?_
  refine g_iadd hC dL_law_411 ?_
  refine g_sld hC dL_law_412 (by omega) (by omega) ?_
  refine g_aload hC 0 dL_law_413 rfl rfl ?_
  refine g_iload hC 3 dL_law_414 rfl rfl ?_
  refine g_iconst hC dL_law_415 ?_
  refine g_iadd hC dL_law_416 ?_
  refine g_sld hC dL_law_417 (by omega) (by omega) ?_
  refine g_aload hC 0 dL_law_418 rfl rfl ?_
  refine g_iload hC 3 dL_law_419 rfl rfl ?_
  refine g_iconst hC dL_law_420 ?_
  refine g_iadd hC dL_law_421 ?_
  refine g_sld hC dL_law_422 (by omega) (by omega) ?_
  refine g_callV hC 3 [vi (sc xs (i + 1)), vi (sc xs (i + 2)), vi (sc xs (i + 3))] dL_law_423 ok_X3_sample n_261 n_262 n_263 rfl (by decide) rfl ⟨Nat.le_of_ble_eq_true rfl, Nat.le_of_ble_eq_true rfl⟩ (Nat.le_of_ble_eq_true rfl) (avk rfl) rfl (Nat.le_of_ble_eq_true rfl) (j_sample hI (sc_r _ _) (sc_r _ _) (sc_r _ _)) (fun v1 w1 hv1 => ?_)
  obtain ⟨r, rfl, hr, hW⟩ := hv1
  refine g_aload hC 2 dL_law_426 rfl rfl ?_
  refine g_aload hC 0 dL_law_427 rfl rfl ?_
  refine g_iload hC 3 dL_law_428 rfl rfl ?_
  refine g_iconst hC dL_law_429 ?_
  refine g_iadd hC dL_law_430 ?_
  refine g_sld hC dL_law_431 (by omega) (by omega) ?_
  refine g_aload hC 0 dL_law_432 rfl rfl ?_
  refine g_iload hC 3 dL_law_433 rfl rfl ?_
  refine g_iconst hC dL_law_434 ?_
  refine g_iadd hC dL_law_435 ?_
  refine g_sld hC dL_law_436 (by omega) (by omega) ?_
  refine g_aload hC 0 dL_law_437 rfl rfl ?_
  refine g_iload hC 3 dL_law_438 rfl rfl ?_
  refine g_iconst hC dL_law_439 ?_
  refine g_iadd hC dL_law_440 ?_
  refine g_sld hC dL_law_441 (by omega) (by omega) ?_
  refine g_callV hC 4 [vi (sc xs (i + 1)), vi (sc xs (i + 2)), vi (sc xs (i + 3))] dL_law_442 ok_X4_sample n_563 n_564 n_565 rfl (by decide) rfl ⟨Nat.le_of_ble_eq_true rfl, Nat.le_of_ble_eq_true rfl⟩ (Nat.le_of_ble_eq_true rfl) (avk rfl) rfl (Nat.le_of_ble_eq_true rfl) hW (fun v2 w2 hv2 => ?_)
  obtain ⟨rfl, hI2⟩ := hv2
  exact g_icmp_eq hC 810 dL_law_445 (by decide) hr hr (fun _ => k _ hI2) (fun z => absurd rfl z)

theorem g_case_10 {g : Gm} {L : Nat} {xs : Nat → Int32} (hC : LCx g L xs) {w : rW} (hI : Inv w) {i : Int} (hi : 0 ≤ i) (hiL : i + 4 ≤ L) (k : ∀ w2, Inv w2 → WL g 810 [vr 99, vr 0, vr 9, vi i] [] w2) : WL g 450 [vr 99, vr 0, vr 9, vi i] [] w := by
  refine g_aload hC 1 dL_law_450 rfl rfl ?_
  refine g_aload hC 0 dL_law_451 rfl rfl ?_
  refine g_iload hC 3 dL_law_452 rfl rfl ?_
  refine g_iconst hC dL_law_453 ?_
  refine g_iadd hC dL_law_454 ?_
  refine g_sld hC dL_law_455 (by omega) (by omega) ?_
  refine g_aload hC 0 dL_law_456 rfl rfl ?_
  refine g_iload hC 3 dL_law_457 rfl rfl ?_
  refine g_iconst hC dL_law_458 ?_
  refine g_iadd hC dL_law_459 ?_
  refine g_sld hC dL_law_460 (by omega) (by omega) ?_
  refine g_callV hC 3 [vi (sc xs (i + 1)), vi (sc xs (i + 2))] dL_law_461 ok_X3_lowerBits n_269 n_270 n_271 rfl (by decide) rfl ⟨Nat.le_of_ble_eq_true rfl, Nat.le_of_ble_eq_true rfl⟩ (Nat.le_of_ble_eq_true rfl) (avk rfl) rfl (Nat.le_of_ble_eq_true rfl) (j_lowerBits hI (sc_r _ _) (sc_r _ _)) (fun v1 w1 hv1 => ?_)
  obtain ⟨r, rfl, hr, hW⟩ := hv1
  refine g_aload hC 2 dL_law_464 rfl rfl ?_
  refine g_aload hC 0 dL_law_465 rfl rfl ?_
  refine g_iload hC 3 dL_law_466 rfl rfl ?_
  refine g_iconst hC dL_law_467 ?_
  refine g_iadd hC dL_law_468 ?_
  refine g_sld hC dL_law_469 (by omega) (by omega) ?_
  refine g_aload hC 0 dL_law_470 rfl rfl ?_
  refine g_iload hC 3 dL_law_471 rfl rfl ?_
  refine g_iconst hC dL_law_472 ?_
  refine g_iadd hC dL_law_473 ?_
  refine g_sld hC dL_law_474 (by omega) (by omega) ?_
  refine g_callV hC 4 [vi (sc xs (i + 1)), vi (sc xs (i + 2))] dL_law_475 ok_X4_lowerBits n_567 n_568 n_569 rfl (by decide) rfl ⟨Nat.le_of_ble_eq_true rfl, Nat.le_of_ble_eq_true rfl⟩ (Nat.le_of_ble_eq_true rfl) (avk rfl) rfl (Nat.le_of_ble_eq_true rfl) hW (fun v2 w2 hv2 => ?_)
  obtain ⟨rfl, hI2⟩ := hv2
  refine g_lcmp hC dL_law_478 hr hr ?_
  rw [show lcm r r = 0 from by unfold lcm; rw [if_neg (Int.lt_irrefl _), if_pos rfl]]
  exact g_if_eq hC 810 dL_law_479 (by decide) (by decide) (fun _ => k _ hI2) (fun z => absurd rfl z)

theorem g_case_11 {g : Gm} {L : Nat} {xs : Nat → Int32} (hC : LCx g L xs) {w : rW} (hI : Inv w) {i : Int} (hi : 0 ≤ i) (hiL : i + 4 ≤ L) (k : ∀ w2, Inv w2 → WL g 810 [vr 99, vr 0, vr 9, vi i] [] w2) : WL g 484 [vr 99, vr 0, vr 9, vi i] [] w := by
  refine g_aload hC 1 dL_law_484 rfl rfl ?_
  refine g_aload hC 0 dL_law_485 rfl rfl ?_
  refine g_iload hC 3 dL_law_486 rfl rfl ?_
  refine g_iconst hC dL_law_487 ?_
  refine g_iadd hC dL_law_488 ?_
  refine g_sld hC dL_law_489 (by omega) (by omega) ?_
  refine g_aload hC 0 dL_law_490 rfl rfl ?_
  refine g_iload hC 3 dL_law_491 rfl rfl ?_
  refine g_iconst hC dL_law_492 ?_
  refine g_iadd hC dL_law_493 ?_
  refine g_sld hC dL_law_494 (by omega) (by omega) ?_
  refine g_aload hC 0 dL_law_495 rfl rfl ?_
  refine g_iload hC 3 dL_law_496 rfl rfl ?_
  refine g_iconst hC dL_law_497 ?_
  refine g_iadd hC dL_law_498 ?_
  refine g_sld hC dL_law_499 (by omega) (by omega) ?_
  refine g_callV hC 3 [vi (sc xs (i + 1)), vi (sc xs (i + 2)), vi (sc xs (i + 3))] dL_law_500 ok_X3_next n_282 n_283 n_284 rfl (by decide) rfl ⟨Nat.le_of_ble_eq_true rfl, Nat.le_of_ble_eq_true rfl⟩ (Nat.le_of_ble_eq_true rfl) (avk rfl) rfl (Nat.le_of_ble_eq_true rfl) (j_next hI (sc_r _ _) (sc_r _ _) (sc_r _ _)) (fun v1 w1 hv1 => ?_)
  obtain ⟨r, rfl, hr, hW⟩ := hv1
  refine g_aload hC 2 dL_law_503 rfl rfl ?_
  refine g_aload hC 0 dL_law_504 rfl rfl ?_
  refine g_iload hC 3 dL_law_505 rfl rfl ?_
  refine g_iconst hC dL_law_506 ?_
  refine g_iadd hC dL_law_507 ?_
  refine g_sld hC dL_law_508 (by omega) (by omega) ?_
  refine g_aload hC 0 dL_law_509 rfl rfl ?_
  refine g_iload hC 3 dL_law_510 rfl rfl ?_
  refine g_iconst hC dL_law_511 ?_
  refine g_iadd hC dL_law_512 ?_
  refine g_sld hC dL_law_513 (by omega) (by omega) ?_
  refine g_aload hC 0 dL_law_514 rfl rfl ?_
  refine g_iload hC 3 dL_law_515 rfl rfl ?_
  refine g_iconst hC dL_law_516 ?_
  refine g_iadd hC dL_law_517 ?_
  refine g_sld hC dL_law_518 (by omega) (by omega) ?_
  refine g_callV hC 4 [vi (sc xs (i + 1)), vi (sc xs (i + 2)), vi (sc xs (i + 3))] dL_law_519 ok_X4_next n_574 n_575 n_576 rfl (by decide) rfl ⟨Nat.le_of_ble_eq_true rfl, Nat.le_of_ble_eq_true rfl⟩ (Nat.le_of_ble_eq_true rfl) (avk rfl) rfl (Nat.le_of_ble_eq_true rfl) hW (fun v2 w2 hv2 => ?_)
  obtain ⟨rfl, hI2⟩ := hv2
  exact g_icmp_eq hC 810 dL_law_522 (by decide) hr hr (fun _ => k _ hI2) (fun z => absurd rfl z)

theorem g_case_12 {g : Gm} {L : Nat} {xs : Nat → Int32} (hC : LCx g L xs) {w : rW} (hI : Inv w) {i : Int} (hi : 0 ≤ i) (hiL : i + 4 ≤ L) (k : ∀ w2, Inv w2 → WL g 810 [vr 99, vr 0, vr 9, vi i] [] w2) : WL g 527 [vr 99, vr 0, vr 9, vi i] [] w := by
  refine g_aload hC 1 dL_law_527 rfl rfl ?_
  refine g_aload hC 0 dL_law_528 rfl rfl ?_
  refine g_iload hC 3 dL_law_529 rfl rfl ?_
  refine g_iconst hC dL_law_530 ?_
  refine g_iadd hC dL_law_531 ?_
  refine g_sld hC dL_law_532 (by omega) (by omega) ?_
  refine g_aload hC 0 dL_law_533 rfl rfl ?_
  refine g_iload hC 3 dL_law_534 rfl rfl ?_
  refine g_iconst hC dL_law_535 ?_
  refine g_iadd hC dL_law_536 ?_
  refine g_sld hC dL_law_537 (by omega) (by omega) ?_
  refine g_callV hC 3 [vi (sc xs (i + 1)), vi (sc xs (i + 2))] dL_law_538 ok_X3_below n_293 n_294 n_295 rfl (by decide) rfl ⟨Nat.le_of_ble_eq_true rfl, Nat.le_of_ble_eq_true rfl⟩ (Nat.le_of_ble_eq_true rfl) (avk rfl) rfl (Nat.le_of_ble_eq_true rfl) (j_below hI (sc_r _ _) (sc_r _ _)) (fun v1 w1 hv1 => ?_)
  obtain ⟨r, rfl, hr, hW⟩ := hv1
  refine g_aload hC 2 dL_law_541 rfl rfl ?_
  refine g_aload hC 0 dL_law_542 rfl rfl ?_
  refine g_iload hC 3 dL_law_543 rfl rfl ?_
  refine g_iconst hC dL_law_544 ?_
  refine g_iadd hC dL_law_545 ?_
  refine g_sld hC dL_law_546 (by omega) (by omega) ?_
  refine g_aload hC 0 dL_law_547 rfl rfl ?_
  refine g_iload hC 3 dL_law_548 rfl rfl ?_
  refine g_iconst hC dL_law_549 ?_
  refine g_iadd hC dL_law_550 ?_
  refine g_sld hC dL_law_551 (by omega) (by omega) ?_
  refine g_callV hC 4 [vi (sc xs (i + 1)), vi (sc xs (i + 2))] dL_law_552 ok_X4_below n_582 n_583 n_584 rfl (by decide) rfl ⟨Nat.le_of_ble_eq_true rfl, Nat.le_of_ble_eq_true rfl⟩ (Nat.le_of_ble_eq_true rfl) (avk rfl) rfl (Nat.le_of_ble_eq_true rfl) hW (fun v2 w2 hv2 => ?_)
  obtain ⟨rfl, hI2⟩ := hv2
  exact g_icmp_eq hC 810 dL_law_555 (by decide) hr hr (fun _ => k _ hI2) (fun z => absurd rfl z)

theorem g_case_13 {g : Gm} {L : Nat} {xs : Nat → Int32} (hC : LCx g L xs) {w : rW} (hI : Inv w) {i : Int} (hi : 0 ≤ i) (hiL : i + 4 ≤ L) (k : ∀ w2, Inv w2 → WL g 810 [vr 99, vr 0, vr 9, vi i] [] w2) : WL g 560 [vr 99, vr 0, vr 9, vi i] [] w := by
  refine g_aload hC 1 dL_law_560 rfl rfl ?_
  refine g_aload hC 0 dL_law_561 rfl rfl ?_
  refine g_iload hC 3 dL_law_562 rfl rfl ?_
  refine g_iconst hC dL_law_563 ?_
  refine g_iadd hC dL_law_564 ?_
  refine g_sld hC dL_law_565 (by omega) (by omega) ?_
  refine g_callV hC 3 [vi (sc xs (i + 1))] dL_law_566 ok_X3_common n_297 n_298 n_299 rfl (by decide) rfl ⟨Nat.le_of_ble_eq_true rfl, Nat.le_of_ble_eq_true rfl⟩ (Nat.le_of_ble_eq_true rfl) (avk rfl) rfl (Nat.le_of_ble_eq_true rfl) (j_common hI (sc_r _ _)) (fun v1 w1 hv1 => ?_)
  obtain ⟨r, rfl, hr, hW⟩ := hv1
  refine g_aload hC 2 dL_law_569 rfl rfl ?_
  refine g_aload hC 0 dL_law_570 rfl rfl ?_
  refine g_iload hC 3 dL_law_571 rfl rfl ?_
  refine g_iconst hC dL_law_572 ?_
  refine g_iadd hC dL_law_573 ?_
  refine g_sld hC dL_law_574 (by omega) (by omega) ?_
  refine g_callV hC 4 [vi (sc xs (i + 1))] dL_law_575 ok_X4_common n_586 n_587 n_588 rfl (by decide) rfl ⟨Nat.le_of_ble_eq_true rfl, Nat.le_of_ble_eq_true rfl⟩ (Nat.le_of_ble_eq_true rfl) (avk rfl) rfl (Nat.le_of_ble_eq_true rfl) hW (fun v2 w2 hv2 => ?_)
  obtain ⟨rfl, hI2⟩ := hv2
  exact g_icmp_eq hC 810 dL_law_578 (by decide) hr hr (fun _ => k _ hI2) (fun z => absurd rfl z)

theorem g_case_14 {g : Gm} {L : Nat} {xs : Nat → Int32} (hC : LCx g L xs) {w : rW} (hI : Inv w) {i : Int} (hi : 0 ≤ i) (hiL : i + 4 ≤ L) (k : ∀ w2, Inv w2 → WL g 810 [vr 99, vr 0, vr 9, vi i] [] w2) : WL g 583 [vr 99, vr 0, vr 9, vi i] [] w := by
  refine g_aload hC 1 dL_law_583 rfl rfl ?_
  refine g_aload hC 0 dL_law_584 rfl rfl ?_
  refine g_iload hC 3 dL_law_585 rfl rfl ?_
  refine g_iconst hC dL_law_586 ?_
  refine g_iadd hC dL_law_587 ?_
  refine g_sld hC dL_law_588 (by omega) (by omega) ?_
  refine g_callV hC 3 [vi (sc xs (i + 1))] dL_law_589 ok_X3_perNumber n_320 n_321 n_322 rfl (by decide) rfl ⟨Nat.le_of_ble_eq_true rfl, Nat.le_of_ble_eq_true rfl⟩ (Nat.le_of_ble_eq_true rfl) (avk rfl) rfl (Nat.le_of_ble_eq_true rfl) (j_perNumber hI (sc_r _ _)) (fun v1 w1 hv1 => ?_)
  obtain ⟨r, rfl, hr, hW⟩ := hv1
  refine g_aload hC 2 dL_law_592 rfl rfl ?_
  refine g_aload hC 0 dL_law_593 rfl rfl ?_
  refine g_iload hC 3 dL_law_594 rfl rfl ?_
  refine g_iconst hC dL_law_595 ?_
  refine g_iadd hC dL_law_596 ?_
  refine g_sld hC dL_law_597 (by omega) (by omega) ?_
  refine g_callV hC 4 [vi (sc xs (i + 1))] dL_law_598 ok_X4_perNumber n_602 n_603 n_604 rfl (by decide) rfl ⟨Nat.le_of_ble_eq_true rfl, Nat.le_of_ble_eq_true rfl⟩ (Nat.le_of_ble_eq_true rfl) (avk rfl) rfl (Nat.le_of_ble_eq_true rfl) hW (fun v2 w2 hv2 => ?_)
  obtain ⟨rfl, hI2⟩ := hv2
  exact g_icmp_eq hC 810 dL_law_601 (by decide) hr hr (fun _ => k _ hI2) (fun z => absurd rfl z)

theorem g_case_15 {g : Gm} {L : Nat} {xs : Nat → Int32} (hC : LCx g L xs) {w : rW} (hI : Inv w) {i : Int} (hi : 0 ≤ i) (hiL : i + 4 ≤ L) (k : ∀ w2, Inv w2 → WL g 810 [vr 99, vr 0, vr 9, vi i] [] w2) : WL g 606 [vr 99, vr 0, vr 9, vi i] [] w := by
  refine g_aload hC 1 dL_law_606 rfl rfl ?_
  refine g_aload hC 0 dL_law_607 rfl rfl ?_
  refine g_iload hC 3 dL_law_608 rfl rfl ?_
  refine g_iconst hC dL_law_609 ?_
  refine g_iadd hC dL_law_610 ?_
  refine g_sld hC dL_law_611 (by omega) (by omega) ?_
  refine g_aload hC 0 dL_law_612 rfl rfl ?_
  refine g_iload hC 3 dL_law_613 rfl rfl ?_
  refine g_iconst hC dL_law_614 ?_
  refine g_iadd hC dL_law_615 ?_
  refine g_sld hC dL_law_616 (by omega) (by omega) ?_
  refine g_callV hC 3 [vi (sc xs (i + 1)), vi (sc xs (i + 2))] dL_law_617 ok_X3_bestBound n_329 n_330 n_331 rfl (by decide) rfl ⟨Nat.le_of_ble_eq_true rfl, Nat.le_of_ble_eq_true rfl⟩ (Nat.le_of_ble_eq_true rfl) (avk rfl) rfl (Nat.le_of_ble_eq_true rfl) (j_bestBound hI (sc_r _ _) (sc_r _ _)) (fun v1 w1 hv1 => ?_)
  obtain ⟨r, rfl, hr, hW⟩ := hv1
  refine g_aload hC 2 dL_law_620 rfl rfl ?_
  refine g_aload hC 0 dL_law_621 rfl rfl ?_
  refine g_iload hC 3 dL_law_622 rfl rfl ?_
  refine g_iconst hC dL_law_623 ?_
  refine g_iadd hC dL_law_624 ?_
  refine g_sld hC dL_law_625 (by omega) (by omega) ?_
  refine g_aload hC 0 dL_law_626 rfl rfl ?_
  refine g_iload hC 3 dL_law_627 rfl rfl ?_
  refine g_iconst hC dL_law_628 ?_
  refine g_iadd hC dL_law_629 ?_
  refine g_sld hC dL_law_630 (by omega) (by omega) ?_
  refine g_callV hC 4 [vi (sc xs (i + 1)), vi (sc xs (i + 2))] dL_law_631 ok_X4_bestBound n_611 n_612 n_613 rfl (by decide) rfl ⟨Nat.le_of_ble_eq_true rfl, Nat.le_of_ble_eq_true rfl⟩ (Nat.le_of_ble_eq_true rfl) (avk rfl) rfl (Nat.le_of_ble_eq_true rfl) hW (fun v2 w2 hv2 => ?_)
  obtain ⟨rfl, hI2⟩ := hv2
  exact g_icmp_eq hC 810 dL_law_634 (by decide) hr hr (fun _ => k _ hI2) (fun z => absurd rfl z)

theorem g_case_16 {g : Gm} {L : Nat} {xs : Nat → Int32} (hC : LCx g L xs) {w : rW} (hI : Inv w) {i : Int} (hi : 0 ≤ i) (hiL : i + 4 ≤ L) (k : ∀ w2, Inv w2 → WL g 810 [vr 99, vr 0, vr 9, vi i] [] w2) : WL g 639 [vr 99, vr 0, vr 9, vi i] [] w := by
  refine g_aload hC 1 dL_law_639 rfl rfl ?_
  refine g_aload hC 0 dL_law_640 rfl rfl ?_
  refine g_iload hC 3 dL_law_641 rfl rfl ?_
  refine g_iconst hC dL_law_642 ?_
  refine g_iadd hC dL_law_643 ?_
  refine g_sld hC dL_law_644 (by omega) (by omega) ?_
  refine g_aload hC 0 dL_law_645 rfl rfl ?_
  refine g_iload hC 3 dL_law_646 rfl rfl ?_
  refine g_iconst hC dL_law_647 ?_
  refine g_iadd hC dL_law_648 ?_
  refine g_sld hC dL_law_649 (by omega) (by omega) ?_
  refine g_aload hC 0 dL_law_650 rfl rfl ?_
  refine g_iload hC 3 dL_law_651 rfl rfl ?_
  refine g_iconst hC dL_law_652 ?_
  refine g_iadd hC dL_law_653 ?_
  refine g_sld hC dL_law_654 (by omega) (by omega) ?_
  refine g_callV hC 3 [vi (sc xs (i + 1)), vi (sc xs (i + 2)), vi (sc xs (i + 3))] dL_law_655 ok_X3_gapOf n_337 n_338 n_339 rfl (by decide) rfl ⟨Nat.le_of_ble_eq_true rfl, Nat.le_of_ble_eq_true rfl⟩ (Nat.le_of_ble_eq_true rfl) (avk rfl) rfl (Nat.le_of_ble_eq_true rfl) (j_gapOf hI (sc_r _ _) (sc_r _ _) (sc_r _ _)) (fun v1 w1 hv1 => ?_)
  obtain ⟨r, rfl, hr, hW⟩ := hv1
  refine g_aload hC 2 dL_law_658 rfl rfl ?_
  refine g_aload hC 0 dL_law_659 rfl rfl ?_
  refine g_iload hC 3 dL_law_660 rfl rfl ?_
  refine g_iconst hC dL_law_661 ?_
  refine g_iadd hC dL_law_662 ?_
  refine g_sld hC dL_law_663 (by omega) (by omega) ?_
  refine g_aload hC 0 dL_law_664 rfl rfl ?_
  refine g_iload hC 3 dL_law_665 rfl rfl ?_
  refine g_iconst hC dL_law_666 ?_
  refine g_iadd hC dL_law_667 ?_
  refine g_sld hC dL_law_668 (by omega) (by omega) ?_
  refine g_aload hC 0 dL_law_669 rfl rfl ?_
  refine g_iload hC 3 dL_law_670 rfl rfl ?_
  refine g_iconst hC dL_law_671 ?_
  refine g_iadd hC dL_law_672 ?_
  refine g_sld hC dL_law_673 (by omega) (by omega) ?_
  refine g_callV hC 4 [vi (sc xs (i + 1)), vi (sc xs (i + 2)), vi (sc xs (i + 3))] dL_law_674 ok_X4_gapOf n_615 n_616 n_617 rfl (by decide) rfl ⟨Nat.le_of_ble_eq_true rfl, Nat.le_of_ble_eq_true rfl⟩ (Nat.le_of_ble_eq_true rfl) (avk rfl) rfl (Nat.le_of_ble_eq_true rfl) hW (fun v2 w2 hv2 => ?_)
  obtain ⟨rfl, hI2⟩ := hv2
  exact g_icmp_eq hC 810 dL_law_677 (by decide) hr hr (fun _ => k _ hI2) (fun z => absurd rfl z)

theorem g_case_17 {g : Gm} {L : Nat} {xs : Nat → Int32} (hC : LCx g L xs) {w : rW} (hI : Inv w) {i : Int} (hi : 0 ≤ i) (hiL : i + 4 ≤ L) (k : ∀ w2, Inv w2 → WL g 810 [vr 99, vr 0, vr 9, vi i] [] w2) : WL g 682 [vr 99, vr 0, vr 9, vi i] [] w := by
  refine g_aload hC 1 dL_law_682 rfl rfl ?_
  refine g_aload hC 0 dL_law_683 rfl rfl ?_
  refine g_iload hC 3 dL_law_684 rfl rfl ?_
  refine g_iconst hC dL_law_685 ?_
  refine g_iadd hC dL_law_686 ?_
  refine g_sld hC dL_law_687 (by omega) (by omega) ?_
  refine g_callV hC 3 [vi (sc xs (i + 1))] dL_law_688 ok_X3_count n_350 n_351 n_352 rfl (by decide) rfl ⟨Nat.le_of_ble_eq_true rfl, Nat.le_of_ble_eq_true rfl⟩ (Nat.le_of_ble_eq_true rfl) (avk rfl) rfl (Nat.le_of_ble_eq_true rfl) (j_count hI (sc_r _ _)) (fun v1 w1 hv1 => ?_)
  obtain ⟨r, rfl, hr, hW⟩ := hv1
  refine g_aload hC 2 dL_law_691 rfl rfl ?_
  refine g_aload hC 0 dL_law_692 rfl rfl ?_
  refine g_iload hC 3 dL_law_693 rfl rfl ?_
  refine g_iconst hC dL_law_694 ?_
  refine g_iadd hC dL_law_695 ?_
  refine g_sld hC dL_law_696 (by omega) (by omega) ?_
  refine g_callV hC 4 [vi (sc xs (i + 1))] dL_law_697 ok_X4_count n_619 n_620 n_621 rfl (by decide) rfl ⟨Nat.le_of_ble_eq_true rfl, Nat.le_of_ble_eq_true rfl⟩ (Nat.le_of_ble_eq_true rfl) (avk rfl) rfl (Nat.le_of_ble_eq_true rfl) hW (fun v2 w2 hv2 => ?_)
  obtain ⟨rfl, hI2⟩ := hv2
  exact g_icmp_eq hC 810 dL_law_700 (by decide) hr hr (fun _ => k _ hI2) (fun z => absurd rfl z)

theorem g_case_18 {g : Gm} {L : Nat} {xs : Nat → Int32} (hC : LCx g L xs) {w : rW} (hI : Inv w) {i : Int} (hi : 0 ≤ i) (hiL : i + 4 ≤ L) (k : ∀ w2, Inv w2 → WL g 810 [vr 99, vr 0, vr 9, vi i] [] w2) : WL g 705 [vr 99, vr 0, vr 9, vi i] [] w := by
  refine g_aload hC 1 dL_law_705 rfl rfl ?_
  refine g_callV hC 3 [] dL_law_706 ok_X3_undo n_354 n_355 n_356 rfl (by decide) rfl ⟨Nat.le_of_ble_eq_true rfl, Nat.le_of_ble_eq_true rfl⟩ (Nat.le_of_ble_eq_true rfl) (avk rfl) rfl (Nat.le_of_ble_eq_true rfl) (j_undo hI) (fun v1 w1 hv1 => ?_)
  obtain ⟨r, rfl, hr, hW⟩ := hv1
  refine g_aload hC 2 dL_law_709 rfl rfl ?_
  refine g_callV hC 4 [] dL_law_710 ok_X4_undo n_623 n_624 n_625 rfl (by decide) rfl ⟨Nat.le_of_ble_eq_true rfl, Nat.le_of_ble_eq_true rfl⟩ (Nat.le_of_ble_eq_true rfl) (avk rfl) rfl (Nat.le_of_ble_eq_true rfl) hW (fun v2 w2 hv2 => ?_)
  obtain ⟨rfl, hI2⟩ := hv2
  exact g_icmp_eq hC 810 dL_law_713 (by decide) hr hr (fun _ => k _ hI2) (fun z => absurd rfl z)

theorem g_case_19 {g : Gm} {L : Nat} {xs : Nat → Int32} (hC : LCx g L xs) {w : rW} (hI : Inv w) {i : Int} (hi : 0 ≤ i) (hiL : i + 4 ≤ L) (k : ∀ w2, Inv w2 → WL g 810 [vr 99, vr 0, vr 9, vi i] [] w2) : WL g 718 [vr 99, vr 0, vr 9, vi i] [] w := by
  refine g_aload hC 1 dL_law_718 rfl rfl ?_
  refine g_aload hC 0 dL_law_719 rfl rfl ?_
  refine g_iload hC 3 dL_law_720 rfl rfl ?_
  refine g_iconst hC dL_law_721 ?_
  refine g_iadd hC dL_law_722 ?_
  refine g_sld hC dL_law_723 (by omega) (by omega) ?_
  refine g_callV hC 3 [vi (sc xs (i + 1))] dL_law_724 ok_X3_type n_366 n_367 n_368 rfl (by decide) rfl ⟨Nat.le_of_ble_eq_true rfl, Nat.le_of_ble_eq_true rfl⟩ (Nat.le_of_ble_eq_true rfl) (avk rfl) rfl (Nat.le_of_ble_eq_true rfl) (j_type hI (sc_r _ _)) (fun v1 w1 hv1 => ?_)
  obtain ⟨r, rfl, hr, hW⟩ := hv1
  refine g_aload hC 2 dL_law_727 rfl rfl ?_
  refine g_aload hC 0 dL_law_728 rfl rfl ?_
  refine g_iload hC 3 dL_law_729 rfl rfl ?_
  refine g_iconst hC dL_law_730 ?_
  refine g_iadd hC dL_law_731 ?_
  refine g_sld hC dL_law_732 (by omega) (by omega) ?_
  refine g_callV hC 4 [vi (sc xs (i + 1))] dL_law_733 ok_X4_type n_627 n_628 n_629 rfl (by decide) rfl ⟨Nat.le_of_ble_eq_true rfl, Nat.le_of_ble_eq_true rfl⟩ (Nat.le_of_ble_eq_true rfl) (avk rfl) rfl (Nat.le_of_ble_eq_true rfl) hW (fun v2 w2 hv2 => ?_)
  obtain ⟨rfl, hI2⟩ := hv2
  exact g_icmp_eq hC 810 dL_law_736 (by decide) hr hr (fun _ => k _ hI2) (fun z => absurd rfl z)

theorem g_case_20 {g : Gm} {L : Nat} {xs : Nat → Int32} (hC : LCx g L xs) {w : rW} (hI : Inv w) {i : Int} (hi : 0 ≤ i) (hiL : i + 4 ≤ L) (k : ∀ w2, Inv w2 → WL g 810 [vr 99, vr 0, vr 9, vi i] [] w2) : WL g 741 [vr 99, vr 0, vr 9, vi i] [] w := by
  refine g_aload hC 1 dL_law_741 rfl rfl ?_
  refine g_callV hC 3 [] dL_law_742 ok_X3_clearText n_374 n_375 n_376 rfl (by decide) rfl ⟨Nat.le_of_ble_eq_true rfl, Nat.le_of_ble_eq_true rfl⟩ (Nat.le_of_ble_eq_true rfl) (avk rfl) rfl (Nat.le_of_ble_eq_true rfl) (j_clearText hI) (fun v1 w1 hv1 => ?_)
  obtain ⟨r, rfl, hr, hW⟩ := hv1
  refine g_aload hC 2 dL_law_745 rfl rfl ?_
  refine g_callV hC 4 [] dL_law_746 ok_X4_clearText n_631 n_632 n_633 rfl (by decide) rfl ⟨Nat.le_of_ble_eq_true rfl, Nat.le_of_ble_eq_true rfl⟩ (Nat.le_of_ble_eq_true rfl) (avk rfl) rfl (Nat.le_of_ble_eq_true rfl) hW (fun v2 w2 hv2 => ?_)
  obtain ⟨rfl, hI2⟩ := hv2
  exact g_icmp_eq hC 810 dL_law_749 (by decide) hr hr (fun _ => k _ hI2) (fun z => absurd rfl z)

theorem g_case_21 {g : Gm} {L : Nat} {xs : Nat → Int32} (hC : LCx g L xs) {w : rW} (hI : Inv w) {i : Int} (hi : 0 ≤ i) (hiL : i + 4 ≤ L) (k : ∀ w2, Inv w2 → WL g 810 [vr 99, vr 0, vr 9, vi i] [] w2) : WL g 754 [vr 99, vr 0, vr 9, vi i] [] w := by
  refine g_aload hC 1 dL_law_754 rfl rfl ?_
  refine g_aload hC 0 dL_law_755 rfl rfl ?_
  refine g_iload hC 3 dL_law_756 rfl rfl ?_
  refine g_iconst hC dL_law_757 ?_
  refine g_iadd hC dL_law_758 ?_
  refine g_sld hC dL_law_759 (by omega) (by omega) ?_
  refine g_aload hC 0 dL_law_760 rfl rfl ?_
  refine g_iload hC 3 dL_law_761 rfl rfl ?_
  refine g_iconst hC dL_law_762 ?_
  refine g_iadd hC dL_law_763 ?_
  refine g_sld hC dL_law_764 (by omega) (by omega) ?_
  refine g_callV hC 3 [vi (sc xs (i + 1)), vi (sc xs (i + 2))] dL_law_765 ok_X3_fault n_378 n_379 n_380 rfl (by decide) rfl ⟨Nat.le_of_ble_eq_true rfl, Nat.le_of_ble_eq_true rfl⟩ (Nat.le_of_ble_eq_true rfl) (avk rfl) rfl (Nat.le_of_ble_eq_true rfl) (j_fault hI (sc_r _ _) (sc_r _ _)) (fun v1 w1 hv1 => ?_)
  obtain ⟨r, rfl, hr, hW⟩ := hv1
  refine g_aload hC 2 dL_law_768 rfl rfl ?_
  refine g_aload hC 0 dL_law_769 rfl rfl ?_
  refine g_iload hC 3 dL_law_770 rfl rfl ?_
  refine g_iconst hC dL_law_771 ?_
  refine g_iadd hC dL_law_772 ?_
  refine g_sld hC dL_law_773 (by omega) (by omega) ?_
  refine g_aload hC 0 dL_law_774 rfl rfl ?_
  refine g_iload hC 3 dL_law_775 rfl rfl ?_
  refine g_iconst hC dL_law_776 ?_
  refine g_iadd hC dL_law_777 ?_
  refine g_sld hC dL_law_778 (by omega) (by omega) ?_
  refine g_callV hC 4 [vi (sc xs (i + 1)), vi (sc xs (i + 2))] dL_law_779 ok_X4_fault n_635 n_636 n_637 rfl (by decide) rfl ⟨Nat.le_of_ble_eq_true rfl, Nat.le_of_ble_eq_true rfl⟩ (Nat.le_of_ble_eq_true rfl) (avk rfl) rfl (Nat.le_of_ble_eq_true rfl) hW (fun v2 w2 hv2 => ?_)
  obtain ⟨rfl, hI2⟩ := hv2
  exact g_icmp_eq hC 810 dL_law_782 (by decide) hr hr (fun _ => k _ hI2) (fun z => absurd rfl z)

theorem g_case_22 {g : Gm} {L : Nat} {xs : Nat → Int32} (hC : LCx g L xs) {w : rW} (hI : Inv w) {i : Int} (hi : 0 ≤ i) (hiL : i + 4 ≤ L) (k : ∀ w2, Inv w2 → WL g 810 [vr 99, vr 0, vr 9, vi i] [] w2) : WL g 787 [vr 99, vr 0, vr 9, vi i] [] w := by
  refine g_aload hC 1 dL_law_787 rfl rfl ?_
  refine g_aload hC 0 dL_law_788 rfl rfl ?_
  refine g_iload hC 3 dL_law_789 rfl rfl ?_
  refine g_iconst hC dL_law_790 ?_
  refine g_iadd hC dL_law_791 ?_
  refine g_sld hC dL_law_792 (by omega) (by omega) ?_
  refine g_callV hC 3 [vi (sc xs (i + 1))] dL_law_793 ok_X3_read n_398 n_399 n_400 rfl (by decide) rfl ⟨Nat.le_of_ble_eq_true rfl, Nat.le_of_ble_eq_true rfl⟩ (Nat.le_of_ble_eq_true rfl) (avk rfl) rfl (Nat.le_of_ble_eq_true rfl) (j_read hI (sc_r _ _)) (fun v1 w1 hv1 => ?_)
  obtain ⟨r, rfl, hr, hW⟩ := hv1
  refine g_aload hC 2 dL_law_796 rfl rfl ?_
  refine g_aload hC 0 dL_law_797 rfl rfl ?_
  refine g_iload hC 3 dL_law_798 rfl rfl ?_
  refine g_iconst hC dL_law_799 ?_
  refine g_iadd hC dL_law_800 ?_
  refine g_sld hC dL_law_801 (by omega) (by omega) ?_
  refine g_callV hC 4 [vi (sc xs (i + 1))] dL_law_802 ok_X4_read n_651 n_652 n_653 rfl (by decide) rfl ⟨Nat.le_of_ble_eq_true rfl, Nat.le_of_ble_eq_true rfl⟩ (Nat.le_of_ble_eq_true rfl) (avk rfl) rfl (Nat.le_of_ble_eq_true rfl) hW (fun v2 w2 hv2 => ?_)
  obtain ⟨rfl, hI2⟩ := hv2
  exact g_icmp_eq hC 810 dL_law_805 (by decide) hr hr (fun _ => k _ hI2) (fun z => absurd rfl z)

theorem law_loop {g : Gm} {L : Nat} {xs : Nat → Int32} (hC : LCx g L xs) (hL : L ≤ 2048) : ∀ (d : Nat) (i : Int) (w : rW), ((L : Int) - i).toNat < d → 0 ≤ i → i ≤ L → Inv w → WL g 18 [vr 99, vr 0, vr 9, vi i] [] w := by
  intro d
  induction d with
  | zero => intro i w hd; omega
  | succ d ih =>
    intro i w hd hi hiL hI
    refine g_iload hC 3 dL_law_18 rfl rfl ?_
    refine g_aload hC 0 dL_law_19 rfl rfl ?_
    refine g_slen hC dL_law_20 ?_
    refine g_iconst hC dL_law_21 ?_
    refine g_isub hC dL_law_22 ?_
    refine g_icmp_gt hC 816 dL_law_23 (by decide) ⟨by omega, by omega⟩ ⟨by omega, by omega⟩ (fun _ => ?_) (fun hle => ?_)
    · refine g_iconst hC dL_law_816 ?_
      exact g_end hC dL_law_817
    · have hi4 : i + 4 ≤ L := by omega
      have k : ∀ w2, Inv w2 → WL g 810 [vr 99, vr 0, vr 9, vi i] [] w2 := fun w2 hI2 => by
        refine g_iinc hC dL_law_810 (i := 3) rfl (by decide) rfl ?_
        refine g_goto hC 18 dL_law_813 (by decide) ?_
        exact ih (i + 4) w2 (by omega) (by omega) (by omega) hI2
      refine g_aload hC 0 dL_law_26 rfl rfl ?_
      refine g_iload hC 3 dL_law_27 rfl rfl ?_
      refine g_sld hC dL_law_28 hi (by omega) ?_
      refine g_bipush hC dL_law_29 (by decide) ?_
      refine g_iand hC dL_law_31 (fun m m0 m31 => ?_)
      refine g_tbl hC 810 dL_law_32 (by decide) ⟨by omega, by omega⟩ (fun _ hm => ?_) (fun _ => k w hI)
      have hm2 : m = 0 ∨ m = 1 ∨ m = 2 ∨ m = 3 ∨ m = 4 ∨ m = 5 ∨ m = 6 ∨ m = 7 ∨ m = 8 ∨ m = 9 ∨ m = 10 ∨ m = 11 ∨ m = 12 ∨ m = 13 ∨ m = 14 ∨ m = 15 ∨ m = 16 ∨ m = 17 ∨ m = 18 ∨ m = 19 ∨ m = 20 ∨ m = 21 ∨ m = 22 := by omega
      rcases hm2 with rfl | rfl | rfl | rfl | rfl | rfl | rfl | rfl | rfl | rfl | rfl | rfl | rfl | rfl | rfl | rfl | rfl | rfl | rfl | rfl | rfl | rfl | rfl
      · exact ⟨108, 140, rfl, by decide, g_case_0 hC hI hi hi4 k⟩
      · exact ⟨141, 173, rfl, by decide, g_case_1 hC hI hi hi4 k⟩
      · exact ⟨174, 206, rfl, by decide, g_case_2 hC hI hi hi4 k⟩
      · exact ⟨207, 239, rfl, by decide, g_case_3 hC hI hi hi4 k⟩
      · exact ⟨230, 262, rfl, by decide, g_case_4 hC hI hi hi4 k⟩
      · exact ⟨243, 275, rfl, by decide, g_case_5 hC hI hi hi4 k⟩
      · exact ⟨266, 298, rfl, by decide, g_case_6 hC hI hi hi4 k⟩
      · exact ⟨299, 331, rfl, by decide, g_case_7 hC hI hi hi4 k⟩
      · exact ⟨332, 364, rfl, by decide, g_case_8 hC hI hi hi4 k⟩
      · exact ⟨375, 407, rfl, by decide, g_case_9 hC hI hi hi4 k⟩
      · exact ⟨418, 450, rfl, by decide, g_case_10 hC hI hi hi4 k⟩
      · exact ⟨452, 484, rfl, by decide, g_case_11 hC hI hi hi4 k⟩
      · exact ⟨495, 527, rfl, by decide, g_case_12 hC hI hi hi4 k⟩
      · exact ⟨528, 560, rfl, by decide, g_case_13 hC hI hi hi4 k⟩
      · exact ⟨551, 583, rfl, by decide, g_case_14 hC hI hi hi4 k⟩
      · exact ⟨574, 606, rfl, by decide, g_case_15 hC hI hi hi4 k⟩
      · exact ⟨607, 639, rfl, by decide, g_case_16 hC hI hi hi4 k⟩
      · exact ⟨650, 682, rfl, by decide, g_case_17 hC hI hi hi4 k⟩
      · exact ⟨673, 705, rfl, by decide, g_case_18 hC hI hi hi4 k⟩
      · exact ⟨686, 718, rfl, by decide, g_case_19 hC hI hi hi4 k⟩
      · exact ⟨709, 741, rfl, by decide, g_case_20 hC hI hi hi4 k⟩
      · exact ⟨722, 754, rfl, by decide, g_case_21 hC hI hi hi4 k⟩
      · exact ⟨755, 787, rfl, by decide, g_case_22 hC hI hi hi4 k⟩
