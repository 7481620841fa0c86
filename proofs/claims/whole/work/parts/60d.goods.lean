set_option maxRecDepth 100000 in
theorem mX6_write : ∀ w ∈ wsX6_write, w ∈ lw_tbl := (mc w_255 (ma (ma (mc w_218 (mc w_71 (mc w_256 (mc w_257 (mc w_44 (mc w_258 (mc w_259 (mc w_260 (mc w_261 (mc w_45 (mc w_262 (mc w_69 (mc w_70 (mc w_264 (mc w_265 mn))))))))))))))) inX6_law) inX5_law))
set_option maxRecDepth 100000 in
theorem gL_law_X6_write : GoodIn lw_tbl (wsV RL 13 RX6 yX6_write wsX6_write) := goodIn_sub (ma (mc w_252 (mc w_253 (mc w_254 (mc w_44 mn)))) mX6_write) (by decide +kernel)
set_option maxRecDepth 100000 in
theorem mX7_write : ∀ w ∈ wsX7_write, w ∈ lw_tbl := (mc w_768 (ma (mc w_769 (mc w_688 (mc w_687 (mc w_770 (mc w_771 (mc w_51 (mc w_772 mn))))))) inX7_law))
set_option maxRecDepth 100000 in
theorem gL_law_X7_write : GoodIn lw_tbl (wsV RL 17 RX7 yX7_write wsX7_write) := goodIn_sub (ma (mc w_765 (mc w_766 (mc w_767 (mc w_51 mn)))) mX7_write) (by decide +kernel)
set_option maxRecDepth 100000 in
theorem mX6_wipe : ∀ w ∈ wsX6_wipe, w ∈ lw_tbl := (mc w_269 (ma (ma (mc w_218 (mc w_71 mn)) inX6_law) inX5_law))
set_option maxRecDepth 100000 in
theorem gL_law_X6_wipe : GoodIn lw_tbl (wsV RL 18 RX6 yX6_wipe wsX6_wipe) := goodIn_sub (ma (mc w_266 (mc w_267 (mc w_268 (mc w_44 mn)))) mX6_wipe) (by decide +kernel)
set_option maxRecDepth 100000 in
theorem mX7_wipe : ∀ w ∈ wsX7_wipe, w ∈ lw_tbl := (mc w_776 (ma (mc w_688 mn) inX7_law))
set_option maxRecDepth 100000 in
theorem gL_law_X7_wipe : GoodIn lw_tbl (wsV RL 22 RX7 yX7_wipe wsX7_wipe) := goodIn_sub (ma (mc w_773 (mc w_774 (mc w_775 (mc w_51 mn)))) mX7_wipe) (by decide +kernel)
set_option maxRecDepth 100000 in
theorem mX6_fault_r1 : ∀ w ∈ wsX6_fault_r1, w ∈ lw_tbl := (mc w_219 (mc w_220 (mc w_274 (mc w_275 (mc w_276 (mc w_46 (mc w_277 (mc w_86 (mc w_87 (mc w_85 (mc w_72 (mc w_278 (mc w_279 (mc w_280 (mc w_47 (mc w_281 (mc w_121 (mc w_125 (mc w_128 (mc w_282 (mc w_284 (mc w_0 (mc w_285 (mc w_286 mn))))))))))))))))))))))))
set_option maxRecDepth 100000 in
theorem mX6_fault_r2 : ∀ w ∈ wsX6_fault_r2, w ∈ lw_tbl := (mc w_287 (mc w_288 (mc w_45 (mc w_289 (mc w_70 (mc w_69 (mc w_290 (mc w_292 (mc w_1 (mc w_293 (mc w_126 (mc w_294 (mc w_296 (mc w_2 (mc w_297 (mc w_123 (mc w_298 (mc w_300 (mc w_3 (mc w_301 (mc w_302 (mc w_304 (mc w_4 (mc w_305 mn))))))))))))))))))))))))
set_option maxRecDepth 100000 in
theorem mX6_fault_r3 : ∀ w ∈ wsX6_fault_r3, w ∈ lw_tbl := (mc w_257 (mc w_44 (mc w_258 (mc w_307 (mc w_308 (mc w_309 (mc w_310 (mc w_101 (mc w_103 (mc w_264 (mc w_265 (mc w_312 (mc w_313 (mc w_314 (mc w_315 (mc w_106 (mc w_108 (mc w_316 (mc w_318 (mc w_5 (mc w_319 (mc w_320 (mc w_322 (mc w_6 mn))))))))))))))))))))))))
set_option maxRecDepth 100000 in
theorem mX6_fault_r4 : ∀ w ∈ wsX6_fault_r4, w ∈ lw_tbl := (mc w_323 (mc w_131 (mc w_324 (mc w_326 (mc w_7 (mc w_327 (mc w_328 (mc w_330 (mc w_8 (mc w_331 (mc w_332 (mc w_333 (mc w_334 (mc w_335 (mc w_110 (mc w_113 (mc w_116 (mc w_118 mn))))))))))))))))))
set_option maxRecDepth 100000 in
theorem mX6_fault : ∀ w ∈ wsX6_fault, w ∈ lw_tbl := (mc w_273 (ma (ma (ma (ma (ma mX6_fault_r1 (ma mX6_fault_r2 (ma mX6_fault_r3 mX6_fault_r4))) inX6_law) inX3_law) inX5_law) inX1_law))
set_option maxRecDepth 100000 in
theorem gL_law_X6_fault : GoodIn lw_tbl (wsV RL 23 RX6 yX6_fault wsX6_fault) := goodIn_sub (ma (mc w_270 (mc w_271 (mc w_272 (mc w_44 mn)))) mX6_fault) (by decide +kernel)
set_option maxRecDepth 100000 in
theorem mX7_fault_r1 : ∀ w ∈ wsX7_fault_r1, w ∈ lw_tbl := (mc w_781 (mc w_783 (mc w_16 (mc w_51 (mc w_784 (mc w_689 (mc w_690 (mc w_684 (mc w_685 (mc w_686 (mc w_688 (mc w_687 (mc w_785 (mc w_787 (mc w_17 (mc w_788 (mc w_681 (mc w_682 (mc w_789 (mc w_791 (mc w_18 (mc w_792 (mc w_770 (mc w_771 mn))))))))))))))))))))))))
set_option maxRecDepth 100000 in
theorem mX7_fault_r2 : ∀ w ∈ wsX7_fault_r2, w ∈ lw_tbl := (mc w_772 (mc w_793 (mc w_795 (mc w_19 (mc w_796 (mc w_683 mn))))))
set_option maxRecDepth 100000 in
theorem mX7_fault : ∀ w ∈ wsX7_fault, w ∈ lw_tbl := (mc w_780 (ma (ma mX7_fault_r1 mX7_fault_r2) inX7_law))
set_option maxRecDepth 100000 in
theorem gL_law_X7_fault : GoodIn lw_tbl (wsV RL 26 RX7 yX7_fault wsX7_fault) := goodIn_sub (ma (mc w_777 (mc w_778 (mc w_779 (mc w_51 mn)))) mX7_fault) (by decide +kernel)
set_option maxRecDepth 100000 in
theorem mX6_county_r1 : ∀ w ∈ wsX6_county_r1, w ∈ lw_tbl := (mc w_219 (mc w_220 (mc w_221 (mc w_222 (mc w_224 (mc w_192 (mc w_227 (mc w_124 (mc w_127 (mc w_130 (mc w_274 (mc w_275 (mc w_276 (mc w_46 (mc w_277 (mc w_86 (mc w_87 (mc w_85 (mc w_72 (mc w_278 (mc w_279 (mc w_280 (mc w_47 (mc w_281 mn))))))))))))))))))))))))
set_option maxRecDepth 100000 in
theorem mX6_county_r2 : ∀ w ∈ wsX6_county_r2, w ∈ lw_tbl := (mc w_121 (mc w_125 (mc w_128 (mc w_282 (mc w_284 (mc w_0 (mc w_285 (mc w_286 (mc w_287 (mc w_288 (mc w_45 (mc w_289 (mc w_70 (mc w_69 (mc w_290 (mc w_292 (mc w_1 (mc w_293 (mc w_126 (mc w_294 (mc w_296 (mc w_2 (mc w_297 (mc w_123 mn))))))))))))))))))))))))
set_option maxRecDepth 100000 in
theorem mX6_county_r3 : ∀ w ∈ wsX6_county_r3, w ∈ lw_tbl := (mc w_298 (mc w_300 (mc w_3 (mc w_301 (mc w_302 (mc w_304 (mc w_4 (mc w_305 (mc w_257 (mc w_44 (mc w_258 (mc w_307 (mc w_308 (mc w_309 (mc w_310 (mc w_101 (mc w_103 (mc w_264 (mc w_265 (mc w_312 (mc w_313 (mc w_314 (mc w_315 (mc w_106 mn))))))))))))))))))))))))
set_option maxRecDepth 100000 in
theorem mX6_county_r4 : ∀ w ∈ wsX6_county_r4, w ∈ lw_tbl := (mc w_108 (mc w_316 (mc w_318 (mc w_5 (mc w_319 (mc w_320 (mc w_322 (mc w_6 (mc w_323 (mc w_131 (mc w_324 (mc w_326 (mc w_7 (mc w_327 (mc w_328 (mc w_330 (mc w_8 (mc w_331 (mc w_332 (mc w_333 (mc w_334 (mc w_335 (mc w_110 (mc w_113 mn))))))))))))))))))))))))
set_option maxRecDepth 100000 in
theorem mX6_county_r5 : ∀ w ∈ wsX6_county_r5, w ∈ lw_tbl := (mc w_116 (mc w_118 (mc w_340 (mc w_341 (mc w_342 (mc w_48 (mc w_343 (mc w_162 (mc w_163 (mc w_161 (mc w_122 (mc w_102 (mc w_129 (mc w_165 (mc w_167 (mc w_169 (mc w_345 (mc w_346 (mc w_347 (mc w_348 (mc w_349 (mc w_350 (mc w_351 (mc w_352 mn))))))))))))))))))))))))
set_option maxRecDepth 100000 in
theorem mX6_county_r6 : ∀ w ∈ wsX6_county_r6, w ∈ lw_tbl := (mc w_353 (mc w_354 (mc w_355 (mc w_356 (mc w_357 (mc w_358 (mc w_359 (mc w_360 (mc w_361 (mc w_362 mn))))))))))
set_option maxRecDepth 100000 in
theorem mX6_county : ∀ w ∈ wsX6_county, w ∈ lw_tbl := (mc w_339 (ma (ma (ma (ma (ma (ma (ma mX6_county_r1 (ma mX6_county_r2 (ma mX6_county_r3 (ma mX6_county_r4 (ma mX6_county_r5 mX6_county_r6))))) inX6_law) inX0_law) inX1_law) inX3_law) inX5_law) inX4_law))
set_option maxRecDepth 100000 in
theorem gL_law_X6_county : GoodIn lw_tbl (wsV RL 27 RX6 yX6_county wsX6_county) := goodIn_sub (ma (mc w_336 (mc w_337 (mc w_338 (mc w_44 mn)))) mX6_county) (by decide +kernel)
set_option maxRecDepth 100000 in
theorem mX7_county_r1 : ∀ w ∈ wsX7_county_r1, w ∈ lw_tbl := (mc w_684 (mc w_670 (mc w_685 (mc w_671 (mc w_686 (mc w_672 (mc w_680 (mc w_681 (mc w_673 (mc w_674 (mc w_682 (mc w_675 (mc w_676 (mc w_683 (mc w_677 (mc w_678 (mc w_679 (mc w_691 (mc w_699 (mc w_781 (mc w_783 (mc w_16 (mc w_51 (mc w_784 mn))))))))))))))))))))))))
set_option maxRecDepth 100000 in
theorem mX7_county_r2 : ∀ w ∈ wsX7_county_r2, w ∈ lw_tbl := (mc w_689 (mc w_690 (mc w_688 (mc w_687 (mc w_785 (mc w_787 (mc w_17 (mc w_788 (mc w_789 (mc w_791 (mc w_18 (mc w_792 (mc w_770 (mc w_771 (mc w_772 (mc w_793 (mc w_795 (mc w_19 (mc w_796 mn)))))))))))))))))))
set_option maxRecDepth 100000 in
theorem mX7_county : ∀ w ∈ wsX7_county, w ∈ lw_tbl := (mc w_800 (ma (ma mX7_county_r1 mX7_county_r2) inX7_law))
set_option maxRecDepth 100000 in
theorem gL_law_X7_county : GoodIn lw_tbl (wsV RL 30 RX7 yX7_county wsX7_county) := goodIn_sub (ma (mc w_797 (mc w_798 (mc w_799 (mc w_51 mn)))) mX7_county) (by decide +kernel)
set_option maxRecDepth 100000 in
theorem mX6_person_r1 : ∀ w ∈ wsX6_person_r1, w ∈ lw_tbl := (mc w_221 (mc w_222 (mc w_104 (mc w_164 (mc w_166 (mc w_369 (mc w_360 (mc w_361 (mc w_47 (mc w_362 (mc w_121 (mc w_257 (mc w_44 (mc w_258 (mc w_370 (mc w_371 (mc w_372 (mc w_48 (mc w_373 (mc w_162 (mc w_374 (mc w_345 (mc w_346 (mc w_375 mn))))))))))))))))))))))))
set_option maxRecDepth 100000 in
theorem mX6_person_r2 : ∀ w ∈ wsX6_person_r2, w ∈ lw_tbl := (mc w_376 (mc w_377 (mc w_378 (mc w_379 (mc w_380 (mc w_381 (mc w_128 (mc w_110 (mc w_113 (mc w_382 (mc w_383 (mc w_384 (mc w_385 (mc w_161 (mc w_169 (mc w_109 (mc w_107 (mc w_386 (mc w_387 (mc w_388 (mc w_389 (mc w_125 (mc w_390 (mc w_391 mn))))))))))))))))))))))))
set_option maxRecDepth 100000 in
theorem mX6_person_r3 : ∀ w ∈ wsX6_person_r3, w ∈ lw_tbl := (mc w_52 (mc w_392 (mc w_393 (mc w_394 (mc w_52 (mc w_395 (mc w_396 (mc w_397 (mc w_398 (mc w_399 (mc w_122 (mc w_163 (mc w_105 (mc w_400 (mc w_403 (mc w_404 mn))))))))))))))))
set_option maxRecDepth 100000 in
theorem mX6_person : ∀ w ∈ wsX6_person, w ∈ lw_tbl := (mc w_368 (ma (ma (ma (ma mX6_person_r1 (ma mX6_person_r2 mX6_person_r3)) inX6_law) inX1_law) inX4_law))
set_option maxRecDepth 100000 in
theorem gL_law_X6_person : GoodIn lw_tbl (wsV RL 31 RX6 yX6_person wsX6_person) := goodIn_sub (ma (mc w_365 (mc w_366 (mc w_367 (mc w_44 mn)))) mX6_person) (by decide +kernel)
set_option maxRecDepth 100000 in
theorem mX7_person_r1 : ∀ w ∈ wsX7_person_r1, w ∈ lw_tbl := (mc w_680 (mc w_673 (mc w_805 (mc w_807 (mc w_20 (mc w_51 (mc w_808 (mc w_670 (mc w_770 (mc w_771 (mc w_772 (mc w_809 (mc w_811 (mc w_21 (mc w_812 (mc w_672 (mc w_676 (mc w_677 (mc w_813 (mc w_815 (mc w_22 (mc w_816 (mc w_817 (mc w_819 mn))))))))))))))))))))))))
set_option maxRecDepth 100000 in
theorem mX7_person_r2 : ∀ w ∈ wsX7_person_r2, w ∈ lw_tbl := (mc w_23 (mc w_820 (mc w_671 (mc w_674 (mc w_821 (mc w_823 (mc w_24 (mc w_824 (mc w_675 (mc w_825 (mc w_827 (mc w_25 (mc w_828 (mc w_829 (mc w_831 (mc w_26 (mc w_832 (mc w_833 (mc w_834 (mc w_835 (mc w_836 (mc w_837 (mc w_838 mn)))))))))))))))))))))))
set_option maxRecDepth 100000 in
theorem mX7_person : ∀ w ∈ wsX7_person, w ∈ lw_tbl := (mc w_804 (ma (ma mX7_person_r1 mX7_person_r2) inX7_law))
set_option maxRecDepth 100000 in
theorem gL_law_X7_person : GoodIn lw_tbl (wsV RL 35 RX7 yX7_person wsX7_person) := goodIn_sub (ma (mc w_801 (mc w_802 (mc w_803 (mc w_51 mn)))) mX7_person) (by decide +kernel)
set_option maxRecDepth 100000 in
theorem mX6_oath : ∀ w ∈ wsX6_oath, w ∈ lw_tbl := (mc w_408 (ma (ma (ma (mc w_221 (mc w_111 (mc w_114 (mc w_117 (mc w_119 (mc w_222 (mc w_166 (mc w_409 (mc w_410 (mc w_411 (mc w_47 (mc w_412 (mc w_128 (mc w_257 (mc w_44 (mc w_258 (mc w_374 (mc w_345 (mc w_346 (mc w_375 (mc w_376 (mc w_377 mn)))))))))))))))))))))) inX6_law) inX1_law) inX4_law))
set_option maxRecDepth 100000 in
theorem gL_law_X6_oath : GoodIn lw_tbl (wsV RL 36 RX6 yX6_oath wsX6_oath) := goodIn_sub (ma (mc w_405 (mc w_406 (mc w_407 (mc w_44 mn)))) mX6_oath) (by decide +kernel)
set_option maxRecDepth 100000 in
theorem mX7_oath : ∀ w ∈ wsX7_oath, w ∈ lw_tbl := (mc w_842 (ma (mc w_676 (mc w_677 (mc w_678 (mc w_679 (mc w_680 (mc w_843 (mc w_845 (mc w_27 (mc w_51 (mc w_846 (mc w_672 (mc w_770 (mc w_771 (mc w_772 mn)))))))))))))) inX7_law))
set_option maxRecDepth 100000 in
theorem gL_law_X7_oath : GoodIn lw_tbl (wsV RL 39 RX7 yX7_oath wsX7_oath) := goodIn_sub (ma (mc w_839 (mc w_840 (mc w_841 (mc w_51 mn)))) mX7_oath) (by decide +kernel)
set_option maxRecDepth 100000 in
theorem mX6_day_r1 : ∀ w ∈ wsX6_day_r1, w ∈ lw_tbl := (mc w_224 (mc w_222 (mc w_417 (mc w_418 (mc w_419 (mc w_49 (mc w_420 (mc w_191 (mc w_190 (mc w_421 (mc w_423 (mc w_422 (mc w_53 (mc w_424 (mc w_425 (mc w_426 (mc w_48 (mc w_427 (mc w_162 (mc w_163 (mc w_165 (mc w_167 (mc w_169 (mc w_264 mn))))))))))))))))))))))))
set_option maxRecDepth 100000 in
theorem mX6_day_r2 : ∀ w ∈ wsX6_day_r2, w ∈ lw_tbl := (mc w_44 (mc w_265 (mc w_429 (mc w_430 (mc w_431 (mc w_432 (mc w_161 (mc w_457 (mc w_458 (mc w_52 (mc w_459 (mc w_433 (mc w_383 (mc w_384 (mc w_385 (mc w_109 (mc w_107 (mc w_386 (mc w_387 (mc w_388 (mc w_47 (mc w_389 (mc w_125 (mc w_390 mn))))))))))))))))))))))))
set_option maxRecDepth 100000 in
theorem mX6_day_r3 : ∀ w ∈ wsX6_day_r3, w ∈ lw_tbl := (mc w_391 (mc w_392 (mc w_393 (mc w_394 (mc w_52 (mc w_395 (mc w_345 (mc w_346 (mc w_396 (mc w_397 (mc w_398 (mc w_399 (mc w_122 (mc w_105 (mc w_400 (mc w_371 (mc w_372 (mc w_373 (mc w_376 (mc w_377 (mc w_403 (mc w_404 (mc w_434 (mc w_435 mn))))))))))))))))))))))))
set_option maxRecDepth 100000 in
theorem mX6_day_r4 : ∀ w ∈ wsX6_day_r4, w ∈ lw_tbl := (mc w_436 (mc w_437 (mc w_129 (mc w_438 (mc w_440 (mc w_9 (mc w_441 (mc w_112 (mc w_115 (mc w_442 (mc w_444 (mc w_10 (mc w_445 (mc w_120 (mc w_446 (mc w_447 (mc w_54 (mc w_448 (mc w_449 (mc w_450 (mc w_451 (mc w_452 (mc w_453 (mc w_454 mn))))))))))))))))))))))))
set_option maxRecDepth 100000 in
theorem mX6_day_r5 : ∀ w ∈ wsX6_day_r5, w ∈ lw_tbl := (mc w_455 (mc w_128 (mc w_116 mn)))
set_option maxRecDepth 100000 in
theorem mX6_day : ∀ w ∈ wsX6_day, w ∈ lw_tbl := (mc w_416 (ma (ma (ma (ma (ma mX6_day_r1 (ma mX6_day_r2 (ma mX6_day_r3 (ma mX6_day_r4 mX6_day_r5)))) inX6_law) inX0_law) inX4_law) inX1_law))
set_option maxRecDepth 100000 in
theorem gL_law_X6_day : GoodIn lw_tbl (wsV RL 40 RX6 yX6_day wsX6_day) := goodIn_sub (ma (mc w_413 (mc w_414 (mc w_415 (mc w_44 mn)))) mX6_day) (by decide +kernel)
set_option maxRecDepth 100000 in
theorem mX7_day_r1 : ∀ w ∈ wsX7_day_r1, w ∈ lw_tbl := (mc w_851 (mc w_853 (mc w_28 (mc w_51 (mc w_854 (mc w_693 (mc w_692 (mc w_680 (mc w_691 (mc w_855 (mc w_857 (mc w_29 (mc w_858 (mc w_817 (mc w_819 (mc w_23 (mc w_820 (mc w_671 (mc w_674 (mc w_821 (mc w_823 (mc w_24 (mc w_824 (mc w_675 mn))))))))))))))))))))))))
set_option maxRecDepth 100000 in
theorem mX7_day_r2 : ∀ w ∈ wsX7_day_r2, w ∈ lw_tbl := (mc w_859 (mc w_861 (mc w_30 (mc w_862 (mc w_672 (mc w_676 (mc w_677 (mc w_673 (mc w_825 (mc w_827 (mc w_25 (mc w_828 (mc w_670 (mc w_829 (mc w_831 (mc w_26 (mc w_832 (mc w_833 (mc w_834 (mc w_835 (mc w_836 (mc w_837 (mc w_838 (mc w_863 mn))))))))))))))))))))))))
set_option maxRecDepth 100000 in
theorem mX7_day_r3 : ∀ w ∈ wsX7_day_r3, w ∈ lw_tbl := (mc w_865 (mc w_31 (mc w_866 (mc w_679 (mc w_867 (mc w_868 (mc w_869 (mc w_870 (mc w_872 (mc w_32 (mc w_873 (mc w_678 mn))))))))))))
set_option maxRecDepth 100000 in
theorem mX7_day : ∀ w ∈ wsX7_day, w ∈ lw_tbl := (mc w_850 (ma (ma mX7_day_r1 (ma mX7_day_r2 mX7_day_r3)) inX7_law))
set_option maxRecDepth 100000 in
theorem gL_law_X7_day : GoodIn lw_tbl (wsV RL 43 RX7 yX7_day wsX7_day) := goodIn_sub (ma (mc w_847 (mc w_848 (mc w_849 (mc w_51 mn)))) mX7_day) (by decide +kernel)
set_option maxRecDepth 100000 in
theorem mX6_drum_r1 : ∀ w ∈ wsX6_drum_r1, w ∈ lw_tbl := (mc w_224 (mc w_222 (mc w_464 (mc w_465 (mc w_44 (mc w_466 (mc w_256 (mc w_257 (mc w_258 (mc w_417 (mc w_418 (mc w_419 (mc w_49 (mc w_420 (mc w_191 (mc w_190 (mc w_421 (mc w_423 (mc w_422 (mc w_53 (mc w_424 (mc w_425 (mc w_426 (mc w_48 mn))))))))))))))))))))))))
set_option maxRecDepth 100000 in
theorem mX6_drum_r2 : ∀ w ∈ wsX6_drum_r2, w ∈ lw_tbl := (mc w_427 (mc w_162 (mc w_163 (mc w_165 (mc w_167 (mc w_169 (mc w_264 (mc w_265 (mc w_467 (mc w_397 (mc w_398 (mc w_399 (mc w_161 (mc w_122 (mc w_105 (mc w_400 (mc w_371 (mc w_372 (mc w_373 (mc w_376 (mc w_377 (mc w_403 (mc w_404 (mc w_345 mn))))))))))))))))))))))))
set_option maxRecDepth 100000 in
theorem mX6_drum_r3 : ∀ w ∈ wsX6_drum_r3, w ∈ lw_tbl := (mc w_346 (mc w_468 (mc w_435 (mc w_436 (mc w_437 (mc w_129 (mc w_438 (mc w_440 (mc w_9 (mc w_441 (mc w_112 (mc w_115 (mc w_442 (mc w_444 (mc w_10 (mc w_445 (mc w_120 (mc w_446 (mc w_447 (mc w_54 (mc w_448 (mc w_449 (mc w_450 (mc w_451 mn))))))))))))))))))))))))
set_option maxRecDepth 100000 in
theorem mX6_drum : ∀ w ∈ wsX6_drum, w ∈ lw_tbl := (mc w_463 (ma (ma (ma (ma (ma mX6_drum_r1 (ma mX6_drum_r2 mX6_drum_r3)) inX6_law) inX0_law) inX4_law) inX1_law))
set_option maxRecDepth 100000 in
theorem gL_law_X6_drum : GoodIn lw_tbl (wsV RL 44 RX6 yX6_drum wsX6_drum) := goodIn_sub (ma (mc w_460 (mc w_461 (mc w_462 (mc w_44 mn)))) mX6_drum) (by decide +kernel)
set_option maxRecDepth 100000 in
theorem mX7_drum_r1 : ∀ w ∈ wsX7_drum_r1, w ∈ lw_tbl := (mc w_881 (mc w_878 (mc w_879 (mc w_51 (mc w_880 (mc w_770 (mc w_771 (mc w_772 (mc w_851 (mc w_853 (mc w_28 (mc w_854 (mc w_693 (mc w_692 (mc w_680 (mc w_691 (mc w_859 (mc w_861 (mc w_30 (mc w_862 (mc w_672 (mc w_676 (mc w_677 (mc w_673 mn))))))))))))))))))))))))
set_option maxRecDepth 100000 in
theorem mX7_drum_r2 : ∀ w ∈ wsX7_drum_r2, w ∈ lw_tbl := (mc w_825 (mc w_827 (mc w_25 (mc w_828 (mc w_670 (mc w_829 (mc w_831 (mc w_26 (mc w_832 (mc w_833 (mc w_834 (mc w_835 (mc w_836 (mc w_837 (mc w_838 (mc w_863 (mc w_865 (mc w_31 (mc w_866 (mc w_679 (mc w_867 (mc w_868 (mc w_869 mn)))))))))))))))))))))))
set_option maxRecDepth 100000 in
theorem mX7_drum : ∀ w ∈ wsX7_drum, w ∈ lw_tbl := (mc w_877 (ma (ma mX7_drum_r1 mX7_drum_r2) inX7_law))
set_option maxRecDepth 100000 in
theorem gL_law_X7_drum : GoodIn lw_tbl (wsV RL 47 RX7 yX7_drum wsX7_drum) := goodIn_sub (ma (mc w_874 (mc w_875 (mc w_876 (mc w_51 mn)))) mX7_drum) (by decide +kernel)
set_option maxRecDepth 100000 in
theorem mX6_swear_r1 : ∀ w ∈ wsX6_swear_r1, w ∈ lw_tbl := (mc w_221 (mc w_222 (mc w_224 (mc w_166 (mc w_409 (mc w_410 (mc w_411 (mc w_47 (mc w_412 (mc w_128 (mc w_257 (mc w_44 (mc w_258 (mc w_473 (mc w_474 (mc w_475 (mc w_48 (mc w_476 (mc w_161 (mc w_120 (mc w_477 (mc w_478 (mc w_479 (mc w_480 mn))))))))))))))))))))))))
set_option maxRecDepth 100000 in
theorem mX6_swear_r2 : ∀ w ∈ wsX6_swear_r2, w ∈ lw_tbl := (mc w_481 (mc w_165 (mc w_376 (mc w_377 (mc w_345 (mc w_346 (mc w_417 (mc w_418 (mc w_419 (mc w_49 (mc w_420 (mc w_191 (mc w_190 (mc w_421 (mc w_423 (mc w_422 (mc w_53 (mc w_424 (mc w_425 (mc w_426 (mc w_427 (mc w_162 (mc w_163 (mc w_167 mn))))))))))))))))))))))))
set_option maxRecDepth 100000 in
theorem mX6_swear_r3 : ∀ w ∈ wsX6_swear_r3, w ∈ lw_tbl := (mc w_169 (mc w_264 (mc w_265 (mc w_482 (mc w_447 (mc w_54 (mc w_448 (mc w_449 (mc w_450 (mc w_451 mn))))))))))
set_option maxRecDepth 100000 in
theorem mX6_swear : ∀ w ∈ wsX6_swear, w ∈ lw_tbl := (mc w_472 (ma (ma (ma (ma (ma mX6_swear_r1 (ma mX6_swear_r2 mX6_swear_r3)) inX6_law) inX4_law) inX1_law) inX0_law))
set_option maxRecDepth 100000 in
theorem gL_law_X6_swear : GoodIn lw_tbl (wsV RL 48 RX6 yX6_swear wsX6_swear) := goodIn_sub (ma (mc w_469 (mc w_470 (mc w_471 (mc w_44 mn)))) mX6_swear) (by decide +kernel)
set_option maxRecDepth 100000 in
theorem mX7_swear_r1 : ∀ w ∈ wsX7_swear_r1, w ∈ lw_tbl := (mc w_680 (mc w_843 (mc w_845 (mc w_27 (mc w_51 (mc w_846 (mc w_672 (mc w_770 (mc w_771 (mc w_772 (mc w_886 (mc w_888 (mc w_33 (mc w_889 (mc w_679 (mc w_833 (mc w_834 (mc w_835 (mc w_851 (mc w_853 (mc w_28 (mc w_854 (mc w_693 (mc w_692 mn))))))))))))))))))))))))
set_option maxRecDepth 100000 in
theorem mX7_swear_r2 : ∀ w ∈ wsX7_swear_r2, w ∈ lw_tbl := (mc w_691 (mc w_867 (mc w_868 (mc w_869 mn))))
set_option maxRecDepth 100000 in
theorem mX7_swear : ∀ w ∈ wsX7_swear, w ∈ lw_tbl := (mc w_885 (ma (ma mX7_swear_r1 mX7_swear_r2) inX7_law))
set_option maxRecDepth 100000 in
theorem gL_law_X7_swear : GoodIn lw_tbl (wsV RL 51 RX7 yX7_swear wsX7_swear) := goodIn_sub (ma (mc w_882 (mc w_883 (mc w_884 (mc w_51 mn)))) mX7_swear) (by decide +kernel)
set_option maxRecDepth 100000 in
theorem mX6_form_r1 : ∀ w ∈ wsX6_form_r1, w ∈ lw_tbl := (mc w_221 (mc w_222 (mc w_224 (mc w_409 (mc w_410 (mc w_411 (mc w_47 (mc w_412 (mc w_128 (mc w_257 (mc w_44 (mc w_258 (mc w_487 (mc w_479 (mc w_480 (mc w_48 (mc w_481 (mc w_161 (mc w_165 (mc w_477 (mc w_376 (mc w_377 (mc w_417 (mc w_418 mn))))))))))))))))))))))))
set_option maxRecDepth 100000 in
theorem mX6_form_r2 : ∀ w ∈ wsX6_form_r2, w ∈ lw_tbl := (mc w_419 (mc w_49 (mc w_420 (mc w_191 (mc w_190 (mc w_421 (mc w_423 (mc w_422 (mc w_53 (mc w_424 (mc w_425 (mc w_426 (mc w_427 (mc w_162 (mc w_163 (mc w_167 (mc w_169 (mc w_264 (mc w_265 (mc w_488 (mc w_489 (mc w_490 (mc w_491 (mc w_442 mn))))))))))))))))))))))))
set_option maxRecDepth 100000 in
theorem mX6_form_r3 : ∀ w ∈ wsX6_form_r3, w ∈ lw_tbl := (mc w_444 (mc w_10 (mc w_445 (mc w_129 (mc w_120 (mc w_345 (mc w_346 (mc w_446 (mc w_447 (mc w_54 (mc w_448 (mc w_449 (mc w_450 (mc w_451 mn))))))))))))))
set_option maxRecDepth 100000 in
theorem mX6_form : ∀ w ∈ wsX6_form, w ∈ lw_tbl := (mc w_486 (ma (ma (ma (ma (ma mX6_form_r1 (ma mX6_form_r2 mX6_form_r3)) inX6_law) inX1_law) inX4_law) inX0_law))
set_option maxRecDepth 100000 in
theorem gL_law_X6_form : GoodIn lw_tbl (wsV RL 52 RX6 yX6_form wsX6_form) := goodIn_sub (ma (mc w_483 (mc w_484 (mc w_485 (mc w_44 mn)))) mX6_form) (by decide +kernel)
set_option maxRecDepth 100000 in
theorem mX7_form_r1 : ∀ w ∈ wsX7_form_r1, w ∈ lw_tbl := (mc w_680 (mc w_843 (mc w_845 (mc w_27 (mc w_51 (mc w_846 (mc w_672 (mc w_770 (mc w_771 (mc w_772 (mc w_833 (mc w_834 (mc w_835 (mc w_851 (mc w_853 (mc w_28 (mc w_854 (mc w_693 (mc w_692 (mc w_691 (mc w_894 (mc w_896 (mc w_34 (mc w_897 mn))))))))))))))))))))))))
set_option maxRecDepth 100000 in
theorem mX7_form_r2 : ∀ w ∈ wsX7_form_r2, w ∈ lw_tbl := (mc w_863 (mc w_865 (mc w_31 (mc w_866 (mc w_679 (mc w_867 (mc w_868 (mc w_869 mn))))))))
set_option maxRecDepth 100000 in
theorem mX7_form : ∀ w ∈ wsX7_form, w ∈ lw_tbl := (mc w_893 (ma (ma mX7_form_r1 mX7_form_r2) inX7_law))
set_option maxRecDepth 100000 in
theorem gL_law_X7_form : GoodIn lw_tbl (wsV RL 55 RX7 yX7_form wsX7_form) := goodIn_sub (ma (mc w_890 (mc w_891 (mc w_892 (mc w_51 mn)))) mX7_form) (by decide +kernel)
set_option maxRecDepth 100000 in
theorem mX6_move_r1 : ∀ w ∈ wsX6_move_r1, w ∈ lw_tbl := (mc w_221 (mc w_222 (mc w_224 (mc w_369 (mc w_360 (mc w_361 (mc w_47 (mc w_362 (mc w_121 (mc w_257 (mc w_44 (mc w_258 (mc w_464 (mc w_465 (mc w_466 (mc w_256 (mc w_370 (mc w_371 (mc w_372 (mc w_48 (mc w_373 (mc w_162 (mc w_417 (mc w_418 mn))))))))))))))))))))))))
set_option maxRecDepth 100000 in
theorem mX6_move_r2 : ∀ w ∈ wsX6_move_r2, w ∈ lw_tbl := (mc w_419 (mc w_49 (mc w_420 (mc w_191 (mc w_190 (mc w_421 (mc w_423 (mc w_422 (mc w_53 (mc w_424 (mc w_425 (mc w_426 (mc w_427 (mc w_163 (mc w_165 (mc w_167 (mc w_169 (mc w_264 (mc w_265 (mc w_496 (mc w_348 (mc w_349 (mc w_350 mn)))))))))))))))))))))))
set_option maxRecDepth 100000 in
theorem mX6_move : ∀ w ∈ wsX6_move, w ∈ lw_tbl := (mc w_495 (ma (ma (ma (ma (ma mX6_move_r1 mX6_move_r2) inX6_law) inX1_law) inX4_law) inX0_law))
set_option maxRecDepth 100000 in
theorem gL_law_X6_move : GoodIn lw_tbl (wsV RL 56 RX6 yX6_move wsX6_move) := goodIn_sub (ma (mc w_492 (mc w_493 (mc w_494 (mc w_44 mn)))) mX6_move) (by decide +kernel)
set_option maxRecDepth 100000 in
theorem mX7_move : ∀ w ∈ wsX7_move, w ∈ lw_tbl := (mc w_901 (ma (mc w_680 (mc w_805 (mc w_807 (mc w_20 (mc w_51 (mc w_808 (mc w_670 (mc w_770 (mc w_771 (mc w_772 (mc w_878 (mc w_879 (mc w_880 (mc w_881 (mc w_851 (mc w_853 (mc w_28 (mc w_854 (mc w_693 (mc w_692 (mc w_691 mn))))))))))))))))))))) inX7_law))
set_option maxRecDepth 100000 in
theorem gL_law_X7_move : GoodIn lw_tbl (wsV RL 59 RX7 yX7_move wsX7_move) := goodIn_sub (ma (mc w_898 (mc w_899 (mc w_900 (mc w_51 mn)))) mX7_move) (by decide +kernel)
set_option maxRecDepth 100000 in
theorem mX6_wool_r1 : ∀ w ∈ wsX6_wool_r1, w ∈ lw_tbl := (mc w_221 (mc w_224 (mc w_222 (mc w_164 (mc w_369 (mc w_360 (mc w_361 (mc w_47 (mc w_362 (mc w_121 (mc w_257 (mc w_44 (mc w_258 (mc w_501 (mc w_502 (mc w_503 (mc w_504 (mc w_505 (mc w_356 (mc w_357 (mc w_358 (mc w_103 (mc w_359 (mc w_345 mn))))))))))))))))))))))))
set_option maxRecDepth 100000 in
theorem mX6_wool_r2 : ∀ w ∈ wsX6_wool_r2, w ∈ lw_tbl := (mc w_346 (mc w_417 (mc w_418 (mc w_419 (mc w_49 (mc w_420 (mc w_191 (mc w_190 (mc w_421 (mc w_423 (mc w_422 (mc w_53 (mc w_424 (mc w_425 (mc w_426 (mc w_48 (mc w_427 (mc w_162 (mc w_163 (mc w_165 (mc w_167 (mc w_169 (mc w_264 (mc w_265 mn))))))))))))))))))))))))
set_option maxRecDepth 100000 in
theorem mX6_wool_r3 : ∀ w ∈ wsX6_wool_r3, w ∈ lw_tbl := (mc w_375 (mc w_376 (mc w_377 mn)))
set_option maxRecDepth 100000 in
theorem mX6_wool : ∀ w ∈ wsX6_wool, w ∈ lw_tbl := (mc w_500 (ma (ma (ma (ma (ma mX6_wool_r1 (ma mX6_wool_r2 mX6_wool_r3)) inX6_law) inX4_law) inX1_law) inX0_law))
set_option maxRecDepth 100000 in
theorem gL_law_X6_wool : GoodIn lw_tbl (wsV RL 60 RX6 yX6_wool wsX6_wool) := goodIn_sub (ma (mc w_497 (mc w_498 (mc w_499 (mc w_44 mn)))) mX6_wool) (by decide +kernel)
set_option maxRecDepth 100000 in
theorem mX7_wool : ∀ w ∈ wsX7_wool, w ∈ lw_tbl := (mc w_905 (ma (mc w_680 (mc w_805 (mc w_807 (mc w_20 (mc w_51 (mc w_808 (mc w_670 (mc w_770 (mc w_771 (mc w_772 (mc w_906 (mc w_908 (mc w_35 (mc w_909 (mc w_673 (mc w_851 (mc w_853 (mc w_28 (mc w_854 (mc w_693 (mc w_692 (mc w_691 mn)))))))))))))))))))))) inX7_law))
set_option maxRecDepth 100000 in
theorem gL_law_X7_wool : GoodIn lw_tbl (wsV RL 63 RX7 yX7_wool wsX7_wool) := goodIn_sub (ma (mc w_902 (mc w_903 (mc w_904 (mc w_51 mn)))) mX7_wool) (by decide +kernel)
set_option maxRecDepth 100000 in
theorem mX6_undo : ∀ w ∈ wsX6_undo, w ∈ lw_tbl := (mc w_509 (ma (ma (ma (mc w_224 (mc w_192 (mc w_222 (mc w_510 (mc w_511 (mc w_512 (mc w_49 (mc w_513 (mc w_191 (mc w_190 (mc w_514 (mc w_515 (mc w_516 (mc w_48 (mc w_517 (mc w_162 (mc w_163 (mc w_165 (mc w_167 (mc w_169 (mc w_345 (mc w_44 (mc w_346 mn))))))))))))))))))))))) inX6_law) inX0_law) inX4_law))
set_option maxRecDepth 100000 in
theorem gL_law_X6_undo : GoodIn lw_tbl (wsV RL 64 RX6 yX6_undo wsX6_undo) := goodIn_sub (ma (mc w_506 (mc w_507 (mc w_508 (mc w_44 mn)))) mX6_undo) (by decide +kernel)
set_option maxRecDepth 100000 in
theorem mX7_undo : ∀ w ∈ wsX7_undo, w ∈ lw_tbl := (mc w_913 (ma (mc w_691 (mc w_692 (mc w_680 (mc w_693 mn)))) inX7_law))
set_option maxRecDepth 100000 in
theorem gL_law_X7_undo : GoodIn lw_tbl (wsV RL 67 RX7 yX7_undo wsX7_undo) := goodIn_sub (ma (mc w_910 (mc w_911 (mc w_912 (mc w_51 mn)))) mX7_undo) (by decide +kernel)
set_option maxRecDepth 100000 in
theorem mX6_later_r1 : ∀ w ∈ wsX6_later_r1, w ∈ lw_tbl := (mc w_223 (mc w_222 (mc w_166 (mc w_168 (mc w_256 (mc w_257 (mc w_44 (mc w_258 (mc w_522 (mc w_523 (mc w_524 (mc w_48 (mc w_525 (mc w_162 (mc w_163 (mc w_165 (mc w_167 (mc w_169 (mc w_526 (mc w_527 (mc w_528 (mc w_529 (mc w_530 (mc w_430 mn))))))))))))))))))))))))
set_option maxRecDepth 100000 in
theorem mX6_later_r2 : ∀ w ∈ wsX6_later_r2, w ∈ lw_tbl := (mc w_431 (mc w_432 (mc w_161 (mc w_457 (mc w_458 (mc w_52 (mc w_459 (mc w_433 (mc w_383 (mc w_384 (mc w_385 (mc w_109 (mc w_107 (mc w_386 (mc w_387 (mc w_388 (mc w_47 (mc w_389 (mc w_125 (mc w_390 (mc w_391 (mc w_392 (mc w_393 (mc w_394 mn))))))))))))))))))))))))
set_option maxRecDepth 100000 in
theorem mX6_later_r3 : ∀ w ∈ wsX6_later_r3, w ∈ lw_tbl := (mc w_52 (mc w_395 (mc w_345 (mc w_346 (mc w_396 (mc w_397 (mc w_398 (mc w_399 (mc w_122 (mc w_105 (mc w_400 (mc w_371 (mc w_372 (mc w_373 (mc w_376 (mc w_377 (mc w_403 (mc w_404 (mc w_434 (mc w_435 (mc w_436 (mc w_437 (mc w_129 (mc w_438 mn))))))))))))))))))))))))
set_option maxRecDepth 100000 in
theorem mX6_later_r4 : ∀ w ∈ wsX6_later_r4, w ∈ lw_tbl := (mc w_440 (mc w_9 (mc w_441 (mc w_112 (mc w_115 (mc w_442 (mc w_444 (mc w_10 (mc w_445 (mc w_120 (mc w_446 (mc w_447 (mc w_54 (mc w_448 (mc w_449 (mc w_450 (mc w_451 (mc w_452 (mc w_453 (mc w_454 (mc w_455 (mc w_128 (mc w_116 mn)))))))))))))))))))))))
set_option maxRecDepth 100000 in
theorem mX6_later : ∀ w ∈ wsX6_later, w ∈ lw_tbl := (mc w_521 (ma (ma (ma (ma mX6_later_r1 (ma mX6_later_r2 (ma mX6_later_r3 mX6_later_r4))) inX6_law) inX4_law) inX1_law))
set_option maxRecDepth 100000 in
theorem gL_law_X6_later : GoodIn lw_tbl (wsV RL 68 RX6 yX6_later wsX6_later) := goodIn_sub (ma (mc w_518 (mc w_519 (mc w_520 (mc w_44 mn)))) mX6_later) (by decide +kernel)
set_option maxRecDepth 100000 in
theorem mX7_later_r1 : ∀ w ∈ wsX7_later_r1, w ∈ lw_tbl := (mc w_918 (mc w_680 (mc w_770 (mc w_771 (mc w_51 (mc w_772 (mc w_919 (mc w_921 (mc w_36 (mc w_922 (mc w_923 (mc w_925 (mc w_37 (mc w_926 (mc w_855 (mc w_857 (mc w_29 (mc w_858 (mc w_817 (mc w_819 (mc w_23 (mc w_820 (mc w_671 (mc w_674 mn))))))))))))))))))))))))
set_option maxRecDepth 100000 in
theorem mX7_later_r2 : ∀ w ∈ wsX7_later_r2, w ∈ lw_tbl := (mc w_821 (mc w_823 (mc w_24 (mc w_824 (mc w_675 (mc w_859 (mc w_861 (mc w_30 (mc w_862 (mc w_672 (mc w_676 (mc w_677 (mc w_673 (mc w_825 (mc w_827 (mc w_25 (mc w_828 (mc w_670 (mc w_829 (mc w_831 (mc w_26 (mc w_832 (mc w_833 (mc w_834 mn))))))))))))))))))))))))
set_option maxRecDepth 100000 in
theorem mX7_later_r3 : ∀ w ∈ wsX7_later_r3, w ∈ lw_tbl := (mc w_835 (mc w_836 (mc w_837 (mc w_838 (mc w_863 (mc w_865 (mc w_31 (mc w_866 (mc w_679 (mc w_867 (mc w_868 (mc w_869 (mc w_870 (mc w_872 (mc w_32 (mc w_873 (mc w_678 mn)))))))))))))))))
set_option maxRecDepth 100000 in
theorem mX7_later : ∀ w ∈ wsX7_later, w ∈ lw_tbl := (mc w_917 (ma (ma mX7_later_r1 (ma mX7_later_r2 mX7_later_r3)) inX7_law))
set_option maxRecDepth 100000 in
theorem gL_law_X7_later : GoodIn lw_tbl (wsV RL 71 RX7 yX7_later wsX7_later) := goodIn_sub (ma (mc w_914 (mc w_915 (mc w_916 (mc w_51 mn)))) mX7_later) (by decide +kernel)
set_option maxRecDepth 100000 in
theorem mX6_lasts_r1 : ∀ w ∈ wsX6_lasts_r1, w ∈ lw_tbl := (mc w_221 (mc w_222 (mc w_223 (mc w_409 (mc w_410 (mc w_411 (mc w_47 (mc w_412 (mc w_128 (mc w_257 (mc w_44 (mc w_258 (mc w_487 (mc w_479 (mc w_480 (mc w_48 (mc w_481 (mc w_161 (mc w_165 (mc w_477 (mc w_376 (mc w_377 (mc w_522 (mc w_523 mn))))))))))))))))))))))))
set_option maxRecDepth 100000 in
theorem mX6_lasts_r2 : ∀ w ∈ wsX6_lasts_r2, w ∈ lw_tbl := (mc w_524 (mc w_525 (mc w_162 (mc w_163 (mc w_167 (mc w_169 (mc w_429 (mc w_430 (mc w_431 (mc w_432 (mc w_457 (mc w_458 (mc w_52 (mc w_459 (mc w_433 (mc w_383 (mc w_384 (mc w_385 (mc w_109 (mc w_107 (mc w_386 (mc w_387 (mc w_388 (mc w_389 mn))))))))))))))))))))))))
set_option maxRecDepth 100000 in
theorem mX6_lasts_r3 : ∀ w ∈ wsX6_lasts_r3, w ∈ lw_tbl := (mc w_125 (mc w_390 (mc w_391 (mc w_392 (mc w_393 (mc w_394 (mc w_52 (mc w_395 (mc w_345 (mc w_346 (mc w_396 (mc w_397 (mc w_398 (mc w_399 (mc w_122 (mc w_105 (mc w_400 (mc w_371 (mc w_372 (mc w_373 (mc w_403 (mc w_404 (mc w_434 (mc w_435 mn))))))))))))))))))))))))
set_option maxRecDepth 100000 in
theorem mX6_lasts_r4 : ∀ w ∈ wsX6_lasts_r4, w ∈ lw_tbl := (mc w_436 (mc w_437 (mc w_129 (mc w_438 (mc w_440 (mc w_9 (mc w_441 (mc w_112 (mc w_115 (mc w_442 (mc w_444 (mc w_10 (mc w_445 (mc w_120 (mc w_446 (mc w_447 (mc w_54 (mc w_448 (mc w_449 (mc w_450 (mc w_451 (mc w_452 (mc w_453 (mc w_454 mn))))))))))))))))))))))))
set_option maxRecDepth 100000 in
theorem mX6_lasts_r5 : ∀ w ∈ wsX6_lasts_r5, w ∈ lw_tbl := (mc w_455 (mc w_116 mn))
set_option maxRecDepth 100000 in
theorem mX6_lasts : ∀ w ∈ wsX6_lasts, w ∈ lw_tbl := (mc w_534 (ma (ma (ma (ma mX6_lasts_r1 (ma mX6_lasts_r2 (ma mX6_lasts_r3 (ma mX6_lasts_r4 mX6_lasts_r5)))) inX6_law) inX1_law) inX4_law))
set_option maxRecDepth 100000 in
theorem gL_law_X6_lasts : GoodIn lw_tbl (wsV RL 72 RX6 yX6_lasts wsX6_lasts) := goodIn_sub (ma (mc w_531 (mc w_532 (mc w_533 (mc w_44 mn)))) mX6_lasts) (by decide +kernel)
set_option maxRecDepth 100000 in
theorem mX7_lasts_r1 : ∀ w ∈ wsX7_lasts_r1, w ∈ lw_tbl := (mc w_680 (mc w_843 (mc w_845 (mc w_27 (mc w_51 (mc w_846 (mc w_672 (mc w_770 (mc w_771 (mc w_772 (mc w_833 (mc w_834 (mc w_835 (mc w_919 (mc w_921 (mc w_36 (mc w_922 (mc w_855 (mc w_857 (mc w_29 (mc w_858 (mc w_817 (mc w_819 (mc w_23 mn))))))))))))))))))))))))
set_option maxRecDepth 100000 in
theorem mX7_lasts_r2 : ∀ w ∈ wsX7_lasts_r2, w ∈ lw_tbl := (mc w_820 (mc w_671 (mc w_674 (mc w_821 (mc w_823 (mc w_24 (mc w_824 (mc w_675 (mc w_859 (mc w_861 (mc w_30 (mc w_862 (mc w_676 (mc w_677 (mc w_673 (mc w_825 (mc w_827 (mc w_25 (mc w_828 (mc w_670 (mc w_829 (mc w_831 (mc w_26 (mc w_832 mn))))))))))))))))))))))))
set_option maxRecDepth 100000 in
theorem mX7_lasts_r3 : ∀ w ∈ wsX7_lasts_r3, w ∈ lw_tbl := (mc w_836 (mc w_837 (mc w_838 (mc w_863 (mc w_865 (mc w_31 (mc w_866 (mc w_679 (mc w_867 (mc w_868 (mc w_869 (mc w_870 (mc w_872 (mc w_32 (mc w_873 (mc w_678 mn))))))))))))))))
set_option maxRecDepth 100000 in
theorem mX7_lasts : ∀ w ∈ wsX7_lasts, w ∈ lw_tbl := (mc w_930 (ma (ma mX7_lasts_r1 (ma mX7_lasts_r2 mX7_lasts_r3)) inX7_law))
set_option maxRecDepth 100000 in
theorem gL_law_X7_lasts : GoodIn lw_tbl (wsV RL 75 RX7 yX7_lasts wsX7_lasts) := goodIn_sub (ma (mc w_927 (mc w_928 (mc w_929 (mc w_51 mn)))) mX7_lasts) (by decide +kernel)
set_option maxRecDepth 100000 in
theorem mX6_best_r1 : ∀ w ∈ wsX6_best_r1, w ∈ lw_tbl := (mc w_221 (mc w_223 (mc w_222 (mc w_168 (mc w_369 (mc w_360 (mc w_361 (mc w_47 (mc w_362 (mc w_121 (mc w_257 (mc w_44 (mc w_258 (mc w_256 (mc w_522 (mc w_523 (mc w_524 (mc w_48 (mc w_525 (mc w_162 (mc w_163 (mc w_165 (mc w_167 (mc w_169 mn))))))))))))))))))))))))
set_option maxRecDepth 100000 in
theorem mX6_best_r2 : ∀ w ∈ wsX6_best_r2, w ∈ lw_tbl := (mc w_496 (mc w_348 (mc w_349 (mc w_350 (mc w_526 (mc w_527 (mc w_528 (mc w_529 (mc w_530 (mc w_430 (mc w_431 (mc w_432 (mc w_161 (mc w_457 (mc w_458 (mc w_52 (mc w_459 (mc w_433 (mc w_383 (mc w_384 (mc w_385 (mc w_109 (mc w_107 (mc w_386 mn))))))))))))))))))))))))
set_option maxRecDepth 100000 in
theorem mX6_best_r3 : ∀ w ∈ wsX6_best_r3, w ∈ lw_tbl := (mc w_387 (mc w_388 (mc w_389 (mc w_125 (mc w_390 (mc w_391 (mc w_392 (mc w_393 (mc w_394 (mc w_52 (mc w_395 (mc w_345 (mc w_346 (mc w_396 (mc w_397 (mc w_398 (mc w_399 (mc w_122 (mc w_105 (mc w_400 (mc w_371 (mc w_372 (mc w_373 (mc w_376 mn))))))))))))))))))))))))
set_option maxRecDepth 100000 in
theorem mX6_best_r4 : ∀ w ∈ wsX6_best_r4, w ∈ lw_tbl := (mc w_377 (mc w_403 (mc w_404 (mc w_434 (mc w_435 (mc w_436 (mc w_437 (mc w_129 (mc w_438 (mc w_440 (mc w_9 (mc w_441 (mc w_112 (mc w_115 (mc w_442 (mc w_444 (mc w_10 (mc w_445 (mc w_120 (mc w_446 (mc w_447 (mc w_54 (mc w_448 (mc w_449 mn))))))))))))))))))))))))
set_option maxRecDepth 100000 in
theorem mX6_best_r5 : ∀ w ∈ wsX6_best_r5, w ∈ lw_tbl := (mc w_450 (mc w_451 (mc w_452 (mc w_453 (mc w_454 (mc w_455 (mc w_128 (mc w_116 mn))))))))
set_option maxRecDepth 100000 in
theorem mX6_best : ∀ w ∈ wsX6_best, w ∈ lw_tbl := (mc w_538 (ma (ma (ma (ma mX6_best_r1 (ma mX6_best_r2 (ma mX6_best_r3 (ma mX6_best_r4 mX6_best_r5)))) inX6_law) inX4_law) inX1_law))
set_option maxRecDepth 100000 in
theorem gL_law_X6_best : GoodIn lw_tbl (wsV RL 76 RX6 yX6_best wsX6_best) := goodIn_sub (ma (mc w_535 (mc w_536 (mc w_537 (mc w_44 mn)))) mX6_best) (by decide +kernel)
set_option maxRecDepth 100000 in
theorem mX7_best_r1 : ∀ w ∈ wsX7_best_r1, w ∈ lw_tbl := (mc w_881 (mc w_680 (mc w_805 (mc w_807 (mc w_20 (mc w_51 (mc w_808 (mc w_670 (mc w_770 (mc w_771 (mc w_772 (mc w_919 (mc w_921 (mc w_36 (mc w_922 (mc w_923 (mc w_925 (mc w_37 (mc w_926 (mc w_855 (mc w_857 (mc w_29 (mc w_858 (mc w_817 mn))))))))))))))))))))))))
set_option maxRecDepth 100000 in
theorem mX7_best_r2 : ∀ w ∈ wsX7_best_r2, w ∈ lw_tbl := (mc w_819 (mc w_23 (mc w_820 (mc w_671 (mc w_674 (mc w_821 (mc w_823 (mc w_24 (mc w_824 (mc w_675 (mc w_859 (mc w_861 (mc w_30 (mc w_862 (mc w_672 (mc w_676 (mc w_677 (mc w_673 (mc w_825 (mc w_827 (mc w_25 (mc w_828 (mc w_829 (mc w_831 mn))))))))))))))))))))))))
set_option maxRecDepth 100000 in
theorem mX7_best_r3 : ∀ w ∈ wsX7_best_r3, w ∈ lw_tbl := (mc w_26 (mc w_832 (mc w_833 (mc w_834 (mc w_835 (mc w_836 (mc w_837 (mc w_838 (mc w_863 (mc w_865 (mc w_31 (mc w_866 (mc w_679 (mc w_867 (mc w_868 (mc w_869 (mc w_870 (mc w_872 (mc w_32 (mc w_873 (mc w_678 mn)))))))))))))))))))))
set_option maxRecDepth 100000 in
theorem mX7_best : ∀ w ∈ wsX7_best, w ∈ lw_tbl := (mc w_934 (ma (ma mX7_best_r1 (ma mX7_best_r2 mX7_best_r3)) inX7_law))
set_option maxRecDepth 100000 in
theorem gL_law_X7_best : GoodIn lw_tbl (wsV RL 80 RX7 yX7_best wsX7_best) := goodIn_sub (ma (mc w_931 (mc w_932 (mc w_933 (mc w_51 mn)))) mX7_best) (by decide +kernel)
set_option maxRecDepth 100000 in
theorem mX6_frees_r1 : ∀ w ∈ wsX6_frees_r1, w ∈ lw_tbl := (mc w_221 (mc w_130 (mc w_223 (mc w_222 (mc w_166 (mc w_256 (mc w_257 (mc w_44 (mc w_258 (mc w_522 (mc w_523 (mc w_524 (mc w_48 (mc w_525 (mc w_162 (mc w_163 (mc w_165 (mc w_167 (mc w_169 (mc w_467 (mc w_397 (mc w_398 (mc w_399 (mc w_161 mn))))))))))))))))))))))))
set_option maxRecDepth 100000 in
theorem mX6_frees_r2 : ∀ w ∈ wsX6_frees_r2, w ∈ lw_tbl := (mc w_122 (mc w_105 (mc w_400 (mc w_371 (mc w_372 (mc w_373 (mc w_376 (mc w_377 (mc w_403 (mc w_404 (mc w_345 (mc w_346 (mc w_468 (mc w_435 (mc w_436 (mc w_437 (mc w_129 (mc w_438 (mc w_440 (mc w_9 (mc w_441 (mc w_112 (mc w_115 (mc w_442 mn))))))))))))))))))))))))
set_option maxRecDepth 100000 in
theorem mX6_frees_r3 : ∀ w ∈ wsX6_frees_r3, w ∈ lw_tbl := (mc w_444 (mc w_10 (mc w_445 (mc w_120 (mc w_446 (mc w_447 (mc w_54 (mc w_448 (mc w_449 (mc w_450 (mc w_451 mn)))))))))))
set_option maxRecDepth 100000 in
theorem mX6_frees : ∀ w ∈ wsX6_frees, w ∈ lw_tbl := (mc w_542 (ma (ma (ma (ma mX6_frees_r1 (ma mX6_frees_r2 mX6_frees_r3)) inX6_law) inX1_law) inX4_law))
set_option maxRecDepth 100000 in
theorem gL_law_X6_frees : GoodIn lw_tbl (wsV RL 81 RX6 yX6_frees wsX6_frees) := goodIn_sub (ma (mc w_539 (mc w_540 (mc w_541 (mc w_44 mn)))) mX6_frees) (by decide +kernel)
set_option maxRecDepth 100000 in
theorem mX7_frees_r1 : ∀ w ∈ wsX7_frees_r1, w ∈ lw_tbl := (mc w_672 (mc w_680 (mc w_770 (mc w_771 (mc w_51 (mc w_772 (mc w_919 (mc w_921 (mc w_36 (mc w_922 (mc w_859 (mc w_861 (mc w_30 (mc w_862 (mc w_676 (mc w_677 (mc w_673 (mc w_825 (mc w_827 (mc w_25 (mc w_828 (mc w_670 (mc w_829 (mc w_831 mn))))))))))))))))))))))))
set_option maxRecDepth 100000 in
theorem mX7_frees_r2 : ∀ w ∈ wsX7_frees_r2, w ∈ lw_tbl := (mc w_26 (mc w_832 (mc w_833 (mc w_834 (mc w_835 (mc w_836 (mc w_837 (mc w_838 (mc w_863 (mc w_865 (mc w_31 (mc w_866 (mc w_679 (mc w_867 (mc w_868 (mc w_869 mn))))))))))))))))
set_option maxRecDepth 100000 in
theorem mX7_frees : ∀ w ∈ wsX7_frees, w ∈ lw_tbl := (mc w_938 (ma (ma mX7_frees_r1 mX7_frees_r2) inX7_law))
set_option maxRecDepth 100000 in
theorem gL_law_X7_frees : GoodIn lw_tbl (wsV RL 84 RX7 yX7_frees wsX7_frees) := goodIn_sub (ma (mc w_935 (mc w_936 (mc w_937 (mc w_51 mn)))) mX7_frees) (by decide +kernel)
set_option maxRecDepth 100000 in
theorem mX6_judge_r1 : ∀ w ∈ wsX6_judge_r1, w ∈ lw_tbl := (mc w_223 (mc w_222 (mc w_256 (mc w_257 (mc w_44 (mc w_258 (mc w_547 (mc w_548 (mc w_549 (mc w_550 (mc w_522 (mc w_523 (mc w_524 (mc w_48 (mc w_525 (mc w_162 (mc w_163 (mc w_165 (mc w_167 (mc w_169 (mc w_551 (mc w_552 (mc w_553 (mc w_554 mn))))))))))))))))))))))))
set_option maxRecDepth 100000 in
theorem mX6_judge_r2 : ∀ w ∈ wsX6_judge_r2, w ∈ lw_tbl := (mc w_556 (mc w_11 (mc w_557 (mc w_467 (mc w_397 (mc w_398 (mc w_399 (mc w_161 (mc w_122 (mc w_105 (mc w_400 (mc w_371 (mc w_372 (mc w_373 (mc w_376 (mc w_377 (mc w_403 (mc w_404 (mc w_345 (mc w_346 (mc w_468 (mc w_435 (mc w_436 (mc w_437 mn))))))))))))))))))))))))
set_option maxRecDepth 100000 in
theorem mX6_judge_r3 : ∀ w ∈ wsX6_judge_r3, w ∈ lw_tbl := (mc w_129 (mc w_438 (mc w_440 (mc w_9 (mc w_441 (mc w_112 (mc w_115 (mc w_442 (mc w_444 (mc w_10 (mc w_445 (mc w_120 (mc w_446 (mc w_447 (mc w_54 (mc w_448 (mc w_449 (mc w_450 (mc w_451 (mc w_558 (mc w_559 (mc w_560 (mc w_561 (mc w_562 mn))))))))))))))))))))))))
set_option maxRecDepth 100000 in
theorem mX6_judge_r4 : ∀ w ∈ wsX6_judge_r4, w ∈ lw_tbl := (mc w_360 (mc w_361 (mc w_47 (mc w_362 (mc w_121 (mc w_347 (mc w_348 (mc w_349 (mc w_350 (mc w_526 (mc w_527 (mc w_528 (mc w_529 (mc w_530 (mc w_430 (mc w_431 (mc w_432 (mc w_457 (mc w_458 (mc w_52 (mc w_459 (mc w_433 (mc w_383 (mc w_384 mn))))))))))))))))))))))))
set_option maxRecDepth 100000 in
theorem mX6_judge_r5 : ∀ w ∈ wsX6_judge_r5, w ∈ lw_tbl := (mc w_385 (mc w_109 (mc w_107 (mc w_386 (mc w_387 (mc w_388 (mc w_389 (mc w_125 (mc w_390 (mc w_391 (mc w_392 (mc w_393 (mc w_394 (mc w_52 (mc w_395 (mc w_396 (mc w_434 (mc w_452 (mc w_453 (mc w_454 (mc w_455 (mc w_128 (mc w_116 (mc w_563 mn))))))))))))))))))))))))
set_option maxRecDepth 100000 in
theorem mX6_judge_r6 : ∀ w ∈ wsX6_judge_r6, w ∈ lw_tbl := (mc w_564 (mc w_565 (mc w_566 (mc w_567 (mc w_474 (mc w_475 (mc w_476 (mc w_477 (mc w_410 (mc w_411 (mc w_412 (mc w_478 (mc w_479 (mc w_480 (mc w_481 (mc w_568 (mc w_569 (mc w_570 (mc w_571 (mc w_572 (mc w_489 (mc w_490 (mc w_491 (mc w_573 mn))))))))))))))))))))))))
set_option maxRecDepth 100000 in
theorem mX6_judge_r7 : ∀ w ∈ wsX6_judge_r7, w ∈ lw_tbl := (mc w_574 (mc w_575 (mc w_576 (mc w_577 (mc w_502 (mc w_503 (mc w_504 (mc w_505 (mc w_356 (mc w_357 (mc w_358 (mc w_103 (mc w_359 (mc w_487 mn))))))))))))))
set_option maxRecDepth 100000 in
theorem mX6_judge : ∀ w ∈ wsX6_judge, w ∈ lw_tbl := (mc w_546 (ma (ma (ma (ma mX6_judge_r1 (ma mX6_judge_r2 (ma mX6_judge_r3 (ma mX6_judge_r4 (ma mX6_judge_r5 (ma mX6_judge_r6 mX6_judge_r7)))))) inX6_law) inX4_law) inX1_law))
set_option maxRecDepth 100000 in
theorem gL_law_X6_judge : GoodIn lw_tbl (wsV RL 87 RX6 yX6_judge wsX6_judge) := goodIn_sub (ma (mc w_543 (mc w_544 (mc w_545 (mc w_44 mn)))) mX6_judge) (by decide +kernel)
set_option maxRecDepth 100000 in
theorem mX7_judge_r1 : ∀ w ∈ wsX7_judge_r1, w ∈ lw_tbl := (mc w_943 (mc w_947 (mc w_770 (mc w_771 (mc w_51 (mc w_772 (mc w_944 (mc w_945 (mc w_946 (mc w_919 (mc w_921 (mc w_36 (mc w_922 (mc w_680 (mc w_948 (mc w_950 (mc w_38 (mc w_951 (mc w_855 (mc w_857 (mc w_29 (mc w_858 (mc w_817 (mc w_819 mn))))))))))))))))))))))))
set_option maxRecDepth 100000 in
theorem mX7_judge_r2 : ∀ w ∈ wsX7_judge_r2, w ∈ lw_tbl := (mc w_23 (mc w_820 (mc w_671 (mc w_674 (mc w_821 (mc w_823 (mc w_24 (mc w_824 (mc w_675 (mc w_859 (mc w_861 (mc w_30 (mc w_862 (mc w_672 (mc w_676 (mc w_677 (mc w_673 (mc w_825 (mc w_827 (mc w_25 (mc w_828 (mc w_670 (mc w_829 (mc w_831 mn))))))))))))))))))))))))
set_option maxRecDepth 100000 in
theorem mX7_judge_r3 : ∀ w ∈ wsX7_judge_r3, w ∈ lw_tbl := (mc w_26 (mc w_832 (mc w_833 (mc w_834 (mc w_835 (mc w_836 (mc w_837 (mc w_838 (mc w_863 (mc w_865 (mc w_31 (mc w_866 (mc w_679 (mc w_867 (mc w_868 (mc w_869 (mc w_870 (mc w_872 (mc w_32 (mc w_873 (mc w_678 (mc w_886 (mc w_888 (mc w_33 mn))))))))))))))))))))))))
set_option maxRecDepth 100000 in
theorem mX7_judge_r4 : ∀ w ∈ wsX7_judge_r4, w ∈ lw_tbl := (mc w_889 (mc w_843 (mc w_845 (mc w_27 (mc w_846 (mc w_894 (mc w_896 (mc w_34 (mc w_897 (mc w_805 (mc w_807 (mc w_20 (mc w_808 (mc w_878 (mc w_879 (mc w_880 (mc w_881 (mc w_906 (mc w_908 (mc w_35 (mc w_909 mn)))))))))))))))))))))
set_option maxRecDepth 100000 in
theorem mX7_judge : ∀ w ∈ wsX7_judge, w ∈ lw_tbl := (mc w_942 (ma (ma mX7_judge_r1 (ma mX7_judge_r2 (ma mX7_judge_r3 mX7_judge_r4))) inX7_law))
set_option maxRecDepth 100000 in
theorem gL_law_X7_judge : GoodIn lw_tbl (wsV RL 91 RX7 yX7_judge wsX7_judge) := goodIn_sub (ma (mc w_939 (mc w_940 (mc w_941 (mc w_51 mn)))) mX7_judge) (by decide +kernel)
set_option maxRecDepth 100000 in
theorem mX6_hear : ∀ w ∈ wsX6_hear, w ∈ lw_tbl := (mc w_581 (ma (ma (mc w_225 (mc w_208 (mc w_464 (mc w_465 (mc w_44 (mc w_466 (mc w_256 (mc w_257 (mc w_258 (mc w_582 (mc w_583 (mc w_584 (mc w_50 (mc w_585 (mc w_204 (mc w_207 (mc w_205 (mc w_206 (mc w_264 (mc w_265 mn)))))))))))))))))))) inX6_law) inX2_law))
set_option maxRecDepth 100000 in
theorem gL_law_X6_hear : GoodIn lw_tbl (wsV RL 92 RX6 yX6_hear wsX6_hear) := goodIn_sub (ma (mc w_578 (mc w_579 (mc w_580 (mc w_44 mn)))) mX6_hear) (by decide +kernel)
set_option maxRecDepth 100000 in
theorem mX7_hear : ∀ w ∈ wsX7_hear, w ∈ lw_tbl := (mc w_955 (ma (mc w_694 (mc w_695 (mc w_696 (mc w_697 (mc w_878 (mc w_879 (mc w_51 (mc w_880 (mc w_881 (mc w_770 (mc w_771 (mc w_772 mn)))))))))))) inX7_law))
set_option maxRecDepth 100000 in
theorem gL_law_X7_hear : GoodIn lw_tbl (wsV RL 95 RX7 yX7_hear wsX7_hear) := goodIn_sub (ma (mc w_952 (mc w_953 (mc w_954 (mc w_51 mn)))) mX7_hear) (by decide +kernel)
set_option maxRecDepth 100000 in
theorem mX6_unhear : ∀ w ∈ wsX6_unhear, w ∈ lw_tbl := (mc w_590 (ma (ma (mc w_225 (mc w_208 mn)) inX6_law) inX2_law))
set_option maxRecDepth 100000 in
theorem gL_law_X6_unhear : GoodIn lw_tbl (wsV RL 96 RX6 yX6_unhear wsX6_unhear) := goodIn_sub (ma (mc w_587 (mc w_588 (mc w_589 (mc w_44 mn)))) mX6_unhear) (by decide +kernel)
set_option maxRecDepth 100000 in
theorem mX7_unhear : ∀ w ∈ wsX7_unhear, w ∈ lw_tbl := (mc w_959 (ma (mc w_694 mn) inX7_law))
set_option maxRecDepth 100000 in
theorem gL_law_X7_unhear : GoodIn lw_tbl (wsV RL 99 RX7 yX7_unhear wsX7_unhear) := goodIn_sub (ma (mc w_956 (mc w_957 (mc w_958 (mc w_51 mn)))) mX7_unhear) (by decide +kernel)
set_option maxRecDepth 100000 in
theorem mX6_which : ∀ w ∈ wsX6_which, w ∈ lw_tbl := (mc w_594 (ma (ma (mc w_225 (mc w_256 (mc w_257 (mc w_44 (mc w_258 (mc w_595 (mc w_596 (mc w_597 (mc w_50 (mc w_598 (mc w_207 (mc w_204 (mc w_205 (mc w_206 (mc w_345 (mc w_346 (mc w_403 (mc w_404 mn)))))))))))))))))) inX6_law) inX2_law))
set_option maxRecDepth 100000 in
theorem gL_law_X6_which : GoodIn lw_tbl (wsV RL 100 RX6 yX6_which wsX6_which) := goodIn_sub (ma (mc w_591 (mc w_592 (mc w_593 (mc w_44 mn)))) mX6_which) (by decide +kernel)
set_option maxRecDepth 100000 in
theorem mX7_which : ∀ w ∈ wsX7_which, w ∈ lw_tbl := (mc w_963 (ma (mc w_694 (mc w_696 (mc w_695 (mc w_697 (mc w_770 (mc w_771 (mc w_51 (mc w_772 (mc w_836 (mc w_837 (mc w_838 mn))))))))))) inX7_law))
set_option maxRecDepth 100000 in
theorem gL_law_X7_which : GoodIn lw_tbl (wsV RL 103 RX7 yX7_which wsX7_which) := goodIn_sub (ma (mc w_960 (mc w_961 (mc w_962 (mc w_51 mn)))) mX7_which) (by decide +kernel)
set_option maxRecDepth 100000 in
theorem mX6_share_r1 : ∀ w ∈ wsX6_share_r1, w ∈ lw_tbl := (mc w_221 (mc w_222 (mc w_166 (mc w_369 (mc w_360 (mc w_361 (mc w_47 (mc w_362 (mc w_121 (mc w_257 (mc w_44 (mc w_258 (mc w_378 (mc w_379 (mc w_380 (mc w_381 (mc w_128 (mc w_110 (mc w_113 (mc w_345 (mc w_346 (mc w_605 (mc w_453 (mc w_454 mn))))))))))))))))))))))))
set_option maxRecDepth 100000 in
theorem mX6_share_r2 : ∀ w ∈ wsX6_share_r2, w ∈ lw_tbl := (mc w_455 (mc w_116 (mc w_376 (mc w_377 (mc w_606 (mc w_607 (mc w_608 (mc w_612 (mc w_391 (mc w_52 (mc w_392 (mc w_609 (mc w_610 (mc w_611 mn))))))))))))))
set_option maxRecDepth 100000 in
theorem mX6_share : ∀ w ∈ wsX6_share, w ∈ lw_tbl := (mc w_604 (ma (ma (ma (ma mX6_share_r1 mX6_share_r2) inX6_law) inX4_law) inX1_law))
set_option maxRecDepth 100000 in
theorem gL_law_X6_share : GoodIn lw_tbl (wsV RL 104 RX6 yX6_share wsX6_share) := goodIn_sub (ma (mc w_601 (mc w_602 (mc w_603 (mc w_44 mn)))) mX6_share) (by decide +kernel)
set_option maxRecDepth 100000 in
theorem mX7_share_r1 : ∀ w ∈ wsX7_share_r1, w ∈ lw_tbl := (mc w_670 (mc w_805 (mc w_807 (mc w_20 (mc w_51 (mc w_808 (mc w_770 (mc w_771 (mc w_772 (mc w_833 (mc w_834 (mc w_835 (mc w_867 (mc w_868 (mc w_869 (mc w_968 (mc w_969 (mc w_970 (mc w_971 (mc w_973 (mc w_39 (mc w_974 (mc w_672 (mc w_676 mn))))))))))))))))))))))))
set_option maxRecDepth 100000 in
theorem mX7_share_r2 : ∀ w ∈ wsX7_share_r2, w ∈ lw_tbl := (mc w_677 (mc w_680 (mc w_870 (mc w_872 (mc w_32 (mc w_873 (mc w_678 (mc w_975 (mc w_976 (mc w_977 mn))))))))))
set_option maxRecDepth 100000 in
theorem mX7_share : ∀ w ∈ wsX7_share, w ∈ lw_tbl := (mc w_967 (ma (ma mX7_share_r1 mX7_share_r2) inX7_law))
set_option maxRecDepth 100000 in
theorem gL_law_X7_share : GoodIn lw_tbl (wsV RL 108 RX7 yX7_share wsX7_share) := goodIn_sub (ma (mc w_964 (mc w_965 (mc w_966 (mc w_51 mn)))) mX7_share) (by decide +kernel)
set_option maxRecDepth 100000 in
theorem mX6_rests_r1 : ∀ w ∈ wsX6_rests_r1, w ∈ lw_tbl := (mc w_221 (mc w_369 (mc w_360 (mc w_361 (mc w_47 (mc w_362 (mc w_121 (mc w_257 (mc w_44 (mc w_258 (mc w_256 (mc w_617 (mc w_356 (mc w_357 (mc w_358 (mc w_103 (mc w_359 (mc w_345 (mc w_346 (mc w_618 (mc w_620 (mc w_12 (mc w_621 (mc w_622 mn))))))))))))))))))))))))
set_option maxRecDepth 100000 in
theorem mX6_rests_r2 : ∀ w ∈ wsX6_rests_r2, w ∈ lw_tbl := (mc w_624 (mc w_13 (mc w_625 (mc w_223 (mc w_222 (mc w_166 (mc w_522 (mc w_523 (mc w_524 (mc w_48 (mc w_525 (mc w_162 (mc w_163 (mc w_165 (mc w_167 (mc w_169 (mc w_626 (mc w_352 (mc w_353 (mc w_354 (mc w_161 (mc w_355 (mc w_429 (mc w_430 mn))))))))))))))))))))))))
set_option maxRecDepth 100000 in
theorem mX6_rests_r3 : ∀ w ∈ wsX6_rests_r3, w ∈ lw_tbl := (mc w_431 (mc w_432 (mc w_457 (mc w_458 (mc w_52 (mc w_459 (mc w_433 (mc w_383 (mc w_384 (mc w_385 (mc w_109 (mc w_107 (mc w_386 (mc w_387 (mc w_388 (mc w_389 (mc w_125 (mc w_390 (mc w_391 (mc w_392 (mc w_393 (mc w_394 (mc w_52 (mc w_395 mn))))))))))))))))))))))))
set_option maxRecDepth 100000 in
theorem mX6_rests_r4 : ∀ w ∈ wsX6_rests_r4, w ∈ lw_tbl := (mc w_396 (mc w_397 (mc w_398 (mc w_399 (mc w_122 (mc w_105 (mc w_400 (mc w_371 (mc w_372 (mc w_373 (mc w_376 (mc w_377 (mc w_403 (mc w_404 (mc w_434 (mc w_435 (mc w_436 (mc w_437 (mc w_129 (mc w_438 (mc w_440 (mc w_9 (mc w_441 (mc w_112 mn))))))))))))))))))))))))
set_option maxRecDepth 100000 in
theorem mX6_rests_r5 : ∀ w ∈ wsX6_rests_r5, w ∈ lw_tbl := (mc w_115 (mc w_442 (mc w_444 (mc w_10 (mc w_445 (mc w_120 (mc w_446 (mc w_447 (mc w_54 (mc w_448 (mc w_449 (mc w_450 (mc w_451 (mc w_452 (mc w_453 (mc w_454 (mc w_455 (mc w_128 (mc w_116 (mc w_378 (mc w_379 (mc w_380 (mc w_381 (mc w_110 mn))))))))))))))))))))))))
set_option maxRecDepth 100000 in
theorem mX6_rests_r6 : ∀ w ∈ wsX6_rests_r6, w ∈ lw_tbl := (mc w_113 (mc w_605 mn))
set_option maxRecDepth 100000 in
theorem mX6_rests : ∀ w ∈ wsX6_rests, w ∈ lw_tbl := (mc w_616 (ma (ma (ma (ma mX6_rests_r1 (ma mX6_rests_r2 (ma mX6_rests_r3 (ma mX6_rests_r4 (ma mX6_rests_r5 mX6_rests_r6))))) inX6_law) inX1_law) inX4_law))
set_option maxRecDepth 100000 in
theorem gL_law_X6_rests : GoodIn lw_tbl (wsV RL 109 RX6 yX6_rests wsX6_rests) := goodIn_sub (ma (mc w_613 (mc w_614 (mc w_615 (mc w_44 mn)))) mX6_rests) (by decide +kernel)
set_option maxRecDepth 100000 in
theorem mX7_rests_r1 : ∀ w ∈ wsX7_rests_r1, w ∈ lw_tbl := (mc w_673 (mc w_805 (mc w_807 (mc w_20 (mc w_51 (mc w_808 (mc w_670 (mc w_770 (mc w_771 (mc w_772 (mc w_982 (mc w_984 (mc w_40 (mc w_985 (mc w_986 (mc w_988 (mc w_41 (mc w_989 (mc w_680 (mc w_919 (mc w_921 (mc w_36 (mc w_922 (mc w_990 mn))))))))))))))))))))))))
set_option maxRecDepth 100000 in
theorem mX7_rests_r2 : ∀ w ∈ wsX7_rests_r2, w ∈ lw_tbl := (mc w_992 (mc w_42 (mc w_993 (mc w_855 (mc w_857 (mc w_29 (mc w_858 (mc w_817 (mc w_819 (mc w_23 (mc w_820 (mc w_671 (mc w_674 (mc w_821 (mc w_823 (mc w_24 (mc w_824 (mc w_675 (mc w_859 (mc w_861 (mc w_30 (mc w_862 (mc w_672 (mc w_676 mn))))))))))))))))))))))))
set_option maxRecDepth 100000 in
theorem mX7_rests_r3 : ∀ w ∈ wsX7_rests_r3, w ∈ lw_tbl := (mc w_677 (mc w_825 (mc w_827 (mc w_25 (mc w_828 (mc w_829 (mc w_831 (mc w_26 (mc w_832 (mc w_833 (mc w_834 (mc w_835 (mc w_836 (mc w_837 (mc w_838 (mc w_863 (mc w_865 (mc w_31 (mc w_866 (mc w_679 (mc w_867 (mc w_868 (mc w_869 (mc w_870 mn))))))))))))))))))))))))
set_option maxRecDepth 100000 in
theorem mX7_rests_r4 : ∀ w ∈ wsX7_rests_r4, w ∈ lw_tbl := (mc w_872 (mc w_32 (mc w_873 (mc w_678 (mc w_809 (mc w_811 (mc w_21 (mc w_812 mn))))))))
set_option maxRecDepth 100000 in
theorem mX7_rests : ∀ w ∈ wsX7_rests, w ∈ lw_tbl := (mc w_981 (ma (ma mX7_rests_r1 (ma mX7_rests_r2 (ma mX7_rests_r3 mX7_rests_r4))) inX7_law))
set_option maxRecDepth 100000 in
theorem gL_law_X7_rests : GoodIn lw_tbl (wsV RL 112 RX7 yX7_rests wsX7_rests) := goodIn_sub (ma (mc w_978 (mc w_979 (mc w_980 (mc w_51 mn)))) mX7_rests) (by decide +kernel)
set_option maxRecDepth 100000 in
theorem mX6_comes_r1 : ∀ w ∈ wsX6_comes_r1, w ∈ lw_tbl := (mc w_221 (mc w_409 (mc w_410 (mc w_411 (mc w_47 (mc w_412 (mc w_128 (mc w_257 (mc w_44 (mc w_258 (mc w_256 (mc w_631 (mc w_633 (mc w_14 (mc w_634 (mc w_223 (mc w_222 (mc w_522 (mc w_523 (mc w_524 (mc w_48 (mc w_525 (mc w_162 (mc w_163 mn))))))))))))))))))))))))
set_option maxRecDepth 100000 in
theorem mX6_comes_r2 : ∀ w ∈ wsX6_comes_r2, w ∈ lw_tbl := (mc w_165 (mc w_167 (mc w_169 (mc w_375 (mc w_376 (mc w_377 (mc w_429 (mc w_430 (mc w_431 (mc w_432 (mc w_161 (mc w_457 (mc w_458 (mc w_52 (mc w_459 (mc w_433 (mc w_383 (mc w_384 (mc w_385 (mc w_109 (mc w_107 (mc w_386 (mc w_387 (mc w_388 mn))))))))))))))))))))))))
set_option maxRecDepth 100000 in
theorem mX6_comes_r3 : ∀ w ∈ wsX6_comes_r3, w ∈ lw_tbl := (mc w_389 (mc w_125 (mc w_390 (mc w_391 (mc w_392 (mc w_393 (mc w_394 (mc w_52 (mc w_395 (mc w_345 (mc w_346 (mc w_396 (mc w_397 (mc w_398 (mc w_399 (mc w_122 (mc w_105 (mc w_400 (mc w_371 (mc w_372 (mc w_373 (mc w_403 (mc w_404 (mc w_434 mn))))))))))))))))))))))))
set_option maxRecDepth 100000 in
theorem mX6_comes_r4 : ∀ w ∈ wsX6_comes_r4, w ∈ lw_tbl := (mc w_435 (mc w_436 (mc w_437 (mc w_129 (mc w_438 (mc w_440 (mc w_9 (mc w_441 (mc w_112 (mc w_115 (mc w_442 (mc w_444 (mc w_10 (mc w_445 (mc w_120 (mc w_446 (mc w_447 (mc w_54 (mc w_448 (mc w_449 (mc w_450 (mc w_451 (mc w_452 (mc w_453 mn))))))))))))))))))))))))
set_option maxRecDepth 100000 in
theorem mX6_comes_r5 : ∀ w ∈ wsX6_comes_r5, w ∈ lw_tbl := (mc w_454 (mc w_455 (mc w_116 (mc w_487 (mc w_479 (mc w_480 (mc w_481 (mc w_477 (mc w_606 (mc w_607 (mc w_608 (mc w_612 (mc w_609 (mc w_610 (mc w_611 mn)))))))))))))))
set_option maxRecDepth 100000 in
theorem mX6_comes : ∀ w ∈ wsX6_comes, w ∈ lw_tbl := (mc w_630 (ma (ma (ma (ma mX6_comes_r1 (ma mX6_comes_r2 (ma mX6_comes_r3 (ma mX6_comes_r4 mX6_comes_r5)))) inX6_law) inX1_law) inX4_law))
set_option maxRecDepth 100000 in
theorem gL_law_X6_comes : GoodIn lw_tbl (wsV RL 113 RX6 yX6_comes wsX6_comes) := goodIn_sub (ma (mc w_627 (mc w_628 (mc w_629 (mc w_44 mn)))) mX6_comes) (by decide +kernel)
set_option maxRecDepth 100000 in
theorem mX7_comes_r1 : ∀ w ∈ wsX7_comes_r1, w ∈ lw_tbl := (mc w_998 (mc w_999 (mc w_680 (mc w_843 (mc w_845 (mc w_27 (mc w_51 (mc w_846 (mc w_672 (mc w_770 (mc w_771 (mc w_772 (mc w_919 (mc w_921 (mc w_36 (mc w_922 (mc w_833 (mc w_834 (mc w_835 (mc w_855 (mc w_857 (mc w_29 (mc w_858 (mc w_817 mn))))))))))))))))))))))))
set_option maxRecDepth 100000 in
theorem mX7_comes_r2 : ∀ w ∈ wsX7_comes_r2, w ∈ lw_tbl := (mc w_819 (mc w_23 (mc w_820 (mc w_671 (mc w_674 (mc w_821 (mc w_823 (mc w_24 (mc w_824 (mc w_675 (mc w_859 (mc w_861 (mc w_30 (mc w_862 (mc w_676 (mc w_677 (mc w_673 (mc w_825 (mc w_827 (mc w_25 (mc w_828 (mc w_670 (mc w_829 (mc w_831 mn))))))))))))))))))))))))
set_option maxRecDepth 100000 in
theorem mX7_comes_r3 : ∀ w ∈ wsX7_comes_r3, w ∈ lw_tbl := (mc w_26 (mc w_832 (mc w_836 (mc w_837 (mc w_838 (mc w_863 (mc w_865 (mc w_31 (mc w_866 (mc w_679 (mc w_867 (mc w_868 (mc w_869 (mc w_870 (mc w_872 (mc w_32 (mc w_873 (mc w_678 (mc w_975 (mc w_976 (mc w_977 mn)))))))))))))))))))))
set_option maxRecDepth 100000 in
theorem mX7_comes : ∀ w ∈ wsX7_comes, w ∈ lw_tbl := (mc w_997 (ma (ma mX7_comes_r1 (ma mX7_comes_r2 mX7_comes_r3)) inX7_law))
set_option maxRecDepth 100000 in
theorem gL_law_X7_comes : GoodIn lw_tbl (wsV RL 117 RX7 yX7_comes wsX7_comes) := goodIn_sub (ma (mc w_994 (mc w_995 (mc w_996 (mc w_51 mn)))) mX7_comes) (by decide +kernel)
set_option maxRecDepth 100000 in
theorem mX6_seed : ∀ w ∈ wsX6_seed, w ∈ lw_tbl := (mc w_638 (ma (mc w_228 mn) inX6_law))
set_option maxRecDepth 100000 in
theorem gL_law_X6_seed : GoodIn lw_tbl (wsV RL 118 RX6 yX6_seed wsX6_seed) := goodIn_sub (ma (mc w_635 (mc w_636 (mc w_637 (mc w_44 mn)))) mX6_seed) (by decide +kernel)
set_option maxRecDepth 100000 in
theorem mX7_seed : ∀ w ∈ wsX7_seed, w ∈ lw_tbl := (mc w_1003 (ma (mc w_698 mn) inX7_law))
set_option maxRecDepth 100000 in
theorem gL_law_X7_seed : GoodIn lw_tbl (wsV RL 122 RX7 yX7_seed wsX7_seed) := goodIn_sub (ma (mc w_1000 (mc w_1001 (mc w_1002 (mc w_51 mn)))) mX7_seed) (by decide +kernel)
set_option maxRecDepth 100000 in
theorem mX6_years_r1 : ∀ w ∈ wsX6_years_r1, w ∈ lw_tbl := (mc w_223 (mc w_222 (mc w_228 (mc w_643 (mc w_644 (mc w_645 (mc w_166 (mc w_256 (mc w_257 (mc w_44 (mc w_258 (mc w_522 (mc w_523 (mc w_524 (mc w_48 (mc w_525 (mc w_162 (mc w_163 (mc w_165 (mc w_167 (mc w_169 (mc w_646 (mc w_648 (mc w_15 mn))))))))))))))))))))))))
set_option maxRecDepth 100000 in
theorem mX6_years_r2 : ∀ w ∈ wsX6_years_r2, w ∈ lw_tbl := (mc w_649 (mc w_467 (mc w_397 (mc w_398 (mc w_399 (mc w_161 (mc w_122 (mc w_105 (mc w_400 (mc w_371 (mc w_372 (mc w_373 (mc w_376 (mc w_377 (mc w_403 (mc w_404 (mc w_345 (mc w_346 (mc w_468 (mc w_435 (mc w_436 (mc w_437 (mc w_129 (mc w_438 mn))))))))))))))))))))))))
set_option maxRecDepth 100000 in
theorem mX6_years_r3 : ∀ w ∈ wsX6_years_r3, w ∈ lw_tbl := (mc w_440 (mc w_9 (mc w_441 (mc w_112 (mc w_115 (mc w_442 (mc w_444 (mc w_10 (mc w_445 (mc w_120 (mc w_446 (mc w_447 (mc w_54 (mc w_448 (mc w_449 (mc w_450 (mc w_451 (mc w_558 (mc w_559 (mc w_560 (mc w_561 (mc w_562 (mc w_360 (mc w_361 mn))))))))))))))))))))))))
set_option maxRecDepth 100000 in
theorem mX6_years_r4 : ∀ w ∈ wsX6_years_r4, w ∈ lw_tbl := (mc w_47 (mc w_362 (mc w_121 (mc w_347 (mc w_348 (mc w_349 (mc w_350 (mc w_563 (mc w_564 (mc w_565 (mc w_566 (mc w_567 (mc w_474 (mc w_475 (mc w_476 (mc w_477 (mc w_410 (mc w_411 (mc w_412 (mc w_128 (mc w_478 (mc w_479 (mc w_480 (mc w_481 mn))))))))))))))))))))))))
set_option maxRecDepth 100000 in
theorem mX6_years_r5 : ∀ w ∈ wsX6_years_r5, w ∈ lw_tbl := (mc w_573 (mc w_574 (mc w_575 (mc w_576 (mc w_577 (mc w_502 (mc w_503 (mc w_504 (mc w_505 (mc w_356 (mc w_357 (mc w_358 (mc w_103 (mc w_359 (mc w_429 (mc w_430 (mc w_431 (mc w_432 (mc w_457 (mc w_458 (mc w_52 (mc w_459 (mc w_433 (mc w_383 mn))))))))))))))))))))))))
set_option maxRecDepth 100000 in
theorem mX6_years_r6 : ∀ w ∈ wsX6_years_r6, w ∈ lw_tbl := (mc w_384 (mc w_385 (mc w_109 (mc w_107 (mc w_386 (mc w_387 (mc w_388 (mc w_389 (mc w_125 (mc w_390 (mc w_391 (mc w_392 (mc w_393 (mc w_394 (mc w_52 (mc w_395 (mc w_396 (mc w_434 (mc w_452 (mc w_453 (mc w_454 (mc w_455 (mc w_116 (mc w_482 mn))))))))))))))))))))))))
set_option maxRecDepth 100000 in
theorem mX6_years : ∀ w ∈ wsX6_years, w ∈ lw_tbl := (mc w_642 (ma (ma (ma (ma mX6_years_r1 (ma mX6_years_r2 (ma mX6_years_r3 (ma mX6_years_r4 (ma mX6_years_r5 mX6_years_r6))))) inX6_law) inX4_law) inX1_law))
set_option maxRecDepth 100000 in
theorem gL_law_X6_years : GoodIn lw_tbl (wsV RL 123 RX6 yX6_years wsX6_years) := goodIn_sub (ma (mc w_639 (mc w_640 (mc w_641 (mc w_44 mn)))) mX6_years) (by decide +kernel)
set_option maxRecDepth 100000 in
theorem mX7_years_r1 : ∀ w ∈ wsX7_years_r1, w ∈ lw_tbl := (mc w_918 (mc w_698 (mc w_1008 (mc w_1009 (mc w_1010 (mc w_680 (mc w_770 (mc w_771 (mc w_51 (mc w_772 (mc w_919 (mc w_921 (mc w_36 (mc w_922 (mc w_855 (mc w_857 (mc w_29 (mc w_858 (mc w_817 (mc w_819 (mc w_23 (mc w_820 (mc w_671 (mc w_674 mn))))))))))))))))))))))))
set_option maxRecDepth 100000 in
theorem mX7_years_r2 : ∀ w ∈ wsX7_years_r2, w ∈ lw_tbl := (mc w_821 (mc w_823 (mc w_24 (mc w_824 (mc w_675 (mc w_859 (mc w_861 (mc w_30 (mc w_862 (mc w_672 (mc w_676 (mc w_677 (mc w_673 (mc w_825 (mc w_827 (mc w_25 (mc w_828 (mc w_670 (mc w_829 (mc w_831 (mc w_26 (mc w_832 (mc w_833 (mc w_834 mn))))))))))))))))))))))))
set_option maxRecDepth 100000 in
theorem mX7_years_r3 : ∀ w ∈ wsX7_years_r3, w ∈ lw_tbl := (mc w_835 (mc w_836 (mc w_837 (mc w_838 (mc w_863 (mc w_865 (mc w_31 (mc w_866 (mc w_679 (mc w_867 (mc w_868 (mc w_869 (mc w_870 (mc w_872 (mc w_32 (mc w_873 (mc w_678 (mc w_948 (mc w_950 (mc w_38 (mc w_951 (mc w_886 (mc w_888 (mc w_33 mn))))))))))))))))))))))))
set_option maxRecDepth 100000 in
theorem mX7_years_r4 : ∀ w ∈ wsX7_years_r4, w ∈ lw_tbl := (mc w_889 (mc w_843 (mc w_845 (mc w_27 (mc w_846 (mc w_894 (mc w_896 (mc w_34 (mc w_897 (mc w_805 (mc w_807 (mc w_20 (mc w_808 (mc w_878 (mc w_879 (mc w_880 (mc w_881 (mc w_906 (mc w_908 (mc w_35 (mc w_909 mn)))))))))))))))))))))
set_option maxRecDepth 100000 in
theorem mX7_years : ∀ w ∈ wsX7_years, w ∈ lw_tbl := (mc w_1007 (ma (ma mX7_years_r1 (ma mX7_years_r2 (ma mX7_years_r3 mX7_years_r4))) inX7_law))
set_option maxRecDepth 100000 in
theorem gL_law_X7_years : GoodIn lw_tbl (wsV RL 126 RX7 yX7_years wsX7_years) := goodIn_sub (ma (mc w_1004 (mc w_1005 (mc w_1006 (mc w_51 mn)))) mX7_years) (by decide +kernel)
set_option maxRecDepth 100000 in
theorem mX6_keep : ∀ w ∈ wsX6_keep, w ∈ lw_tbl := (mc w_653 (ma (ma (mc w_222 (mc w_226 (mc w_227 (mc w_170 (mc w_256 (mc w_257 (mc w_44 (mc w_258 (mc w_654 (mc w_425 (mc w_426 (mc w_48 (mc w_427 (mc w_162 (mc w_163 (mc w_165 (mc w_167 (mc w_169 (mc w_264 (mc w_265 mn)))))))))))))))))))) inX6_law) inX4_law))
set_option maxRecDepth 100000 in
theorem gL_law_X6_keep : GoodIn lw_tbl (wsV RL 127 RX6 yX6_keep wsX6_keep) := goodIn_sub (ma (mc w_650 (mc w_651 (mc w_652 (mc w_44 mn)))) mX6_keep) (by decide +kernel)
set_option maxRecDepth 100000 in
theorem mX7_keep : ∀ w ∈ wsX7_keep, w ∈ lw_tbl := (mc w_1014 (ma (mc w_699 (mc w_700 (mc w_680 (mc w_770 (mc w_771 (mc w_51 (mc w_772 mn))))))) inX7_law))
set_option maxRecDepth 100000 in
theorem gL_law_X7_keep : GoodIn lw_tbl (wsV RL 130 RX7 yX7_keep wsX7_keep) := goodIn_sub (ma (mc w_1011 (mc w_1012 (mc w_1013 (mc w_51 mn)))) mX7_keep) (by decide +kernel)
set_option maxRecDepth 100000 in
theorem mX6_again_r1 : ∀ w ∈ wsX6_again_r1, w ∈ lw_tbl := (mc w_227 (mc w_222 (mc w_226 (mc w_224 (mc w_192 (mc w_170 (mc w_256 (mc w_257 (mc w_44 (mc w_258 (mc w_375 (mc w_376 (mc w_377 (mc w_659 (mc w_515 (mc w_516 (mc w_48 (mc w_517 (mc w_162 (mc w_163 (mc w_165 (mc w_167 (mc w_169 (mc w_345 mn))))))))))))))))))))))))
set_option maxRecDepth 100000 in
theorem mX6_again_r2 : ∀ w ∈ wsX6_again_r2, w ∈ lw_tbl := (mc w_346 mn)
set_option maxRecDepth 100000 in
theorem mX6_again : ∀ w ∈ wsX6_again, w ∈ lw_tbl := (mc w_658 (ma (ma (ma (ma mX6_again_r1 mX6_again_r2) inX6_law) inX0_law) inX4_law))
set_option maxRecDepth 100000 in
theorem gL_law_X6_again : GoodIn lw_tbl (wsV RL 131 RX6 yX6_again wsX6_again) := goodIn_sub (ma (mc w_655 (mc w_656 (mc w_657 (mc w_44 mn)))) mX6_again) (by decide +kernel)
set_option maxRecDepth 100000 in
theorem mX7_again : ∀ w ∈ wsX7_again, w ∈ lw_tbl := (mc w_1018 (ma (mc w_699 (mc w_680 (mc w_700 (mc w_691 (mc w_770 (mc w_771 (mc w_51 (mc w_772 mn)))))))) inX7_law))
set_option maxRecDepth 100000 in
theorem gL_law_X7_again : GoodIn lw_tbl (wsV RL 134 RX7 yX7_again wsX7_again) := goodIn_sub (ma (mc w_1015 (mc w_1016 (mc w_1017 (mc w_51 mn)))) mX7_again) (by decide +kernel)
set_option maxRecDepth 100000 in
theorem mX6_count_r1 : ∀ w ∈ wsX6_count_r1, w ∈ lw_tbl := (mc w_218 (mc w_71 (mc w_221 (mc w_124 (mc w_127 (mc w_130 (mc w_222 (mc w_170 (mc w_166 (mc w_168 (mc w_164 (mc w_224 (mc w_192 (mc w_225 (mc w_208 (mc w_382 (mc w_383 (mc w_384 (mc w_48 (mc w_385 (mc w_161 (mc w_169 (mc w_109 (mc w_107 mn))))))))))))))))))))))))
set_option maxRecDepth 100000 in
theorem mX6_count_r2 : ∀ w ∈ wsX6_count_r2, w ∈ lw_tbl := (mc w_386 (mc w_387 (mc w_388 (mc w_47 (mc w_389 (mc w_125 (mc w_390 (mc w_391 (mc w_52 (mc w_392 (mc w_393 (mc w_394 (mc w_52 (mc w_395 (mc w_345 (mc w_44 (mc w_346 (mc w_396 (mc w_397 (mc w_398 (mc w_399 (mc w_122 (mc w_163 (mc w_105 mn))))))))))))))))))))))))
set_option maxRecDepth 100000 in
theorem mX6_count_r3 : ∀ w ∈ wsX6_count_r3, w ∈ lw_tbl := (mc w_400 (mc w_371 (mc w_372 (mc w_373 (mc w_162 (mc w_376 (mc w_377 (mc w_403 (mc w_404 mn)))))))))
set_option maxRecDepth 100000 in
theorem mX6_count : ∀ w ∈ wsX6_count, w ∈ lw_tbl := (mc w_663 (ma (ma (ma (ma (ma (ma (ma mX6_count_r1 (ma mX6_count_r2 mX6_count_r3)) inX6_law) inX5_law) inX1_law) inX4_law) inX0_law) inX2_law))
set_option maxRecDepth 100000 in
theorem gL_law_X6_count : GoodIn lw_tbl (wsV RL 135 RX6 yX6_count wsX6_count) := goodIn_sub (ma (mc w_660 (mc w_661 (mc w_662 (mc w_44 mn)))) mX6_count) (by decide +kernel)
set_option maxRecDepth 100000 in
theorem mX7_count_r1 : ∀ w ∈ wsX7_count_r1, w ∈ lw_tbl := (mc w_688 (mc w_670 (mc w_671 (mc w_672 (mc w_680 (mc w_691 (mc w_694 (mc w_813 (mc w_815 (mc w_22 (mc w_51 (mc w_816 (mc w_817 (mc w_819 (mc w_23 (mc w_820 (mc w_674 (mc w_821 (mc w_823 (mc w_24 (mc w_824 (mc w_675 (mc w_825 (mc w_827 mn))))))))))))))))))))))))
set_option maxRecDepth 100000 in
theorem mX7_count_r2 : ∀ w ∈ wsX7_count_r2, w ∈ lw_tbl := (mc w_25 (mc w_828 (mc w_829 (mc w_831 (mc w_26 (mc w_832 (mc w_673 (mc w_833 (mc w_834 (mc w_835 (mc w_836 (mc w_837 (mc w_838 mn)))))))))))))
set_option maxRecDepth 100000 in
theorem mX7_count : ∀ w ∈ wsX7_count, w ∈ lw_tbl := (mc w_1022 (ma (ma mX7_count_r1 mX7_count_r2) inX7_law))
set_option maxRecDepth 100000 in
theorem gL_law_X7_count : GoodIn lw_tbl (wsV RL 138 RX7 yX7_count wsX7_count) := goodIn_sub (ma (mc w_1019 (mc w_1020 (mc w_1021 (mc w_51 mn)))) mX7_count) (by decide +kernel)
set_option maxRecDepth 100000 in
theorem mX6_init_r1 : ∀ w ∈ wsX6_init_r1, w ∈ lw_tbl := (mc w_60 (mc w_61 (mc w_62 (mc w_63 (mc w_64 (mc w_45 (mc w_218 (mc w_79 (mc w_80 (mc w_46 (mc w_219 (mc w_95 (mc w_96 (mc w_47 (mc w_220 (mc w_221 (mc w_155 (mc w_156 (mc w_48 (mc w_222 (mc w_223 (mc w_184 (mc w_185 (mc w_49 mn))))))))))))))))))))))))
set_option maxRecDepth 100000 in
theorem mX6_init_r2 : ∀ w ∈ wsX6_init_r2, w ∈ lw_tbl := (mc w_224 (mc w_198 (mc w_199 (mc w_50 (mc w_225 (mc w_78 (mc w_226 (mc w_227 (mc w_228 (mc w_65 (mc w_66 (mc w_67 (mc w_68 (mc w_69 (mc w_70 (mc w_81 (mc w_82 (mc w_83 (mc w_84 (mc w_85 (mc w_86 (mc w_87 (mc w_97 (mc w_98 mn))))))))))))))))))))))))
set_option maxRecDepth 100000 in
theorem mX6_init_r3 : ∀ w ∈ wsX6_init_r3, w ∈ lw_tbl := (mc w_99 (mc w_100 (mc w_101 (mc w_103 (mc w_106 (mc w_108 (mc w_110 (mc w_113 (mc w_116 (mc w_118 (mc w_121 (mc w_125 (mc w_128 (mc w_157 (mc w_158 (mc w_159 (mc w_160 (mc w_161 (mc w_162 (mc w_163 (mc w_165 (mc w_167 (mc w_169 (mc w_186 mn))))))))))))))))))))))))
set_option maxRecDepth 100000 in
theorem mX6_init_r4 : ∀ w ∈ wsX6_init_r4, w ∈ lw_tbl := (mc w_187 (mc w_188 (mc w_189 (mc w_190 (mc w_191 (mc w_200 (mc w_201 (mc w_202 (mc w_203 (mc w_204 (mc w_205 (mc w_206 (mc w_207 mn)))))))))))))
set_option maxRecDepth 100000 in
theorem mX6_init : ∀ w ∈ wsX6_init, w ∈ lw_tbl := (mc w_59 (ma (ma (ma (ma (ma (ma (ma (ma mX6_init_r1 (ma mX6_init_r2 (ma mX6_init_r3 mX6_init_r4))) inX5_law) inX6_law) inX3_law) inX1_law) inX4_law) inX0_law) inX2_law))
set_option maxRecDepth 100000 in
theorem gL_law_X6_init : GoodIn lw_tbl wsX6_init := goodIn_sub mX6_init (by decide +kernel)
set_option maxRecDepth 100000 in
theorem mX7_init : ∀ w ∈ wsX7_init, w ∈ lw_tbl := (mc w_668 (ma (mc w_669 (mc w_61 (mc w_62 (mc w_78 (mc w_673 (mc w_674 (mc w_675 (mc w_676 (mc w_677 (mc w_678 (mc w_679 (mc w_680 (mc w_681 (mc w_682 (mc w_683 (mc w_687 (mc w_693 (mc w_695 (mc w_696 (mc w_697 (mc w_764 (mc w_699 (mc w_700 mn))))))))))))))))))))))) inX7_law))
set_option maxRecDepth 100000 in
theorem gL_law_X7_init : GoodIn lw_tbl wsX7_init := goodIn_sub mX7_init (by decide +kernel)
