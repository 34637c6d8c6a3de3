set_option maxRecDepth 100000 in
theorem mw_389 : Cond.initialized "RoundedNumbersLaw" ∈ ct_T := ct_in (List.mem_of_getElem? (i := 0) (by decide +kernel)) rfl
set_option maxRecDepth 100000 in
theorem mw_390 : Cond.code ⟨"RoundedNumbers", "setPrec", "(II)Z"⟩ prog_1_method_2_code 3 (some .boolean) ∈ ct_T := ct_in (List.mem_of_getElem? (i := 104) rfl) rfl
set_option maxRecDepth 100000 in
theorem mw_391 : Cond.methodLink "RoundedNumbersLaw" 21 ⟨"RoundedNumbers", "setPrec", "(II)Z"⟩ ∈ ct_T := ct_in (List.mem_of_getElem? (i := 101) (by decide +kernel)) rfl
set_option maxRecDepth 100000 in
theorem mw_392 : Cond.instanceMethod ⟨"RoundedNumbers", "setPrec", "(II)Z"⟩ ∈ ct_T := ct_in (List.mem_of_getElem? (i := 102) (by decide +kernel)) rfl
set_option maxRecDepth 100000 in
theorem mw_393 : Cond.selects "RoundedNumbers" ⟨"RoundedNumbers", "setPrec", "(II)Z"⟩ ⟨"RoundedNumbers", "setPrec", "(II)Z"⟩ ∈ ct_T := ct_in (List.mem_of_getElem? (i := 103) (by decide +kernel)) rfl
set_option maxRecDepth 100000 in
theorem mw_394 : Cond.code ⟨"RoundedNumbersModel", "setPrec", "(II)Z"⟩ prog_6_method_4_code 3 (some .boolean) ∈ ct_T := ct_in (List.mem_of_getElem? (i := 409) rfl) rfl
set_option maxRecDepth 100000 in
theorem mw_395 : Cond.methodLink "RoundedNumbersLaw" 25 ⟨"RoundedNumbersModel", "setPrec", "(II)Z"⟩ ∈ ct_T := ct_in (List.mem_of_getElem? (i := 406) (by decide +kernel)) rfl
set_option maxRecDepth 100000 in
theorem mw_396 : Cond.instanceMethod ⟨"RoundedNumbersModel", "setPrec", "(II)Z"⟩ ∈ ct_T := ct_in (List.mem_of_getElem? (i := 407) (by decide +kernel)) rfl
set_option maxRecDepth 100000 in
theorem mw_397 : Cond.selects "RoundedNumbersModel" ⟨"RoundedNumbersModel", "setPrec", "(II)Z"⟩ ⟨"RoundedNumbersModel", "setPrec", "(II)Z"⟩ ∈ ct_T := ct_in (List.mem_of_getElem? (i := 408) (by decide +kernel)) rfl
set_option maxRecDepth 100000 in
theorem mw_398 : Cond.code ⟨"RoundedNumbers", "loadInt", "(III)I"⟩ prog_1_method_3_code 4 (some .int) ∈ ct_T := ct_in (List.mem_of_getElem? (i := 115) rfl) rfl
set_option maxRecDepth 100000 in
theorem mw_399 : Cond.methodLink "RoundedNumbersLaw" 26 ⟨"RoundedNumbers", "loadInt", "(III)I"⟩ ∈ ct_T := ct_in (List.mem_of_getElem? (i := 112) (by decide +kernel)) rfl
set_option maxRecDepth 100000 in
theorem mw_400 : Cond.instanceMethod ⟨"RoundedNumbers", "loadInt", "(III)I"⟩ ∈ ct_T := ct_in (List.mem_of_getElem? (i := 113) (by decide +kernel)) rfl
set_option maxRecDepth 100000 in
theorem mw_401 : Cond.selects "RoundedNumbers" ⟨"RoundedNumbers", "loadInt", "(III)I"⟩ ⟨"RoundedNumbers", "loadInt", "(III)I"⟩ ∈ ct_T := ct_in (List.mem_of_getElem? (i := 114) (by decide +kernel)) rfl
set_option maxRecDepth 100000 in
theorem mw_402 : Cond.code ⟨"RoundedNumbersModel", "loadInt", "(III)I"⟩ prog_6_method_18_code 4 (some .int) ∈ ct_T := ct_in (List.mem_of_getElem? (i := 416) rfl) rfl
set_option maxRecDepth 100000 in
theorem mw_403 : Cond.methodLink "RoundedNumbersLaw" 30 ⟨"RoundedNumbersModel", "loadInt", "(III)I"⟩ ∈ ct_T := ct_in (List.mem_of_getElem? (i := 413) (by decide +kernel)) rfl
set_option maxRecDepth 100000 in
theorem mw_404 : Cond.instanceMethod ⟨"RoundedNumbersModel", "loadInt", "(III)I"⟩ ∈ ct_T := ct_in (List.mem_of_getElem? (i := 414) (by decide +kernel)) rfl
set_option maxRecDepth 100000 in
theorem mw_405 : Cond.selects "RoundedNumbersModel" ⟨"RoundedNumbersModel", "loadInt", "(III)I"⟩ ⟨"RoundedNumbersModel", "loadInt", "(III)I"⟩ ∈ ct_T := ct_in (List.mem_of_getElem? (i := 415) (by decide +kernel)) rfl
set_option maxRecDepth 100000 in
theorem mw_406 : Cond.constantLong "RoundedNumbersLaw" 31 4294967295 ∈ ct_T := ct_in (List.mem_of_getElem? (i := 593) (by decide +kernel)) rfl
set_option maxRecDepth 100000 in
theorem mw_407 : Cond.code ⟨"RoundedNumbers", "loadScaled", "(IJII)I"⟩ prog_1_method_4_code 6 (some .int) ∈ ct_T := ct_in (List.mem_of_getElem? (i := 216) rfl) rfl
set_option maxRecDepth 100000 in
theorem mw_408 : Cond.methodLink "RoundedNumbersLaw" 33 ⟨"RoundedNumbers", "loadScaled", "(IJII)I"⟩ ∈ ct_T := ct_in (List.mem_of_getElem? (i := 213) (by decide +kernel)) rfl
set_option maxRecDepth 100000 in
theorem mw_409 : Cond.instanceMethod ⟨"RoundedNumbers", "loadScaled", "(IJII)I"⟩ ∈ ct_T := ct_in (List.mem_of_getElem? (i := 214) (by decide +kernel)) rfl
set_option maxRecDepth 100000 in
theorem mw_410 : Cond.selects "RoundedNumbers" ⟨"RoundedNumbers", "loadScaled", "(IJII)I"⟩ ⟨"RoundedNumbers", "loadScaled", "(IJII)I"⟩ ∈ ct_T := ct_in (List.mem_of_getElem? (i := 215) (by decide +kernel)) rfl
set_option maxRecDepth 100000 in
theorem mw_411 : Cond.methodLink "RoundedNumbersLaw" 37 ⟨"RoundedNumbersModel", "loadScaled", "(IJII)I"⟩ ∈ ct_T := ct_in (List.mem_of_getElem? (i := 459) (by decide +kernel)) rfl
set_option maxRecDepth 100000 in
theorem mw_412 : Cond.code ⟨"RoundedNumbers", "copy", "(III)I"⟩ prog_1_method_5_code 4 (some .int) ∈ ct_T := ct_in (List.mem_of_getElem? (i := 220) rfl) rfl
set_option maxRecDepth 100000 in
theorem mw_413 : Cond.methodLink "RoundedNumbersLaw" 38 ⟨"RoundedNumbers", "copy", "(III)I"⟩ ∈ ct_T := ct_in (List.mem_of_getElem? (i := 217) (by decide +kernel)) rfl
set_option maxRecDepth 100000 in
theorem mw_414 : Cond.instanceMethod ⟨"RoundedNumbers", "copy", "(III)I"⟩ ∈ ct_T := ct_in (List.mem_of_getElem? (i := 218) (by decide +kernel)) rfl
set_option maxRecDepth 100000 in
theorem mw_415 : Cond.selects "RoundedNumbers" ⟨"RoundedNumbers", "copy", "(III)I"⟩ ⟨"RoundedNumbers", "copy", "(III)I"⟩ ∈ ct_T := ct_in (List.mem_of_getElem? (i := 219) (by decide +kernel)) rfl
set_option maxRecDepth 100000 in
theorem mw_416 : Cond.code ⟨"RoundedNumbersModel", "copy", "(III)I"⟩ prog_6_method_21_code 4 (some .int) ∈ ct_T := ct_in (List.mem_of_getElem? (i := 463) rfl) rfl
set_option maxRecDepth 100000 in
theorem mw_417 : Cond.methodLink "RoundedNumbersLaw" 41 ⟨"RoundedNumbersModel", "copy", "(III)I"⟩ ∈ ct_T := ct_in (List.mem_of_getElem? (i := 460) (by decide +kernel)) rfl
set_option maxRecDepth 100000 in
theorem mw_418 : Cond.instanceMethod ⟨"RoundedNumbersModel", "copy", "(III)I"⟩ ∈ ct_T := ct_in (List.mem_of_getElem? (i := 461) (by decide +kernel)) rfl
set_option maxRecDepth 100000 in
theorem mw_419 : Cond.selects "RoundedNumbersModel" ⟨"RoundedNumbersModel", "copy", "(III)I"⟩ ⟨"RoundedNumbersModel", "copy", "(III)I"⟩ ∈ ct_T := ct_in (List.mem_of_getElem? (i := 462) (by decide +kernel)) rfl
set_option maxRecDepth 100000 in
theorem mw_420 : Cond.code ⟨"RoundedNumbers", "negate", "(III)I"⟩ prog_1_method_6_code 4 (some .int) ∈ ct_T := ct_in (List.mem_of_getElem? (i := 224) rfl) rfl
set_option maxRecDepth 100000 in
theorem mw_421 : Cond.methodLink "RoundedNumbersLaw" 42 ⟨"RoundedNumbers", "negate", "(III)I"⟩ ∈ ct_T := ct_in (List.mem_of_getElem? (i := 221) (by decide +kernel)) rfl
set_option maxRecDepth 100000 in
theorem mw_422 : Cond.instanceMethod ⟨"RoundedNumbers", "negate", "(III)I"⟩ ∈ ct_T := ct_in (List.mem_of_getElem? (i := 222) (by decide +kernel)) rfl
set_option maxRecDepth 100000 in
theorem mw_423 : Cond.selects "RoundedNumbers" ⟨"RoundedNumbers", "negate", "(III)I"⟩ ⟨"RoundedNumbers", "negate", "(III)I"⟩ ∈ ct_T := ct_in (List.mem_of_getElem? (i := 223) (by decide +kernel)) rfl
set_option maxRecDepth 100000 in
theorem mw_424 : Cond.code ⟨"RoundedNumbersModel", "negate", "(III)I"⟩ prog_6_method_22_code 4 (some .int) ∈ ct_T := ct_in (List.mem_of_getElem? (i := 475) rfl) rfl
set_option maxRecDepth 100000 in
theorem mw_425 : Cond.methodLink "RoundedNumbersLaw" 45 ⟨"RoundedNumbersModel", "negate", "(III)I"⟩ ∈ ct_T := ct_in (List.mem_of_getElem? (i := 472) (by decide +kernel)) rfl
set_option maxRecDepth 100000 in
theorem mw_426 : Cond.instanceMethod ⟨"RoundedNumbersModel", "negate", "(III)I"⟩ ∈ ct_T := ct_in (List.mem_of_getElem? (i := 473) (by decide +kernel)) rfl
set_option maxRecDepth 100000 in
theorem mw_427 : Cond.selects "RoundedNumbersModel" ⟨"RoundedNumbersModel", "negate", "(III)I"⟩ ⟨"RoundedNumbersModel", "negate", "(III)I"⟩ ∈ ct_T := ct_in (List.mem_of_getElem? (i := 474) (by decide +kernel)) rfl
set_option maxRecDepth 100000 in
theorem mw_428 : Cond.code ⟨"RoundedNumbers", "add", "(IIII)I"⟩ prog_1_method_7_code 5 (some .int) ∈ ct_T := ct_in (List.mem_of_getElem? (i := 228) rfl) rfl
set_option maxRecDepth 100000 in
theorem mw_429 : Cond.methodLink "RoundedNumbersLaw" 46 ⟨"RoundedNumbers", "add", "(IIII)I"⟩ ∈ ct_T := ct_in (List.mem_of_getElem? (i := 225) (by decide +kernel)) rfl
set_option maxRecDepth 100000 in
theorem mw_430 : Cond.instanceMethod ⟨"RoundedNumbers", "add", "(IIII)I"⟩ ∈ ct_T := ct_in (List.mem_of_getElem? (i := 226) (by decide +kernel)) rfl
set_option maxRecDepth 100000 in
theorem mw_431 : Cond.selects "RoundedNumbers" ⟨"RoundedNumbers", "add", "(IIII)I"⟩ ⟨"RoundedNumbers", "add", "(IIII)I"⟩ ∈ ct_T := ct_in (List.mem_of_getElem? (i := 227) (by decide +kernel)) rfl
set_option maxRecDepth 100000 in
theorem mw_432 : Cond.code ⟨"RoundedNumbersModel", "add", "(IIII)I"⟩ prog_6_method_25_code 5 (some .int) ∈ ct_T := ct_in (List.mem_of_getElem? (i := 479) rfl) rfl
set_option maxRecDepth 100000 in
theorem mw_433 : Cond.methodLink "RoundedNumbersLaw" 50 ⟨"RoundedNumbersModel", "add", "(IIII)I"⟩ ∈ ct_T := ct_in (List.mem_of_getElem? (i := 476) (by decide +kernel)) rfl
set_option maxRecDepth 100000 in
theorem mw_434 : Cond.instanceMethod ⟨"RoundedNumbersModel", "add", "(IIII)I"⟩ ∈ ct_T := ct_in (List.mem_of_getElem? (i := 477) (by decide +kernel)) rfl
set_option maxRecDepth 100000 in
theorem mw_435 : Cond.selects "RoundedNumbersModel" ⟨"RoundedNumbersModel", "add", "(IIII)I"⟩ ⟨"RoundedNumbersModel", "add", "(IIII)I"⟩ ∈ ct_T := ct_in (List.mem_of_getElem? (i := 478) (by decide +kernel)) rfl
set_option maxRecDepth 100000 in
theorem mw_436 : Cond.code ⟨"RoundedNumbers", "sub", "(IIII)I"⟩ prog_1_method_8_code 5 (some .int) ∈ ct_T := ct_in (List.mem_of_getElem? (i := 247) rfl) rfl
set_option maxRecDepth 100000 in
theorem mw_437 : Cond.methodLink "RoundedNumbersLaw" 51 ⟨"RoundedNumbers", "sub", "(IIII)I"⟩ ∈ ct_T := ct_in (List.mem_of_getElem? (i := 244) (by decide +kernel)) rfl
set_option maxRecDepth 100000 in
theorem mw_438 : Cond.instanceMethod ⟨"RoundedNumbers", "sub", "(IIII)I"⟩ ∈ ct_T := ct_in (List.mem_of_getElem? (i := 245) (by decide +kernel)) rfl
set_option maxRecDepth 100000 in
theorem mw_439 : Cond.selects "RoundedNumbers" ⟨"RoundedNumbers", "sub", "(IIII)I"⟩ ⟨"RoundedNumbers", "sub", "(IIII)I"⟩ ∈ ct_T := ct_in (List.mem_of_getElem? (i := 246) (by decide +kernel)) rfl
set_option maxRecDepth 100000 in
theorem mw_440 : Cond.code ⟨"RoundedNumbersModel", "sub", "(IIII)I"⟩ prog_6_method_26_code 5 (some .int) ∈ ct_T := ct_in (List.mem_of_getElem? (i := 499) rfl) rfl
set_option maxRecDepth 100000 in
theorem mw_441 : Cond.methodLink "RoundedNumbersLaw" 54 ⟨"RoundedNumbersModel", "sub", "(IIII)I"⟩ ∈ ct_T := ct_in (List.mem_of_getElem? (i := 496) (by decide +kernel)) rfl
set_option maxRecDepth 100000 in
theorem mw_442 : Cond.instanceMethod ⟨"RoundedNumbersModel", "sub", "(IIII)I"⟩ ∈ ct_T := ct_in (List.mem_of_getElem? (i := 497) (by decide +kernel)) rfl
set_option maxRecDepth 100000 in
theorem mw_443 : Cond.selects "RoundedNumbersModel" ⟨"RoundedNumbersModel", "sub", "(IIII)I"⟩ ⟨"RoundedNumbersModel", "sub", "(IIII)I"⟩ ∈ ct_T := ct_in (List.mem_of_getElem? (i := 498) (by decide +kernel)) rfl
set_option maxRecDepth 100000 in
theorem mw_444 : Cond.code ⟨"RoundedNumbers", "mul", "(IIII)I"⟩ prog_1_method_9_code 5 (some .int) ∈ ct_T := ct_in (List.mem_of_getElem? (i := 251) rfl) rfl
set_option maxRecDepth 100000 in
theorem mw_445 : Cond.methodLink "RoundedNumbersLaw" 55 ⟨"RoundedNumbers", "mul", "(IIII)I"⟩ ∈ ct_T := ct_in (List.mem_of_getElem? (i := 248) (by decide +kernel)) rfl
set_option maxRecDepth 100000 in
theorem mw_446 : Cond.instanceMethod ⟨"RoundedNumbers", "mul", "(IIII)I"⟩ ∈ ct_T := ct_in (List.mem_of_getElem? (i := 249) (by decide +kernel)) rfl
set_option maxRecDepth 100000 in
theorem mw_447 : Cond.selects "RoundedNumbers" ⟨"RoundedNumbers", "mul", "(IIII)I"⟩ ⟨"RoundedNumbers", "mul", "(IIII)I"⟩ ∈ ct_T := ct_in (List.mem_of_getElem? (i := 250) (by decide +kernel)) rfl
set_option maxRecDepth 100000 in
theorem mw_448 : Cond.code ⟨"RoundedNumbersModel", "mul", "(IIII)I"⟩ prog_6_method_28_code 7 (some .int) ∈ ct_T := ct_in (List.mem_of_getElem? (i := 503) rfl) rfl
set_option maxRecDepth 100000 in
theorem mw_449 : Cond.methodLink "RoundedNumbersLaw" 58 ⟨"RoundedNumbersModel", "mul", "(IIII)I"⟩ ∈ ct_T := ct_in (List.mem_of_getElem? (i := 500) (by decide +kernel)) rfl
set_option maxRecDepth 100000 in
theorem mw_450 : Cond.instanceMethod ⟨"RoundedNumbersModel", "mul", "(IIII)I"⟩ ∈ ct_T := ct_in (List.mem_of_getElem? (i := 501) (by decide +kernel)) rfl
set_option maxRecDepth 100000 in
theorem mw_451 : Cond.selects "RoundedNumbersModel" ⟨"RoundedNumbersModel", "mul", "(IIII)I"⟩ ⟨"RoundedNumbersModel", "mul", "(IIII)I"⟩ ∈ ct_T := ct_in (List.mem_of_getElem? (i := 502) (by decide +kernel)) rfl
set_option maxRecDepth 100000 in
theorem mw_452 : Cond.code ⟨"RoundedNumbers", "div", "(IIII)I"⟩ prog_1_method_10_code 9 (some .int) ∈ ct_T := ct_in (List.mem_of_getElem? (i := 263) rfl) rfl
set_option maxRecDepth 100000 in
theorem mw_453 : Cond.methodLink "RoundedNumbersLaw" 59 ⟨"RoundedNumbers", "div", "(IIII)I"⟩ ∈ ct_T := ct_in (List.mem_of_getElem? (i := 260) (by decide +kernel)) rfl
set_option maxRecDepth 100000 in
theorem mw_454 : Cond.instanceMethod ⟨"RoundedNumbers", "div", "(IIII)I"⟩ ∈ ct_T := ct_in (List.mem_of_getElem? (i := 261) (by decide +kernel)) rfl
set_option maxRecDepth 100000 in
theorem mw_455 : Cond.selects "RoundedNumbers" ⟨"RoundedNumbers", "div", "(IIII)I"⟩ ⟨"RoundedNumbers", "div", "(IIII)I"⟩ ∈ ct_T := ct_in (List.mem_of_getElem? (i := 262) (by decide +kernel)) rfl
set_option maxRecDepth 100000 in
theorem mw_456 : Cond.code ⟨"RoundedNumbersModel", "div", "(IIII)I"⟩ prog_6_method_36_code 8 (some .int) ∈ ct_T := ct_in (List.mem_of_getElem? (i := 519) rfl) rfl
set_option maxRecDepth 100000 in
theorem mw_457 : Cond.methodLink "RoundedNumbersLaw" 62 ⟨"RoundedNumbersModel", "div", "(IIII)I"⟩ ∈ ct_T := ct_in (List.mem_of_getElem? (i := 516) (by decide +kernel)) rfl
set_option maxRecDepth 100000 in
theorem mw_458 : Cond.instanceMethod ⟨"RoundedNumbersModel", "div", "(IIII)I"⟩ ∈ ct_T := ct_in (List.mem_of_getElem? (i := 517) (by decide +kernel)) rfl
set_option maxRecDepth 100000 in
theorem mw_459 : Cond.selects "RoundedNumbersModel" ⟨"RoundedNumbersModel", "div", "(IIII)I"⟩ ⟨"RoundedNumbersModel", "div", "(IIII)I"⟩ ∈ ct_T := ct_in (List.mem_of_getElem? (i := 518) (by decide +kernel)) rfl
set_option maxRecDepth 100000 in
theorem mw_460 : Cond.code ⟨"RoundedNumbers", "sqrt", "(III)I"⟩ prog_1_method_11_code 5 (some .int) ∈ ct_T := ct_in (List.mem_of_getElem? (i := 304) rfl) rfl
set_option maxRecDepth 100000 in
theorem mw_461 : Cond.methodLink "RoundedNumbersLaw" 63 ⟨"RoundedNumbers", "sqrt", "(III)I"⟩ ∈ ct_T := ct_in (List.mem_of_getElem? (i := 301) (by decide +kernel)) rfl
set_option maxRecDepth 100000 in
theorem mw_462 : Cond.instanceMethod ⟨"RoundedNumbers", "sqrt", "(III)I"⟩ ∈ ct_T := ct_in (List.mem_of_getElem? (i := 302) (by decide +kernel)) rfl
set_option maxRecDepth 100000 in
theorem mw_463 : Cond.selects "RoundedNumbers" ⟨"RoundedNumbers", "sqrt", "(III)I"⟩ ⟨"RoundedNumbers", "sqrt", "(III)I"⟩ ∈ ct_T := ct_in (List.mem_of_getElem? (i := 303) (by decide +kernel)) rfl
set_option maxRecDepth 100000 in
theorem mw_464 : Cond.code ⟨"RoundedNumbersModel", "sqrt", "(III)I"⟩ prog_6_method_40_code 4 (some .int) ∈ ct_T := ct_in (List.mem_of_getElem? (i := 547) rfl) rfl
set_option maxRecDepth 100000 in
theorem mw_465 : Cond.methodLink "RoundedNumbersLaw" 66 ⟨"RoundedNumbersModel", "sqrt", "(III)I"⟩ ∈ ct_T := ct_in (List.mem_of_getElem? (i := 544) (by decide +kernel)) rfl
set_option maxRecDepth 100000 in
theorem mw_466 : Cond.instanceMethod ⟨"RoundedNumbersModel", "sqrt", "(III)I"⟩ ∈ ct_T := ct_in (List.mem_of_getElem? (i := 545) (by decide +kernel)) rfl
set_option maxRecDepth 100000 in
theorem mw_467 : Cond.selects "RoundedNumbersModel" ⟨"RoundedNumbersModel", "sqrt", "(III)I"⟩ ⟨"RoundedNumbersModel", "sqrt", "(III)I"⟩ ∈ ct_T := ct_in (List.mem_of_getElem? (i := 546) (by decide +kernel)) rfl
set_option maxRecDepth 100000 in
theorem mw_468 : Cond.code ⟨"RoundedNumbers", "fma", "(IIIII)I"⟩ prog_1_method_12_code 6 (some .int) ∈ ct_T := ct_in (List.mem_of_getElem? (i := 324) rfl) rfl
set_option maxRecDepth 100000 in
theorem mw_469 : Cond.methodLink "RoundedNumbersLaw" 67 ⟨"RoundedNumbers", "fma", "(IIIII)I"⟩ ∈ ct_T := ct_in (List.mem_of_getElem? (i := 321) (by decide +kernel)) rfl
set_option maxRecDepth 100000 in
theorem mw_470 : Cond.instanceMethod ⟨"RoundedNumbers", "fma", "(IIIII)I"⟩ ∈ ct_T := ct_in (List.mem_of_getElem? (i := 322) (by decide +kernel)) rfl
set_option maxRecDepth 100000 in
theorem mw_471 : Cond.selects "RoundedNumbers" ⟨"RoundedNumbers", "fma", "(IIIII)I"⟩ ⟨"RoundedNumbers", "fma", "(IIIII)I"⟩ ∈ ct_T := ct_in (List.mem_of_getElem? (i := 323) (by decide +kernel)) rfl
set_option maxRecDepth 100000 in
theorem mw_472 : Cond.code ⟨"RoundedNumbersModel", "fma", "(IIIII)I"⟩ prog_6_method_29_code 9 (some .int) ∈ ct_T := ct_in (List.mem_of_getElem? (i := 515) rfl) rfl
set_option maxRecDepth 100000 in
theorem mw_473 : Cond.methodLink "RoundedNumbersLaw" 71 ⟨"RoundedNumbersModel", "fma", "(IIIII)I"⟩ ∈ ct_T := ct_in (List.mem_of_getElem? (i := 512) (by decide +kernel)) rfl
set_option maxRecDepth 100000 in
theorem mw_474 : Cond.instanceMethod ⟨"RoundedNumbersModel", "fma", "(IIIII)I"⟩ ∈ ct_T := ct_in (List.mem_of_getElem? (i := 513) (by decide +kernel)) rfl
set_option maxRecDepth 100000 in
theorem mw_475 : Cond.selects "RoundedNumbersModel" ⟨"RoundedNumbersModel", "fma", "(IIIII)I"⟩ ⟨"RoundedNumbersModel", "fma", "(IIIII)I"⟩ ∈ ct_T := ct_in (List.mem_of_getElem? (i := 514) (by decide +kernel)) rfl
set_option maxRecDepth 100000 in
theorem mw_476 : Cond.code ⟨"RoundedNumbers", "cmp", "(II)I"⟩ prog_1_method_13_code 5 (some .int) ∈ ct_T := ct_in (List.mem_of_getElem? (i := 328) rfl) rfl
set_option maxRecDepth 100000 in
theorem mw_477 : Cond.methodLink "RoundedNumbersLaw" 72 ⟨"RoundedNumbers", "cmp", "(II)I"⟩ ∈ ct_T := ct_in (List.mem_of_getElem? (i := 325) (by decide +kernel)) rfl
set_option maxRecDepth 100000 in
theorem mw_478 : Cond.instanceMethod ⟨"RoundedNumbers", "cmp", "(II)I"⟩ ∈ ct_T := ct_in (List.mem_of_getElem? (i := 326) (by decide +kernel)) rfl
set_option maxRecDepth 100000 in
theorem mw_479 : Cond.selects "RoundedNumbers" ⟨"RoundedNumbers", "cmp", "(II)I"⟩ ⟨"RoundedNumbers", "cmp", "(II)I"⟩ ∈ ct_T := ct_in (List.mem_of_getElem? (i := 327) (by decide +kernel)) rfl
set_option maxRecDepth 100000 in
theorem mw_480 : Cond.code ⟨"RoundedNumbersModel", "cmp", "(II)I"⟩ prog_6_method_42_code 5 (some .int) ∈ ct_T := ct_in (List.mem_of_getElem? (i := 563) rfl) rfl
set_option maxRecDepth 100000 in
theorem mw_481 : Cond.methodLink "RoundedNumbersLaw" 76 ⟨"RoundedNumbersModel", "cmp", "(II)I"⟩ ∈ ct_T := ct_in (List.mem_of_getElem? (i := 560) (by decide +kernel)) rfl
set_option maxRecDepth 100000 in
theorem mw_482 : Cond.instanceMethod ⟨"RoundedNumbersModel", "cmp", "(II)I"⟩ ∈ ct_T := ct_in (List.mem_of_getElem? (i := 561) (by decide +kernel)) rfl
set_option maxRecDepth 100000 in
theorem mw_483 : Cond.selects "RoundedNumbersModel" ⟨"RoundedNumbersModel", "cmp", "(II)I"⟩ ⟨"RoundedNumbersModel", "cmp", "(II)I"⟩ ∈ ct_T := ct_in (List.mem_of_getElem? (i := 562) (by decide +kernel)) rfl
set_option maxRecDepth 100000 in
theorem mw_484 : Cond.code ⟨"RoundedNumbers", "kindOf", "(I)I"⟩ prog_1_method_14_code 2 (some .int) ∈ ct_T := ct_in (List.mem_of_getElem? (i := 339) rfl) rfl
set_option maxRecDepth 100000 in
theorem mw_485 : Cond.methodLink "RoundedNumbersLaw" 77 ⟨"RoundedNumbers", "kindOf", "(I)I"⟩ ∈ ct_T := ct_in (List.mem_of_getElem? (i := 336) (by decide +kernel)) rfl
set_option maxRecDepth 100000 in
theorem mw_486 : Cond.instanceMethod ⟨"RoundedNumbers", "kindOf", "(I)I"⟩ ∈ ct_T := ct_in (List.mem_of_getElem? (i := 337) (by decide +kernel)) rfl
set_option maxRecDepth 100000 in
theorem mw_487 : Cond.selects "RoundedNumbers" ⟨"RoundedNumbers", "kindOf", "(I)I"⟩ ⟨"RoundedNumbers", "kindOf", "(I)I"⟩ ∈ ct_T := ct_in (List.mem_of_getElem? (i := 338) (by decide +kernel)) rfl
set_option maxRecDepth 100000 in
theorem mw_488 : Cond.code ⟨"RoundedNumbersModel", "kindOf", "(I)I"⟩ prog_6_method_43_code 2 (some .int) ∈ ct_T := ct_in (List.mem_of_getElem? (i := 571) rfl) rfl
set_option maxRecDepth 100000 in
theorem mw_489 : Cond.methodLink "RoundedNumbersLaw" 81 ⟨"RoundedNumbersModel", "kindOf", "(I)I"⟩ ∈ ct_T := ct_in (List.mem_of_getElem? (i := 568) (by decide +kernel)) rfl
set_option maxRecDepth 100000 in
theorem mw_490 : Cond.instanceMethod ⟨"RoundedNumbersModel", "kindOf", "(I)I"⟩ ∈ ct_T := ct_in (List.mem_of_getElem? (i := 569) (by decide +kernel)) rfl
set_option maxRecDepth 100000 in
theorem mw_491 : Cond.selects "RoundedNumbersModel" ⟨"RoundedNumbersModel", "kindOf", "(I)I"⟩ ⟨"RoundedNumbersModel", "kindOf", "(I)I"⟩ ∈ ct_T := ct_in (List.mem_of_getElem? (i := 570) (by decide +kernel)) rfl
set_option maxRecDepth 100000 in
theorem mw_492 : Cond.code ⟨"RoundedNumbers", "signOf", "(I)I"⟩ prog_1_method_15_code 2 (some .int) ∈ ct_T := ct_in (List.mem_of_getElem? (i := 343) rfl) rfl
set_option maxRecDepth 100000 in
theorem mw_493 : Cond.methodLink "RoundedNumbersLaw" 82 ⟨"RoundedNumbers", "signOf", "(I)I"⟩ ∈ ct_T := ct_in (List.mem_of_getElem? (i := 340) (by decide +kernel)) rfl
set_option maxRecDepth 100000 in
theorem mw_494 : Cond.instanceMethod ⟨"RoundedNumbers", "signOf", "(I)I"⟩ ∈ ct_T := ct_in (List.mem_of_getElem? (i := 341) (by decide +kernel)) rfl
set_option maxRecDepth 100000 in
theorem mw_495 : Cond.selects "RoundedNumbers" ⟨"RoundedNumbers", "signOf", "(I)I"⟩ ⟨"RoundedNumbers", "signOf", "(I)I"⟩ ∈ ct_T := ct_in (List.mem_of_getElem? (i := 342) (by decide +kernel)) rfl
set_option maxRecDepth 100000 in
theorem mw_496 : Cond.code ⟨"RoundedNumbersModel", "signOf", "(I)I"⟩ prog_6_method_44_code 2 (some .int) ∈ ct_T := ct_in (List.mem_of_getElem? (i := 575) rfl) rfl
set_option maxRecDepth 100000 in
theorem mw_497 : Cond.methodLink "RoundedNumbersLaw" 85 ⟨"RoundedNumbersModel", "signOf", "(I)I"⟩ ∈ ct_T := ct_in (List.mem_of_getElem? (i := 572) (by decide +kernel)) rfl
set_option maxRecDepth 100000 in
theorem mw_498 : Cond.instanceMethod ⟨"RoundedNumbersModel", "signOf", "(I)I"⟩ ∈ ct_T := ct_in (List.mem_of_getElem? (i := 573) (by decide +kernel)) rfl
set_option maxRecDepth 100000 in
theorem mw_499 : Cond.selects "RoundedNumbersModel" ⟨"RoundedNumbersModel", "signOf", "(I)I"⟩ ⟨"RoundedNumbersModel", "signOf", "(I)I"⟩ ∈ ct_T := ct_in (List.mem_of_getElem? (i := 574) (by decide +kernel)) rfl
set_option maxRecDepth 100000 in
theorem mw_500 : Cond.code ⟨"RoundedNumbers", "expOf", "(I)I"⟩ prog_1_method_16_code 2 (some .int) ∈ ct_T := ct_in (List.mem_of_getElem? (i := 347) rfl) rfl
set_option maxRecDepth 100000 in
theorem mw_501 : Cond.methodLink "RoundedNumbersLaw" 86 ⟨"RoundedNumbers", "expOf", "(I)I"⟩ ∈ ct_T := ct_in (List.mem_of_getElem? (i := 344) (by decide +kernel)) rfl
set_option maxRecDepth 100000 in
theorem mw_502 : Cond.instanceMethod ⟨"RoundedNumbers", "expOf", "(I)I"⟩ ∈ ct_T := ct_in (List.mem_of_getElem? (i := 345) (by decide +kernel)) rfl
set_option maxRecDepth 100000 in
theorem mw_503 : Cond.selects "RoundedNumbers" ⟨"RoundedNumbers", "expOf", "(I)I"⟩ ⟨"RoundedNumbers", "expOf", "(I)I"⟩ ∈ ct_T := ct_in (List.mem_of_getElem? (i := 346) (by decide +kernel)) rfl
set_option maxRecDepth 100000 in
theorem mw_504 : Cond.code ⟨"RoundedNumbersModel", "expOf", "(I)I"⟩ prog_6_method_45_code 2 (some .int) ∈ ct_T := ct_in (List.mem_of_getElem? (i := 579) rfl) rfl
set_option maxRecDepth 100000 in
theorem mw_505 : Cond.methodLink "RoundedNumbersLaw" 89 ⟨"RoundedNumbersModel", "expOf", "(I)I"⟩ ∈ ct_T := ct_in (List.mem_of_getElem? (i := 576) (by decide +kernel)) rfl
set_option maxRecDepth 100000 in
theorem mw_506 : Cond.instanceMethod ⟨"RoundedNumbersModel", "expOf", "(I)I"⟩ ∈ ct_T := ct_in (List.mem_of_getElem? (i := 577) (by decide +kernel)) rfl
set_option maxRecDepth 100000 in
theorem mw_507 : Cond.selects "RoundedNumbersModel" ⟨"RoundedNumbersModel", "expOf", "(I)I"⟩ ⟨"RoundedNumbersModel", "expOf", "(I)I"⟩ ∈ ct_T := ct_in (List.mem_of_getElem? (i := 578) (by decide +kernel)) rfl
set_option maxRecDepth 100000 in
theorem mw_508 : Cond.code ⟨"RoundedNumbers", "mantBit", "(II)I"⟩ prog_1_method_17_code 3 (some .int) ∈ ct_T := ct_in (List.mem_of_getElem? (i := 355) rfl) rfl
set_option maxRecDepth 100000 in
theorem mw_509 : Cond.methodLink "RoundedNumbersLaw" 90 ⟨"RoundedNumbers", "mantBit", "(II)I"⟩ ∈ ct_T := ct_in (List.mem_of_getElem? (i := 352) (by decide +kernel)) rfl
set_option maxRecDepth 100000 in
theorem mw_510 : Cond.instanceMethod ⟨"RoundedNumbers", "mantBit", "(II)I"⟩ ∈ ct_T := ct_in (List.mem_of_getElem? (i := 353) (by decide +kernel)) rfl
set_option maxRecDepth 100000 in
theorem mw_511 : Cond.selects "RoundedNumbers" ⟨"RoundedNumbers", "mantBit", "(II)I"⟩ ⟨"RoundedNumbers", "mantBit", "(II)I"⟩ ∈ ct_T := ct_in (List.mem_of_getElem? (i := 354) (by decide +kernel)) rfl
set_option maxRecDepth 100000 in
theorem mw_512 : Cond.code ⟨"RoundedNumbersModel", "mantBit", "(II)I"⟩ prog_6_method_46_code 3 (some .int) ∈ ct_T := ct_in (List.mem_of_getElem? (i := 583) rfl) rfl
set_option maxRecDepth 100000 in
theorem mw_513 : Cond.methodLink "RoundedNumbersLaw" 93 ⟨"RoundedNumbersModel", "mantBit", "(II)I"⟩ ∈ ct_T := ct_in (List.mem_of_getElem? (i := 580) (by decide +kernel)) rfl
set_option maxRecDepth 100000 in
theorem mw_514 : Cond.instanceMethod ⟨"RoundedNumbersModel", "mantBit", "(II)I"⟩ ∈ ct_T := ct_in (List.mem_of_getElem? (i := 581) (by decide +kernel)) rfl
set_option maxRecDepth 100000 in
theorem mw_515 : Cond.selects "RoundedNumbersModel" ⟨"RoundedNumbersModel", "mantBit", "(II)I"⟩ ⟨"RoundedNumbersModel", "mantBit", "(II)I"⟩ ∈ ct_T := ct_in (List.mem_of_getElem? (i := 582) (by decide +kernel)) rfl
set_option maxRecDepth 100000 in
theorem mw_516 : Cond.code ⟨"RoundedNumbers", "whole", "(II)J"⟩ prog_1_method_18_code 6 (some .long) ∈ ct_T := ct_in (List.mem_of_getElem? (i := 359) rfl) rfl
set_option maxRecDepth 100000 in
theorem mw_517 : Cond.methodLink "RoundedNumbersLaw" 94 ⟨"RoundedNumbers", "whole", "(II)J"⟩ ∈ ct_T := ct_in (List.mem_of_getElem? (i := 356) (by decide +kernel)) rfl
set_option maxRecDepth 100000 in
theorem mw_518 : Cond.instanceMethod ⟨"RoundedNumbers", "whole", "(II)J"⟩ ∈ ct_T := ct_in (List.mem_of_getElem? (i := 357) (by decide +kernel)) rfl
set_option maxRecDepth 100000 in
theorem mw_519 : Cond.selects "RoundedNumbers" ⟨"RoundedNumbers", "whole", "(II)J"⟩ ⟨"RoundedNumbers", "whole", "(II)J"⟩ ∈ ct_T := ct_in (List.mem_of_getElem? (i := 358) (by decide +kernel)) rfl
set_option maxRecDepth 100000 in
theorem mw_520 : Cond.code ⟨"RoundedNumbersModel", "whole", "(II)J"⟩ prog_6_method_48_code 9 (some .long) ∈ ct_T := ct_in (List.mem_of_getElem? (i := 587) rfl) rfl
set_option maxRecDepth 100000 in
theorem mw_521 : Cond.methodLink "RoundedNumbersLaw" 98 ⟨"RoundedNumbersModel", "whole", "(II)J"⟩ ∈ ct_T := ct_in (List.mem_of_getElem? (i := 584) (by decide +kernel)) rfl
set_option maxRecDepth 100000 in
theorem mw_522 : Cond.instanceMethod ⟨"RoundedNumbersModel", "whole", "(II)J"⟩ ∈ ct_T := ct_in (List.mem_of_getElem? (i := 585) (by decide +kernel)) rfl
set_option maxRecDepth 100000 in
theorem mw_523 : Cond.selects "RoundedNumbersModel" ⟨"RoundedNumbersModel", "whole", "(II)J"⟩ ⟨"RoundedNumbersModel", "whole", "(II)J"⟩ ∈ ct_T := ct_in (List.mem_of_getElem? (i := 586) (by decide +kernel)) rfl
set_option maxRecDepth 100000 in
theorem mw_524 : Cond.methodLink "RoundedNumbersLaw" 9 ⟨"RoundedNumbersLaw", "cell", "([II)I"⟩ ∈ ct_T := ct_in (List.mem_of_getElem? (i := 366) (by decide +kernel)) rfl
set_option maxRecDepth 100000 in
theorem mw_525 : Cond.static ⟨"RoundedNumbersLaw", "cell", "([II)I"⟩ ∈ ct_T := ct_in (List.mem_of_getElem? (i := 367) (by decide +kernel)) rfl
set_option maxRecDepth 100000 in
theorem mw_526 : Cond.code ⟨"RoundedNumbersLaw", "cell", "([II)I"⟩ method_2_code 2 (some .int) ∈ ct_T := ct_in (List.mem_of_getElem? (i := 368) rfl) rfl
set_option maxRecDepth 100000 in
theorem mw_527 : Cond.instantiable "RoundedNumbers" 8 ∈ ct_T := ct_in (List.mem_of_getElem? (i := 10) (by decide +kernel)) rfl
set_option maxRecDepth 100000 in
theorem mw_528 : Cond.instantiable "RoundedNumbersModel" 10 ∈ ct_T := ct_in (List.mem_of_getElem? (i := 370) (by decide +kernel)) rfl
set_option maxRecDepth 100000 in
theorem mw_529 : Cond.classLink "RoundedNumbersLaw" 7 "RoundedNumbers" ∈ ct_T := ct_in (List.mem_of_getElem? (i := 9) (by decide +kernel)) rfl
set_option maxRecDepth 100000 in
theorem mw_530 : Cond.code ⟨"RoundedNumbers", "<init>", "(I)V"⟩ prog_1_method_1_code 3 none ∈ ct_T := ct_in (List.mem_of_getElem? (i := 13) rfl) rfl
set_option maxRecDepth 100000 in
theorem mw_531 : Cond.methodLink "RoundedNumbersLaw" 15 ⟨"RoundedNumbers", "<init>", "(I)V"⟩ ∈ ct_T := ct_in (List.mem_of_getElem? (i := 11) (by decide +kernel)) rfl
set_option maxRecDepth 100000 in
theorem mw_532 : Cond.instanceMethod ⟨"RoundedNumbers", "<init>", "(I)V"⟩ ∈ ct_T := ct_in (List.mem_of_getElem? (i := 12) (by decide +kernel)) rfl
set_option maxRecDepth 100000 in
theorem mw_533 : Cond.classLink "RoundedNumbersLaw" 18 "RoundedNumbersModel" ∈ ct_T := ct_in (List.mem_of_getElem? (i := 369) (by decide +kernel)) rfl
set_option maxRecDepth 100000 in
theorem mw_534 : Cond.code ⟨"RoundedNumbersModel", "<init>", "(I)V"⟩ prog_6_method_1_code 3 none ∈ ct_T := ct_in (List.mem_of_getElem? (i := 373) rfl) rfl
set_option maxRecDepth 100000 in
theorem mw_535 : Cond.methodLink "RoundedNumbersLaw" 20 ⟨"RoundedNumbersModel", "<init>", "(I)V"⟩ ∈ ct_T := ct_in (List.mem_of_getElem? (i := 371) (by decide +kernel)) rfl
set_option maxRecDepth 100000 in
theorem mw_536 : Cond.instanceMethod ⟨"RoundedNumbersModel", "<init>", "(I)V"⟩ ∈ ct_T := ct_in (List.mem_of_getElem? (i := 372) (by decide +kernel)) rfl
theorem kc_LL_21 {R : Room} {s : State} {args : Array Value} {c0 : Cond} (hts : ∀ w ∈ c0 :: ct_T, w.before args s = true) (hR : ({ frames := 1, cells := 0, slots := 0, locals := 22 } : Room).frames + 1 ≤ R.frames ∧ 8 + (3 + 11) + ({ frames := 1, cells := 0, slots := 0, locals := 22 } : Room).locals ≤ R.locals) : CallW R s args "RoundedNumbersLaw" "RoundedNumbers" 21 ⟨"RoundedNumbers", "setPrec", "(II)Z"⟩ prog_1_method_2_code 3 (some .boolean) (.code ⟨"RoundedNumbers", "setPrec", "(II)Z"⟩ prog_1_method_2_code 3 (some .boolean) :: ct_T) { frames := 1, cells := 0, slots := 0, locals := 22 } 0 0 2 := cwV 2 hts (ct_giV mw_391 mw_392 mw_393 mw_5 mw_390) rfl rfl rfl ⟨rfl, by decide, by decide, by decide +kernel⟩ hR
theorem kc_LL_25 {R : Room} {s : State} {args : Array Value} {c0 : Cond} (hts : ∀ w ∈ c0 :: ct_T, w.before args s = true) (hR : ({ frames := 1, cells := 0, slots := 0, locals := 20 } : Room).frames + 1 ≤ R.frames ∧ 8 + (3 + 11) + ({ frames := 1, cells := 0, slots := 0, locals := 20 } : Room).locals ≤ R.locals) : CallW R s args "RoundedNumbersLaw" "RoundedNumbersModel" 25 ⟨"RoundedNumbersModel", "setPrec", "(II)Z"⟩ prog_6_method_4_code 3 (some .boolean) (.code ⟨"RoundedNumbersModel", "setPrec", "(II)Z"⟩ prog_6_method_4_code 3 (some .boolean) :: ct_T) { frames := 1, cells := 0, slots := 0, locals := 20 } 0 0 2 := cwV 2 hts (ct_giV mw_395 mw_396 mw_397 mw_258 mw_394) rfl rfl rfl ⟨rfl, by decide, by decide, by decide +kernel⟩ hR
theorem kc_LL_26 {R : Room} {s : State} {args : Array Value} {c0 : Cond} (hts : ∀ w ∈ c0 :: ct_T, w.before args s = true) (hR : ({ frames := 7, cells := 0, slots := 0, locals := 175 } : Room).frames + 1 ≤ R.frames ∧ 8 + (4 + 11) + ({ frames := 7, cells := 0, slots := 0, locals := 175 } : Room).locals ≤ R.locals) : CallW R s args "RoundedNumbersLaw" "RoundedNumbers" 26 ⟨"RoundedNumbers", "loadInt", "(III)I"⟩ prog_1_method_3_code 4 (some .int) (.code ⟨"RoundedNumbers", "loadInt", "(III)I"⟩ prog_1_method_3_code 4 (some .int) :: ct_T) { frames := 7, cells := 0, slots := 0, locals := 175 } 0 0 3 := cwV 3 hts (ct_giV mw_399 mw_400 mw_401 mw_5 mw_398) rfl rfl rfl ⟨rfl, by decide, by decide, by decide +kernel⟩ hR
theorem kc_LL_30 {R : Room} {s : State} {args : Array Value} {c0 : Cond} (hts : ∀ w ∈ c0 :: ct_T, w.before args s = true) (hR : ({ frames := 4, cells := 0, slots := 0, locals := 109 } : Room).frames + 1 ≤ R.frames ∧ 8 + (4 + 11) + ({ frames := 4, cells := 0, slots := 0, locals := 109 } : Room).locals ≤ R.locals) : CallW R s args "RoundedNumbersLaw" "RoundedNumbersModel" 30 ⟨"RoundedNumbersModel", "loadInt", "(III)I"⟩ prog_6_method_18_code 4 (some .int) (.code ⟨"RoundedNumbersModel", "loadInt", "(III)I"⟩ prog_6_method_18_code 4 (some .int) :: ct_T) { frames := 4, cells := 0, slots := 0, locals := 109 } 0 0 3 := cwV 3 hts (ct_giV mw_403 mw_404 mw_405 mw_258 mw_402) rfl rfl rfl ⟨rfl, by decide, by decide, by decide +kernel⟩ hR
theorem kc_LL_33 {R : Room} {s : State} {args : Array Value} {c0 : Cond} (hts : ∀ w ∈ c0 :: ct_T, w.before args s = true) (hR : ({ frames := 7, cells := 0, slots := 0, locals := 175 } : Room).frames + 1 ≤ R.frames ∧ 8 + (6 + 11) + ({ frames := 7, cells := 0, slots := 0, locals := 175 } : Room).locals ≤ R.locals) : CallW R s args "RoundedNumbersLaw" "RoundedNumbers" 33 ⟨"RoundedNumbers", "loadScaled", "(IJII)I"⟩ prog_1_method_4_code 6 (some .int) (.code ⟨"RoundedNumbers", "loadScaled", "(IJII)I"⟩ prog_1_method_4_code 6 (some .int) :: ct_T) { frames := 7, cells := 0, slots := 0, locals := 175 } 0 0 4 := cwV 4 hts (ct_giV mw_408 mw_409 mw_410 mw_5 mw_407) rfl rfl rfl ⟨rfl, by decide, by decide, by decide +kernel⟩ hR
theorem kc_LL_37 {R : Room} {s : State} {args : Array Value} {c0 : Cond} (hts : ∀ w ∈ c0 :: ct_T, w.before args s = true) (hR : ({ frames := 3, cells := 0, slots := 0, locals := 81 } : Room).frames + 1 ≤ R.frames ∧ 8 + (9 + 11) + ({ frames := 3, cells := 0, slots := 0, locals := 81 } : Room).locals ≤ R.locals) : CallW R s args "RoundedNumbersLaw" "RoundedNumbersModel" 37 ⟨"RoundedNumbersModel", "loadScaled", "(IJII)I"⟩ prog_6_method_19_code 9 (some .int) (.code ⟨"RoundedNumbersModel", "loadScaled", "(IJII)I"⟩ prog_6_method_19_code 9 (some .int) :: ct_T) { frames := 3, cells := 0, slots := 0, locals := 81 } 0 0 4 := cwV 4 hts (ct_giV mw_411 mw_310 mw_311 mw_258 mw_308) rfl rfl rfl ⟨rfl, by decide, by decide, by decide +kernel⟩ hR
theorem kc_LL_38 {R : Room} {s : State} {args : Array Value} {c0 : Cond} (hts : ∀ w ∈ c0 :: ct_T, w.before args s = true) (hR : ({ frames := 6, cells := 0, slots := 0, locals := 150 } : Room).frames + 1 ≤ R.frames ∧ 8 + (4 + 11) + ({ frames := 6, cells := 0, slots := 0, locals := 150 } : Room).locals ≤ R.locals) : CallW R s args "RoundedNumbersLaw" "RoundedNumbers" 38 ⟨"RoundedNumbers", "copy", "(III)I"⟩ prog_1_method_5_code 4 (some .int) (.code ⟨"RoundedNumbers", "copy", "(III)I"⟩ prog_1_method_5_code 4 (some .int) :: ct_T) { frames := 6, cells := 0, slots := 0, locals := 150 } 0 0 3 := cwV 3 hts (ct_giV mw_413 mw_414 mw_415 mw_5 mw_412) rfl rfl rfl ⟨rfl, by decide, by decide, by decide +kernel⟩ hR
theorem kc_LL_41 {R : Room} {s : State} {args : Array Value} {c0 : Cond} (hts : ∀ w ∈ c0 :: ct_T, w.before args s = true) (hR : ({ frames := 4, cells := 0, slots := 0, locals := 105 } : Room).frames + 1 ≤ R.frames ∧ 8 + (4 + 11) + ({ frames := 4, cells := 0, slots := 0, locals := 105 } : Room).locals ≤ R.locals) : CallW R s args "RoundedNumbersLaw" "RoundedNumbersModel" 41 ⟨"RoundedNumbersModel", "copy", "(III)I"⟩ prog_6_method_21_code 4 (some .int) (.code ⟨"RoundedNumbersModel", "copy", "(III)I"⟩ prog_6_method_21_code 4 (some .int) :: ct_T) { frames := 4, cells := 0, slots := 0, locals := 105 } 0 0 3 := cwV 3 hts (ct_giV mw_417 mw_418 mw_419 mw_258 mw_416) rfl rfl rfl ⟨rfl, by decide, by decide, by decide +kernel⟩ hR
theorem kc_LL_42 {R : Room} {s : State} {args : Array Value} {c0 : Cond} (hts : ∀ w ∈ c0 :: ct_T, w.before args s = true) (hR : ({ frames := 6, cells := 0, slots := 0, locals := 150 } : Room).frames + 1 ≤ R.frames ∧ 8 + (4 + 11) + ({ frames := 6, cells := 0, slots := 0, locals := 150 } : Room).locals ≤ R.locals) : CallW R s args "RoundedNumbersLaw" "RoundedNumbers" 42 ⟨"RoundedNumbers", "negate", "(III)I"⟩ prog_1_method_6_code 4 (some .int) (.code ⟨"RoundedNumbers", "negate", "(III)I"⟩ prog_1_method_6_code 4 (some .int) :: ct_T) { frames := 6, cells := 0, slots := 0, locals := 150 } 0 0 3 := cwV 3 hts (ct_giV mw_421 mw_422 mw_423 mw_5 mw_420) rfl rfl rfl ⟨rfl, by decide, by decide, by decide +kernel⟩ hR
theorem kc_LL_45 {R : Room} {s : State} {args : Array Value} {c0 : Cond} (hts : ∀ w ∈ c0 :: ct_T, w.before args s = true) (hR : ({ frames := 4, cells := 0, slots := 0, locals := 105 } : Room).frames + 1 ≤ R.frames ∧ 8 + (4 + 11) + ({ frames := 4, cells := 0, slots := 0, locals := 105 } : Room).locals ≤ R.locals) : CallW R s args "RoundedNumbersLaw" "RoundedNumbersModel" 45 ⟨"RoundedNumbersModel", "negate", "(III)I"⟩ prog_6_method_22_code 4 (some .int) (.code ⟨"RoundedNumbersModel", "negate", "(III)I"⟩ prog_6_method_22_code 4 (some .int) :: ct_T) { frames := 4, cells := 0, slots := 0, locals := 105 } 0 0 3 := cwV 3 hts (ct_giV mw_425 mw_426 mw_427 mw_258 mw_424) rfl rfl rfl ⟨rfl, by decide, by decide, by decide +kernel⟩ hR
theorem kc_LL_46 {R : Room} {s : State} {args : Array Value} {c0 : Cond} (hts : ∀ w ∈ c0 :: ct_T, w.before args s = true) (hR : ({ frames := 6, cells := 0, slots := 0, locals := 152 } : Room).frames + 1 ≤ R.frames ∧ 8 + (5 + 11) + ({ frames := 6, cells := 0, slots := 0, locals := 152 } : Room).locals ≤ R.locals) : CallW R s args "RoundedNumbersLaw" "RoundedNumbers" 46 ⟨"RoundedNumbers", "add", "(IIII)I"⟩ prog_1_method_7_code 5 (some .int) (.code ⟨"RoundedNumbers", "add", "(IIII)I"⟩ prog_1_method_7_code 5 (some .int) :: ct_T) { frames := 6, cells := 0, slots := 0, locals := 152 } 0 0 4 := cwV 4 hts (ct_giV mw_429 mw_430 mw_431 mw_5 mw_428) rfl rfl rfl ⟨rfl, by decide, by decide, by decide +kernel⟩ hR
theorem kc_LL_50 {R : Room} {s : State} {args : Array Value} {c0 : Cond} (hts : ∀ w ∈ c0 :: ct_T, w.before args s = true) (hR : ({ frames := 5, cells := 0, slots := 0, locals := 133 } : Room).frames + 1 ≤ R.frames ∧ 8 + (5 + 11) + ({ frames := 5, cells := 0, slots := 0, locals := 133 } : Room).locals ≤ R.locals) : CallW R s args "RoundedNumbersLaw" "RoundedNumbersModel" 50 ⟨"RoundedNumbersModel", "add", "(IIII)I"⟩ prog_6_method_25_code 5 (some .int) (.code ⟨"RoundedNumbersModel", "add", "(IIII)I"⟩ prog_6_method_25_code 5 (some .int) :: ct_T) { frames := 5, cells := 0, slots := 0, locals := 133 } 0 0 4 := cwV 4 hts (ct_giV mw_433 mw_434 mw_435 mw_258 mw_432) rfl rfl rfl ⟨rfl, by decide, by decide, by decide +kernel⟩ hR
theorem kc_LL_51 {R : Room} {s : State} {args : Array Value} {c0 : Cond} (hts : ∀ w ∈ c0 :: ct_T, w.before args s = true) (hR : ({ frames := 6, cells := 0, slots := 0, locals := 152 } : Room).frames + 1 ≤ R.frames ∧ 8 + (5 + 11) + ({ frames := 6, cells := 0, slots := 0, locals := 152 } : Room).locals ≤ R.locals) : CallW R s args "RoundedNumbersLaw" "RoundedNumbers" 51 ⟨"RoundedNumbers", "sub", "(IIII)I"⟩ prog_1_method_8_code 5 (some .int) (.code ⟨"RoundedNumbers", "sub", "(IIII)I"⟩ prog_1_method_8_code 5 (some .int) :: ct_T) { frames := 6, cells := 0, slots := 0, locals := 152 } 0 0 4 := cwV 4 hts (ct_giV mw_437 mw_438 mw_439 mw_5 mw_436) rfl rfl rfl ⟨rfl, by decide, by decide, by decide +kernel⟩ hR
theorem kc_LL_54 {R : Room} {s : State} {args : Array Value} {c0 : Cond} (hts : ∀ w ∈ c0 :: ct_T, w.before args s = true) (hR : ({ frames := 5, cells := 0, slots := 0, locals := 133 } : Room).frames + 1 ≤ R.frames ∧ 8 + (5 + 11) + ({ frames := 5, cells := 0, slots := 0, locals := 133 } : Room).locals ≤ R.locals) : CallW R s args "RoundedNumbersLaw" "RoundedNumbersModel" 54 ⟨"RoundedNumbersModel", "sub", "(IIII)I"⟩ prog_6_method_26_code 5 (some .int) (.code ⟨"RoundedNumbersModel", "sub", "(IIII)I"⟩ prog_6_method_26_code 5 (some .int) :: ct_T) { frames := 5, cells := 0, slots := 0, locals := 133 } 0 0 4 := cwV 4 hts (ct_giV mw_441 mw_442 mw_443 mw_258 mw_440) rfl rfl rfl ⟨rfl, by decide, by decide, by decide +kernel⟩ hR
theorem kc_LL_55 {R : Room} {s : State} {args : Array Value} {c0 : Cond} (hts : ∀ w ∈ c0 :: ct_T, w.before args s = true) (hR : ({ frames := 6, cells := 0, slots := 0, locals := 150 } : Room).frames + 1 ≤ R.frames ∧ 8 + (5 + 11) + ({ frames := 6, cells := 0, slots := 0, locals := 150 } : Room).locals ≤ R.locals) : CallW R s args "RoundedNumbersLaw" "RoundedNumbers" 55 ⟨"RoundedNumbers", "mul", "(IIII)I"⟩ prog_1_method_9_code 5 (some .int) (.code ⟨"RoundedNumbers", "mul", "(IIII)I"⟩ prog_1_method_9_code 5 (some .int) :: ct_T) { frames := 6, cells := 0, slots := 0, locals := 150 } 0 0 4 := cwV 4 hts (ct_giV mw_445 mw_446 mw_447 mw_5 mw_444) rfl rfl rfl ⟨rfl, by decide, by decide, by decide +kernel⟩ hR
theorem kc_LL_58 {R : Room} {s : State} {args : Array Value} {c0 : Cond} (hts : ∀ w ∈ c0 :: ct_T, w.before args s = true) (hR : ({ frames := 3, cells := 0, slots := 0, locals := 81 } : Room).frames + 1 ≤ R.frames ∧ 8 + (7 + 11) + ({ frames := 3, cells := 0, slots := 0, locals := 81 } : Room).locals ≤ R.locals) : CallW R s args "RoundedNumbersLaw" "RoundedNumbersModel" 58 ⟨"RoundedNumbersModel", "mul", "(IIII)I"⟩ prog_6_method_28_code 7 (some .int) (.code ⟨"RoundedNumbersModel", "mul", "(IIII)I"⟩ prog_6_method_28_code 7 (some .int) :: ct_T) { frames := 3, cells := 0, slots := 0, locals := 81 } 0 0 4 := cwV 4 hts (ct_giV mw_449 mw_450 mw_451 mw_258 mw_448) rfl rfl rfl ⟨rfl, by decide, by decide, by decide +kernel⟩ hR
theorem kc_LL_59 {R : Room} {s : State} {args : Array Value} {c0 : Cond} (hts : ∀ w ∈ c0 :: ct_T, w.before args s = true) (hR : ({ frames := 5, cells := 0, slots := 0, locals := 126 } : Room).frames + 1 ≤ R.frames ∧ 8 + (9 + 11) + ({ frames := 5, cells := 0, slots := 0, locals := 126 } : Room).locals ≤ R.locals) : CallW R s args "RoundedNumbersLaw" "RoundedNumbers" 59 ⟨"RoundedNumbers", "div", "(IIII)I"⟩ prog_1_method_10_code 9 (some .int) (.code ⟨"RoundedNumbers", "div", "(IIII)I"⟩ prog_1_method_10_code 9 (some .int) :: ct_T) { frames := 5, cells := 0, slots := 0, locals := 126 } 0 0 4 := cwV 4 hts (ct_giV mw_453 mw_454 mw_455 mw_5 mw_452) rfl rfl rfl ⟨rfl, by decide, by decide, by decide +kernel⟩ hR
theorem kc_LL_62 {R : Room} {s : State} {args : Array Value} {c0 : Cond} (hts : ∀ w ∈ c0 :: ct_T, w.before args s = true) (hR : ({ frames := 3, cells := 0, slots := 0, locals := 81 } : Room).frames + 1 ≤ R.frames ∧ 8 + (8 + 11) + ({ frames := 3, cells := 0, slots := 0, locals := 81 } : Room).locals ≤ R.locals) : CallW R s args "RoundedNumbersLaw" "RoundedNumbersModel" 62 ⟨"RoundedNumbersModel", "div", "(IIII)I"⟩ prog_6_method_36_code 8 (some .int) (.code ⟨"RoundedNumbersModel", "div", "(IIII)I"⟩ prog_6_method_36_code 8 (some .int) :: ct_T) { frames := 3, cells := 0, slots := 0, locals := 81 } 0 0 4 := cwV 4 hts (ct_giV mw_457 mw_458 mw_459 mw_258 mw_456) rfl rfl rfl ⟨rfl, by decide, by decide, by decide +kernel⟩ hR
theorem kc_LL_63 {R : Room} {s : State} {args : Array Value} {c0 : Cond} (hts : ∀ w ∈ c0 :: ct_T, w.before args s = true) (hR : ({ frames := 5, cells := 0, slots := 0, locals := 126 } : Room).frames + 1 ≤ R.frames ∧ 8 + (5 + 11) + ({ frames := 5, cells := 0, slots := 0, locals := 126 } : Room).locals ≤ R.locals) : CallW R s args "RoundedNumbersLaw" "RoundedNumbers" 63 ⟨"RoundedNumbers", "sqrt", "(III)I"⟩ prog_1_method_11_code 5 (some .int) (.code ⟨"RoundedNumbers", "sqrt", "(III)I"⟩ prog_1_method_11_code 5 (some .int) :: ct_T) { frames := 5, cells := 0, slots := 0, locals := 126 } 0 0 3 := cwV 3 hts (ct_giV mw_461 mw_462 mw_463 mw_5 mw_460) rfl rfl rfl ⟨rfl, by decide, by decide, by decide +kernel⟩ hR
theorem kc_LL_66 {R : Room} {s : State} {args : Array Value} {c0 : Cond} (hts : ∀ w ∈ c0 :: ct_T, w.before args s = true) (hR : ({ frames := 3, cells := 0, slots := 0, locals := 81 } : Room).frames + 1 ≤ R.frames ∧ 8 + (4 + 11) + ({ frames := 3, cells := 0, slots := 0, locals := 81 } : Room).locals ≤ R.locals) : CallW R s args "RoundedNumbersLaw" "RoundedNumbersModel" 66 ⟨"RoundedNumbersModel", "sqrt", "(III)I"⟩ prog_6_method_40_code 4 (some .int) (.code ⟨"RoundedNumbersModel", "sqrt", "(III)I"⟩ prog_6_method_40_code 4 (some .int) :: ct_T) { frames := 3, cells := 0, slots := 0, locals := 81 } 0 0 3 := cwV 3 hts (ct_giV mw_465 mw_466 mw_467 mw_258 mw_464) rfl rfl rfl ⟨rfl, by decide, by decide, by decide +kernel⟩ hR
theorem kc_LL_67 {R : Room} {s : State} {args : Array Value} {c0 : Cond} (hts : ∀ w ∈ c0 :: ct_T, w.before args s = true) (hR : ({ frames := 6, cells := 0, slots := 0, locals := 152 } : Room).frames + 1 ≤ R.frames ∧ 8 + (6 + 11) + ({ frames := 6, cells := 0, slots := 0, locals := 152 } : Room).locals ≤ R.locals) : CallW R s args "RoundedNumbersLaw" "RoundedNumbers" 67 ⟨"RoundedNumbers", "fma", "(IIIII)I"⟩ prog_1_method_12_code 6 (some .int) (.code ⟨"RoundedNumbers", "fma", "(IIIII)I"⟩ prog_1_method_12_code 6 (some .int) :: ct_T) { frames := 6, cells := 0, slots := 0, locals := 152 } 0 0 5 := cwV 5 hts (ct_giV mw_469 mw_470 mw_471 mw_5 mw_468) rfl rfl rfl ⟨rfl, by decide, by decide, by decide +kernel⟩ hR
theorem kc_LL_71 {R : Room} {s : State} {args : Array Value} {c0 : Cond} (hts : ∀ w ∈ c0 :: ct_T, w.before args s = true) (hR : ({ frames := 4, cells := 0, slots := 0, locals := 105 } : Room).frames + 1 ≤ R.frames ∧ 8 + (9 + 11) + ({ frames := 4, cells := 0, slots := 0, locals := 105 } : Room).locals ≤ R.locals) : CallW R s args "RoundedNumbersLaw" "RoundedNumbersModel" 71 ⟨"RoundedNumbersModel", "fma", "(IIIII)I"⟩ prog_6_method_29_code 9 (some .int) (.code ⟨"RoundedNumbersModel", "fma", "(IIIII)I"⟩ prog_6_method_29_code 9 (some .int) :: ct_T) { frames := 4, cells := 0, slots := 0, locals := 105 } 0 0 5 := cwV 5 hts (ct_giV mw_473 mw_474 mw_475 mw_258 mw_472) rfl rfl rfl ⟨rfl, by decide, by decide, by decide +kernel⟩ hR
theorem kc_LL_72 {R : Room} {s : State} {args : Array Value} {c0 : Cond} (hts : ∀ w ∈ c0 :: ct_T, w.before args s = true) (hR : ({ frames := 3, cells := 0, slots := 0, locals := 63 } : Room).frames + 1 ≤ R.frames ∧ 8 + (5 + 11) + ({ frames := 3, cells := 0, slots := 0, locals := 63 } : Room).locals ≤ R.locals) : CallW R s args "RoundedNumbersLaw" "RoundedNumbers" 72 ⟨"RoundedNumbers", "cmp", "(II)I"⟩ prog_1_method_13_code 5 (some .int) (.code ⟨"RoundedNumbers", "cmp", "(II)I"⟩ prog_1_method_13_code 5 (some .int) :: ct_T) { frames := 3, cells := 0, slots := 0, locals := 63 } 0 0 2 := cwV 2 hts (ct_giV mw_477 mw_478 mw_479 mw_5 mw_476) rfl rfl rfl ⟨rfl, by decide, by decide, by decide +kernel⟩ hR
theorem kc_LL_76 {R : Room} {s : State} {args : Array Value} {c0 : Cond} (hts : ∀ w ∈ c0 :: ct_T, w.before args s = true) (hR : ({ frames := 2, cells := 0, slots := 0, locals := 47 } : Room).frames + 1 ≤ R.frames ∧ 8 + (5 + 11) + ({ frames := 2, cells := 0, slots := 0, locals := 47 } : Room).locals ≤ R.locals) : CallW R s args "RoundedNumbersLaw" "RoundedNumbersModel" 76 ⟨"RoundedNumbersModel", "cmp", "(II)I"⟩ prog_6_method_42_code 5 (some .int) (.code ⟨"RoundedNumbersModel", "cmp", "(II)I"⟩ prog_6_method_42_code 5 (some .int) :: ct_T) { frames := 2, cells := 0, slots := 0, locals := 47 } 0 0 2 := cwV 2 hts (ct_giV mw_481 mw_482 mw_483 mw_258 mw_480) rfl rfl rfl ⟨rfl, by decide, by decide, by decide +kernel⟩ hR
theorem kc_LL_77 {R : Room} {s : State} {args : Array Value} {c0 : Cond} (hts : ∀ w ∈ c0 :: ct_T, w.before args s = true) (hR : ({ frames := 1, cells := 0, slots := 0, locals := 20 } : Room).frames + 1 ≤ R.frames ∧ 8 + (2 + 11) + ({ frames := 1, cells := 0, slots := 0, locals := 20 } : Room).locals ≤ R.locals) : CallW R s args "RoundedNumbersLaw" "RoundedNumbers" 77 ⟨"RoundedNumbers", "kindOf", "(I)I"⟩ prog_1_method_14_code 2 (some .int) (.code ⟨"RoundedNumbers", "kindOf", "(I)I"⟩ prog_1_method_14_code 2 (some .int) :: ct_T) { frames := 1, cells := 0, slots := 0, locals := 20 } 0 0 1 := cwV 1 hts (ct_giV mw_485 mw_486 mw_487 mw_5 mw_484) rfl rfl rfl ⟨rfl, by decide, by decide, by decide +kernel⟩ hR
theorem kc_LL_81 {R : Room} {s : State} {args : Array Value} {c0 : Cond} (hts : ∀ w ∈ c0 :: ct_T, w.before args s = true) (hR : ({ frames := 1, cells := 0, slots := 0, locals := 20 } : Room).frames + 1 ≤ R.frames ∧ 8 + (2 + 11) + ({ frames := 1, cells := 0, slots := 0, locals := 20 } : Room).locals ≤ R.locals) : CallW R s args "RoundedNumbersLaw" "RoundedNumbersModel" 81 ⟨"RoundedNumbersModel", "kindOf", "(I)I"⟩ prog_6_method_43_code 2 (some .int) (.code ⟨"RoundedNumbersModel", "kindOf", "(I)I"⟩ prog_6_method_43_code 2 (some .int) :: ct_T) { frames := 1, cells := 0, slots := 0, locals := 20 } 0 0 1 := cwV 1 hts (ct_giV mw_489 mw_490 mw_491 mw_258 mw_488) rfl rfl rfl ⟨rfl, by decide, by decide, by decide +kernel⟩ hR
theorem kc_LL_82 {R : Room} {s : State} {args : Array Value} {c0 : Cond} (hts : ∀ w ∈ c0 :: ct_T, w.before args s = true) (hR : ({ frames := 1, cells := 0, slots := 0, locals := 20 } : Room).frames + 1 ≤ R.frames ∧ 8 + (2 + 11) + ({ frames := 1, cells := 0, slots := 0, locals := 20 } : Room).locals ≤ R.locals) : CallW R s args "RoundedNumbersLaw" "RoundedNumbers" 82 ⟨"RoundedNumbers", "signOf", "(I)I"⟩ prog_1_method_15_code 2 (some .int) (.code ⟨"RoundedNumbers", "signOf", "(I)I"⟩ prog_1_method_15_code 2 (some .int) :: ct_T) { frames := 1, cells := 0, slots := 0, locals := 20 } 0 0 1 := cwV 1 hts (ct_giV mw_493 mw_494 mw_495 mw_5 mw_492) rfl rfl rfl ⟨rfl, by decide, by decide, by decide +kernel⟩ hR
theorem kc_LL_85 {R : Room} {s : State} {args : Array Value} {c0 : Cond} (hts : ∀ w ∈ c0 :: ct_T, w.before args s = true) (hR : ({ frames := 1, cells := 0, slots := 0, locals := 20 } : Room).frames + 1 ≤ R.frames ∧ 8 + (2 + 11) + ({ frames := 1, cells := 0, slots := 0, locals := 20 } : Room).locals ≤ R.locals) : CallW R s args "RoundedNumbersLaw" "RoundedNumbersModel" 85 ⟨"RoundedNumbersModel", "signOf", "(I)I"⟩ prog_6_method_44_code 2 (some .int) (.code ⟨"RoundedNumbersModel", "signOf", "(I)I"⟩ prog_6_method_44_code 2 (some .int) :: ct_T) { frames := 1, cells := 0, slots := 0, locals := 20 } 0 0 1 := cwV 1 hts (ct_giV mw_497 mw_498 mw_499 mw_258 mw_496) rfl rfl rfl ⟨rfl, by decide, by decide, by decide +kernel⟩ hR
theorem kc_LL_86 {R : Room} {s : State} {args : Array Value} {c0 : Cond} (hts : ∀ w ∈ c0 :: ct_T, w.before args s = true) (hR : ({ frames := 2, cells := 0, slots := 0, locals := 41 } : Room).frames + 1 ≤ R.frames ∧ 8 + (2 + 11) + ({ frames := 2, cells := 0, slots := 0, locals := 41 } : Room).locals ≤ R.locals) : CallW R s args "RoundedNumbersLaw" "RoundedNumbers" 86 ⟨"RoundedNumbers", "expOf", "(I)I"⟩ prog_1_method_16_code 2 (some .int) (.code ⟨"RoundedNumbers", "expOf", "(I)I"⟩ prog_1_method_16_code 2 (some .int) :: ct_T) { frames := 2, cells := 0, slots := 0, locals := 41 } 0 0 1 := cwV 1 hts (ct_giV mw_501 mw_502 mw_503 mw_5 mw_500) rfl rfl rfl ⟨rfl, by decide, by decide, by decide +kernel⟩ hR
theorem kc_LL_89 {R : Room} {s : State} {args : Array Value} {c0 : Cond} (hts : ∀ w ∈ c0 :: ct_T, w.before args s = true) (hR : ({ frames := 1, cells := 0, slots := 0, locals := 20 } : Room).frames + 1 ≤ R.frames ∧ 8 + (2 + 11) + ({ frames := 1, cells := 0, slots := 0, locals := 20 } : Room).locals ≤ R.locals) : CallW R s args "RoundedNumbersLaw" "RoundedNumbersModel" 89 ⟨"RoundedNumbersModel", "expOf", "(I)I"⟩ prog_6_method_45_code 2 (some .int) (.code ⟨"RoundedNumbersModel", "expOf", "(I)I"⟩ prog_6_method_45_code 2 (some .int) :: ct_T) { frames := 1, cells := 0, slots := 0, locals := 20 } 0 0 1 := cwV 1 hts (ct_giV mw_505 mw_506 mw_507 mw_258 mw_504) rfl rfl rfl ⟨rfl, by decide, by decide, by decide +kernel⟩ hR
theorem kc_LL_90 {R : Room} {s : State} {args : Array Value} {c0 : Cond} (hts : ∀ w ∈ c0 :: ct_T, w.before args s = true) (hR : ({ frames := 2, cells := 0, slots := 0, locals := 41 } : Room).frames + 1 ≤ R.frames ∧ 8 + (3 + 11) + ({ frames := 2, cells := 0, slots := 0, locals := 41 } : Room).locals ≤ R.locals) : CallW R s args "RoundedNumbersLaw" "RoundedNumbers" 90 ⟨"RoundedNumbers", "mantBit", "(II)I"⟩ prog_1_method_17_code 3 (some .int) (.code ⟨"RoundedNumbers", "mantBit", "(II)I"⟩ prog_1_method_17_code 3 (some .int) :: ct_T) { frames := 2, cells := 0, slots := 0, locals := 41 } 0 0 2 := cwV 2 hts (ct_giV mw_509 mw_510 mw_511 mw_5 mw_508) rfl rfl rfl ⟨rfl, by decide, by decide, by decide +kernel⟩ hR
theorem kc_LL_93 {R : Room} {s : State} {args : Array Value} {c0 : Cond} (hts : ∀ w ∈ c0 :: ct_T, w.before args s = true) (hR : ({ frames := 1, cells := 0, slots := 0, locals := 20 } : Room).frames + 1 ≤ R.frames ∧ 8 + (3 + 11) + ({ frames := 1, cells := 0, slots := 0, locals := 20 } : Room).locals ≤ R.locals) : CallW R s args "RoundedNumbersLaw" "RoundedNumbersModel" 93 ⟨"RoundedNumbersModel", "mantBit", "(II)I"⟩ prog_6_method_46_code 3 (some .int) (.code ⟨"RoundedNumbersModel", "mantBit", "(II)I"⟩ prog_6_method_46_code 3 (some .int) :: ct_T) { frames := 1, cells := 0, slots := 0, locals := 20 } 0 0 2 := cwV 2 hts (ct_giV mw_513 mw_514 mw_515 mw_258 mw_512) rfl rfl rfl ⟨rfl, by decide, by decide, by decide +kernel⟩ hR
theorem kc_LL_94 {R : Room} {s : State} {args : Array Value} {c0 : Cond} (hts : ∀ w ∈ c0 :: ct_T, w.before args s = true) (hR : ({ frames := 3, cells := 0, slots := 0, locals := 71 } : Room).frames + 1 ≤ R.frames ∧ 8 + (6 + 11) + ({ frames := 3, cells := 0, slots := 0, locals := 71 } : Room).locals ≤ R.locals) : CallW R s args "RoundedNumbersLaw" "RoundedNumbers" 94 ⟨"RoundedNumbers", "whole", "(II)J"⟩ prog_1_method_18_code 6 (some .long) (.code ⟨"RoundedNumbers", "whole", "(II)J"⟩ prog_1_method_18_code 6 (some .long) :: ct_T) { frames := 3, cells := 0, slots := 0, locals := 71 } 0 0 2 := cwV 2 hts (ct_giV mw_517 mw_518 mw_519 mw_5 mw_516) rfl rfl rfl ⟨rfl, by decide, by decide, by decide +kernel⟩ hR
theorem kc_LL_98 {R : Room} {s : State} {args : Array Value} {c0 : Cond} (hts : ∀ w ∈ c0 :: ct_T, w.before args s = true) (hR : ({ frames := 1, cells := 0, slots := 0, locals := 23 } : Room).frames + 1 ≤ R.frames ∧ 8 + (9 + 11) + ({ frames := 1, cells := 0, slots := 0, locals := 23 } : Room).locals ≤ R.locals) : CallW R s args "RoundedNumbersLaw" "RoundedNumbersModel" 98 ⟨"RoundedNumbersModel", "whole", "(II)J"⟩ prog_6_method_48_code 9 (some .long) (.code ⟨"RoundedNumbersModel", "whole", "(II)J"⟩ prog_6_method_48_code 9 (some .long) :: ct_T) { frames := 1, cells := 0, slots := 0, locals := 23 } 0 0 2 := cwV 2 hts (ct_giV mw_521 mw_522 mw_523 mw_258 mw_520) rfl rfl rfl ⟨rfl, by decide, by decide, by decide +kernel⟩ hR
/-! Calls from the law: two worlds side by side, the called one changes, the other stays. -/
section LWC
variable {S : Type} {D : va_G} {cl : List vw_C} {tys : List (ClassId × FieldType)} {g : S → va_W} {X : Nat → Prop} {st t : S} {cc : ByteArray} {av : List Value} {w2 : va_W}
variable {p : Program} {l : Launch} {e : Env} {R : Room} {s : State} {m : MethodId} {args : Array Value} {below : List Frame} {meth : Method} {c : Code} {H : Heap} {locs : List Loc} {cells slots : Nat} {Q : State → Prop} {pc : Nat} {ls : Array Slot} {st0 rest : List Value} {a : Array Value}
theorem lw_keep {H1 : Heap} (h2 : va_P D cl w2 H) (hd : ∀ (k : Nat) (q : Nat × va_E), w2[k]? = some q → ¬ X q.1) (hk : ∀ q : Nat, q < H.size → ¬ ct_F X H.size q → H1[q]? = H[q]?) : va_P D cl w2 H1 := h2.kept (fun k q hq => by
  have h3 := (h2 k q hq).lt
  refine hk q.1 h3 (fun h => ?_)
  rcases h with h | h
  · exact hd k q hq h
  · omega)
theorem lw_sub {H0 : Heap} (hX : ∀ q, X q → H0.size ≤ q) (hS : va_S (fun q => H0.size ≤ q) H0 H locs) : ∀ q, ct_F X H.size q → H0.size ≤ q := fun q h => h.elim (hX q) (fun h2 => Nat.le_trans hS.1 h2)
theorem lw_ci {r : Int32} (hr : va_Run p l e R s m args below meth c H locs cells slots 0 0 (F0 m pc ls st0) rest (va_Qi (fun x (_ : Unit) => x = r) (fun _ T => va_P D cl (g t) T.heap) (ct_F X H.size) a) (ct_F X H.size)) (hX : ∀ q, X q → s.heap.size ≤ q) (h2 : va_P D cl w2 H) (hd : ∀ (k : Nat) (q : Nat × va_E), w2[k]? = some q → ¬ X q.1) (hS : va_S (fun q => s.heap.size ≤ q) s.heap H locs)
    (kk : ∀ (H1 : Heap) (locs1 : List Loc), va_P D cl (g t) H1 → va_P D cl w2 H1 → va_S (fun q => s.heap.size ≤ q) s.heap H1 locs1 → W p l e R s m args below meth c H1 locs1 cells slots Q (F0 m (pc + 3) ls (.int r :: rest))) : W p l e R s m args below meth c H locs cells slots Q (F0 m pc ls st0) :=
  va_calli hr hS (fun q _ h => lw_sub hX hS q h) (lw_sub hX hS) (fun r' u t' H1 locs1 ht hvm hp hB hz hk hS1 => by
    subst hp
    rw [ht] at hB
    exact kk H1 locs1 hB (lw_keep h2 hd hk) hS1)
theorem lw_cl {r : Int64} (hr : va_Run p l e R s m args below meth c H locs cells slots 0 0 (F0 m pc ls st0) rest (va_Ql (fun x (_ : Unit) => x = r) (fun _ T => va_P D cl (g t) T.heap) (ct_F X H.size) a) (ct_F X H.size)) (hX : ∀ q, X q → s.heap.size ≤ q) (h2 : va_P D cl w2 H) (hd : ∀ (k : Nat) (q : Nat × va_E), w2[k]? = some q → ¬ X q.1) (hS : va_S (fun q => s.heap.size ≤ q) s.heap H locs)
    (kk : ∀ (H1 : Heap) (locs1 : List Loc), va_P D cl (g t) H1 → va_P D cl w2 H1 → va_S (fun q => s.heap.size ≤ q) s.heap H1 locs1 → W p l e R s m args below meth c H1 locs1 cells slots Q (F0 m (pc + 3) ls (.long r :: rest))) : W p l e R s m args below meth c H locs cells slots Q (F0 m pc ls st0) :=
  va_calll hr hS (fun q _ h => lw_sub hX hS q h) (lw_sub hX hS) (fun r' u t' H1 locs1 ht hvm hp hB hz hk hS1 => by
    subst hp
    rw [ht] at hB
    exact kk H1 locs1 hB (lw_keep h2 hd hk) hS1)
theorem lw_ld (hx : p.tables.exec = Jvm.exec) (hb : c.code = cc) {b L k j : Nat} {jj : Int32} {xs : Nat → Int32} (hX : va_X b L xs s s.heap) (hbl : b < s.heap.size) (hS : va_S (fun q => s.heap.size ≤ q) s.heap H locs) (hj : jj = nI j) (hk : k + j < L) (hL : L < 2147483648) (hdg : decode cc pc = .ok (.iaload, 1))
    (kk : W p l e R s m args below meth c H locs cells slots Q (F0 m (pc + 1) ls (.int (xs (k + j)) :: rest))) : W p l e R s m args below meth c H locs cells slots Q (F0 m pc ls (.int (nI k + jj) :: .ref b :: rest)) := by
  subst hj
  rw [nI_add]
  refine va_sld hx hb hX hbl (fun h => by have h2 : s.heap.size ≤ b := h; omega) hS (vp_in_nI hk (by omega)) hdg ?_
  rw [nI_clamp (by omega)]
  exact kk
end LWC
def lw_ctx (p : Program) (s : State) (m : MethodId) (c : Code) (b L : Nat) (xs : Nat → Int32) (D : va_G) (a b2 : Nat → Nat) (ci co cm : ClassId) : Prop :=
  p.tables.exec = Jvm.exec ∧ c.code = code ∧ c.maxLocals = 4 ∧ s.vm.findClass R_law = some m.cls ∧ (∀ w ∈ lw_tbl, w.before #[Value.ref b] s = true) ∧ va_X b L xs s s.heap ∧ b < s.heap.size ∧ va_K D vwCl (rn_T ci co) s ∧ va_K D vwCl (rm_T cm) s ∧ ct_nw s ∧ rn_inj a ∧ rm_inj b2 ∧ (∀ k, k < 28 → s.heap.size ≤ a k) ∧ (∀ k, k < 11 → s.heap.size ≤ b2 k) ∧ (∀ j k, j < 28 → k < 11 → a j ≠ b2 k)
theorem lw_t2 {s : State} {args : Array Value} (h : ∀ w ∈ lw_tbl, w.before args s = true) : ∀ w ∈ Cond.initialized "RoundedNumbersLaw" :: ct_T, w.before args s = true := fun w hw => (List.mem_cons.mp hw).elim (fun e => e ▸ h _ (List.mem_filter.mp mw_389).1) (fun h2 => h w (List.mem_filter.mp h2).1)
theorem lw_xa {a : Nat → Nat} {n : Nat} (h : ∀ k, k < 28 → n ≤ a k) : ∀ q, rn_X a q → n ≤ q := fun q ⟨k, hk, e⟩ => e ▸ h k hk
theorem lw_xb {b : Nat → Nat} {n : Nat} (h : ∀ k, k < 11 → n ≤ b k) : ∀ q, rm_X b q → n ≤ q := fun q ⟨k, hk, e⟩ => e ▸ h k hk
theorem lw_da {a b : Nat → Nat} {cm : ClassId} {ms : rm_S} (h : ∀ j k, j < 28 → k < 11 → a j ≠ b k) : ∀ (k : Nat) (q : Nat × va_E), (rm_g b cm ms)[k]? = some q → ¬ rn_X a q.1 := fun k q hq ⟨j, hj, e⟩ => h j k hj (rm_adr hq).1 (e.trans (rm_adr hq).2.symm)
theorem lw_db {a b : Nat → Nat} {ci co : ClassId} {st : rn_S} (h : ∀ j k, j < 28 → k < 11 → a j ≠ b k) : ∀ (k : Nat) (q : Nat × va_E), (rn_g a ci co st)[k]? = some q → ¬ rm_X b q.1 := fun k q hq ⟨j, hj, e⟩ => h k j (rn_adr hq).1 hj ((rn_adr hq).2.trans e.symm)
