set_option maxRecDepth 100000 in
theorem mw_255 : Cond.code ⟨"RoundedNumbersModel", "isRegister", "(I)Z"⟩ prog_6_method_2_code 1 (some .boolean) ∈ ct_T := ct_in (List.mem_of_getElem? (i := 412) rfl) rfl
set_option maxRecDepth 100000 in
theorem mw_256 : Cond.methodLink "RoundedNumbersModel" 40 ⟨"RoundedNumbersModel", "isRegister", "(I)Z"⟩ ∈ ct_T := ct_in (List.mem_of_getElem? (i := 410) (by decide +kernel)) rfl
set_option maxRecDepth 100000 in
theorem mw_257 : Cond.static ⟨"RoundedNumbersModel", "isRegister", "(I)Z"⟩ ∈ ct_T := ct_in (List.mem_of_getElem? (i := 411) (by decide +kernel)) rfl
set_option maxRecDepth 100000 in
theorem mw_258 : Cond.initialized "RoundedNumbersModel" ∈ ct_T := ct_in (List.mem_of_getElem? (i := 7) (by decide +kernel)) rfl
set_option maxRecDepth 100000 in
theorem mw_259 : Cond.fieldLink "RoundedNumbersModel" 7 "RoundedNumbersModel" "precisions" "[I" ∈ ct_T := ct_in (List.mem_of_getElem? (i := 375) (by decide +kernel)) rfl
set_option maxRecDepth 100000 in
theorem mw_260 : Cond.fieldLink "RoundedNumbersModel" 13 "RoundedNumbersModel" "kinds" "[I" ∈ ct_T := ct_in (List.mem_of_getElem? (i := 376) (by decide +kernel)) rfl
set_option maxRecDepth 100000 in
theorem mw_261 : Cond.fieldLink "RoundedNumbersModel" 16 "RoundedNumbersModel" "signs" "[I" ∈ ct_T := ct_in (List.mem_of_getElem? (i := 377) (by decide +kernel)) rfl
set_option maxRecDepth 100000 in
theorem mw_262 : Cond.fieldLink "RoundedNumbersModel" 19 "RoundedNumbersModel" "exponents" "[I" ∈ ct_T := ct_in (List.mem_of_getElem? (i := 378) (by decide +kernel)) rfl
set_option maxRecDepth 100000 in
theorem mw_263 : Cond.fieldLink "RoundedNumbersModel" 22 "RoundedNumbersModel" "bits" "[I" ∈ ct_T := ct_in (List.mem_of_getElem? (i := 379) (by decide +kernel)) rfl
set_option maxRecDepth 100000 in
theorem mw_264 : Cond.fieldLink "RoundedNumbersModel" 25 "RoundedNumbersModel" "row" "[I" ∈ ct_T := ct_in (List.mem_of_getElem? (i := 380) (by decide +kernel)) rfl
set_option maxRecDepth 100000 in
theorem mw_265 : Cond.code ⟨"RoundedNumbersModel", "anyBelow", "(I)Z"⟩ prog_6_method_9_code 4 (some .boolean) ∈ ct_T := ct_in (List.mem_of_getElem? (i := 443) rfl) rfl
set_option maxRecDepth 100000 in
theorem mw_266 : Cond.methodLink "RoundedNumbersModel" 44 ⟨"RoundedNumbersModel", "anyBelow", "(I)Z"⟩ ∈ ct_T := ct_in (List.mem_of_getElem? (i := 440) (by decide +kernel)) rfl
set_option maxRecDepth 100000 in
theorem mw_267 : Cond.instanceMethod ⟨"RoundedNumbersModel", "anyBelow", "(I)Z"⟩ ∈ ct_T := ct_in (List.mem_of_getElem? (i := 442) (by decide +kernel)) rfl
theorem mw_268 : Cond.selects "RoundedNumbersModel" ⟨"RoundedNumbersModel", "anyBelow", "(I)Z"⟩ ⟨"RoundedNumbersModel", "anyBelow", "(I)Z"⟩ ∈ ct_T := ct_ins (List.mem_of_getElem? (i := 19) (by decide +kernel)) rfl
set_option maxRecDepth 100000 in
theorem mw_269 : Cond.code ⟨"RoundedNumbersModel", "grows", "(II)Z"⟩ prog_6_method_10_code 2 (some .boolean) ∈ ct_T := ct_in (List.mem_of_getElem? (i := 450) rfl) rfl
set_option maxRecDepth 100000 in
theorem mw_270 : Cond.methodLink "RoundedNumbersModel" 47 ⟨"RoundedNumbersModel", "grows", "(II)Z"⟩ ∈ ct_T := ct_in (List.mem_of_getElem? (i := 448) (by decide +kernel)) rfl
set_option maxRecDepth 100000 in
theorem mw_271 : Cond.static ⟨"RoundedNumbersModel", "grows", "(II)Z"⟩ ∈ ct_T := ct_in (List.mem_of_getElem? (i := 449) (by decide +kernel)) rfl
set_option maxRecDepth 100000 in
theorem mw_272 : Cond.code ⟨"RoundedNumbersModel", "highest", "()I"⟩ prog_6_method_8_code 2 (some .int) ∈ ct_T := ct_in (List.mem_of_getElem? (i := 439) rfl) rfl
set_option maxRecDepth 100000 in
theorem mw_273 : Cond.methodLink "RoundedNumbersModel" 51 ⟨"RoundedNumbersModel", "highest", "()I"⟩ ∈ ct_T := ct_in (List.mem_of_getElem? (i := 436) (by decide +kernel)) rfl
set_option maxRecDepth 100000 in
theorem mw_274 : Cond.instanceMethod ⟨"RoundedNumbersModel", "highest", "()I"⟩ ∈ ct_T := ct_in (List.mem_of_getElem? (i := 438) (by decide +kernel)) rfl
theorem mw_275 : Cond.selects "RoundedNumbersModel" ⟨"RoundedNumbersModel", "highest", "()I"⟩ ⟨"RoundedNumbersModel", "highest", "()I"⟩ ∈ ct_T := ct_ins (List.mem_of_getElem? (i := 18) (by decide +kernel)) rfl
set_option maxRecDepth 100000 in
theorem mw_276 : Cond.code ⟨"RoundedNumbersModel", "goesUp", "(IIII)Z"⟩ prog_6_method_11_code 8 (some .boolean) ∈ ct_T := ct_in (List.mem_of_getElem? (i := 447) rfl) rfl
set_option maxRecDepth 100000 in
theorem mw_277 : Cond.methodLink "RoundedNumbersModel" 55 ⟨"RoundedNumbersModel", "goesUp", "(IIII)Z"⟩ ∈ ct_T := ct_in (List.mem_of_getElem? (i := 444) (by decide +kernel)) rfl
set_option maxRecDepth 100000 in
theorem mw_278 : Cond.instanceMethod ⟨"RoundedNumbersModel", "goesUp", "(IIII)Z"⟩ ∈ ct_T := ct_in (List.mem_of_getElem? (i := 446) (by decide +kernel)) rfl
theorem mw_279 : Cond.selects "RoundedNumbersModel" ⟨"RoundedNumbersModel", "goesUp", "(IIII)Z"⟩ ⟨"RoundedNumbersModel", "goesUp", "(IIII)Z"⟩ ∈ ct_T := ct_ins (List.mem_of_getElem? (i := 20) (by decide +kernel)) rfl
set_option maxRecDepth 100000 in
theorem mw_280 : Cond.fieldLink "RoundedNumbersModel" 28 "RoundedNumbersModel" "other" "[I" ∈ ct_T := ct_in (List.mem_of_getElem? (i := 381) (by decide +kernel)) rfl
set_option maxRecDepth 100000 in
theorem mw_281 : Cond.code ⟨"RoundedNumbersModel", "keepLeast", "(II)I"⟩ prog_6_method_7_code 4 (some .int) ∈ ct_T := ct_in (List.mem_of_getElem? (i := 458) rfl) rfl
set_option maxRecDepth 100000 in
theorem mw_282 : Cond.methodLink "RoundedNumbersModel" 67 ⟨"RoundedNumbersModel", "keepLeast", "(II)I"⟩ ∈ ct_T := ct_in (List.mem_of_getElem? (i := 455) (by decide +kernel)) rfl
set_option maxRecDepth 100000 in
theorem mw_283 : Cond.instanceMethod ⟨"RoundedNumbersModel", "keepLeast", "(II)I"⟩ ∈ ct_T := ct_in (List.mem_of_getElem? (i := 457) (by decide +kernel)) rfl
theorem mw_284 : Cond.selects "RoundedNumbersModel" ⟨"RoundedNumbersModel", "keepLeast", "(II)I"⟩ ⟨"RoundedNumbersModel", "keepLeast", "(II)I"⟩ ∈ ct_T := ct_ins (List.mem_of_getElem? (i := 22) (by decide +kernel)) rfl
set_option maxRecDepth 100000 in
theorem mw_285 : Cond.code ⟨"RoundedNumbersModel", "keep", "(III)I"⟩ prog_6_method_5_code 4 (some .int) ∈ ct_T := ct_in (List.mem_of_getElem? (i := 427) rfl) rfl
set_option maxRecDepth 100000 in
theorem mw_286 : Cond.methodLink "RoundedNumbersModel" 59 ⟨"RoundedNumbersModel", "keep", "(III)I"⟩ ∈ ct_T := ct_in (List.mem_of_getElem? (i := 424) (by decide +kernel)) rfl
set_option maxRecDepth 100000 in
theorem mw_287 : Cond.instanceMethod ⟨"RoundedNumbersModel", "keep", "(III)I"⟩ ∈ ct_T := ct_in (List.mem_of_getElem? (i := 426) (by decide +kernel)) rfl
theorem mw_288 : Cond.selects "RoundedNumbersModel" ⟨"RoundedNumbersModel", "keep", "(III)I"⟩ ⟨"RoundedNumbersModel", "keep", "(III)I"⟩ ∈ ct_T := ct_ins (List.mem_of_getElem? (i := 15) (by decide +kernel)) rfl
set_option maxRecDepth 100000 in
theorem mw_289 : Cond.code ⟨"RoundedNumbersModel", "keepGreatest", "(II)I"⟩ prog_6_method_6_code 4 (some .int) ∈ ct_T := ct_in (List.mem_of_getElem? (i := 454) rfl) rfl
set_option maxRecDepth 100000 in
theorem mw_290 : Cond.methodLink "RoundedNumbersModel" 63 ⟨"RoundedNumbersModel", "keepGreatest", "(II)I"⟩ ∈ ct_T := ct_in (List.mem_of_getElem? (i := 451) (by decide +kernel)) rfl
set_option maxRecDepth 100000 in
theorem mw_291 : Cond.instanceMethod ⟨"RoundedNumbersModel", "keepGreatest", "(II)I"⟩ ∈ ct_T := ct_in (List.mem_of_getElem? (i := 453) (by decide +kernel)) rfl
theorem mw_292 : Cond.selects "RoundedNumbersModel" ⟨"RoundedNumbersModel", "keepGreatest", "(II)I"⟩ ⟨"RoundedNumbersModel", "keepGreatest", "(II)I"⟩ ∈ ct_T := ct_ins (List.mem_of_getElem? (i := 21) (by decide +kernel)) rfl
set_option maxRecDepth 100000 in
theorem mw_293 : Cond.code ⟨"RoundedNumbersModel", "compareRows", "()I"⟩ prog_6_method_16_code 2 (some .int) ∈ ct_T := ct_in (List.mem_of_getElem? (i := 495) rfl) rfl
set_option maxRecDepth 100000 in
theorem mw_294 : Cond.methodLink "RoundedNumbersModel" 70 ⟨"RoundedNumbersModel", "compareRows", "()I"⟩ ∈ ct_T := ct_in (List.mem_of_getElem? (i := 492) (by decide +kernel)) rfl
set_option maxRecDepth 100000 in
theorem mw_295 : Cond.instanceMethod ⟨"RoundedNumbersModel", "compareRows", "()I"⟩ ∈ ct_T := ct_in (List.mem_of_getElem? (i := 494) (by decide +kernel)) rfl
theorem mw_296 : Cond.selects "RoundedNumbersModel" ⟨"RoundedNumbersModel", "compareRows", "()I"⟩ ⟨"RoundedNumbersModel", "compareRows", "()I"⟩ ∈ ct_T := ct_ins (List.mem_of_getElem? (i := 28) (by decide +kernel)) rfl
set_option maxRecDepth 100000 in
theorem mw_297 : Cond.code ⟨"RoundedNumbersModel", "isMode", "(I)Z"⟩ prog_6_method_3_code 1 (some .boolean) ∈ ct_T := ct_in (List.mem_of_getElem? (i := 423) rfl) rfl
set_option maxRecDepth 100000 in
theorem mw_298 : Cond.methodLink "RoundedNumbersModel" 77 ⟨"RoundedNumbersModel", "isMode", "(I)Z"⟩ ∈ ct_T := ct_in (List.mem_of_getElem? (i := 421) (by decide +kernel)) rfl
set_option maxRecDepth 100000 in
theorem mw_299 : Cond.static ⟨"RoundedNumbersModel", "isMode", "(I)Z"⟩ ∈ ct_T := ct_in (List.mem_of_getElem? (i := 422) (by decide +kernel)) rfl
set_option maxRecDepth 100000 in
theorem mw_300 : Cond.code ⟨"RoundedNumbersModel", "clear", "()V"⟩ prog_6_method_13_code 2 none ∈ ct_T := ct_in (List.mem_of_getElem? (i := 431) rfl) rfl
set_option maxRecDepth 100000 in
theorem mw_301 : Cond.methodLink "RoundedNumbersModel" 80 ⟨"RoundedNumbersModel", "clear", "()V"⟩ ∈ ct_T := ct_in (List.mem_of_getElem? (i := 428) (by decide +kernel)) rfl
set_option maxRecDepth 100000 in
theorem mw_302 : Cond.instanceMethod ⟨"RoundedNumbersModel", "clear", "()V"⟩ ∈ ct_T := ct_in (List.mem_of_getElem? (i := 430) (by decide +kernel)) rfl
theorem mw_303 : Cond.selects "RoundedNumbersModel" ⟨"RoundedNumbersModel", "clear", "()V"⟩ ⟨"RoundedNumbersModel", "clear", "()V"⟩ ∈ ct_T := ct_ins (List.mem_of_getElem? (i := 16) (by decide +kernel)) rfl
set_option maxRecDepth 100000 in
theorem mw_304 : Cond.code ⟨"RoundedNumbersModel", "round", "(III)I"⟩ prog_6_method_12_code 12 (some .int) ∈ ct_T := ct_in (List.mem_of_getElem? (i := 435) rfl) rfl
set_option maxRecDepth 100000 in
theorem mw_305 : Cond.methodLink "RoundedNumbersModel" 83 ⟨"RoundedNumbersModel", "round", "(III)I"⟩ ∈ ct_T := ct_in (List.mem_of_getElem? (i := 432) (by decide +kernel)) rfl
set_option maxRecDepth 100000 in
theorem mw_306 : Cond.instanceMethod ⟨"RoundedNumbersModel", "round", "(III)I"⟩ ∈ ct_T := ct_in (List.mem_of_getElem? (i := 434) (by decide +kernel)) rfl
theorem mw_307 : Cond.selects "RoundedNumbersModel" ⟨"RoundedNumbersModel", "round", "(III)I"⟩ ⟨"RoundedNumbersModel", "round", "(III)I"⟩ ∈ ct_T := ct_ins (List.mem_of_getElem? (i := 17) (by decide +kernel)) rfl
set_option maxRecDepth 100000 in
theorem mw_308 : Cond.code ⟨"RoundedNumbersModel", "loadScaled", "(IJII)I"⟩ prog_6_method_19_code 9 (some .int) ∈ ct_T := ct_in (List.mem_of_getElem? (i := 420) rfl) rfl
set_option maxRecDepth 100000 in
theorem mw_309 : Cond.methodLink "RoundedNumbersModel" 73 ⟨"RoundedNumbersModel", "loadScaled", "(IJII)I"⟩ ∈ ct_T := ct_in (List.mem_of_getElem? (i := 417) (by decide +kernel)) rfl
set_option maxRecDepth 100000 in
theorem mw_310 : Cond.instanceMethod ⟨"RoundedNumbersModel", "loadScaled", "(IJII)I"⟩ ∈ ct_T := ct_in (List.mem_of_getElem? (i := 418) (by decide +kernel)) rfl
set_option maxRecDepth 100000 in
theorem mw_311 : Cond.selects "RoundedNumbersModel" ⟨"RoundedNumbersModel", "loadScaled", "(IJII)I"⟩ ⟨"RoundedNumbersModel", "loadScaled", "(IJII)I"⟩ ∈ ct_T := ct_in (List.mem_of_getElem? (i := 419) (by decide +kernel)) rfl
set_option maxRecDepth 100000 in
theorem mw_312 : Cond.code ⟨"RoundedNumbersModel", "put", "(I)V"⟩ prog_6_method_14_code 3 none ∈ ct_T := ct_in (List.mem_of_getElem? (i := 471) rfl) rfl
set_option maxRecDepth 100000 in
theorem mw_313 : Cond.methodLink "RoundedNumbersModel" 86 ⟨"RoundedNumbersModel", "put", "(I)V"⟩ ∈ ct_T := ct_in (List.mem_of_getElem? (i := 468) (by decide +kernel)) rfl
set_option maxRecDepth 100000 in
theorem mw_314 : Cond.instanceMethod ⟨"RoundedNumbersModel", "put", "(I)V"⟩ ∈ ct_T := ct_in (List.mem_of_getElem? (i := 470) (by decide +kernel)) rfl
theorem mw_315 : Cond.selects "RoundedNumbersModel" ⟨"RoundedNumbersModel", "put", "(I)V"⟩ ⟨"RoundedNumbersModel", "put", "(I)V"⟩ ∈ ct_T := ct_ins (List.mem_of_getElem? (i := 24) (by decide +kernel)) rfl
set_option maxRecDepth 100000 in
theorem mw_316 : Cond.code ⟨"RoundedNumbersModel", "move", "(IIII)I"⟩ prog_6_method_20_code 5 (some .int) ∈ ct_T := ct_in (List.mem_of_getElem? (i := 467) rfl) rfl
set_option maxRecDepth 100000 in
theorem mw_317 : Cond.methodLink "RoundedNumbersModel" 90 ⟨"RoundedNumbersModel", "move", "(IIII)I"⟩ ∈ ct_T := ct_in (List.mem_of_getElem? (i := 464) (by decide +kernel)) rfl
set_option maxRecDepth 100000 in
theorem mw_318 : Cond.instanceMethod ⟨"RoundedNumbersModel", "move", "(IIII)I"⟩ ∈ ct_T := ct_in (List.mem_of_getElem? (i := 466) (by decide +kernel)) rfl
theorem mw_319 : Cond.selects "RoundedNumbersModel" ⟨"RoundedNumbersModel", "move", "(IIII)I"⟩ ⟨"RoundedNumbersModel", "move", "(IIII)I"⟩ ∈ ct_T := ct_ins (List.mem_of_getElem? (i := 23) (by decide +kernel)) rfl
set_option maxRecDepth 100000 in
theorem mw_320 : Cond.code ⟨"RoundedNumbersModel", "sumWith", "(III)I"⟩ prog_6_method_17_code 8 (some .int) ∈ ct_T := ct_in (List.mem_of_getElem? (i := 491) rfl) rfl
set_option maxRecDepth 100000 in
theorem mw_321 : Cond.methodLink "RoundedNumbersModel" 97 ⟨"RoundedNumbersModel", "sumWith", "(III)I"⟩ ∈ ct_T := ct_in (List.mem_of_getElem? (i := 488) (by decide +kernel)) rfl
set_option maxRecDepth 100000 in
theorem mw_322 : Cond.instanceMethod ⟨"RoundedNumbersModel", "sumWith", "(III)I"⟩ ∈ ct_T := ct_in (List.mem_of_getElem? (i := 490) (by decide +kernel)) rfl
theorem mw_323 : Cond.selects "RoundedNumbersModel" ⟨"RoundedNumbersModel", "sumWith", "(III)I"⟩ ⟨"RoundedNumbersModel", "sumWith", "(III)I"⟩ ∈ ct_T := ct_ins (List.mem_of_getElem? (i := 27) (by decide +kernel)) rfl
set_option maxRecDepth 100000 in
theorem mw_324 : Cond.code ⟨"RoundedNumbersModel", "nothing", "(II)I"⟩ prog_6_method_23_code 3 (some .int) ∈ ct_T := ct_in (List.mem_of_getElem? (i := 487) rfl) rfl
set_option maxRecDepth 100000 in
theorem mw_325 : Cond.methodLink "RoundedNumbersModel" 94 ⟨"RoundedNumbersModel", "nothing", "(II)I"⟩ ∈ ct_T := ct_in (List.mem_of_getElem? (i := 484) (by decide +kernel)) rfl
set_option maxRecDepth 100000 in
theorem mw_326 : Cond.instanceMethod ⟨"RoundedNumbersModel", "nothing", "(II)I"⟩ ∈ ct_T := ct_in (List.mem_of_getElem? (i := 486) (by decide +kernel)) rfl
theorem mw_327 : Cond.selects "RoundedNumbersModel" ⟨"RoundedNumbersModel", "nothing", "(II)I"⟩ ⟨"RoundedNumbersModel", "nothing", "(II)I"⟩ ∈ ct_T := ct_ins (List.mem_of_getElem? (i := 26) (by decide +kernel)) rfl
set_option maxRecDepth 100000 in
theorem mw_328 : Cond.code ⟨"RoundedNumbersModel", "sum", "(IIIII)I"⟩ prog_6_method_24_code 9 (some .int) ∈ ct_T := ct_in (List.mem_of_getElem? (i := 483) rfl) rfl
set_option maxRecDepth 100000 in
theorem mw_329 : Cond.methodLink "RoundedNumbersModel" 100 ⟨"RoundedNumbersModel", "sum", "(IIIII)I"⟩ ∈ ct_T := ct_in (List.mem_of_getElem? (i := 480) (by decide +kernel)) rfl
set_option maxRecDepth 100000 in
theorem mw_330 : Cond.instanceMethod ⟨"RoundedNumbersModel", "sum", "(IIIII)I"⟩ ∈ ct_T := ct_in (List.mem_of_getElem? (i := 482) (by decide +kernel)) rfl
theorem mw_331 : Cond.selects "RoundedNumbersModel" ⟨"RoundedNumbersModel", "sum", "(IIIII)I"⟩ ⟨"RoundedNumbersModel", "sum", "(IIIII)I"⟩ ∈ ct_T := ct_ins (List.mem_of_getElem? (i := 25) (by decide +kernel)) rfl
set_option maxRecDepth 100000 in
theorem mw_332 : Cond.code ⟨"RoundedNumbersModel", "productKind", "(II)I"⟩ prog_6_method_27_code 5 (some .int) ∈ ct_T := ct_in (List.mem_of_getElem? (i := 507) rfl) rfl
set_option maxRecDepth 100000 in
theorem mw_333 : Cond.methodLink "RoundedNumbersModel" 104 ⟨"RoundedNumbersModel", "productKind", "(II)I"⟩ ∈ ct_T := ct_in (List.mem_of_getElem? (i := 504) (by decide +kernel)) rfl
set_option maxRecDepth 100000 in
theorem mw_334 : Cond.instanceMethod ⟨"RoundedNumbersModel", "productKind", "(II)I"⟩ ∈ ct_T := ct_in (List.mem_of_getElem? (i := 506) (by decide +kernel)) rfl
theorem mw_335 : Cond.selects "RoundedNumbersModel" ⟨"RoundedNumbersModel", "productKind", "(II)I"⟩ ⟨"RoundedNumbersModel", "productKind", "(II)I"⟩ ∈ ct_T := ct_ins (List.mem_of_getElem? (i := 29) (by decide +kernel)) rfl
set_option maxRecDepth 100000 in
theorem mw_336 : Cond.code ⟨"RoundedNumbersModel", "putProduct", "(II)V"⟩ prog_6_method_15_code 6 none ∈ ct_T := ct_in (List.mem_of_getElem? (i := 511) rfl) rfl
set_option maxRecDepth 100000 in
theorem mw_337 : Cond.methodLink "RoundedNumbersModel" 107 ⟨"RoundedNumbersModel", "putProduct", "(II)V"⟩ ∈ ct_T := ct_in (List.mem_of_getElem? (i := 508) (by decide +kernel)) rfl
set_option maxRecDepth 100000 in
theorem mw_338 : Cond.instanceMethod ⟨"RoundedNumbersModel", "putProduct", "(II)V"⟩ ∈ ct_T := ct_in (List.mem_of_getElem? (i := 510) (by decide +kernel)) rfl
theorem mw_339 : Cond.selects "RoundedNumbersModel" ⟨"RoundedNumbersModel", "putProduct", "(II)V"⟩ ⟨"RoundedNumbersModel", "putProduct", "(II)V"⟩ ∈ ct_T := ct_ins (List.mem_of_getElem? (i := 30) (by decide +kernel)) rfl
set_option maxRecDepth 100000 in
theorem mw_340 : Cond.fieldLink "RoundedNumbersModel" 31 "RoundedNumbersModel" "rest" "[I" ∈ ct_T := ct_in (List.mem_of_getElem? (i := 382) (by decide +kernel)) rfl
set_option maxRecDepth 100000 in
theorem mw_341 : Cond.fieldLink "RoundedNumbersModel" 34 "RoundedNumbersModel" "part" "[I" ∈ ct_T := ct_in (List.mem_of_getElem? (i := 383) (by decide +kernel)) rfl
set_option maxRecDepth 100000 in
theorem mw_342 : Cond.code ⟨"RoundedNumbersModel", "isLeft", "()Z"⟩ prog_6_method_33_code 3 (some .boolean) ∈ ct_T := ct_in (List.mem_of_getElem? (i := 543) rfl) rfl
set_option maxRecDepth 100000 in
theorem mw_343 : Cond.methodLink "RoundedNumbersModel" 124 ⟨"RoundedNumbersModel", "isLeft", "()Z"⟩ ∈ ct_T := ct_in (List.mem_of_getElem? (i := 540) (by decide +kernel)) rfl
set_option maxRecDepth 100000 in
theorem mw_344 : Cond.instanceMethod ⟨"RoundedNumbersModel", "isLeft", "()Z"⟩ ∈ ct_T := ct_in (List.mem_of_getElem? (i := 542) (by decide +kernel)) rfl
theorem mw_345 : Cond.selects "RoundedNumbersModel" ⟨"RoundedNumbersModel", "isLeft", "()Z"⟩ ⟨"RoundedNumbersModel", "isLeft", "()Z"⟩ ∈ ct_T := ct_ins (List.mem_of_getElem? (i := 36) (by decide +kernel)) rfl
set_option maxRecDepth 100000 in
theorem mw_346 : Cond.code ⟨"RoundedNumbersModel", "reaches", "()Z"⟩ prog_6_method_30_code 2 (some .boolean) ∈ ct_T := ct_in (List.mem_of_getElem? (i := 531) rfl) rfl
set_option maxRecDepth 100000 in
theorem mw_347 : Cond.methodLink "RoundedNumbersModel" 114 ⟨"RoundedNumbersModel", "reaches", "()Z"⟩ ∈ ct_T := ct_in (List.mem_of_getElem? (i := 528) (by decide +kernel)) rfl
set_option maxRecDepth 100000 in
theorem mw_348 : Cond.instanceMethod ⟨"RoundedNumbersModel", "reaches", "()Z"⟩ ∈ ct_T := ct_in (List.mem_of_getElem? (i := 530) (by decide +kernel)) rfl
theorem mw_349 : Cond.selects "RoundedNumbersModel" ⟨"RoundedNumbersModel", "reaches", "()Z"⟩ ⟨"RoundedNumbersModel", "reaches", "()Z"⟩ ∈ ct_T := ct_ins (List.mem_of_getElem? (i := 33) (by decide +kernel)) rfl
set_option maxRecDepth 100000 in
theorem mw_350 : Cond.code ⟨"RoundedNumbersModel", "doubleRest", "(I)V"⟩ prog_6_method_32_code 3 none ∈ ct_T := ct_in (List.mem_of_getElem? (i := 539) rfl) rfl
set_option maxRecDepth 100000 in
theorem mw_351 : Cond.methodLink "RoundedNumbersModel" 121 ⟨"RoundedNumbersModel", "doubleRest", "(I)V"⟩ ∈ ct_T := ct_in (List.mem_of_getElem? (i := 536) (by decide +kernel)) rfl
set_option maxRecDepth 100000 in
theorem mw_352 : Cond.instanceMethod ⟨"RoundedNumbersModel", "doubleRest", "(I)V"⟩ ∈ ct_T := ct_in (List.mem_of_getElem? (i := 538) (by decide +kernel)) rfl
theorem mw_353 : Cond.selects "RoundedNumbersModel" ⟨"RoundedNumbersModel", "doubleRest", "(I)V"⟩ ⟨"RoundedNumbersModel", "doubleRest", "(I)V"⟩ ∈ ct_T := ct_ins (List.mem_of_getElem? (i := 35) (by decide +kernel)) rfl
set_option maxRecDepth 100000 in
theorem mw_354 : Cond.code ⟨"RoundedNumbersModel", "takePart", "()V"⟩ prog_6_method_31_code 4 none ∈ ct_T := ct_in (List.mem_of_getElem? (i := 535) rfl) rfl
set_option maxRecDepth 100000 in
theorem mw_355 : Cond.methodLink "RoundedNumbersModel" 118 ⟨"RoundedNumbersModel", "takePart", "()V"⟩ ∈ ct_T := ct_in (List.mem_of_getElem? (i := 532) (by decide +kernel)) rfl
set_option maxRecDepth 100000 in
theorem mw_356 : Cond.instanceMethod ⟨"RoundedNumbersModel", "takePart", "()V"⟩ ∈ ct_T := ct_in (List.mem_of_getElem? (i := 534) (by decide +kernel)) rfl
theorem mw_357 : Cond.selects "RoundedNumbersModel" ⟨"RoundedNumbersModel", "takePart", "()V"⟩ ⟨"RoundedNumbersModel", "takePart", "()V"⟩ ∈ ct_T := ct_ins (List.mem_of_getElem? (i := 34) (by decide +kernel)) rfl
set_option maxRecDepth 100000 in
theorem mw_358 : Cond.code ⟨"RoundedNumbersModel", "bitOf", "(II)I"⟩ prog_6_method_34_code 3 (some .int) ∈ ct_T := ct_in (List.mem_of_getElem? (i := 527) rfl) rfl
set_option maxRecDepth 100000 in
theorem mw_359 : Cond.methodLink "RoundedNumbersModel" 111 ⟨"RoundedNumbersModel", "bitOf", "(II)I"⟩ ∈ ct_T := ct_in (List.mem_of_getElem? (i := 524) (by decide +kernel)) rfl
set_option maxRecDepth 100000 in
theorem mw_360 : Cond.instanceMethod ⟨"RoundedNumbersModel", "bitOf", "(II)I"⟩ ∈ ct_T := ct_in (List.mem_of_getElem? (i := 526) (by decide +kernel)) rfl
theorem mw_361 : Cond.selects "RoundedNumbersModel" ⟨"RoundedNumbersModel", "bitOf", "(II)I"⟩ ⟨"RoundedNumbersModel", "bitOf", "(II)I"⟩ ∈ ct_T := ct_ins (List.mem_of_getElem? (i := 32) (by decide +kernel)) rfl
set_option maxRecDepth 100000 in
theorem mw_362 : Cond.code ⟨"RoundedNumbersModel", "divide", "(II)V"⟩ prog_6_method_35_code 5 none ∈ ct_T := ct_in (List.mem_of_getElem? (i := 523) rfl) rfl
set_option maxRecDepth 100000 in
theorem mw_363 : Cond.methodLink "RoundedNumbersModel" 127 ⟨"RoundedNumbersModel", "divide", "(II)V"⟩ ∈ ct_T := ct_in (List.mem_of_getElem? (i := 520) (by decide +kernel)) rfl
set_option maxRecDepth 100000 in
theorem mw_364 : Cond.instanceMethod ⟨"RoundedNumbersModel", "divide", "(II)V"⟩ ∈ ct_T := ct_in (List.mem_of_getElem? (i := 522) (by decide +kernel)) rfl
theorem mw_365 : Cond.selects "RoundedNumbersModel" ⟨"RoundedNumbersModel", "divide", "(II)V"⟩ ⟨"RoundedNumbersModel", "divide", "(II)V"⟩ ∈ ct_T := ct_ins (List.mem_of_getElem? (i := 31) (by decide +kernel)) rfl
set_option maxRecDepth 100000 in
theorem mw_366 : Cond.fieldLink "RoundedNumbersModel" 37 "RoundedNumbersModel" "root" "[I" ∈ ct_T := ct_in (List.mem_of_getElem? (i := 384) (by decide +kernel)) rfl
set_option maxRecDepth 100000 in
theorem mw_367 : Cond.code ⟨"RoundedNumbersModel", "tryRoot", "()V"⟩ prog_6_method_37_code 2 none ∈ ct_T := ct_in (List.mem_of_getElem? (i := 555) rfl) rfl
set_option maxRecDepth 100000 in
theorem mw_368 : Cond.methodLink "RoundedNumbersModel" 130 ⟨"RoundedNumbersModel", "tryRoot", "()V"⟩ ∈ ct_T := ct_in (List.mem_of_getElem? (i := 552) (by decide +kernel)) rfl
set_option maxRecDepth 100000 in
theorem mw_369 : Cond.instanceMethod ⟨"RoundedNumbersModel", "tryRoot", "()V"⟩ ∈ ct_T := ct_in (List.mem_of_getElem? (i := 554) (by decide +kernel)) rfl
theorem mw_370 : Cond.selects "RoundedNumbersModel" ⟨"RoundedNumbersModel", "tryRoot", "()V"⟩ ⟨"RoundedNumbersModel", "tryRoot", "()V"⟩ ∈ ct_T := ct_ins (List.mem_of_getElem? (i := 38) (by decide +kernel)) rfl
set_option maxRecDepth 100000 in
theorem mw_371 : Cond.code ⟨"RoundedNumbersModel", "growRoot", "(I)V"⟩ prog_6_method_38_code 3 none ∈ ct_T := ct_in (List.mem_of_getElem? (i := 559) rfl) rfl
set_option maxRecDepth 100000 in
theorem mw_372 : Cond.methodLink "RoundedNumbersModel" 133 ⟨"RoundedNumbersModel", "growRoot", "(I)V"⟩ ∈ ct_T := ct_in (List.mem_of_getElem? (i := 556) (by decide +kernel)) rfl
set_option maxRecDepth 100000 in
theorem mw_373 : Cond.instanceMethod ⟨"RoundedNumbersModel", "growRoot", "(I)V"⟩ ∈ ct_T := ct_in (List.mem_of_getElem? (i := 558) (by decide +kernel)) rfl
theorem mw_374 : Cond.selects "RoundedNumbersModel" ⟨"RoundedNumbersModel", "growRoot", "(I)V"⟩ ⟨"RoundedNumbersModel", "growRoot", "(I)V"⟩ ∈ ct_T := ct_ins (List.mem_of_getElem? (i := 39) (by decide +kernel)) rfl
set_option maxRecDepth 100000 in
theorem mw_375 : Cond.code ⟨"RoundedNumbersModel", "takeRoot", "(I)V"⟩ prog_6_method_39_code 8 none ∈ ct_T := ct_in (List.mem_of_getElem? (i := 551) rfl) rfl
set_option maxRecDepth 100000 in
theorem mw_376 : Cond.methodLink "RoundedNumbersModel" 136 ⟨"RoundedNumbersModel", "takeRoot", "(I)V"⟩ ∈ ct_T := ct_in (List.mem_of_getElem? (i := 548) (by decide +kernel)) rfl
set_option maxRecDepth 100000 in
theorem mw_377 : Cond.instanceMethod ⟨"RoundedNumbersModel", "takeRoot", "(I)V"⟩ ∈ ct_T := ct_in (List.mem_of_getElem? (i := 550) (by decide +kernel)) rfl
theorem mw_378 : Cond.selects "RoundedNumbersModel" ⟨"RoundedNumbersModel", "takeRoot", "(I)V"⟩ ⟨"RoundedNumbersModel", "takeRoot", "(I)V"⟩ ∈ ct_T := ct_ins (List.mem_of_getElem? (i := 37) (by decide +kernel)) rfl
set_option maxRecDepth 100000 in
theorem mw_379 : Cond.code ⟨"RoundedNumbersModel", "compareSizes", "(II)I"⟩ prog_6_method_41_code 6 (some .int) ∈ ct_T := ct_in (List.mem_of_getElem? (i := 567) rfl) rfl
set_option maxRecDepth 100000 in
theorem mw_380 : Cond.methodLink "RoundedNumbersModel" 139 ⟨"RoundedNumbersModel", "compareSizes", "(II)I"⟩ ∈ ct_T := ct_in (List.mem_of_getElem? (i := 564) (by decide +kernel)) rfl
set_option maxRecDepth 100000 in
theorem mw_381 : Cond.instanceMethod ⟨"RoundedNumbersModel", "compareSizes", "(II)I"⟩ ∈ ct_T := ct_in (List.mem_of_getElem? (i := 566) (by decide +kernel)) rfl
theorem mw_382 : Cond.selects "RoundedNumbersModel" ⟨"RoundedNumbersModel", "compareSizes", "(II)I"⟩ ⟨"RoundedNumbersModel", "compareSizes", "(II)I"⟩ ∈ ct_T := ct_ins (List.mem_of_getElem? (i := 40) (by decide +kernel)) rfl
set_option maxRecDepth 100000 in
theorem mw_383 : Cond.constantLong "RoundedNumbersModel" 144 (-9223372036854775808) ∈ ct_T := ct_in (List.mem_of_getElem? (i := 592) (by decide +kernel)) rfl
set_option maxRecDepth 100000 in
theorem mw_384 : Cond.constantLong "RoundedNumbersModel" 142 9223372036854775807 ∈ ct_T := ct_in (List.mem_of_getElem? (i := 591) (by decide +kernel)) rfl
set_option maxRecDepth 100000 in
theorem mw_385 : Cond.code ⟨"RoundedNumbersModel", "beyond", "(I)J"⟩ prog_6_method_47_code 1 (some .long) ∈ ct_T := ct_in (List.mem_of_getElem? (i := 590) rfl) rfl
set_option maxRecDepth 100000 in
theorem mw_386 : Cond.methodLink "RoundedNumbersModel" 146 ⟨"RoundedNumbersModel", "beyond", "(I)J"⟩ ∈ ct_T := ct_in (List.mem_of_getElem? (i := 588) (by decide +kernel)) rfl
set_option maxRecDepth 100000 in
theorem mw_387 : Cond.static ⟨"RoundedNumbersModel", "beyond", "(I)J"⟩ ∈ ct_T := ct_in (List.mem_of_getElem? (i := 589) (by decide +kernel)) rfl
set_option maxRecDepth 100000 in
theorem mw_388 : Cond.methodLink "RoundedNumbersModel" 1 ⟨"java/lang/Object", "<init>", "()V"⟩ ∈ ct_T := ct_in (List.mem_of_getElem? (i := 374) (by decide +kernel)) rfl
theorem kc_RM_40 {R : Room} {s : State} {args : Array Value} {c0 : Cond} (hts : ∀ w ∈ c0 :: ct_T, w.before args s = true) (hR : ({ frames := 0, cells := 0, slots := 0, locals := 0 } : Room).frames + 1 ≤ R.frames ∧ 8 + (1 + 11) + ({ frames := 0, cells := 0, slots := 0, locals := 0 } : Room).locals ≤ R.locals) : CallB R s args "RoundedNumbersModel" 40 ⟨"RoundedNumbersModel", "isRegister", "(I)Z"⟩ prog_6_method_2_code 1 (some .boolean) (.code ⟨"RoundedNumbersModel", "isRegister", "(I)Z"⟩ prog_6_method_2_code 1 (some .boolean) :: ct_T) { frames := 0, cells := 0, slots := 0, locals := 0 } 0 0 1 ∧ (Cond.static ⟨"RoundedNumbersModel", "isRegister", "(I)Z"⟩).before args s = true := va_cwS 1 hts (ct_giS mw_256 mw_257 mw_258 mw_255) rfl rfl rfl ⟨by decide, by decide, by decide +kernel⟩ hR
theorem kc_RM_44 {R : Room} {s : State} {args : Array Value} {c0 : Cond} (hts : ∀ w ∈ c0 :: ct_T, w.before args s = true) (hR : ({ frames := 0, cells := 0, slots := 0, locals := 0 } : Room).frames + 1 ≤ R.frames ∧ 8 + (4 + 11) + ({ frames := 0, cells := 0, slots := 0, locals := 0 } : Room).locals ≤ R.locals) : CallW R s args "RoundedNumbersModel" "RoundedNumbersModel" 44 ⟨"RoundedNumbersModel", "anyBelow", "(I)Z"⟩ prog_6_method_9_code 4 (some .boolean) (.code ⟨"RoundedNumbersModel", "anyBelow", "(I)Z"⟩ prog_6_method_9_code 4 (some .boolean) :: ct_T) { frames := 0, cells := 0, slots := 0, locals := 0 } 0 0 1 := cwV 1 hts (ct_giV mw_266 mw_267 mw_268 mw_258 mw_265) rfl rfl rfl ⟨rfl, by decide, by decide, by decide +kernel⟩ hR
theorem kc_RM_47 {R : Room} {s : State} {args : Array Value} {c0 : Cond} (hts : ∀ w ∈ c0 :: ct_T, w.before args s = true) (hR : ({ frames := 0, cells := 0, slots := 0, locals := 0 } : Room).frames + 1 ≤ R.frames ∧ 8 + (2 + 11) + ({ frames := 0, cells := 0, slots := 0, locals := 0 } : Room).locals ≤ R.locals) : CallB R s args "RoundedNumbersModel" 47 ⟨"RoundedNumbersModel", "grows", "(II)Z"⟩ prog_6_method_10_code 2 (some .boolean) (.code ⟨"RoundedNumbersModel", "grows", "(II)Z"⟩ prog_6_method_10_code 2 (some .boolean) :: ct_T) { frames := 0, cells := 0, slots := 0, locals := 0 } 0 0 2 ∧ (Cond.static ⟨"RoundedNumbersModel", "grows", "(II)Z"⟩).before args s = true := va_cwS 2 hts (ct_giS mw_270 mw_271 mw_258 mw_269) rfl rfl rfl ⟨by decide, by decide, by decide +kernel⟩ hR
theorem kc_RM_51 {R : Room} {s : State} {args : Array Value} {c0 : Cond} (hts : ∀ w ∈ c0 :: ct_T, w.before args s = true) (hR : ({ frames := 0, cells := 0, slots := 0, locals := 0 } : Room).frames + 1 ≤ R.frames ∧ 8 + (2 + 11) + ({ frames := 0, cells := 0, slots := 0, locals := 0 } : Room).locals ≤ R.locals) : CallW R s args "RoundedNumbersModel" "RoundedNumbersModel" 51 ⟨"RoundedNumbersModel", "highest", "()I"⟩ prog_6_method_8_code 2 (some .int) (.code ⟨"RoundedNumbersModel", "highest", "()I"⟩ prog_6_method_8_code 2 (some .int) :: ct_T) { frames := 0, cells := 0, slots := 0, locals := 0 } 0 0 0 := cwV 0 hts (ct_giV mw_273 mw_274 mw_275 mw_258 mw_272) rfl rfl rfl ⟨rfl, by decide, by decide, by decide +kernel⟩ hR
theorem kc_RM_55 {R : Room} {s : State} {args : Array Value} {c0 : Cond} (hts : ∀ w ∈ c0 :: ct_T, w.before args s = true) (hR : ({ frames := 1, cells := 0, slots := 0, locals := 23 } : Room).frames + 1 ≤ R.frames ∧ 8 + (8 + 11) + ({ frames := 1, cells := 0, slots := 0, locals := 23 } : Room).locals ≤ R.locals) : CallW R s args "RoundedNumbersModel" "RoundedNumbersModel" 55 ⟨"RoundedNumbersModel", "goesUp", "(IIII)Z"⟩ prog_6_method_11_code 8 (some .boolean) (.code ⟨"RoundedNumbersModel", "goesUp", "(IIII)Z"⟩ prog_6_method_11_code 8 (some .boolean) :: ct_T) { frames := 1, cells := 0, slots := 0, locals := 23 } 0 0 4 := cwV 4 hts (ct_giV mw_277 mw_278 mw_279 mw_258 mw_276) rfl rfl rfl ⟨rfl, by decide, by decide, by decide +kernel⟩ hR
theorem kc_RM_67 {R : Room} {s : State} {args : Array Value} {c0 : Cond} (hts : ∀ w ∈ c0 :: ct_T, w.before args s = true) (hR : ({ frames := 0, cells := 0, slots := 0, locals := 0 } : Room).frames + 1 ≤ R.frames ∧ 8 + (4 + 11) + ({ frames := 0, cells := 0, slots := 0, locals := 0 } : Room).locals ≤ R.locals) : CallW R s args "RoundedNumbersModel" "RoundedNumbersModel" 67 ⟨"RoundedNumbersModel", "keepLeast", "(II)I"⟩ prog_6_method_7_code 4 (some .int) (.code ⟨"RoundedNumbersModel", "keepLeast", "(II)I"⟩ prog_6_method_7_code 4 (some .int) :: ct_T) { frames := 0, cells := 0, slots := 0, locals := 0 } 0 0 2 := cwV 2 hts (ct_giV mw_282 mw_283 mw_284 mw_258 mw_281) rfl rfl rfl ⟨rfl, by decide, by decide, by decide +kernel⟩ hR
theorem kc_RM_59 {R : Room} {s : State} {args : Array Value} {c0 : Cond} (hts : ∀ w ∈ c0 :: ct_T, w.before args s = true) (hR : ({ frames := 0, cells := 0, slots := 0, locals := 0 } : Room).frames + 1 ≤ R.frames ∧ 8 + (4 + 11) + ({ frames := 0, cells := 0, slots := 0, locals := 0 } : Room).locals ≤ R.locals) : CallW R s args "RoundedNumbersModel" "RoundedNumbersModel" 59 ⟨"RoundedNumbersModel", "keep", "(III)I"⟩ prog_6_method_5_code 4 (some .int) (.code ⟨"RoundedNumbersModel", "keep", "(III)I"⟩ prog_6_method_5_code 4 (some .int) :: ct_T) { frames := 0, cells := 0, slots := 0, locals := 0 } 0 0 3 := cwV 3 hts (ct_giV mw_286 mw_287 mw_288 mw_258 mw_285) rfl rfl rfl ⟨rfl, by decide, by decide, by decide +kernel⟩ hR
theorem kc_RM_63 {R : Room} {s : State} {args : Array Value} {c0 : Cond} (hts : ∀ w ∈ c0 :: ct_T, w.before args s = true) (hR : ({ frames := 0, cells := 0, slots := 0, locals := 0 } : Room).frames + 1 ≤ R.frames ∧ 8 + (4 + 11) + ({ frames := 0, cells := 0, slots := 0, locals := 0 } : Room).locals ≤ R.locals) : CallW R s args "RoundedNumbersModel" "RoundedNumbersModel" 63 ⟨"RoundedNumbersModel", "keepGreatest", "(II)I"⟩ prog_6_method_6_code 4 (some .int) (.code ⟨"RoundedNumbersModel", "keepGreatest", "(II)I"⟩ prog_6_method_6_code 4 (some .int) :: ct_T) { frames := 0, cells := 0, slots := 0, locals := 0 } 0 0 2 := cwV 2 hts (ct_giV mw_290 mw_291 mw_292 mw_258 mw_289) rfl rfl rfl ⟨rfl, by decide, by decide, by decide +kernel⟩ hR
theorem kc_RM_70 {R : Room} {s : State} {args : Array Value} {c0 : Cond} (hts : ∀ w ∈ c0 :: ct_T, w.before args s = true) (hR : ({ frames := 0, cells := 0, slots := 0, locals := 0 } : Room).frames + 1 ≤ R.frames ∧ 8 + (2 + 11) + ({ frames := 0, cells := 0, slots := 0, locals := 0 } : Room).locals ≤ R.locals) : CallW R s args "RoundedNumbersModel" "RoundedNumbersModel" 70 ⟨"RoundedNumbersModel", "compareRows", "()I"⟩ prog_6_method_16_code 2 (some .int) (.code ⟨"RoundedNumbersModel", "compareRows", "()I"⟩ prog_6_method_16_code 2 (some .int) :: ct_T) { frames := 0, cells := 0, slots := 0, locals := 0 } 0 0 0 := cwV 0 hts (ct_giV mw_294 mw_295 mw_296 mw_258 mw_293) rfl rfl rfl ⟨rfl, by decide, by decide, by decide +kernel⟩ hR
theorem kc_RM_77 {R : Room} {s : State} {args : Array Value} {c0 : Cond} (hts : ∀ w ∈ c0 :: ct_T, w.before args s = true) (hR : ({ frames := 0, cells := 0, slots := 0, locals := 0 } : Room).frames + 1 ≤ R.frames ∧ 8 + (1 + 11) + ({ frames := 0, cells := 0, slots := 0, locals := 0 } : Room).locals ≤ R.locals) : CallB R s args "RoundedNumbersModel" 77 ⟨"RoundedNumbersModel", "isMode", "(I)Z"⟩ prog_6_method_3_code 1 (some .boolean) (.code ⟨"RoundedNumbersModel", "isMode", "(I)Z"⟩ prog_6_method_3_code 1 (some .boolean) :: ct_T) { frames := 0, cells := 0, slots := 0, locals := 0 } 0 0 1 ∧ (Cond.static ⟨"RoundedNumbersModel", "isMode", "(I)Z"⟩).before args s = true := va_cwS 1 hts (ct_giS mw_298 mw_299 mw_258 mw_297) rfl rfl rfl ⟨by decide, by decide, by decide +kernel⟩ hR
theorem kc_RM_80 {R : Room} {s : State} {args : Array Value} {c0 : Cond} (hts : ∀ w ∈ c0 :: ct_T, w.before args s = true) (hR : ({ frames := 0, cells := 0, slots := 0, locals := 0 } : Room).frames + 1 ≤ R.frames ∧ 8 + (2 + 11) + ({ frames := 0, cells := 0, slots := 0, locals := 0 } : Room).locals ≤ R.locals) : CallW R s args "RoundedNumbersModel" "RoundedNumbersModel" 80 ⟨"RoundedNumbersModel", "clear", "()V"⟩ prog_6_method_13_code 2 none (.code ⟨"RoundedNumbersModel", "clear", "()V"⟩ prog_6_method_13_code 2 none :: ct_T) { frames := 0, cells := 0, slots := 0, locals := 0 } 0 0 0 := cwV 0 hts (ct_giV mw_301 mw_302 mw_303 mw_258 mw_300) rfl rfl rfl ⟨rfl, by decide, by decide, by decide +kernel⟩ hR
theorem kc_RM_83 {R : Room} {s : State} {args : Array Value} {c0 : Cond} (hts : ∀ w ∈ c0 :: ct_T, w.before args s = true) (hR : ({ frames := 2, cells := 0, slots := 0, locals := 50 } : Room).frames + 1 ≤ R.frames ∧ 8 + (12 + 11) + ({ frames := 2, cells := 0, slots := 0, locals := 50 } : Room).locals ≤ R.locals) : CallW R s args "RoundedNumbersModel" "RoundedNumbersModel" 83 ⟨"RoundedNumbersModel", "round", "(III)I"⟩ prog_6_method_12_code 12 (some .int) (.code ⟨"RoundedNumbersModel", "round", "(III)I"⟩ prog_6_method_12_code 12 (some .int) :: ct_T) { frames := 2, cells := 0, slots := 0, locals := 50 } 0 0 3 := cwV 3 hts (ct_giV mw_305 mw_306 mw_307 mw_258 mw_304) rfl rfl rfl ⟨rfl, by decide, by decide, by decide +kernel⟩ hR
theorem kc_RM_73 {R : Room} {s : State} {args : Array Value} {c0 : Cond} (hts : ∀ w ∈ c0 :: ct_T, w.before args s = true) (hR : ({ frames := 3, cells := 0, slots := 0, locals := 81 } : Room).frames + 1 ≤ R.frames ∧ 8 + (9 + 11) + ({ frames := 3, cells := 0, slots := 0, locals := 81 } : Room).locals ≤ R.locals) : CallW R s args "RoundedNumbersModel" "RoundedNumbersModel" 73 ⟨"RoundedNumbersModel", "loadScaled", "(IJII)I"⟩ prog_6_method_19_code 9 (some .int) (.code ⟨"RoundedNumbersModel", "loadScaled", "(IJII)I"⟩ prog_6_method_19_code 9 (some .int) :: ct_T) { frames := 3, cells := 0, slots := 0, locals := 81 } 0 0 4 := cwV 4 hts (ct_giV mw_309 mw_310 mw_311 mw_258 mw_308) rfl rfl rfl ⟨rfl, by decide, by decide, by decide +kernel⟩ hR
theorem kc_RM_86 {R : Room} {s : State} {args : Array Value} {c0 : Cond} (hts : ∀ w ∈ c0 :: ct_T, w.before args s = true) (hR : ({ frames := 0, cells := 0, slots := 0, locals := 0 } : Room).frames + 1 ≤ R.frames ∧ 8 + (3 + 11) + ({ frames := 0, cells := 0, slots := 0, locals := 0 } : Room).locals ≤ R.locals) : CallW R s args "RoundedNumbersModel" "RoundedNumbersModel" 86 ⟨"RoundedNumbersModel", "put", "(I)V"⟩ prog_6_method_14_code 3 none (.code ⟨"RoundedNumbersModel", "put", "(I)V"⟩ prog_6_method_14_code 3 none :: ct_T) { frames := 0, cells := 0, slots := 0, locals := 0 } 0 0 1 := cwV 1 hts (ct_giV mw_313 mw_314 mw_315 mw_258 mw_312) rfl rfl rfl ⟨rfl, by decide, by decide, by decide +kernel⟩ hR
theorem kc_RM_90 {R : Room} {s : State} {args : Array Value} {c0 : Cond} (hts : ∀ w ∈ c0 :: ct_T, w.before args s = true) (hR : ({ frames := 3, cells := 0, slots := 0, locals := 81 } : Room).frames + 1 ≤ R.frames ∧ 8 + (5 + 11) + ({ frames := 3, cells := 0, slots := 0, locals := 81 } : Room).locals ≤ R.locals) : CallW R s args "RoundedNumbersModel" "RoundedNumbersModel" 90 ⟨"RoundedNumbersModel", "move", "(IIII)I"⟩ prog_6_method_20_code 5 (some .int) (.code ⟨"RoundedNumbersModel", "move", "(IIII)I"⟩ prog_6_method_20_code 5 (some .int) :: ct_T) { frames := 3, cells := 0, slots := 0, locals := 81 } 0 0 4 := cwV 4 hts (ct_giV mw_317 mw_318 mw_319 mw_258 mw_316) rfl rfl rfl ⟨rfl, by decide, by decide, by decide +kernel⟩ hR
theorem kc_RM_97 {R : Room} {s : State} {args : Array Value} {c0 : Cond} (hts : ∀ w ∈ c0 :: ct_T, w.before args s = true) (hR : ({ frames := 1, cells := 0, slots := 0, locals := 21 } : Room).frames + 1 ≤ R.frames ∧ 8 + (8 + 11) + ({ frames := 1, cells := 0, slots := 0, locals := 21 } : Room).locals ≤ R.locals) : CallW R s args "RoundedNumbersModel" "RoundedNumbersModel" 97 ⟨"RoundedNumbersModel", "sumWith", "(III)I"⟩ prog_6_method_17_code 8 (some .int) (.code ⟨"RoundedNumbersModel", "sumWith", "(III)I"⟩ prog_6_method_17_code 8 (some .int) :: ct_T) { frames := 1, cells := 0, slots := 0, locals := 21 } 0 0 3 := cwV 3 hts (ct_giV mw_321 mw_322 mw_323 mw_258 mw_320) rfl rfl rfl ⟨rfl, by decide, by decide, by decide +kernel⟩ hR
theorem kc_RM_94 {R : Room} {s : State} {args : Array Value} {c0 : Cond} (hts : ∀ w ∈ c0 :: ct_T, w.before args s = true) (hR : ({ frames := 1, cells := 0, slots := 0, locals := 23 } : Room).frames + 1 ≤ R.frames ∧ 8 + (3 + 11) + ({ frames := 1, cells := 0, slots := 0, locals := 23 } : Room).locals ≤ R.locals) : CallW R s args "RoundedNumbersModel" "RoundedNumbersModel" 94 ⟨"RoundedNumbersModel", "nothing", "(II)I"⟩ prog_6_method_23_code 3 (some .int) (.code ⟨"RoundedNumbersModel", "nothing", "(II)I"⟩ prog_6_method_23_code 3 (some .int) :: ct_T) { frames := 1, cells := 0, slots := 0, locals := 23 } 0 0 2 := cwV 2 hts (ct_giV mw_325 mw_326 mw_327 mw_258 mw_324) rfl rfl rfl ⟨rfl, by decide, by decide, by decide +kernel⟩ hR
theorem kc_RM_100 {R : Room} {s : State} {args : Array Value} {c0 : Cond} (hts : ∀ w ∈ c0 :: ct_T, w.before args s = true) (hR : ({ frames := 4, cells := 0, slots := 0, locals := 105 } : Room).frames + 1 ≤ R.frames ∧ 8 + (9 + 11) + ({ frames := 4, cells := 0, slots := 0, locals := 105 } : Room).locals ≤ R.locals) : CallW R s args "RoundedNumbersModel" "RoundedNumbersModel" 100 ⟨"RoundedNumbersModel", "sum", "(IIIII)I"⟩ prog_6_method_24_code 9 (some .int) (.code ⟨"RoundedNumbersModel", "sum", "(IIIII)I"⟩ prog_6_method_24_code 9 (some .int) :: ct_T) { frames := 4, cells := 0, slots := 0, locals := 105 } 0 0 5 := cwV 5 hts (ct_giV mw_329 mw_330 mw_331 mw_258 mw_328) rfl rfl rfl ⟨rfl, by decide, by decide, by decide +kernel⟩ hR
theorem kc_RM_104 {R : Room} {s : State} {args : Array Value} {c0 : Cond} (hts : ∀ w ∈ c0 :: ct_T, w.before args s = true) (hR : ({ frames := 0, cells := 0, slots := 0, locals := 0 } : Room).frames + 1 ≤ R.frames ∧ 8 + (5 + 11) + ({ frames := 0, cells := 0, slots := 0, locals := 0 } : Room).locals ≤ R.locals) : CallW R s args "RoundedNumbersModel" "RoundedNumbersModel" 104 ⟨"RoundedNumbersModel", "productKind", "(II)I"⟩ prog_6_method_27_code 5 (some .int) (.code ⟨"RoundedNumbersModel", "productKind", "(II)I"⟩ prog_6_method_27_code 5 (some .int) :: ct_T) { frames := 0, cells := 0, slots := 0, locals := 0 } 0 0 2 := cwV 2 hts (ct_giV mw_333 mw_334 mw_335 mw_258 mw_332) rfl rfl rfl ⟨rfl, by decide, by decide, by decide +kernel⟩ hR
theorem kc_RM_107 {R : Room} {s : State} {args : Array Value} {c0 : Cond} (hts : ∀ w ∈ c0 :: ct_T, w.before args s = true) (hR : ({ frames := 0, cells := 0, slots := 0, locals := 0 } : Room).frames + 1 ≤ R.frames ∧ 8 + (6 + 11) + ({ frames := 0, cells := 0, slots := 0, locals := 0 } : Room).locals ≤ R.locals) : CallW R s args "RoundedNumbersModel" "RoundedNumbersModel" 107 ⟨"RoundedNumbersModel", "putProduct", "(II)V"⟩ prog_6_method_15_code 6 none (.code ⟨"RoundedNumbersModel", "putProduct", "(II)V"⟩ prog_6_method_15_code 6 none :: ct_T) { frames := 0, cells := 0, slots := 0, locals := 0 } 0 0 2 := cwV 2 hts (ct_giV mw_337 mw_338 mw_339 mw_258 mw_336) rfl rfl rfl ⟨rfl, by decide, by decide, by decide +kernel⟩ hR
theorem kc_RM_124 {R : Room} {s : State} {args : Array Value} {c0 : Cond} (hts : ∀ w ∈ c0 :: ct_T, w.before args s = true) (hR : ({ frames := 0, cells := 0, slots := 0, locals := 0 } : Room).frames + 1 ≤ R.frames ∧ 8 + (3 + 11) + ({ frames := 0, cells := 0, slots := 0, locals := 0 } : Room).locals ≤ R.locals) : CallW R s args "RoundedNumbersModel" "RoundedNumbersModel" 124 ⟨"RoundedNumbersModel", "isLeft", "()Z"⟩ prog_6_method_33_code 3 (some .boolean) (.code ⟨"RoundedNumbersModel", "isLeft", "()Z"⟩ prog_6_method_33_code 3 (some .boolean) :: ct_T) { frames := 0, cells := 0, slots := 0, locals := 0 } 0 0 0 := cwV 0 hts (ct_giV mw_343 mw_344 mw_345 mw_258 mw_342) rfl rfl rfl ⟨rfl, by decide, by decide, by decide +kernel⟩ hR
theorem kc_RM_114 {R : Room} {s : State} {args : Array Value} {c0 : Cond} (hts : ∀ w ∈ c0 :: ct_T, w.before args s = true) (hR : ({ frames := 0, cells := 0, slots := 0, locals := 0 } : Room).frames + 1 ≤ R.frames ∧ 8 + (2 + 11) + ({ frames := 0, cells := 0, slots := 0, locals := 0 } : Room).locals ≤ R.locals) : CallW R s args "RoundedNumbersModel" "RoundedNumbersModel" 114 ⟨"RoundedNumbersModel", "reaches", "()Z"⟩ prog_6_method_30_code 2 (some .boolean) (.code ⟨"RoundedNumbersModel", "reaches", "()Z"⟩ prog_6_method_30_code 2 (some .boolean) :: ct_T) { frames := 0, cells := 0, slots := 0, locals := 0 } 0 0 0 := cwV 0 hts (ct_giV mw_347 mw_348 mw_349 mw_258 mw_346) rfl rfl rfl ⟨rfl, by decide, by decide, by decide +kernel⟩ hR
theorem kc_RM_121 {R : Room} {s : State} {args : Array Value} {c0 : Cond} (hts : ∀ w ∈ c0 :: ct_T, w.before args s = true) (hR : ({ frames := 0, cells := 0, slots := 0, locals := 0 } : Room).frames + 1 ≤ R.frames ∧ 8 + (3 + 11) + ({ frames := 0, cells := 0, slots := 0, locals := 0 } : Room).locals ≤ R.locals) : CallW R s args "RoundedNumbersModel" "RoundedNumbersModel" 121 ⟨"RoundedNumbersModel", "doubleRest", "(I)V"⟩ prog_6_method_32_code 3 none (.code ⟨"RoundedNumbersModel", "doubleRest", "(I)V"⟩ prog_6_method_32_code 3 none :: ct_T) { frames := 0, cells := 0, slots := 0, locals := 0 } 0 0 1 := cwV 1 hts (ct_giV mw_351 mw_352 mw_353 mw_258 mw_350) rfl rfl rfl ⟨rfl, by decide, by decide, by decide +kernel⟩ hR
theorem kc_RM_118 {R : Room} {s : State} {args : Array Value} {c0 : Cond} (hts : ∀ w ∈ c0 :: ct_T, w.before args s = true) (hR : ({ frames := 0, cells := 0, slots := 0, locals := 0 } : Room).frames + 1 ≤ R.frames ∧ 8 + (4 + 11) + ({ frames := 0, cells := 0, slots := 0, locals := 0 } : Room).locals ≤ R.locals) : CallW R s args "RoundedNumbersModel" "RoundedNumbersModel" 118 ⟨"RoundedNumbersModel", "takePart", "()V"⟩ prog_6_method_31_code 4 none (.code ⟨"RoundedNumbersModel", "takePart", "()V"⟩ prog_6_method_31_code 4 none :: ct_T) { frames := 0, cells := 0, slots := 0, locals := 0 } 0 0 0 := cwV 0 hts (ct_giV mw_355 mw_356 mw_357 mw_258 mw_354) rfl rfl rfl ⟨rfl, by decide, by decide, by decide +kernel⟩ hR
theorem kc_RM_111 {R : Room} {s : State} {args : Array Value} {c0 : Cond} (hts : ∀ w ∈ c0 :: ct_T, w.before args s = true) (hR : ({ frames := 0, cells := 0, slots := 0, locals := 0 } : Room).frames + 1 ≤ R.frames ∧ 8 + (3 + 11) + ({ frames := 0, cells := 0, slots := 0, locals := 0 } : Room).locals ≤ R.locals) : CallW R s args "RoundedNumbersModel" "RoundedNumbersModel" 111 ⟨"RoundedNumbersModel", "bitOf", "(II)I"⟩ prog_6_method_34_code 3 (some .int) (.code ⟨"RoundedNumbersModel", "bitOf", "(II)I"⟩ prog_6_method_34_code 3 (some .int) :: ct_T) { frames := 0, cells := 0, slots := 0, locals := 0 } 0 0 2 := cwV 2 hts (ct_giV mw_359 mw_360 mw_361 mw_258 mw_358) rfl rfl rfl ⟨rfl, by decide, by decide, by decide +kernel⟩ hR
theorem kc_RM_127 {R : Room} {s : State} {args : Array Value} {c0 : Cond} (hts : ∀ w ∈ c0 :: ct_T, w.before args s = true) (hR : ({ frames := 1, cells := 0, slots := 0, locals := 23 } : Room).frames + 1 ≤ R.frames ∧ 8 + (5 + 11) + ({ frames := 1, cells := 0, slots := 0, locals := 23 } : Room).locals ≤ R.locals) : CallW R s args "RoundedNumbersModel" "RoundedNumbersModel" 127 ⟨"RoundedNumbersModel", "divide", "(II)V"⟩ prog_6_method_35_code 5 none (.code ⟨"RoundedNumbersModel", "divide", "(II)V"⟩ prog_6_method_35_code 5 none :: ct_T) { frames := 1, cells := 0, slots := 0, locals := 23 } 0 0 2 := cwV 2 hts (ct_giV mw_363 mw_364 mw_365 mw_258 mw_362) rfl rfl rfl ⟨rfl, by decide, by decide, by decide +kernel⟩ hR
theorem kc_RM_130 {R : Room} {s : State} {args : Array Value} {c0 : Cond} (hts : ∀ w ∈ c0 :: ct_T, w.before args s = true) (hR : ({ frames := 0, cells := 0, slots := 0, locals := 0 } : Room).frames + 1 ≤ R.frames ∧ 8 + (2 + 11) + ({ frames := 0, cells := 0, slots := 0, locals := 0 } : Room).locals ≤ R.locals) : CallW R s args "RoundedNumbersModel" "RoundedNumbersModel" 130 ⟨"RoundedNumbersModel", "tryRoot", "()V"⟩ prog_6_method_37_code 2 none (.code ⟨"RoundedNumbersModel", "tryRoot", "()V"⟩ prog_6_method_37_code 2 none :: ct_T) { frames := 0, cells := 0, slots := 0, locals := 0 } 0 0 0 := cwV 0 hts (ct_giV mw_368 mw_369 mw_370 mw_258 mw_367) rfl rfl rfl ⟨rfl, by decide, by decide, by decide +kernel⟩ hR
theorem kc_RM_133 {R : Room} {s : State} {args : Array Value} {c0 : Cond} (hts : ∀ w ∈ c0 :: ct_T, w.before args s = true) (hR : ({ frames := 0, cells := 0, slots := 0, locals := 0 } : Room).frames + 1 ≤ R.frames ∧ 8 + (3 + 11) + ({ frames := 0, cells := 0, slots := 0, locals := 0 } : Room).locals ≤ R.locals) : CallW R s args "RoundedNumbersModel" "RoundedNumbersModel" 133 ⟨"RoundedNumbersModel", "growRoot", "(I)V"⟩ prog_6_method_38_code 3 none (.code ⟨"RoundedNumbersModel", "growRoot", "(I)V"⟩ prog_6_method_38_code 3 none :: ct_T) { frames := 0, cells := 0, slots := 0, locals := 0 } 0 0 1 := cwV 1 hts (ct_giV mw_372 mw_373 mw_374 mw_258 mw_371) rfl rfl rfl ⟨rfl, by decide, by decide, by decide +kernel⟩ hR
theorem kc_RM_136 {R : Room} {s : State} {args : Array Value} {c0 : Cond} (hts : ∀ w ∈ c0 :: ct_T, w.before args s = true) (hR : ({ frames := 1, cells := 0, slots := 0, locals := 23 } : Room).frames + 1 ≤ R.frames ∧ 8 + (8 + 11) + ({ frames := 1, cells := 0, slots := 0, locals := 23 } : Room).locals ≤ R.locals) : CallW R s args "RoundedNumbersModel" "RoundedNumbersModel" 136 ⟨"RoundedNumbersModel", "takeRoot", "(I)V"⟩ prog_6_method_39_code 8 none (.code ⟨"RoundedNumbersModel", "takeRoot", "(I)V"⟩ prog_6_method_39_code 8 none :: ct_T) { frames := 1, cells := 0, slots := 0, locals := 23 } 0 0 1 := cwV 1 hts (ct_giV mw_376 mw_377 mw_378 mw_258 mw_375) rfl rfl rfl ⟨rfl, by decide, by decide, by decide +kernel⟩ hR
theorem kc_RM_139 {R : Room} {s : State} {args : Array Value} {c0 : Cond} (hts : ∀ w ∈ c0 :: ct_T, w.before args s = true) (hR : ({ frames := 1, cells := 0, slots := 0, locals := 22 } : Room).frames + 1 ≤ R.frames ∧ 8 + (6 + 11) + ({ frames := 1, cells := 0, slots := 0, locals := 22 } : Room).locals ≤ R.locals) : CallW R s args "RoundedNumbersModel" "RoundedNumbersModel" 139 ⟨"RoundedNumbersModel", "compareSizes", "(II)I"⟩ prog_6_method_41_code 6 (some .int) (.code ⟨"RoundedNumbersModel", "compareSizes", "(II)I"⟩ prog_6_method_41_code 6 (some .int) :: ct_T) { frames := 1, cells := 0, slots := 0, locals := 22 } 0 0 2 := cwV 2 hts (ct_giV mw_380 mw_381 mw_382 mw_258 mw_379) rfl rfl rfl ⟨rfl, by decide, by decide, by decide +kernel⟩ hR
theorem kc_RM_146 {R : Room} {s : State} {args : Array Value} {c0 : Cond} (hts : ∀ w ∈ c0 :: ct_T, w.before args s = true) (hR : ({ frames := 0, cells := 0, slots := 0, locals := 0 } : Room).frames + 1 ≤ R.frames ∧ 8 + (1 + 11) + ({ frames := 0, cells := 0, slots := 0, locals := 0 } : Room).locals ≤ R.locals) : CallB R s args "RoundedNumbersModel" 146 ⟨"RoundedNumbersModel", "beyond", "(I)J"⟩ prog_6_method_47_code 1 (some .long) (.code ⟨"RoundedNumbersModel", "beyond", "(I)J"⟩ prog_6_method_47_code 1 (some .long) :: ct_T) { frames := 0, cells := 0, slots := 0, locals := 0 } 0 0 1 ∧ (Cond.static ⟨"RoundedNumbersModel", "beyond", "(I)J"⟩).before args s = true := va_cwS 1 hts (ct_giS mw_386 mw_387 mw_258 mw_385) rfl rfl rfl ⟨by decide, by decide, by decide +kernel⟩ hR
