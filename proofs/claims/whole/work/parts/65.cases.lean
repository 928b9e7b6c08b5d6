/-! ===== the law's calls, one by one: printed by a program ===== -/
theorem wl_66 : (Jvm.Cond.initialized "SharedComparers") ∈ lw_tb2 := dp_w2 (List.mem_of_getElem? (i := 66) (by decide +kernel)) rfl
theorem wl_74 : (Jvm.Cond.initialized "SharedComparersModel") ∈ lw_tb2 := dp_w2 (List.mem_of_getElem? (i := 74) (by decide +kernel)) rfl
theorem wl_327 : (Jvm.Cond.methodLink "SharedComparersLaw" (13 : Nat) ({ cls := "SharedComparers", name := "set", desc := "(III)I" } : Jvm.MethodName)) ∈ lw_tb2 := dp_w2 (List.mem_of_getElem? (i := 327) (by decide +kernel)) rfl
theorem wl_328 : (Jvm.Cond.instanceMethod ({ cls := "SharedComparers", name := "set", desc := "(III)I" } : Jvm.MethodName)) ∈ lw_tb2 := dp_w2 (List.mem_of_getElem? (i := 328) (by decide +kernel)) rfl
theorem wl_329 : (Jvm.Cond.selects "SharedComparers" ({ cls := "SharedComparers", name := "set", desc := "(III)I" } : Jvm.MethodName) ({ cls := "SharedComparers", name := "set", desc := "(III)I" } : Jvm.MethodName)) ∈ lw_tb2 := dp_w2 (List.mem_of_getElem? (i := 329) (by decide +kernel)) rfl
theorem wl_330 : (Jvm.Cond.code ({ cls := "SharedComparers", name := "set", desc := "(III)I" } : Jvm.MethodName) prog_1_method_2_code (4 : Nat) (Option.some Jvm.ClassFile.FieldType.int)) ∈ lw_tb2 := dp_w2 (List.mem_of_getElem? (i := 330) (by decide +kernel)) rfl
theorem wl_446 : (Jvm.Cond.methodLink "SharedComparersLaw" (18 : Nat) ({ cls := "SharedComparers", name := "setAll", desc := "()I" } : Jvm.MethodName)) ∈ lw_tb2 := dp_w2 (List.mem_of_getElem? (i := 446) (by decide +kernel)) rfl
theorem wl_447 : (Jvm.Cond.instanceMethod ({ cls := "SharedComparers", name := "setAll", desc := "()I" } : Jvm.MethodName)) ∈ lw_tb2 := dp_w2 (List.mem_of_getElem? (i := 447) (by decide +kernel)) rfl
theorem wl_448 : (Jvm.Cond.selects "SharedComparers" ({ cls := "SharedComparers", name := "setAll", desc := "()I" } : Jvm.MethodName) ({ cls := "SharedComparers", name := "setAll", desc := "()I" } : Jvm.MethodName)) ∈ lw_tb2 := dp_w2 (List.mem_of_getElem? (i := 448) (by decide +kernel)) rfl
theorem wl_449 : (Jvm.Cond.code ({ cls := "SharedComparers", name := "setAll", desc := "()I" } : Jvm.MethodName) prog_1_method_3_code (3 : Nat) (Option.some Jvm.ClassFile.FieldType.int)) ∈ lw_tb2 := dp_w2 (List.mem_of_getElem? (i := 449) (by decide +kernel)) rfl
theorem wl_476 : (Jvm.Cond.methodLink "SharedComparersLaw" (23 : Nat) ({ cls := "SharedComparers", name := "cancel", desc := "(I)I" } : Jvm.MethodName)) ∈ lw_tb2 := dp_w2 (List.mem_of_getElem? (i := 476) (by decide +kernel)) rfl
theorem wl_477 : (Jvm.Cond.instanceMethod ({ cls := "SharedComparers", name := "cancel", desc := "(I)I" } : Jvm.MethodName)) ∈ lw_tb2 := dp_w2 (List.mem_of_getElem? (i := 477) (by decide +kernel)) rfl
theorem wl_478 : (Jvm.Cond.selects "SharedComparers" ({ cls := "SharedComparers", name := "cancel", desc := "(I)I" } : Jvm.MethodName) ({ cls := "SharedComparers", name := "cancel", desc := "(I)I" } : Jvm.MethodName)) ∈ lw_tb2 := dp_w2 (List.mem_of_getElem? (i := 478) (by decide +kernel)) rfl
theorem wl_479 : (Jvm.Cond.code ({ cls := "SharedComparers", name := "cancel", desc := "(I)I" } : Jvm.MethodName) prog_1_method_4_code (3 : Nat) (Option.some Jvm.ClassFile.FieldType.int)) ∈ lw_tb2 := dp_w2 (List.mem_of_getElem? (i := 479) (by decide +kernel)) rfl
theorem wl_496 : (Jvm.Cond.methodLink "SharedComparersLaw" (28 : Nat) ({ cls := "SharedComparers", name := "move", desc := "(II)I" } : Jvm.MethodName)) ∈ lw_tb2 := dp_w2 (List.mem_of_getElem? (i := 496) (by decide +kernel)) rfl
theorem wl_497 : (Jvm.Cond.instanceMethod ({ cls := "SharedComparers", name := "move", desc := "(II)I" } : Jvm.MethodName)) ∈ lw_tb2 := dp_w2 (List.mem_of_getElem? (i := 497) (by decide +kernel)) rfl
theorem wl_498 : (Jvm.Cond.selects "SharedComparers" ({ cls := "SharedComparers", name := "move", desc := "(II)I" } : Jvm.MethodName) ({ cls := "SharedComparers", name := "move", desc := "(II)I" } : Jvm.MethodName)) ∈ lw_tb2 := dp_w2 (List.mem_of_getElem? (i := 498) (by decide +kernel)) rfl
theorem wl_499 : (Jvm.Cond.code ({ cls := "SharedComparers", name := "move", desc := "(II)I" } : Jvm.MethodName) prog_1_method_5_code (5 : Nat) (Option.some Jvm.ClassFile.FieldType.int)) ∈ lw_tb2 := dp_w2 (List.mem_of_getElem? (i := 499) (by decide +kernel)) rfl
theorem wl_504 : (Jvm.Cond.methodLink "SharedComparersLaw" (33 : Nat) ({ cls := "SharedComparers", name := "setComparers", desc := "(I)I" } : Jvm.MethodName)) ∈ lw_tb2 := dp_w2 (List.mem_of_getElem? (i := 504) (by decide +kernel)) rfl
theorem wl_505 : (Jvm.Cond.instanceMethod ({ cls := "SharedComparers", name := "setComparers", desc := "(I)I" } : Jvm.MethodName)) ∈ lw_tb2 := dp_w2 (List.mem_of_getElem? (i := 505) (by decide +kernel)) rfl
theorem wl_506 : (Jvm.Cond.selects "SharedComparers" ({ cls := "SharedComparers", name := "setComparers", desc := "(I)I" } : Jvm.MethodName) ({ cls := "SharedComparers", name := "setComparers", desc := "(I)I" } : Jvm.MethodName)) ∈ lw_tb2 := dp_w2 (List.mem_of_getElem? (i := 506) (by decide +kernel)) rfl
theorem wl_507 : (Jvm.Cond.code ({ cls := "SharedComparers", name := "setComparers", desc := "(I)I" } : Jvm.MethodName) prog_1_method_6_code (3 : Nat) (Option.some Jvm.ClassFile.FieldType.int)) ∈ lw_tb2 := dp_w2 (List.mem_of_getElem? (i := 507) (by decide +kernel)) rfl
theorem wl_512 : (Jvm.Cond.methodLink "SharedComparersLaw" (37 : Nat) ({ cls := "SharedComparers", name := "setWindow", desc := "(I)I" } : Jvm.MethodName)) ∈ lw_tb2 := dp_w2 (List.mem_of_getElem? (i := 512) (by decide +kernel)) rfl
theorem wl_513 : (Jvm.Cond.instanceMethod ({ cls := "SharedComparers", name := "setWindow", desc := "(I)I" } : Jvm.MethodName)) ∈ lw_tb2 := dp_w2 (List.mem_of_getElem? (i := 513) (by decide +kernel)) rfl
theorem wl_514 : (Jvm.Cond.selects "SharedComparers" ({ cls := "SharedComparers", name := "setWindow", desc := "(I)I" } : Jvm.MethodName) ({ cls := "SharedComparers", name := "setWindow", desc := "(I)I" } : Jvm.MethodName)) ∈ lw_tb2 := dp_w2 (List.mem_of_getElem? (i := 514) (by decide +kernel)) rfl
theorem wl_515 : (Jvm.Cond.code ({ cls := "SharedComparers", name := "setWindow", desc := "(I)I" } : Jvm.MethodName) prog_1_method_7_code (3 : Nat) (Option.some Jvm.ClassFile.FieldType.int)) ∈ lw_tb2 := dp_w2 (List.mem_of_getElem? (i := 515) (by decide +kernel)) rfl
theorem wl_517 : (Jvm.Cond.methodLink "SharedComparersLaw" (41 : Nat) ({ cls := "SharedComparers", name := "setLoading", desc := "(I)I" } : Jvm.MethodName)) ∈ lw_tb2 := dp_w2 (List.mem_of_getElem? (i := 517) (by decide +kernel)) rfl
theorem wl_518 : (Jvm.Cond.instanceMethod ({ cls := "SharedComparers", name := "setLoading", desc := "(I)I" } : Jvm.MethodName)) ∈ lw_tb2 := dp_w2 (List.mem_of_getElem? (i := 518) (by decide +kernel)) rfl
theorem wl_519 : (Jvm.Cond.selects "SharedComparers" ({ cls := "SharedComparers", name := "setLoading", desc := "(I)I" } : Jvm.MethodName) ({ cls := "SharedComparers", name := "setLoading", desc := "(I)I" } : Jvm.MethodName)) ∈ lw_tb2 := dp_w2 (List.mem_of_getElem? (i := 519) (by decide +kernel)) rfl
theorem wl_520 : (Jvm.Cond.code ({ cls := "SharedComparers", name := "setLoading", desc := "(I)I" } : Jvm.MethodName) prog_1_method_8_code (3 : Nat) (Option.some Jvm.ClassFile.FieldType.int)) ∈ lw_tb2 := dp_w2 (List.mem_of_getElem? (i := 520) (by decide +kernel)) rfl
theorem wl_521 : (Jvm.Cond.methodLink "SharedComparersLaw" (45 : Nat) ({ cls := "SharedComparers", name := "setDrift", desc := "(I)I" } : Jvm.MethodName)) ∈ lw_tb2 := dp_w2 (List.mem_of_getElem? (i := 521) (by decide +kernel)) rfl
theorem wl_522 : (Jvm.Cond.instanceMethod ({ cls := "SharedComparers", name := "setDrift", desc := "(I)I" } : Jvm.MethodName)) ∈ lw_tb2 := dp_w2 (List.mem_of_getElem? (i := 522) (by decide +kernel)) rfl
theorem wl_523 : (Jvm.Cond.selects "SharedComparers" ({ cls := "SharedComparers", name := "setDrift", desc := "(I)I" } : Jvm.MethodName) ({ cls := "SharedComparers", name := "setDrift", desc := "(I)I" } : Jvm.MethodName)) ∈ lw_tb2 := dp_w2 (List.mem_of_getElem? (i := 523) (by decide +kernel)) rfl
theorem wl_524 : (Jvm.Cond.code ({ cls := "SharedComparers", name := "setDrift", desc := "(I)I" } : Jvm.MethodName) prog_1_method_9_code (3 : Nat) (Option.some Jvm.ClassFile.FieldType.int)) ∈ lw_tb2 := dp_w2 (List.mem_of_getElem? (i := 524) (by decide +kernel)) rfl
theorem wl_525 : (Jvm.Cond.methodLink "SharedComparersLaw" (49 : Nat) ({ cls := "SharedComparers", name := "correct", desc := "(I)I" } : Jvm.MethodName)) ∈ lw_tb2 := dp_w2 (List.mem_of_getElem? (i := 525) (by decide +kernel)) rfl
theorem wl_526 : (Jvm.Cond.instanceMethod ({ cls := "SharedComparers", name := "correct", desc := "(I)I" } : Jvm.MethodName)) ∈ lw_tb2 := dp_w2 (List.mem_of_getElem? (i := 526) (by decide +kernel)) rfl
theorem wl_527 : (Jvm.Cond.selects "SharedComparers" ({ cls := "SharedComparers", name := "correct", desc := "(I)I" } : Jvm.MethodName) ({ cls := "SharedComparers", name := "correct", desc := "(I)I" } : Jvm.MethodName)) ∈ lw_tb2 := dp_w2 (List.mem_of_getElem? (i := 527) (by decide +kernel)) rfl
theorem wl_528 : (Jvm.Cond.code ({ cls := "SharedComparers", name := "correct", desc := "(I)I" } : Jvm.MethodName) prog_1_method_10_code (3 : Nat) (Option.some Jvm.ClassFile.FieldType.int)) ∈ lw_tb2 := dp_w2 (List.mem_of_getElem? (i := 528) (by decide +kernel)) rfl
theorem wl_529 : (Jvm.Cond.methodLink "SharedComparersLaw" (53 : Nat) ({ cls := "SharedComparers", name := "run", desc := "(I)I" } : Jvm.MethodName)) ∈ lw_tb2 := dp_w2 (List.mem_of_getElem? (i := 529) (by decide +kernel)) rfl
theorem wl_530 : (Jvm.Cond.instanceMethod ({ cls := "SharedComparers", name := "run", desc := "(I)I" } : Jvm.MethodName)) ∈ lw_tb2 := dp_w2 (List.mem_of_getElem? (i := 530) (by decide +kernel)) rfl
theorem wl_531 : (Jvm.Cond.selects "SharedComparers" ({ cls := "SharedComparers", name := "run", desc := "(I)I" } : Jvm.MethodName) ({ cls := "SharedComparers", name := "run", desc := "(I)I" } : Jvm.MethodName)) ∈ lw_tb2 := dp_w2 (List.mem_of_getElem? (i := 531) (by decide +kernel)) rfl
theorem wl_532 : (Jvm.Cond.code ({ cls := "SharedComparers", name := "run", desc := "(I)I" } : Jvm.MethodName) prog_1_method_11_code (4 : Nat) (Option.some Jvm.ClassFile.FieldType.int)) ∈ lw_tb2 := dp_w2 (List.mem_of_getElem? (i := 532) (by decide +kernel)) rfl
theorem wl_575 : (Jvm.Cond.methodLink "SharedComparersLaw" (57 : Nat) ({ cls := "SharedComparers", name := "type", desc := "(C)I" } : Jvm.MethodName)) ∈ lw_tb2 := dp_w2 (List.mem_of_getElem? (i := 575) (by decide +kernel)) rfl
theorem wl_576 : (Jvm.Cond.instanceMethod ({ cls := "SharedComparers", name := "type", desc := "(C)I" } : Jvm.MethodName)) ∈ lw_tb2 := dp_w2 (List.mem_of_getElem? (i := 576) (by decide +kernel)) rfl
theorem wl_577 : (Jvm.Cond.selects "SharedComparers" ({ cls := "SharedComparers", name := "type", desc := "(C)I" } : Jvm.MethodName) ({ cls := "SharedComparers", name := "type", desc := "(C)I" } : Jvm.MethodName)) ∈ lw_tb2 := dp_w2 (List.mem_of_getElem? (i := 577) (by decide +kernel)) rfl
theorem wl_578 : (Jvm.Cond.code ({ cls := "SharedComparers", name := "type", desc := "(C)I" } : Jvm.MethodName) prog_1_method_12_code (2 : Nat) (Option.some Jvm.ClassFile.FieldType.int)) ∈ lw_tb2 := dp_w2 (List.mem_of_getElem? (i := 578) (by decide +kernel)) rfl
theorem wl_583 : (Jvm.Cond.methodLink "SharedComparersLaw" (62 : Nat) ({ cls := "SharedComparers", name := "clearText", desc := "()I" } : Jvm.MethodName)) ∈ lw_tb2 := dp_w2 (List.mem_of_getElem? (i := 583) (by decide +kernel)) rfl
theorem wl_584 : (Jvm.Cond.instanceMethod ({ cls := "SharedComparers", name := "clearText", desc := "()I" } : Jvm.MethodName)) ∈ lw_tb2 := dp_w2 (List.mem_of_getElem? (i := 584) (by decide +kernel)) rfl
theorem wl_585 : (Jvm.Cond.selects "SharedComparers" ({ cls := "SharedComparers", name := "clearText", desc := "()I" } : Jvm.MethodName) ({ cls := "SharedComparers", name := "clearText", desc := "()I" } : Jvm.MethodName)) ∈ lw_tb2 := dp_w2 (List.mem_of_getElem? (i := 585) (by decide +kernel)) rfl
theorem wl_586 : (Jvm.Cond.code ({ cls := "SharedComparers", name := "clearText", desc := "()I" } : Jvm.MethodName) prog_1_method_13_code (2 : Nat) (Option.some Jvm.ClassFile.FieldType.int)) ∈ lw_tb2 := dp_w2 (List.mem_of_getElem? (i := 586) (by decide +kernel)) rfl
theorem wl_587 : (Jvm.Cond.methodLink "SharedComparersLaw" (66 : Nat) ({ cls := "SharedComparers", name := "undo", desc := "()I" } : Jvm.MethodName)) ∈ lw_tb2 := dp_w2 (List.mem_of_getElem? (i := 587) (by decide +kernel)) rfl
theorem wl_588 : (Jvm.Cond.instanceMethod ({ cls := "SharedComparers", name := "undo", desc := "()I" } : Jvm.MethodName)) ∈ lw_tb2 := dp_w2 (List.mem_of_getElem? (i := 588) (by decide +kernel)) rfl
theorem wl_589 : (Jvm.Cond.selects "SharedComparers" ({ cls := "SharedComparers", name := "undo", desc := "()I" } : Jvm.MethodName) ({ cls := "SharedComparers", name := "undo", desc := "()I" } : Jvm.MethodName)) ∈ lw_tb2 := dp_w2 (List.mem_of_getElem? (i := 589) (by decide +kernel)) rfl
theorem wl_590 : (Jvm.Cond.code ({ cls := "SharedComparers", name := "undo", desc := "()I" } : Jvm.MethodName) prog_1_method_14_code (1 : Nat) (Option.some Jvm.ClassFile.FieldType.int)) ∈ lw_tb2 := dp_w2 (List.mem_of_getElem? (i := 590) (by decide +kernel)) rfl
theorem wl_595 : (Jvm.Cond.methodLink "SharedComparersLaw" (70 : Nat) ({ cls := "SharedComparers", name := "keep", desc := "()I" } : Jvm.MethodName)) ∈ lw_tb2 := dp_w2 (List.mem_of_getElem? (i := 595) (by decide +kernel)) rfl
theorem wl_596 : (Jvm.Cond.instanceMethod ({ cls := "SharedComparers", name := "keep", desc := "()I" } : Jvm.MethodName)) ∈ lw_tb2 := dp_w2 (List.mem_of_getElem? (i := 596) (by decide +kernel)) rfl
theorem wl_597 : (Jvm.Cond.selects "SharedComparers" ({ cls := "SharedComparers", name := "keep", desc := "()I" } : Jvm.MethodName) ({ cls := "SharedComparers", name := "keep", desc := "()I" } : Jvm.MethodName)) ∈ lw_tb2 := dp_w2 (List.mem_of_getElem? (i := 597) (by decide +kernel)) rfl
theorem wl_598 : (Jvm.Cond.code ({ cls := "SharedComparers", name := "keep", desc := "()I" } : Jvm.MethodName) prog_1_method_15_code (1 : Nat) (Option.some Jvm.ClassFile.FieldType.int)) ∈ lw_tb2 := dp_w2 (List.mem_of_getElem? (i := 598) (by decide +kernel)) rfl
theorem wl_600 : (Jvm.Cond.methodLink "SharedComparersLaw" (74 : Nat) ({ cls := "SharedComparers", name := "restore", desc := "()I" } : Jvm.MethodName)) ∈ lw_tb2 := dp_w2 (List.mem_of_getElem? (i := 600) (by decide +kernel)) rfl
theorem wl_601 : (Jvm.Cond.instanceMethod ({ cls := "SharedComparers", name := "restore", desc := "()I" } : Jvm.MethodName)) ∈ lw_tb2 := dp_w2 (List.mem_of_getElem? (i := 601) (by decide +kernel)) rfl
theorem wl_602 : (Jvm.Cond.selects "SharedComparers" ({ cls := "SharedComparers", name := "restore", desc := "()I" } : Jvm.MethodName) ({ cls := "SharedComparers", name := "restore", desc := "()I" } : Jvm.MethodName)) ∈ lw_tb2 := dp_w2 (List.mem_of_getElem? (i := 602) (by decide +kernel)) rfl
theorem wl_603 : (Jvm.Cond.code ({ cls := "SharedComparers", name := "restore", desc := "()I" } : Jvm.MethodName) prog_1_method_16_code (1 : Nat) (Option.some Jvm.ClassFile.FieldType.int)) ∈ lw_tb2 := dp_w2 (List.mem_of_getElem? (i := 603) (by decide +kernel)) rfl
theorem wl_604 : (Jvm.Cond.methodLink "SharedComparersLaw" (78 : Nat) ({ cls := "SharedComparers", name := "alarm", desc := "(II)I" } : Jvm.MethodName)) ∈ lw_tb2 := dp_w2 (List.mem_of_getElem? (i := 604) (by decide +kernel)) rfl
theorem wl_605 : (Jvm.Cond.instanceMethod ({ cls := "SharedComparers", name := "alarm", desc := "(II)I" } : Jvm.MethodName)) ∈ lw_tb2 := dp_w2 (List.mem_of_getElem? (i := 605) (by decide +kernel)) rfl
theorem wl_606 : (Jvm.Cond.selects "SharedComparers" ({ cls := "SharedComparers", name := "alarm", desc := "(II)I" } : Jvm.MethodName) ({ cls := "SharedComparers", name := "alarm", desc := "(II)I" } : Jvm.MethodName)) ∈ lw_tb2 := dp_w2 (List.mem_of_getElem? (i := 606) (by decide +kernel)) rfl
theorem wl_607 : (Jvm.Cond.code ({ cls := "SharedComparers", name := "alarm", desc := "(II)I" } : Jvm.MethodName) prog_1_method_17_code (5 : Nat) (Option.some Jvm.ClassFile.FieldType.int)) ∈ lw_tb2 := dp_w2 (List.mem_of_getElem? (i := 607) (by decide +kernel)) rfl
theorem wl_608 : (Jvm.Cond.methodLink "SharedComparersLaw" (82 : Nat) ({ cls := "SharedComparers", name := "comparer", desc := "(II)I" } : Jvm.MethodName)) ∈ lw_tb2 := dp_w2 (List.mem_of_getElem? (i := 608) (by decide +kernel)) rfl
theorem wl_609 : (Jvm.Cond.instanceMethod ({ cls := "SharedComparers", name := "comparer", desc := "(II)I" } : Jvm.MethodName)) ∈ lw_tb2 := dp_w2 (List.mem_of_getElem? (i := 609) (by decide +kernel)) rfl
theorem wl_610 : (Jvm.Cond.selects "SharedComparers" ({ cls := "SharedComparers", name := "comparer", desc := "(II)I" } : Jvm.MethodName) ({ cls := "SharedComparers", name := "comparer", desc := "(II)I" } : Jvm.MethodName)) ∈ lw_tb2 := dp_w2 (List.mem_of_getElem? (i := 610) (by decide +kernel)) rfl
theorem wl_611 : (Jvm.Cond.code ({ cls := "SharedComparers", name := "comparer", desc := "(II)I" } : Jvm.MethodName) prog_1_method_18_code (4 : Nat) (Option.some Jvm.ClassFile.FieldType.int)) ∈ lw_tb2 := dp_w2 (List.mem_of_getElem? (i := 611) (by decide +kernel)) rfl
theorem wl_617 : (Jvm.Cond.methodLink "SharedComparersLaw" (86 : Nat) ({ cls := "SharedComparers", name := "at", desc := "(I)I" } : Jvm.MethodName)) ∈ lw_tb2 := dp_w2 (List.mem_of_getElem? (i := 617) (by decide +kernel)) rfl
theorem wl_618 : (Jvm.Cond.instanceMethod ({ cls := "SharedComparers", name := "at", desc := "(I)I" } : Jvm.MethodName)) ∈ lw_tb2 := dp_w2 (List.mem_of_getElem? (i := 618) (by decide +kernel)) rfl
theorem wl_619 : (Jvm.Cond.selects "SharedComparers" ({ cls := "SharedComparers", name := "at", desc := "(I)I" } : Jvm.MethodName) ({ cls := "SharedComparers", name := "at", desc := "(I)I" } : Jvm.MethodName)) ∈ lw_tb2 := dp_w2 (List.mem_of_getElem? (i := 619) (by decide +kernel)) rfl
theorem wl_620 : (Jvm.Cond.code ({ cls := "SharedComparers", name := "at", desc := "(I)I" } : Jvm.MethodName) prog_1_method_19_code (2 : Nat) (Option.some Jvm.ClassFile.FieldType.int)) ∈ lw_tb2 := dp_w2 (List.mem_of_getElem? (i := 620) (by decide +kernel)) rfl
theorem wl_621 : (Jvm.Cond.methodLink "SharedComparersLaw" (90 : Nat) ({ cls := "SharedComparers", name := "ringsIn", desc := "(I)I" } : Jvm.MethodName)) ∈ lw_tb2 := dp_w2 (List.mem_of_getElem? (i := 621) (by decide +kernel)) rfl
theorem wl_622 : (Jvm.Cond.instanceMethod ({ cls := "SharedComparers", name := "ringsIn", desc := "(I)I" } : Jvm.MethodName)) ∈ lw_tb2 := dp_w2 (List.mem_of_getElem? (i := 622) (by decide +kernel)) rfl
theorem wl_623 : (Jvm.Cond.selects "SharedComparers" ({ cls := "SharedComparers", name := "ringsIn", desc := "(I)I" } : Jvm.MethodName) ({ cls := "SharedComparers", name := "ringsIn", desc := "(I)I" } : Jvm.MethodName)) ∈ lw_tb2 := dp_w2 (List.mem_of_getElem? (i := 623) (by decide +kernel)) rfl
theorem wl_624 : (Jvm.Cond.code ({ cls := "SharedComparers", name := "ringsIn", desc := "(I)I" } : Jvm.MethodName) prog_1_method_20_code (5 : Nat) (Option.some Jvm.ClassFile.FieldType.int)) ∈ lw_tb2 := dp_w2 (List.mem_of_getElem? (i := 624) (by decide +kernel)) rfl
theorem wl_630 : (Jvm.Cond.methodLink "SharedComparersLaw" (94 : Nat) ({ cls := "SharedComparers", name := "ifComparers", desc := "(III)I" } : Jvm.MethodName)) ∈ lw_tb2 := dp_w2 (List.mem_of_getElem? (i := 630) (by decide +kernel)) rfl
theorem wl_631 : (Jvm.Cond.instanceMethod ({ cls := "SharedComparers", name := "ifComparers", desc := "(III)I" } : Jvm.MethodName)) ∈ lw_tb2 := dp_w2 (List.mem_of_getElem? (i := 631) (by decide +kernel)) rfl
theorem wl_632 : (Jvm.Cond.selects "SharedComparers" ({ cls := "SharedComparers", name := "ifComparers", desc := "(III)I" } : Jvm.MethodName) ({ cls := "SharedComparers", name := "ifComparers", desc := "(III)I" } : Jvm.MethodName)) ∈ lw_tb2 := dp_w2 (List.mem_of_getElem? (i := 632) (by decide +kernel)) rfl
theorem wl_633 : (Jvm.Cond.code ({ cls := "SharedComparers", name := "ifComparers", desc := "(III)I" } : Jvm.MethodName) prog_1_method_21_code (4 : Nat) (Option.some Jvm.ClassFile.FieldType.int)) ∈ lw_tb2 := dp_w2 (List.mem_of_getElem? (i := 633) (by decide +kernel)) rfl
theorem wl_642 : (Jvm.Cond.methodLink "SharedComparersLaw" (98 : Nat) ({ cls := "SharedComparers", name := "fewest", desc := "(I)I" } : Jvm.MethodName)) ∈ lw_tb2 := dp_w2 (List.mem_of_getElem? (i := 642) (by decide +kernel)) rfl
theorem wl_643 : (Jvm.Cond.instanceMethod ({ cls := "SharedComparers", name := "fewest", desc := "(I)I" } : Jvm.MethodName)) ∈ lw_tb2 := dp_w2 (List.mem_of_getElem? (i := 643) (by decide +kernel)) rfl
theorem wl_644 : (Jvm.Cond.selects "SharedComparers" ({ cls := "SharedComparers", name := "fewest", desc := "(I)I" } : Jvm.MethodName) ({ cls := "SharedComparers", name := "fewest", desc := "(I)I" } : Jvm.MethodName)) ∈ lw_tb2 := dp_w2 (List.mem_of_getElem? (i := 644) (by decide +kernel)) rfl
theorem wl_645 : (Jvm.Cond.code ({ cls := "SharedComparers", name := "fewest", desc := "(I)I" } : Jvm.MethodName) prog_1_method_22_code (5 : Nat) (Option.some Jvm.ClassFile.FieldType.int)) ∈ lw_tb2 := dp_w2 (List.mem_of_getElem? (i := 645) (by decide +kernel)) rfl
theorem wl_646 : (Jvm.Cond.methodLink "SharedComparersLaw" (102 : Nat) ({ cls := "SharedComparers", name := "ring", desc := "(II)I" } : Jvm.MethodName)) ∈ lw_tb2 := dp_w2 (List.mem_of_getElem? (i := 646) (by decide +kernel)) rfl
theorem wl_647 : (Jvm.Cond.instanceMethod ({ cls := "SharedComparers", name := "ring", desc := "(II)I" } : Jvm.MethodName)) ∈ lw_tb2 := dp_w2 (List.mem_of_getElem? (i := 647) (by decide +kernel)) rfl
theorem wl_648 : (Jvm.Cond.selects "SharedComparers" ({ cls := "SharedComparers", name := "ring", desc := "(II)I" } : Jvm.MethodName) ({ cls := "SharedComparers", name := "ring", desc := "(II)I" } : Jvm.MethodName)) ∈ lw_tb2 := dp_w2 (List.mem_of_getElem? (i := 648) (by decide +kernel)) rfl
theorem wl_649 : (Jvm.Cond.code ({ cls := "SharedComparers", name := "ring", desc := "(II)I" } : Jvm.MethodName) prog_1_method_23_code (3 : Nat) (Option.some Jvm.ClassFile.FieldType.int)) ∈ lw_tb2 := dp_w2 (List.mem_of_getElem? (i := 649) (by decide +kernel)) rfl
theorem wl_654 : (Jvm.Cond.methodLink "SharedComparersLaw" (106 : Nat) ({ cls := "SharedComparers", name := "count", desc := "(I)I" } : Jvm.MethodName)) ∈ lw_tb2 := dp_w2 (List.mem_of_getElem? (i := 654) (by decide +kernel)) rfl
theorem wl_655 : (Jvm.Cond.instanceMethod ({ cls := "SharedComparers", name := "count", desc := "(I)I" } : Jvm.MethodName)) ∈ lw_tb2 := dp_w2 (List.mem_of_getElem? (i := 655) (by decide +kernel)) rfl
theorem wl_656 : (Jvm.Cond.selects "SharedComparers" ({ cls := "SharedComparers", name := "count", desc := "(I)I" } : Jvm.MethodName) ({ cls := "SharedComparers", name := "count", desc := "(I)I" } : Jvm.MethodName)) ∈ lw_tb2 := dp_w2 (List.mem_of_getElem? (i := 656) (by decide +kernel)) rfl
theorem wl_657 : (Jvm.Cond.code ({ cls := "SharedComparers", name := "count", desc := "(I)I" } : Jvm.MethodName) prog_1_method_24_code (2 : Nat) (Option.some Jvm.ClassFile.FieldType.int)) ∈ lw_tb2 := dp_w2 (List.mem_of_getElem? (i := 657) (by decide +kernel)) rfl
theorem wl_706 : (Jvm.Cond.methodLink "SharedComparersLaw" (17 : Nat) ({ cls := "SharedComparersModel", name := "set", desc := "(III)I" } : Jvm.MethodName)) ∈ lw_tb2 := dp_w2 (List.mem_of_getElem? (i := 706) (by decide +kernel)) rfl
theorem wl_707 : (Jvm.Cond.instanceMethod ({ cls := "SharedComparersModel", name := "set", desc := "(III)I" } : Jvm.MethodName)) ∈ lw_tb2 := dp_w2 (List.mem_of_getElem? (i := 707) (by decide +kernel)) rfl
theorem wl_708 : (Jvm.Cond.selects "SharedComparersModel" ({ cls := "SharedComparersModel", name := "set", desc := "(III)I" } : Jvm.MethodName) ({ cls := "SharedComparersModel", name := "set", desc := "(III)I" } : Jvm.MethodName)) ∈ lw_tb2 := dp_w2 (List.mem_of_getElem? (i := 708) (by decide +kernel)) rfl
theorem wl_709 : (Jvm.Cond.code ({ cls := "SharedComparersModel", name := "set", desc := "(III)I" } : Jvm.MethodName) prog_10_method_31_code (4 : Nat) (Option.some Jvm.ClassFile.FieldType.int)) ∈ lw_tb2 := dp_w2 (List.mem_of_getElem? (i := 709) (by decide +kernel)) rfl
theorem wl_766 : (Jvm.Cond.methodLink "SharedComparersLaw" (22 : Nat) ({ cls := "SharedComparersModel", name := "setAll", desc := "()I" } : Jvm.MethodName)) ∈ lw_tb2 := dp_w2 (List.mem_of_getElem? (i := 766) (by decide +kernel)) rfl
theorem wl_767 : (Jvm.Cond.instanceMethod ({ cls := "SharedComparersModel", name := "setAll", desc := "()I" } : Jvm.MethodName)) ∈ lw_tb2 := dp_w2 (List.mem_of_getElem? (i := 767) (by decide +kernel)) rfl
theorem wl_768 : (Jvm.Cond.selects "SharedComparersModel" ({ cls := "SharedComparersModel", name := "setAll", desc := "()I" } : Jvm.MethodName) ({ cls := "SharedComparersModel", name := "setAll", desc := "()I" } : Jvm.MethodName)) ∈ lw_tb2 := dp_w2 (List.mem_of_getElem? (i := 768) (by decide +kernel)) rfl
theorem wl_769 : (Jvm.Cond.code ({ cls := "SharedComparersModel", name := "setAll", desc := "()I" } : Jvm.MethodName) prog_10_method_32_code (3 : Nat) (Option.some Jvm.ClassFile.FieldType.int)) ∈ lw_tb2 := dp_w2 (List.mem_of_getElem? (i := 769) (by decide +kernel)) rfl
theorem wl_790 : (Jvm.Cond.methodLink "SharedComparersLaw" (27 : Nat) ({ cls := "SharedComparersModel", name := "cancel", desc := "(I)I" } : Jvm.MethodName)) ∈ lw_tb2 := dp_w2 (List.mem_of_getElem? (i := 790) (by decide +kernel)) rfl
theorem wl_791 : (Jvm.Cond.instanceMethod ({ cls := "SharedComparersModel", name := "cancel", desc := "(I)I" } : Jvm.MethodName)) ∈ lw_tb2 := dp_w2 (List.mem_of_getElem? (i := 791) (by decide +kernel)) rfl
theorem wl_792 : (Jvm.Cond.selects "SharedComparersModel" ({ cls := "SharedComparersModel", name := "cancel", desc := "(I)I" } : Jvm.MethodName) ({ cls := "SharedComparersModel", name := "cancel", desc := "(I)I" } : Jvm.MethodName)) ∈ lw_tb2 := dp_w2 (List.mem_of_getElem? (i := 792) (by decide +kernel)) rfl
theorem wl_793 : (Jvm.Cond.code ({ cls := "SharedComparersModel", name := "cancel", desc := "(I)I" } : Jvm.MethodName) prog_10_method_33_code (3 : Nat) (Option.some Jvm.ClassFile.FieldType.int)) ∈ lw_tb2 := dp_w2 (List.mem_of_getElem? (i := 793) (by decide +kernel)) rfl
theorem wl_803 : (Jvm.Cond.methodLink "SharedComparersLaw" (32 : Nat) ({ cls := "SharedComparersModel", name := "move", desc := "(II)I" } : Jvm.MethodName)) ∈ lw_tb2 := dp_w2 (List.mem_of_getElem? (i := 803) (by decide +kernel)) rfl
theorem wl_804 : (Jvm.Cond.instanceMethod ({ cls := "SharedComparersModel", name := "move", desc := "(II)I" } : Jvm.MethodName)) ∈ lw_tb2 := dp_w2 (List.mem_of_getElem? (i := 804) (by decide +kernel)) rfl
theorem wl_805 : (Jvm.Cond.selects "SharedComparersModel" ({ cls := "SharedComparersModel", name := "move", desc := "(II)I" } : Jvm.MethodName) ({ cls := "SharedComparersModel", name := "move", desc := "(II)I" } : Jvm.MethodName)) ∈ lw_tb2 := dp_w2 (List.mem_of_getElem? (i := 805) (by decide +kernel)) rfl
theorem wl_806 : (Jvm.Cond.code ({ cls := "SharedComparersModel", name := "move", desc := "(II)I" } : Jvm.MethodName) prog_10_method_34_code (5 : Nat) (Option.some Jvm.ClassFile.FieldType.int)) ∈ lw_tb2 := dp_w2 (List.mem_of_getElem? (i := 806) (by decide +kernel)) rfl
theorem wl_807 : (Jvm.Cond.methodLink "SharedComparersLaw" (36 : Nat) ({ cls := "SharedComparersModel", name := "setComparers", desc := "(I)I" } : Jvm.MethodName)) ∈ lw_tb2 := dp_w2 (List.mem_of_getElem? (i := 807) (by decide +kernel)) rfl
theorem wl_808 : (Jvm.Cond.instanceMethod ({ cls := "SharedComparersModel", name := "setComparers", desc := "(I)I" } : Jvm.MethodName)) ∈ lw_tb2 := dp_w2 (List.mem_of_getElem? (i := 808) (by decide +kernel)) rfl
theorem wl_809 : (Jvm.Cond.selects "SharedComparersModel" ({ cls := "SharedComparersModel", name := "setComparers", desc := "(I)I" } : Jvm.MethodName) ({ cls := "SharedComparersModel", name := "setComparers", desc := "(I)I" } : Jvm.MethodName)) ∈ lw_tb2 := dp_w2 (List.mem_of_getElem? (i := 809) (by decide +kernel)) rfl
theorem wl_810 : (Jvm.Cond.code ({ cls := "SharedComparersModel", name := "setComparers", desc := "(I)I" } : Jvm.MethodName) prog_10_method_36_code (3 : Nat) (Option.some Jvm.ClassFile.FieldType.int)) ∈ lw_tb2 := dp_w2 (List.mem_of_getElem? (i := 810) (by decide +kernel)) rfl
theorem wl_814 : (Jvm.Cond.methodLink "SharedComparersLaw" (40 : Nat) ({ cls := "SharedComparersModel", name := "setWindow", desc := "(I)I" } : Jvm.MethodName)) ∈ lw_tb2 := dp_w2 (List.mem_of_getElem? (i := 814) (by decide +kernel)) rfl
theorem wl_815 : (Jvm.Cond.instanceMethod ({ cls := "SharedComparersModel", name := "setWindow", desc := "(I)I" } : Jvm.MethodName)) ∈ lw_tb2 := dp_w2 (List.mem_of_getElem? (i := 815) (by decide +kernel)) rfl
theorem wl_816 : (Jvm.Cond.selects "SharedComparersModel" ({ cls := "SharedComparersModel", name := "setWindow", desc := "(I)I" } : Jvm.MethodName) ({ cls := "SharedComparersModel", name := "setWindow", desc := "(I)I" } : Jvm.MethodName)) ∈ lw_tb2 := dp_w2 (List.mem_of_getElem? (i := 816) (by decide +kernel)) rfl
theorem wl_817 : (Jvm.Cond.code ({ cls := "SharedComparersModel", name := "setWindow", desc := "(I)I" } : Jvm.MethodName) prog_10_method_38_code (3 : Nat) (Option.some Jvm.ClassFile.FieldType.int)) ∈ lw_tb2 := dp_w2 (List.mem_of_getElem? (i := 817) (by decide +kernel)) rfl
theorem wl_822 : (Jvm.Cond.methodLink "SharedComparersLaw" (44 : Nat) ({ cls := "SharedComparersModel", name := "setLoading", desc := "(I)I" } : Jvm.MethodName)) ∈ lw_tb2 := dp_w2 (List.mem_of_getElem? (i := 822) (by decide +kernel)) rfl
theorem wl_823 : (Jvm.Cond.instanceMethod ({ cls := "SharedComparersModel", name := "setLoading", desc := "(I)I" } : Jvm.MethodName)) ∈ lw_tb2 := dp_w2 (List.mem_of_getElem? (i := 823) (by decide +kernel)) rfl
theorem wl_824 : (Jvm.Cond.selects "SharedComparersModel" ({ cls := "SharedComparersModel", name := "setLoading", desc := "(I)I" } : Jvm.MethodName) ({ cls := "SharedComparersModel", name := "setLoading", desc := "(I)I" } : Jvm.MethodName)) ∈ lw_tb2 := dp_w2 (List.mem_of_getElem? (i := 824) (by decide +kernel)) rfl
theorem wl_825 : (Jvm.Cond.code ({ cls := "SharedComparersModel", name := "setLoading", desc := "(I)I" } : Jvm.MethodName) prog_10_method_39_code (2 : Nat) (Option.some Jvm.ClassFile.FieldType.int)) ∈ lw_tb2 := dp_w2 (List.mem_of_getElem? (i := 825) (by decide +kernel)) rfl
theorem wl_826 : (Jvm.Cond.methodLink "SharedComparersLaw" (48 : Nat) ({ cls := "SharedComparersModel", name := "setDrift", desc := "(I)I" } : Jvm.MethodName)) ∈ lw_tb2 := dp_w2 (List.mem_of_getElem? (i := 826) (by decide +kernel)) rfl
theorem wl_827 : (Jvm.Cond.instanceMethod ({ cls := "SharedComparersModel", name := "setDrift", desc := "(I)I" } : Jvm.MethodName)) ∈ lw_tb2 := dp_w2 (List.mem_of_getElem? (i := 827) (by decide +kernel)) rfl
theorem wl_828 : (Jvm.Cond.selects "SharedComparersModel" ({ cls := "SharedComparersModel", name := "setDrift", desc := "(I)I" } : Jvm.MethodName) ({ cls := "SharedComparersModel", name := "setDrift", desc := "(I)I" } : Jvm.MethodName)) ∈ lw_tb2 := dp_w2 (List.mem_of_getElem? (i := 828) (by decide +kernel)) rfl
theorem wl_829 : (Jvm.Cond.code ({ cls := "SharedComparersModel", name := "setDrift", desc := "(I)I" } : Jvm.MethodName) prog_10_method_40_code (3 : Nat) (Option.some Jvm.ClassFile.FieldType.int)) ∈ lw_tb2 := dp_w2 (List.mem_of_getElem? (i := 829) (by decide +kernel)) rfl
theorem wl_830 : (Jvm.Cond.methodLink "SharedComparersLaw" (52 : Nat) ({ cls := "SharedComparersModel", name := "correct", desc := "(I)I" } : Jvm.MethodName)) ∈ lw_tb2 := dp_w2 (List.mem_of_getElem? (i := 830) (by decide +kernel)) rfl
theorem wl_831 : (Jvm.Cond.instanceMethod ({ cls := "SharedComparersModel", name := "correct", desc := "(I)I" } : Jvm.MethodName)) ∈ lw_tb2 := dp_w2 (List.mem_of_getElem? (i := 831) (by decide +kernel)) rfl
theorem wl_832 : (Jvm.Cond.selects "SharedComparersModel" ({ cls := "SharedComparersModel", name := "correct", desc := "(I)I" } : Jvm.MethodName) ({ cls := "SharedComparersModel", name := "correct", desc := "(I)I" } : Jvm.MethodName)) ∈ lw_tb2 := dp_w2 (List.mem_of_getElem? (i := 832) (by decide +kernel)) rfl
theorem wl_833 : (Jvm.Cond.code ({ cls := "SharedComparersModel", name := "correct", desc := "(I)I" } : Jvm.MethodName) prog_10_method_41_code (2 : Nat) (Option.some Jvm.ClassFile.FieldType.int)) ∈ lw_tb2 := dp_w2 (List.mem_of_getElem? (i := 833) (by decide +kernel)) rfl
theorem wl_834 : (Jvm.Cond.methodLink "SharedComparersLaw" (56 : Nat) ({ cls := "SharedComparersModel", name := "run", desc := "(I)I" } : Jvm.MethodName)) ∈ lw_tb2 := dp_w2 (List.mem_of_getElem? (i := 834) (by decide +kernel)) rfl
theorem wl_835 : (Jvm.Cond.instanceMethod ({ cls := "SharedComparersModel", name := "run", desc := "(I)I" } : Jvm.MethodName)) ∈ lw_tb2 := dp_w2 (List.mem_of_getElem? (i := 835) (by decide +kernel)) rfl
theorem wl_836 : (Jvm.Cond.selects "SharedComparersModel" ({ cls := "SharedComparersModel", name := "run", desc := "(I)I" } : Jvm.MethodName) ({ cls := "SharedComparersModel", name := "run", desc := "(I)I" } : Jvm.MethodName)) ∈ lw_tb2 := dp_w2 (List.mem_of_getElem? (i := 836) (by decide +kernel)) rfl
theorem wl_837 : (Jvm.Cond.code ({ cls := "SharedComparersModel", name := "run", desc := "(I)I" } : Jvm.MethodName) prog_10_method_42_code (2 : Nat) (Option.some Jvm.ClassFile.FieldType.int)) ∈ lw_tb2 := dp_w2 (List.mem_of_getElem? (i := 837) (by decide +kernel)) rfl
theorem wl_853 : (Jvm.Cond.methodLink "SharedComparersLaw" (61 : Nat) ({ cls := "SharedComparersModel", name := "type", desc := "(C)I" } : Jvm.MethodName)) ∈ lw_tb2 := dp_w2 (List.mem_of_getElem? (i := 853) (by decide +kernel)) rfl
theorem wl_854 : (Jvm.Cond.instanceMethod ({ cls := "SharedComparersModel", name := "type", desc := "(C)I" } : Jvm.MethodName)) ∈ lw_tb2 := dp_w2 (List.mem_of_getElem? (i := 854) (by decide +kernel)) rfl
theorem wl_855 : (Jvm.Cond.selects "SharedComparersModel" ({ cls := "SharedComparersModel", name := "type", desc := "(C)I" } : Jvm.MethodName) ({ cls := "SharedComparersModel", name := "type", desc := "(C)I" } : Jvm.MethodName)) ∈ lw_tb2 := dp_w2 (List.mem_of_getElem? (i := 855) (by decide +kernel)) rfl
theorem wl_856 : (Jvm.Cond.code ({ cls := "SharedComparersModel", name := "type", desc := "(C)I" } : Jvm.MethodName) prog_10_method_43_code (2 : Nat) (Option.some Jvm.ClassFile.FieldType.int)) ∈ lw_tb2 := dp_w2 (List.mem_of_getElem? (i := 856) (by decide +kernel)) rfl
theorem wl_857 : (Jvm.Cond.methodLink "SharedComparersLaw" (65 : Nat) ({ cls := "SharedComparersModel", name := "clearText", desc := "()I" } : Jvm.MethodName)) ∈ lw_tb2 := dp_w2 (List.mem_of_getElem? (i := 857) (by decide +kernel)) rfl
theorem wl_858 : (Jvm.Cond.instanceMethod ({ cls := "SharedComparersModel", name := "clearText", desc := "()I" } : Jvm.MethodName)) ∈ lw_tb2 := dp_w2 (List.mem_of_getElem? (i := 858) (by decide +kernel)) rfl
theorem wl_859 : (Jvm.Cond.selects "SharedComparersModel" ({ cls := "SharedComparersModel", name := "clearText", desc := "()I" } : Jvm.MethodName) ({ cls := "SharedComparersModel", name := "clearText", desc := "()I" } : Jvm.MethodName)) ∈ lw_tb2 := dp_w2 (List.mem_of_getElem? (i := 859) (by decide +kernel)) rfl
theorem wl_860 : (Jvm.Cond.code ({ cls := "SharedComparersModel", name := "clearText", desc := "()I" } : Jvm.MethodName) prog_10_method_44_code (2 : Nat) (Option.some Jvm.ClassFile.FieldType.int)) ∈ lw_tb2 := dp_w2 (List.mem_of_getElem? (i := 860) (by decide +kernel)) rfl
theorem wl_861 : (Jvm.Cond.methodLink "SharedComparersLaw" (69 : Nat) ({ cls := "SharedComparersModel", name := "undo", desc := "()I" } : Jvm.MethodName)) ∈ lw_tb2 := dp_w2 (List.mem_of_getElem? (i := 861) (by decide +kernel)) rfl
theorem wl_862 : (Jvm.Cond.instanceMethod ({ cls := "SharedComparersModel", name := "undo", desc := "()I" } : Jvm.MethodName)) ∈ lw_tb2 := dp_w2 (List.mem_of_getElem? (i := 862) (by decide +kernel)) rfl
theorem wl_863 : (Jvm.Cond.selects "SharedComparersModel" ({ cls := "SharedComparersModel", name := "undo", desc := "()I" } : Jvm.MethodName) ({ cls := "SharedComparersModel", name := "undo", desc := "()I" } : Jvm.MethodName)) ∈ lw_tb2 := dp_w2 (List.mem_of_getElem? (i := 863) (by decide +kernel)) rfl
theorem wl_864 : (Jvm.Cond.code ({ cls := "SharedComparersModel", name := "undo", desc := "()I" } : Jvm.MethodName) prog_10_method_50_code (1 : Nat) (Option.some Jvm.ClassFile.FieldType.int)) ∈ lw_tb2 := dp_w2 (List.mem_of_getElem? (i := 864) (by decide +kernel)) rfl
theorem wl_865 : (Jvm.Cond.methodLink "SharedComparersLaw" (73 : Nat) ({ cls := "SharedComparersModel", name := "keep", desc := "()I" } : Jvm.MethodName)) ∈ lw_tb2 := dp_w2 (List.mem_of_getElem? (i := 865) (by decide +kernel)) rfl
theorem wl_866 : (Jvm.Cond.instanceMethod ({ cls := "SharedComparersModel", name := "keep", desc := "()I" } : Jvm.MethodName)) ∈ lw_tb2 := dp_w2 (List.mem_of_getElem? (i := 866) (by decide +kernel)) rfl
theorem wl_867 : (Jvm.Cond.selects "SharedComparersModel" ({ cls := "SharedComparersModel", name := "keep", desc := "()I" } : Jvm.MethodName) ({ cls := "SharedComparersModel", name := "keep", desc := "()I" } : Jvm.MethodName)) ∈ lw_tb2 := dp_w2 (List.mem_of_getElem? (i := 867) (by decide +kernel)) rfl
theorem wl_868 : (Jvm.Cond.code ({ cls := "SharedComparersModel", name := "keep", desc := "()I" } : Jvm.MethodName) prog_10_method_51_code (1 : Nat) (Option.some Jvm.ClassFile.FieldType.int)) ∈ lw_tb2 := dp_w2 (List.mem_of_getElem? (i := 868) (by decide +kernel)) rfl
theorem wl_869 : (Jvm.Cond.methodLink "SharedComparersLaw" (77 : Nat) ({ cls := "SharedComparersModel", name := "restore", desc := "()I" } : Jvm.MethodName)) ∈ lw_tb2 := dp_w2 (List.mem_of_getElem? (i := 869) (by decide +kernel)) rfl
theorem wl_870 : (Jvm.Cond.instanceMethod ({ cls := "SharedComparersModel", name := "restore", desc := "()I" } : Jvm.MethodName)) ∈ lw_tb2 := dp_w2 (List.mem_of_getElem? (i := 870) (by decide +kernel)) rfl
theorem wl_871 : (Jvm.Cond.selects "SharedComparersModel" ({ cls := "SharedComparersModel", name := "restore", desc := "()I" } : Jvm.MethodName) ({ cls := "SharedComparersModel", name := "restore", desc := "()I" } : Jvm.MethodName)) ∈ lw_tb2 := dp_w2 (List.mem_of_getElem? (i := 871) (by decide +kernel)) rfl
theorem wl_872 : (Jvm.Cond.code ({ cls := "SharedComparersModel", name := "restore", desc := "()I" } : Jvm.MethodName) prog_10_method_52_code (1 : Nat) (Option.some Jvm.ClassFile.FieldType.int)) ∈ lw_tb2 := dp_w2 (List.mem_of_getElem? (i := 872) (by decide +kernel)) rfl
theorem wl_873 : (Jvm.Cond.methodLink "SharedComparersLaw" (81 : Nat) ({ cls := "SharedComparersModel", name := "alarm", desc := "(II)I" } : Jvm.MethodName)) ∈ lw_tb2 := dp_w2 (List.mem_of_getElem? (i := 873) (by decide +kernel)) rfl
theorem wl_874 : (Jvm.Cond.instanceMethod ({ cls := "SharedComparersModel", name := "alarm", desc := "(II)I" } : Jvm.MethodName)) ∈ lw_tb2 := dp_w2 (List.mem_of_getElem? (i := 874) (by decide +kernel)) rfl
theorem wl_875 : (Jvm.Cond.selects "SharedComparersModel" ({ cls := "SharedComparersModel", name := "alarm", desc := "(II)I" } : Jvm.MethodName) ({ cls := "SharedComparersModel", name := "alarm", desc := "(II)I" } : Jvm.MethodName)) ∈ lw_tb2 := dp_w2 (List.mem_of_getElem? (i := 875) (by decide +kernel)) rfl
theorem wl_876 : (Jvm.Cond.code ({ cls := "SharedComparersModel", name := "alarm", desc := "(II)I" } : Jvm.MethodName) prog_10_method_53_code (4 : Nat) (Option.some Jvm.ClassFile.FieldType.int)) ∈ lw_tb2 := dp_w2 (List.mem_of_getElem? (i := 876) (by decide +kernel)) rfl
theorem wl_880 : (Jvm.Cond.methodLink "SharedComparersLaw" (85 : Nat) ({ cls := "SharedComparersModel", name := "comparer", desc := "(II)I" } : Jvm.MethodName)) ∈ lw_tb2 := dp_w2 (List.mem_of_getElem? (i := 880) (by decide +kernel)) rfl
theorem wl_881 : (Jvm.Cond.instanceMethod ({ cls := "SharedComparersModel", name := "comparer", desc := "(II)I" } : Jvm.MethodName)) ∈ lw_tb2 := dp_w2 (List.mem_of_getElem? (i := 881) (by decide +kernel)) rfl
theorem wl_882 : (Jvm.Cond.selects "SharedComparersModel" ({ cls := "SharedComparersModel", name := "comparer", desc := "(II)I" } : Jvm.MethodName) ({ cls := "SharedComparersModel", name := "comparer", desc := "(II)I" } : Jvm.MethodName)) ∈ lw_tb2 := dp_w2 (List.mem_of_getElem? (i := 882) (by decide +kernel)) rfl
theorem wl_883 : (Jvm.Cond.code ({ cls := "SharedComparersModel", name := "comparer", desc := "(II)I" } : Jvm.MethodName) prog_10_method_54_code (4 : Nat) (Option.some Jvm.ClassFile.FieldType.int)) ∈ lw_tb2 := dp_w2 (List.mem_of_getElem? (i := 883) (by decide +kernel)) rfl
theorem wl_887 : (Jvm.Cond.methodLink "SharedComparersLaw" (89 : Nat) ({ cls := "SharedComparersModel", name := "at", desc := "(I)I" } : Jvm.MethodName)) ∈ lw_tb2 := dp_w2 (List.mem_of_getElem? (i := 887) (by decide +kernel)) rfl
theorem wl_888 : (Jvm.Cond.instanceMethod ({ cls := "SharedComparersModel", name := "at", desc := "(I)I" } : Jvm.MethodName)) ∈ lw_tb2 := dp_w2 (List.mem_of_getElem? (i := 888) (by decide +kernel)) rfl
theorem wl_889 : (Jvm.Cond.selects "SharedComparersModel" ({ cls := "SharedComparersModel", name := "at", desc := "(I)I" } : Jvm.MethodName) ({ cls := "SharedComparersModel", name := "at", desc := "(I)I" } : Jvm.MethodName)) ∈ lw_tb2 := dp_w2 (List.mem_of_getElem? (i := 889) (by decide +kernel)) rfl
theorem wl_890 : (Jvm.Cond.code ({ cls := "SharedComparersModel", name := "at", desc := "(I)I" } : Jvm.MethodName) prog_10_method_55_code (3 : Nat) (Option.some Jvm.ClassFile.FieldType.int)) ∈ lw_tb2 := dp_w2 (List.mem_of_getElem? (i := 890) (by decide +kernel)) rfl
theorem wl_891 : (Jvm.Cond.methodLink "SharedComparersLaw" (93 : Nat) ({ cls := "SharedComparersModel", name := "ringsIn", desc := "(I)I" } : Jvm.MethodName)) ∈ lw_tb2 := dp_w2 (List.mem_of_getElem? (i := 891) (by decide +kernel)) rfl
theorem wl_892 : (Jvm.Cond.instanceMethod ({ cls := "SharedComparersModel", name := "ringsIn", desc := "(I)I" } : Jvm.MethodName)) ∈ lw_tb2 := dp_w2 (List.mem_of_getElem? (i := 892) (by decide +kernel)) rfl
theorem wl_893 : (Jvm.Cond.selects "SharedComparersModel" ({ cls := "SharedComparersModel", name := "ringsIn", desc := "(I)I" } : Jvm.MethodName) ({ cls := "SharedComparersModel", name := "ringsIn", desc := "(I)I" } : Jvm.MethodName)) ∈ lw_tb2 := dp_w2 (List.mem_of_getElem? (i := 893) (by decide +kernel)) rfl
theorem wl_894 : (Jvm.Cond.code ({ cls := "SharedComparersModel", name := "ringsIn", desc := "(I)I" } : Jvm.MethodName) prog_10_method_56_code (7 : Nat) (Option.some Jvm.ClassFile.FieldType.int)) ∈ lw_tb2 := dp_w2 (List.mem_of_getElem? (i := 894) (by decide +kernel)) rfl
theorem wl_895 : (Jvm.Cond.methodLink "SharedComparersLaw" (97 : Nat) ({ cls := "SharedComparersModel", name := "ifComparers", desc := "(III)I" } : Jvm.MethodName)) ∈ lw_tb2 := dp_w2 (List.mem_of_getElem? (i := 895) (by decide +kernel)) rfl
theorem wl_896 : (Jvm.Cond.instanceMethod ({ cls := "SharedComparersModel", name := "ifComparers", desc := "(III)I" } : Jvm.MethodName)) ∈ lw_tb2 := dp_w2 (List.mem_of_getElem? (i := 896) (by decide +kernel)) rfl
theorem wl_897 : (Jvm.Cond.selects "SharedComparersModel" ({ cls := "SharedComparersModel", name := "ifComparers", desc := "(III)I" } : Jvm.MethodName) ({ cls := "SharedComparersModel", name := "ifComparers", desc := "(III)I" } : Jvm.MethodName)) ∈ lw_tb2 := dp_w2 (List.mem_of_getElem? (i := 897) (by decide +kernel)) rfl
theorem wl_898 : (Jvm.Cond.code ({ cls := "SharedComparersModel", name := "ifComparers", desc := "(III)I" } : Jvm.MethodName) prog_10_method_58_code (5 : Nat) (Option.some Jvm.ClassFile.FieldType.int)) ∈ lw_tb2 := dp_w2 (List.mem_of_getElem? (i := 898) (by decide +kernel)) rfl
theorem wl_903 : (Jvm.Cond.methodLink "SharedComparersLaw" (101 : Nat) ({ cls := "SharedComparersModel", name := "fewest", desc := "(I)I" } : Jvm.MethodName)) ∈ lw_tb2 := dp_w2 (List.mem_of_getElem? (i := 903) (by decide +kernel)) rfl
theorem wl_904 : (Jvm.Cond.instanceMethod ({ cls := "SharedComparersModel", name := "fewest", desc := "(I)I" } : Jvm.MethodName)) ∈ lw_tb2 := dp_w2 (List.mem_of_getElem? (i := 904) (by decide +kernel)) rfl
theorem wl_905 : (Jvm.Cond.selects "SharedComparersModel" ({ cls := "SharedComparersModel", name := "fewest", desc := "(I)I" } : Jvm.MethodName) ({ cls := "SharedComparersModel", name := "fewest", desc := "(I)I" } : Jvm.MethodName)) ∈ lw_tb2 := dp_w2 (List.mem_of_getElem? (i := 905) (by decide +kernel)) rfl
theorem wl_906 : (Jvm.Cond.code ({ cls := "SharedComparersModel", name := "fewest", desc := "(I)I" } : Jvm.MethodName) prog_10_method_59_code (7 : Nat) (Option.some Jvm.ClassFile.FieldType.int)) ∈ lw_tb2 := dp_w2 (List.mem_of_getElem? (i := 906) (by decide +kernel)) rfl
theorem wl_907 : (Jvm.Cond.methodLink "SharedComparersLaw" (105 : Nat) ({ cls := "SharedComparersModel", name := "ring", desc := "(II)I" } : Jvm.MethodName)) ∈ lw_tb2 := dp_w2 (List.mem_of_getElem? (i := 907) (by decide +kernel)) rfl
theorem wl_908 : (Jvm.Cond.instanceMethod ({ cls := "SharedComparersModel", name := "ring", desc := "(II)I" } : Jvm.MethodName)) ∈ lw_tb2 := dp_w2 (List.mem_of_getElem? (i := 908) (by decide +kernel)) rfl
theorem wl_909 : (Jvm.Cond.selects "SharedComparersModel" ({ cls := "SharedComparersModel", name := "ring", desc := "(II)I" } : Jvm.MethodName) ({ cls := "SharedComparersModel", name := "ring", desc := "(II)I" } : Jvm.MethodName)) ∈ lw_tb2 := dp_w2 (List.mem_of_getElem? (i := 909) (by decide +kernel)) rfl
theorem wl_910 : (Jvm.Cond.code ({ cls := "SharedComparersModel", name := "ring", desc := "(II)I" } : Jvm.MethodName) prog_10_method_60_code (3 : Nat) (Option.some Jvm.ClassFile.FieldType.int)) ∈ lw_tb2 := dp_w2 (List.mem_of_getElem? (i := 910) (by decide +kernel)) rfl
theorem wl_911 : (Jvm.Cond.methodLink "SharedComparersLaw" (109 : Nat) ({ cls := "SharedComparersModel", name := "count", desc := "(I)I" } : Jvm.MethodName)) ∈ lw_tb2 := dp_w2 (List.mem_of_getElem? (i := 911) (by decide +kernel)) rfl
theorem wl_912 : (Jvm.Cond.instanceMethod ({ cls := "SharedComparersModel", name := "count", desc := "(I)I" } : Jvm.MethodName)) ∈ lw_tb2 := dp_w2 (List.mem_of_getElem? (i := 912) (by decide +kernel)) rfl
theorem wl_913 : (Jvm.Cond.selects "SharedComparersModel" ({ cls := "SharedComparersModel", name := "count", desc := "(I)I" } : Jvm.MethodName) ({ cls := "SharedComparersModel", name := "count", desc := "(I)I" } : Jvm.MethodName)) ∈ lw_tb2 := dp_w2 (List.mem_of_getElem? (i := 913) (by decide +kernel)) rfl
theorem wl_914 : (Jvm.Cond.code ({ cls := "SharedComparersModel", name := "count", desc := "(I)I" } : Jvm.MethodName) prog_10_method_62_code (2 : Nat) (Option.some Jvm.ClassFile.FieldType.int)) ∈ lw_tb2 := dp_w2 (List.mem_of_getElem? (i := 914) (by decide +kernel)) rfl
section LXC
variable {p : Program} {l : Launch} {e : Env} {s : State} {m : MethodId} {below : List Frame} {meth : Method} {c : Code} {H : Heap} {locs : List Loc} {Qw : State → Prop} {ls : Array Slot} {D : va_G} {aC : Nat → Nat} {b L B i : Nat} {xs : Nat → Int32} {Z : Zst} {T K : Int} {G : Mm}
theorem lc_0 (C_ : lx_K D aC p s m meth c b L B xs) (hI : lx_I D aC B s.heap H locs Z T K G) (hT0 : 99999 ≤ T) (hT : T + 2000 ≤ 100000000) (hK : K + 1000 ≤ 10000000) (hl : lv_has ls 4 (lxL b B i)) (hi : i + 4 ≤ L)
    (kk : ∀ (H1 : Heap) (locs1 : List Loc) (Z1 : Zst) (G1 : Mm), lx_I D aC B s.heap H1 locs1 Z1 (T + 2000) (K + 1000) G1 → W p l e room_1 s m #[Value.ref b] below meth c H1 locs1 600000 7302249 Qw (F0 m 701 ls [])) : W p l e room_1 s m #[Value.ref b] below meth c H locs 600000 7302249 Qw (F0 m 140 ls []) := by
  obtain ⟨hP, hw, hS, hC, hR, hz⟩ := hI
  have hLA : ∀ q, q ∈ LL B → B ≤ q := fun q hq => by obtain ⟨k, _, rfl⟩ := LL_in.mp hq; omega
  refine lv_aload_n C_.1 C_.2.1 dL_law_140 rfl (lv_at hl 2 rfl) ?_
  refine lx_rd (k := 1) C_ hS hl (by omega) rfl dL_law_141 dL_law_142 dL_law_143 dL_law_144 dL_law_145 ?_
  refine lx_rd (k := 2) C_ hS hl (by omega) rfl dL_law_146 dL_law_147 dL_law_148 dL_law_149 dL_law_150 ?_
  refine lx_rd (k := 3) C_ hS hl (by omega) rfl dL_law_151 dL_law_152 dL_law_153 dL_law_154 dL_law_155 ?_
  refine lx_call (k' := 55) (idx := 13) (n := 3) (As := [jI (xs (i + 1)).toInt, jI (xs (i + 2)).toInt, jI (xs (i + 3)).toInt]) (Q := fun x G' => x = jI (zSet Z (xs (i + 1)).toInt (xs (i + 2)).toInt (xs (i + 3)).toInt).1 ∧ SysC G' B (zSet Z (xs (i + 1)).toInt (xs (i + 2)).toInt (xs (i + 3)).toInt).2 ∧ FR B 218 G G') (C := RX7) (T := TX7) (N := 6) (t := 7) (r := B) C_ hP (fun f => LL_D) hw hS hLA rfl rfl (by decide) (LL_in.mpr ⟨0, by decide, rfl⟩) (kdl_at B 0) wl_327 wl_328 wl_329 wl_66 wl_330 (by decide +kernel) (Nat.le_of_ble_eq_true rfl) ⟨by decide, by decide, by decide +kernel⟩ ⟨Nat.le_of_ble_eq_true rfl, Nat.le_of_ble_eq_true rfl⟩ rfl rfl dL_law_156 ⟨Nat.le_refl _, Nat.le_refl _⟩ rfl hl.1 (Nat.le_of_ble_eq_true rfl) (sp_setC hC hz (inR_of _) (inR_of _) (inR_of _) (fun G' g1 g2 => ⟨rfl, g1, g2⟩)) (fun x1 G1 H locs hx hw hP hS => ?_)
  obtain ⟨rfl, hC, hf1⟩ := hx
  have hR := hR.offC hf1 (Nat.le_refl _)
  refine lv_aload_n C_.1 C_.2.1 dL_law_159 rfl (lv_at hl 1 rfl) ?_
  refine lx_rd (k := 1) C_ hS hl (by omega) rfl dL_law_160 dL_law_161 dL_law_162 dL_law_163 dL_law_164 ?_
  refine lx_rd (k := 2) C_ hS hl (by omega) rfl dL_law_165 dL_law_166 dL_law_167 dL_law_168 dL_law_169 ?_
  refine lx_rd (k := 3) C_ hS hl (by omega) rfl dL_law_170 dL_law_171 dL_law_172 dL_law_173 dL_law_174 ?_
  refine lx_call (k' := 108) (idx := 17) (n := 3) (As := [jI (xs (i + 1)).toInt, jI (xs (i + 2)).toInt, jI (xs (i + 3)).toInt]) (Q := fun x G' => x = jI (zSet Z (xs (i + 1)).toInt (xs (i + 2)).toInt (xs (i + 3)).toInt).1 ∧ SysR G' (B + 218) (zSet Z (xs (i + 1)).toInt (xs (i + 2)).toInt (xs (i + 3)).toInt).2 ∧ FR (B + 218) 7 G1 G') (C := RX8) (T := TX8) (N := 11) (t := 8) (r := B + 218) C_ hP (fun f => LL_D) hw hS hLA rfl rfl (by decide) (LL_in.mpr ⟨218, by decide, rfl⟩) (kdl_at B 218) wl_706 wl_707 wl_708 wl_74 wl_709 (by decide +kernel) (Nat.le_of_ble_eq_true rfl) ⟨by decide, by decide, by decide +kernel⟩ ⟨Nat.le_of_ble_eq_true rfl, Nat.le_of_ble_eq_true rfl⟩ rfl rfl dL_law_175 ⟨Nat.le_refl _, Nat.le_refl _⟩ rfl hl.1 (Nat.le_of_ble_eq_true rfl) (sp_setR hR hz (inR_of _) (inR_of _) (inR_of _) (fun G' g1 g2 => ⟨rfl, g1, g2⟩)) (fun x2 G2 H locs hx hw hP hS => ?_)
  obtain ⟨rfl, hR, hf2⟩ := hx
  have hC := hC.offR hf2 (Nat.le_refl _)
  refine lv_icmp_eq (tgt := 701) C_.1 C_.2.1 dL_law_178 (by decide) (fun _ => ?_) (fun q => absurd rfl q)
  exact kk H locs _ G2 ⟨hP, hw, hS, hC, hR, (zSet_ZI hz).mono (by omega) (by omega) hT hK⟩
theorem lc_1 (C_ : lx_K D aC p s m meth c b L B xs) (hI : lx_I D aC B s.heap H locs Z T K G) (hT0 : 99999 ≤ T) (hT : T + 2000 ≤ 100000000) (hK : K + 1000 ≤ 10000000) (hl : lv_has ls 4 (lxL b B i)) (hi : i + 4 ≤ L)
    (kk : ∀ (H1 : Heap) (locs1 : List Loc) (Z1 : Zst) (G1 : Mm), lx_I D aC B s.heap H1 locs1 Z1 (T + 2000) (K + 1000) G1 → W p l e room_1 s m #[Value.ref b] below meth c H1 locs1 600000 7302249 Qw (F0 m 701 ls [])) : W p l e room_1 s m #[Value.ref b] below meth c H locs 600000 7302249 Qw (F0 m 183 ls []) := by
  obtain ⟨hP, hw, hS, hC, hR, hz⟩ := hI
  have hLA : ∀ q, q ∈ LL B → B ≤ q := fun q hq => by obtain ⟨k, _, rfl⟩ := LL_in.mp hq; omega
  refine lv_aload_n C_.1 C_.2.1 dL_law_183 rfl (lv_at hl 2 rfl) ?_
  refine lx_call (k' := 56) (idx := 18) (n := 0) (As := []) (Q := fun x G' => x = jI (zAll Z).1 ∧ SysC G' B (zAll Z).2 ∧ FR B 218 G G') (C := RX7) (T := TX7) (N := 6) (t := 7) (r := B) C_ hP (fun f => LL_D) hw hS hLA rfl rfl (by decide) (LL_in.mpr ⟨0, by decide, rfl⟩) (kdl_at B 0) wl_446 wl_447 wl_448 wl_66 wl_449 (by decide +kernel) (Nat.le_of_ble_eq_true rfl) ⟨by decide, by decide, by decide +kernel⟩ ⟨Nat.le_of_ble_eq_true rfl, Nat.le_of_ble_eq_true rfl⟩ rfl rfl dL_law_184 ⟨Nat.le_refl _, Nat.le_refl _⟩ rfl hl.1 (Nat.le_of_ble_eq_true rfl) (sp_allC hC hz (fun G' g1 g2 => ⟨rfl, g1, g2⟩)) (fun x1 G1 H locs hx hw hP hS => ?_)
  obtain ⟨rfl, hC, hf1⟩ := hx
  have hR := hR.offC hf1 (Nat.le_refl _)
  refine lv_aload_n C_.1 C_.2.1 dL_law_187 rfl (lv_at hl 1 rfl) ?_
  refine lx_call (k' := 109) (idx := 22) (n := 0) (As := []) (Q := fun x G' => x = jI (zAll Z).1 ∧ SysR G' (B + 218) (zAll Z).2 ∧ FR (B + 218) 7 G1 G') (C := RX8) (T := TX8) (N := 11) (t := 8) (r := B + 218) C_ hP (fun f => LL_D) hw hS hLA rfl rfl (by decide) (LL_in.mpr ⟨218, by decide, rfl⟩) (kdl_at B 218) wl_766 wl_767 wl_768 wl_74 wl_769 (by decide +kernel) (Nat.le_of_ble_eq_true rfl) ⟨by decide, by decide, by decide +kernel⟩ ⟨Nat.le_of_ble_eq_true rfl, Nat.le_of_ble_eq_true rfl⟩ rfl rfl dL_law_188 ⟨Nat.le_refl _, Nat.le_refl _⟩ rfl hl.1 (Nat.le_of_ble_eq_true rfl) (sp_allR hR hz (fun G' g1 g2 => ⟨rfl, g1, g2⟩)) (fun x2 G2 H locs hx hw hP hS => ?_)
  obtain ⟨rfl, hR, hf2⟩ := hx
  have hC := hC.offR hf2 (Nat.le_refl _)
  refine lv_icmp_eq (tgt := 701) C_.1 C_.2.1 dL_law_191 (by decide) (fun _ => ?_) (fun q => absurd rfl q)
  exact kk H locs _ G2 ⟨hP, hw, hS, hC, hR, (zAll_ZI hz).mono (by omega) (by omega) hT hK⟩
theorem lc_2 (C_ : lx_K D aC p s m meth c b L B xs) (hI : lx_I D aC B s.heap H locs Z T K G) (hT0 : 99999 ≤ T) (hT : T + 2000 ≤ 100000000) (hK : K + 1000 ≤ 10000000) (hl : lv_has ls 4 (lxL b B i)) (hi : i + 4 ≤ L)
    (kk : ∀ (H1 : Heap) (locs1 : List Loc) (Z1 : Zst) (G1 : Mm), lx_I D aC B s.heap H1 locs1 Z1 (T + 2000) (K + 1000) G1 → W p l e room_1 s m #[Value.ref b] below meth c H1 locs1 600000 7302249 Qw (F0 m 701 ls [])) : W p l e room_1 s m #[Value.ref b] below meth c H locs 600000 7302249 Qw (F0 m 196 ls []) := by
  obtain ⟨hP, hw, hS, hC, hR, hz⟩ := hI
  have hLA : ∀ q, q ∈ LL B → B ≤ q := fun q hq => by obtain ⟨k, _, rfl⟩ := LL_in.mp hq; omega
  refine lv_aload_n C_.1 C_.2.1 dL_law_196 rfl (lv_at hl 2 rfl) ?_
  refine lx_rd (k := 1) C_ hS hl (by omega) rfl dL_law_197 dL_law_198 dL_law_199 dL_law_200 dL_law_201 ?_
  refine lx_call (k' := 57) (idx := 23) (n := 1) (As := [jI (xs (i + 1)).toInt]) (Q := fun x G' => x = jI (zCan Z (xs (i + 1)).toInt).1 ∧ SysC G' B (zCan Z (xs (i + 1)).toInt).2 ∧ FR B 218 G G') (C := RX7) (T := TX7) (N := 6) (t := 7) (r := B) C_ hP (fun f => LL_D) hw hS hLA rfl rfl (by decide) (LL_in.mpr ⟨0, by decide, rfl⟩) (kdl_at B 0) wl_476 wl_477 wl_478 wl_66 wl_479 (by decide +kernel) (Nat.le_of_ble_eq_true rfl) ⟨by decide, by decide, by decide +kernel⟩ ⟨Nat.le_of_ble_eq_true rfl, Nat.le_of_ble_eq_true rfl⟩ rfl rfl dL_law_202 ⟨Nat.le_refl _, Nat.le_refl _⟩ rfl hl.1 (Nat.le_of_ble_eq_true rfl) (sp_cancelC hC hz (inR_of _) (fun G' g1 g2 => ⟨rfl, g1, g2⟩)) (fun x1 G1 H locs hx hw hP hS => ?_)
  obtain ⟨rfl, hC, hf1⟩ := hx
  have hR := hR.offC hf1 (Nat.le_refl _)
  refine lv_aload_n C_.1 C_.2.1 dL_law_205 rfl (lv_at hl 1 rfl) ?_
  refine lx_rd (k := 1) C_ hS hl (by omega) rfl dL_law_206 dL_law_207 dL_law_208 dL_law_209 dL_law_210 ?_
  refine lx_call (k' := 110) (idx := 27) (n := 1) (As := [jI (xs (i + 1)).toInt]) (Q := fun x G' => x = jI (zCan Z (xs (i + 1)).toInt).1 ∧ SysR G' (B + 218) (zCan Z (xs (i + 1)).toInt).2 ∧ FR (B + 218) 7 G1 G') (C := RX8) (T := TX8) (N := 11) (t := 8) (r := B + 218) C_ hP (fun f => LL_D) hw hS hLA rfl rfl (by decide) (LL_in.mpr ⟨218, by decide, rfl⟩) (kdl_at B 218) wl_790 wl_791 wl_792 wl_74 wl_793 (by decide +kernel) (Nat.le_of_ble_eq_true rfl) ⟨by decide, by decide, by decide +kernel⟩ ⟨Nat.le_of_ble_eq_true rfl, Nat.le_of_ble_eq_true rfl⟩ rfl rfl dL_law_211 ⟨Nat.le_refl _, Nat.le_refl _⟩ rfl hl.1 (Nat.le_of_ble_eq_true rfl) (sp_cancelR hR hz (inR_of _) (fun G' g1 g2 => ⟨rfl, g1, g2⟩)) (fun x2 G2 H locs hx hw hP hS => ?_)
  obtain ⟨rfl, hR, hf2⟩ := hx
  have hC := hC.offR hf2 (Nat.le_refl _)
  refine lv_icmp_eq (tgt := 701) C_.1 C_.2.1 dL_law_214 (by decide) (fun _ => ?_) (fun q => absurd rfl q)
  exact kk H locs _ G2 ⟨hP, hw, hS, hC, hR, (zCan_ZI hz).mono (by omega) (by omega) hT hK⟩
theorem lc_3 (C_ : lx_K D aC p s m meth c b L B xs) (hI : lx_I D aC B s.heap H locs Z T K G) (hT0 : 99999 ≤ T) (hT : T + 2000 ≤ 100000000) (hK : K + 1000 ≤ 10000000) (hl : lv_has ls 4 (lxL b B i)) (hi : i + 4 ≤ L)
    (kk : ∀ (H1 : Heap) (locs1 : List Loc) (Z1 : Zst) (G1 : Mm), lx_I D aC B s.heap H1 locs1 Z1 (T + 2000) (K + 1000) G1 → W p l e room_1 s m #[Value.ref b] below meth c H1 locs1 600000 7302249 Qw (F0 m 701 ls [])) : W p l e room_1 s m #[Value.ref b] below meth c H locs 600000 7302249 Qw (F0 m 219 ls []) := by
  obtain ⟨hP, hw, hS, hC, hR, hz⟩ := hI
  have hLA : ∀ q, q ∈ LL B → B ≤ q := fun q hq => by obtain ⟨k, _, rfl⟩ := LL_in.mp hq; omega
  refine lv_aload_n C_.1 C_.2.1 dL_law_219 rfl (lv_at hl 2 rfl) ?_
  refine lx_rd (k := 1) C_ hS hl (by omega) rfl dL_law_220 dL_law_221 dL_law_222 dL_law_223 dL_law_224 ?_
  refine lx_rd (k := 2) C_ hS hl (by omega) rfl dL_law_225 dL_law_226 dL_law_227 dL_law_228 dL_law_229 ?_
  refine lx_call (k' := 58) (idx := 28) (n := 2) (As := [jI (xs (i + 1)).toInt, jI (xs (i + 2)).toInt]) (Q := fun x G' => x = jI (zMov Z (xs (i + 1)).toInt (xs (i + 2)).toInt).1 ∧ SysC G' B (zMov Z (xs (i + 1)).toInt (xs (i + 2)).toInt).2 ∧ FR B 218 G G') (C := RX7) (T := TX7) (N := 6) (t := 7) (r := B) C_ hP (fun f => LL_D) hw hS hLA rfl rfl (by decide) (LL_in.mpr ⟨0, by decide, rfl⟩) (kdl_at B 0) wl_496 wl_497 wl_498 wl_66 wl_499 (by decide +kernel) (Nat.le_of_ble_eq_true rfl) ⟨by decide, by decide, by decide +kernel⟩ ⟨Nat.le_of_ble_eq_true rfl, Nat.le_of_ble_eq_true rfl⟩ rfl rfl dL_law_230 ⟨Nat.le_refl _, Nat.le_refl _⟩ rfl hl.1 (Nat.le_of_ble_eq_true rfl) (sp_moveC hC hz (inR_of _) (inR_of _) (fun G' g1 g2 => ⟨rfl, g1, g2⟩)) (fun x1 G1 H locs hx hw hP hS => ?_)
  obtain ⟨rfl, hC, hf1⟩ := hx
  have hR := hR.offC hf1 (Nat.le_refl _)
  refine lv_aload_n C_.1 C_.2.1 dL_law_233 rfl (lv_at hl 1 rfl) ?_
  refine lx_rd (k := 1) C_ hS hl (by omega) rfl dL_law_234 dL_law_235 dL_law_236 dL_law_237 dL_law_238 ?_
  refine lx_rd (k := 2) C_ hS hl (by omega) rfl dL_law_239 dL_law_240 dL_law_241 dL_law_242 dL_law_243 ?_
  refine lx_call (k' := 111) (idx := 32) (n := 2) (As := [jI (xs (i + 1)).toInt, jI (xs (i + 2)).toInt]) (Q := fun x G' => x = jI (zMov Z (xs (i + 1)).toInt (xs (i + 2)).toInt).1 ∧ SysR G' (B + 218) (zMov Z (xs (i + 1)).toInt (xs (i + 2)).toInt).2 ∧ FR (B + 218) 7 G1 G') (C := RX8) (T := TX8) (N := 11) (t := 8) (r := B + 218) C_ hP (fun f => LL_D) hw hS hLA rfl rfl (by decide) (LL_in.mpr ⟨218, by decide, rfl⟩) (kdl_at B 218) wl_803 wl_804 wl_805 wl_74 wl_806 (by decide +kernel) (Nat.le_of_ble_eq_true rfl) ⟨by decide, by decide, by decide +kernel⟩ ⟨Nat.le_of_ble_eq_true rfl, Nat.le_of_ble_eq_true rfl⟩ rfl rfl dL_law_244 ⟨Nat.le_refl _, Nat.le_refl _⟩ rfl hl.1 (Nat.le_of_ble_eq_true rfl) (sp_moveR hR hz (inR_of _) (inR_of _) (fun G' g1 g2 => ⟨rfl, g1, g2⟩)) (fun x2 G2 H locs hx hw hP hS => ?_)
  obtain ⟨rfl, hR, hf2⟩ := hx
  have hC := hC.offR hf2 (Nat.le_refl _)
  refine lv_icmp_eq (tgt := 701) C_.1 C_.2.1 dL_law_247 (by decide) (fun _ => ?_) (fun q => absurd rfl q)
  exact kk H locs _ G2 ⟨hP, hw, hS, hC, hR, (zMov_ZI hz).mono (by omega) (by omega) hT hK⟩
theorem lc_4 (C_ : lx_K D aC p s m meth c b L B xs) (hI : lx_I D aC B s.heap H locs Z T K G) (hT0 : 99999 ≤ T) (hT : T + 2000 ≤ 100000000) (hK : K + 1000 ≤ 10000000) (hl : lv_has ls 4 (lxL b B i)) (hi : i + 4 ≤ L)
    (kk : ∀ (H1 : Heap) (locs1 : List Loc) (Z1 : Zst) (G1 : Mm), lx_I D aC B s.heap H1 locs1 Z1 (T + 2000) (K + 1000) G1 → W p l e room_1 s m #[Value.ref b] below meth c H1 locs1 600000 7302249 Qw (F0 m 701 ls [])) : W p l e room_1 s m #[Value.ref b] below meth c H locs 600000 7302249 Qw (F0 m 252 ls []) := by
  obtain ⟨hP, hw, hS, hC, hR, hz⟩ := hI
  have hLA : ∀ q, q ∈ LL B → B ≤ q := fun q hq => by obtain ⟨k, _, rfl⟩ := LL_in.mp hq; omega
  refine lv_aload_n C_.1 C_.2.1 dL_law_252 rfl (lv_at hl 2 rfl) ?_
  refine lx_rd (k := 1) C_ hS hl (by omega) rfl dL_law_253 dL_law_254 dL_law_255 dL_law_256 dL_law_257 ?_
  refine lx_call (k' := 59) (idx := 33) (n := 1) (As := [jI (xs (i + 1)).toInt]) (Q := fun x G' => x = jI (zCmp Z (xs (i + 1)).toInt).1 ∧ SysC G' B (zCmp Z (xs (i + 1)).toInt).2 ∧ FR B 218 G G') (C := RX7) (T := TX7) (N := 6) (t := 7) (r := B) C_ hP (fun f => LL_D) hw hS hLA rfl rfl (by decide) (LL_in.mpr ⟨0, by decide, rfl⟩) (kdl_at B 0) wl_504 wl_505 wl_506 wl_66 wl_507 (by decide +kernel) (Nat.le_of_ble_eq_true rfl) ⟨by decide, by decide, by decide +kernel⟩ ⟨Nat.le_of_ble_eq_true rfl, Nat.le_of_ble_eq_true rfl⟩ rfl rfl dL_law_258 ⟨Nat.le_refl _, Nat.le_refl _⟩ rfl hl.1 (Nat.le_of_ble_eq_true rfl) (sp_cmpC hC hz (inR_of _) (fun G' g1 g2 => ⟨rfl, g1, g2⟩)) (fun x1 G1 H locs hx hw hP hS => ?_)
  obtain ⟨rfl, hC, hf1⟩ := hx
  have hR := hR.offC hf1 (Nat.le_refl _)
  refine lv_aload_n C_.1 C_.2.1 dL_law_261 rfl (lv_at hl 1 rfl) ?_
  refine lx_rd (k := 1) C_ hS hl (by omega) rfl dL_law_262 dL_law_263 dL_law_264 dL_law_265 dL_law_266 ?_
  refine lx_call (k' := 113) (idx := 36) (n := 1) (As := [jI (xs (i + 1)).toInt]) (Q := fun x G' => x = jI (zCmp Z (xs (i + 1)).toInt).1 ∧ SysR G' (B + 218) (zCmp Z (xs (i + 1)).toInt).2 ∧ FR (B + 218) 7 G1 G') (C := RX8) (T := TX8) (N := 11) (t := 8) (r := B + 218) C_ hP (fun f => LL_D) hw hS hLA rfl rfl (by decide) (LL_in.mpr ⟨218, by decide, rfl⟩) (kdl_at B 218) wl_807 wl_808 wl_809 wl_74 wl_810 (by decide +kernel) (Nat.le_of_ble_eq_true rfl) ⟨by decide, by decide, by decide +kernel⟩ ⟨Nat.le_of_ble_eq_true rfl, Nat.le_of_ble_eq_true rfl⟩ rfl rfl dL_law_267 ⟨Nat.le_refl _, Nat.le_refl _⟩ rfl hl.1 (Nat.le_of_ble_eq_true rfl) (sp_cmpR hR hz (inR_of _) (fun G' g1 g2 => ⟨rfl, g1, g2⟩)) (fun x2 G2 H locs hx hw hP hS => ?_)
  obtain ⟨rfl, hR, hf2⟩ := hx
  have hC := hC.offR hf2 (Nat.le_refl _)
  refine lv_icmp_eq (tgt := 701) C_.1 C_.2.1 dL_law_270 (by decide) (fun _ => ?_) (fun q => absurd rfl q)
  exact kk H locs _ G2 ⟨hP, hw, hS, hC, hR, (zCmp_ZI hz).mono (by omega) (by omega) hT hK⟩
theorem lc_5 (C_ : lx_K D aC p s m meth c b L B xs) (hI : lx_I D aC B s.heap H locs Z T K G) (hT0 : 99999 ≤ T) (hT : T + 2000 ≤ 100000000) (hK : K + 1000 ≤ 10000000) (hl : lv_has ls 4 (lxL b B i)) (hi : i + 4 ≤ L)
    (kk : ∀ (H1 : Heap) (locs1 : List Loc) (Z1 : Zst) (G1 : Mm), lx_I D aC B s.heap H1 locs1 Z1 (T + 2000) (K + 1000) G1 → W p l e room_1 s m #[Value.ref b] below meth c H1 locs1 600000 7302249 Qw (F0 m 701 ls [])) : W p l e room_1 s m #[Value.ref b] below meth c H locs 600000 7302249 Qw (F0 m 275 ls []) := by
  obtain ⟨hP, hw, hS, hC, hR, hz⟩ := hI
  have hLA : ∀ q, q ∈ LL B → B ≤ q := fun q hq => by obtain ⟨k, _, rfl⟩ := LL_in.mp hq; omega
  refine lv_aload_n C_.1 C_.2.1 dL_law_275 rfl (lv_at hl 2 rfl) ?_
  refine lx_rd (k := 1) C_ hS hl (by omega) rfl dL_law_276 dL_law_277 dL_law_278 dL_law_279 dL_law_280 ?_
  refine lx_call (k' := 60) (idx := 37) (n := 1) (As := [jI (xs (i + 1)).toInt]) (Q := fun x G' => x = jI (zWin Z (xs (i + 1)).toInt).1 ∧ SysC G' B (zWin Z (xs (i + 1)).toInt).2 ∧ FR B 218 G G') (C := RX7) (T := TX7) (N := 6) (t := 7) (r := B) C_ hP (fun f => LL_D) hw hS hLA rfl rfl (by decide) (LL_in.mpr ⟨0, by decide, rfl⟩) (kdl_at B 0) wl_512 wl_513 wl_514 wl_66 wl_515 (by decide +kernel) (Nat.le_of_ble_eq_true rfl) ⟨by decide, by decide, by decide +kernel⟩ ⟨Nat.le_of_ble_eq_true rfl, Nat.le_of_ble_eq_true rfl⟩ rfl rfl dL_law_281 ⟨Nat.le_refl _, Nat.le_refl _⟩ rfl hl.1 (Nat.le_of_ble_eq_true rfl) (sp_winC hC hz (inR_of _) (fun G' g1 g2 => ⟨rfl, g1, g2⟩)) (fun x1 G1 H locs hx hw hP hS => ?_)
  obtain ⟨rfl, hC, hf1⟩ := hx
  have hR := hR.offC hf1 (Nat.le_refl _)
  refine lv_aload_n C_.1 C_.2.1 dL_law_284 rfl (lv_at hl 1 rfl) ?_
  refine lx_rd (k := 1) C_ hS hl (by omega) rfl dL_law_285 dL_law_286 dL_law_287 dL_law_288 dL_law_289 ?_
  refine lx_call (k' := 115) (idx := 40) (n := 1) (As := [jI (xs (i + 1)).toInt]) (Q := fun x G' => x = jI (zWin Z (xs (i + 1)).toInt).1 ∧ SysR G' (B + 218) (zWin Z (xs (i + 1)).toInt).2 ∧ FR (B + 218) 7 G1 G') (C := RX8) (T := TX8) (N := 11) (t := 8) (r := B + 218) C_ hP (fun f => LL_D) hw hS hLA rfl rfl (by decide) (LL_in.mpr ⟨218, by decide, rfl⟩) (kdl_at B 218) wl_814 wl_815 wl_816 wl_74 wl_817 (by decide +kernel) (Nat.le_of_ble_eq_true rfl) ⟨by decide, by decide, by decide +kernel⟩ ⟨Nat.le_of_ble_eq_true rfl, Nat.le_of_ble_eq_true rfl⟩ rfl rfl dL_law_290 ⟨Nat.le_refl _, Nat.le_refl _⟩ rfl hl.1 (Nat.le_of_ble_eq_true rfl) (sp_winR hR hz (inR_of _) (fun G' g1 g2 => ⟨rfl, g1, g2⟩)) (fun x2 G2 H locs hx hw hP hS => ?_)
  obtain ⟨rfl, hR, hf2⟩ := hx
  have hC := hC.offR hf2 (Nat.le_refl _)
  refine lv_icmp_eq (tgt := 701) C_.1 C_.2.1 dL_law_293 (by decide) (fun _ => ?_) (fun q => absurd rfl q)
  exact kk H locs _ G2 ⟨hP, hw, hS, hC, hR, (zWin_ZI hz hT0).mono (by omega) (by omega) hT hK⟩
theorem lc_6 (C_ : lx_K D aC p s m meth c b L B xs) (hI : lx_I D aC B s.heap H locs Z T K G) (hT0 : 99999 ≤ T) (hT : T + 2000 ≤ 100000000) (hK : K + 1000 ≤ 10000000) (hl : lv_has ls 4 (lxL b B i)) (hi : i + 4 ≤ L)
    (kk : ∀ (H1 : Heap) (locs1 : List Loc) (Z1 : Zst) (G1 : Mm), lx_I D aC B s.heap H1 locs1 Z1 (T + 2000) (K + 1000) G1 → W p l e room_1 s m #[Value.ref b] below meth c H1 locs1 600000 7302249 Qw (F0 m 701 ls [])) : W p l e room_1 s m #[Value.ref b] below meth c H locs 600000 7302249 Qw (F0 m 298 ls []) := by
  obtain ⟨hP, hw, hS, hC, hR, hz⟩ := hI
  have hLA : ∀ q, q ∈ LL B → B ≤ q := fun q hq => by obtain ⟨k, _, rfl⟩ := LL_in.mp hq; omega
  refine lv_aload_n C_.1 C_.2.1 dL_law_298 rfl (lv_at hl 2 rfl) ?_
  refine lx_rd (k := 1) C_ hS hl (by omega) rfl dL_law_299 dL_law_300 dL_law_301 dL_law_302 dL_law_303 ?_
  refine lx_call (k' := 61) (idx := 41) (n := 1) (As := [jI (xs (i + 1)).toInt]) (Q := fun x G' => x = jI (zLoa Z (xs (i + 1)).toInt).1 ∧ SysC G' B (zLoa Z (xs (i + 1)).toInt).2 ∧ FR B 218 G G') (C := RX7) (T := TX7) (N := 6) (t := 7) (r := B) C_ hP (fun f => LL_D) hw hS hLA rfl rfl (by decide) (LL_in.mpr ⟨0, by decide, rfl⟩) (kdl_at B 0) wl_517 wl_518 wl_519 wl_66 wl_520 (by decide +kernel) (Nat.le_of_ble_eq_true rfl) ⟨by decide, by decide, by decide +kernel⟩ ⟨Nat.le_of_ble_eq_true rfl, Nat.le_of_ble_eq_true rfl⟩ rfl rfl dL_law_304 ⟨Nat.le_refl _, Nat.le_refl _⟩ rfl hl.1 (Nat.le_of_ble_eq_true rfl) (sp_loaC hC hz (inR_of _) (fun G' g1 g2 => ⟨rfl, g1, g2⟩)) (fun x1 G1 H locs hx hw hP hS => ?_)
  obtain ⟨rfl, hC, hf1⟩ := hx
  have hR := hR.offC hf1 (Nat.le_refl _)
  refine lv_aload_n C_.1 C_.2.1 dL_law_307 rfl (lv_at hl 1 rfl) ?_
  refine lx_rd (k := 1) C_ hS hl (by omega) rfl dL_law_308 dL_law_309 dL_law_310 dL_law_311 dL_law_312 ?_
  refine lx_call (k' := 116) (idx := 44) (n := 1) (As := [jI (xs (i + 1)).toInt]) (Q := fun x G' => x = jI (zLoa Z (xs (i + 1)).toInt).1 ∧ SysR G' (B + 218) (zLoa Z (xs (i + 1)).toInt).2 ∧ FR (B + 218) 7 G1 G') (C := RX8) (T := TX8) (N := 11) (t := 8) (r := B + 218) C_ hP (fun f => LL_D) hw hS hLA rfl rfl (by decide) (LL_in.mpr ⟨218, by decide, rfl⟩) (kdl_at B 218) wl_822 wl_823 wl_824 wl_74 wl_825 (by decide +kernel) (Nat.le_of_ble_eq_true rfl) ⟨by decide, by decide, by decide +kernel⟩ ⟨Nat.le_of_ble_eq_true rfl, Nat.le_of_ble_eq_true rfl⟩ rfl rfl dL_law_313 ⟨Nat.le_refl _, Nat.le_refl _⟩ rfl hl.1 (Nat.le_of_ble_eq_true rfl) (sp_loaR hR hz (inR_of _) (fun G' g1 g2 => ⟨rfl, g1, g2⟩)) (fun x2 G2 H locs hx hw hP hS => ?_)
  obtain ⟨rfl, hR, hf2⟩ := hx
  have hC := hC.offR hf2 (Nat.le_refl _)
  refine lv_icmp_eq (tgt := 701) C_.1 C_.2.1 dL_law_316 (by decide) (fun _ => ?_) (fun q => absurd rfl q)
  exact kk H locs _ G2 ⟨hP, hw, hS, hC, hR, (zLoa_ZI hz).mono (by omega) (by omega) hT hK⟩
theorem lc_7 (C_ : lx_K D aC p s m meth c b L B xs) (hI : lx_I D aC B s.heap H locs Z T K G) (hT0 : 99999 ≤ T) (hT : T + 2000 ≤ 100000000) (hK : K + 1000 ≤ 10000000) (hl : lv_has ls 4 (lxL b B i)) (hi : i + 4 ≤ L)
    (kk : ∀ (H1 : Heap) (locs1 : List Loc) (Z1 : Zst) (G1 : Mm), lx_I D aC B s.heap H1 locs1 Z1 (T + 2000) (K + 1000) G1 → W p l e room_1 s m #[Value.ref b] below meth c H1 locs1 600000 7302249 Qw (F0 m 701 ls [])) : W p l e room_1 s m #[Value.ref b] below meth c H locs 600000 7302249 Qw (F0 m 321 ls []) := by
  obtain ⟨hP, hw, hS, hC, hR, hz⟩ := hI
  have hLA : ∀ q, q ∈ LL B → B ≤ q := fun q hq => by obtain ⟨k, _, rfl⟩ := LL_in.mp hq; omega
  refine lv_aload_n C_.1 C_.2.1 dL_law_321 rfl (lv_at hl 2 rfl) ?_
  refine lx_rd (k := 1) C_ hS hl (by omega) rfl dL_law_322 dL_law_323 dL_law_324 dL_law_325 dL_law_326 ?_
  refine lx_call (k' := 62) (idx := 45) (n := 1) (As := [jI (xs (i + 1)).toInt]) (Q := fun x G' => x = jI (zDri Z (xs (i + 1)).toInt).1 ∧ SysC G' B (zDri Z (xs (i + 1)).toInt).2 ∧ FR B 218 G G') (C := RX7) (T := TX7) (N := 6) (t := 7) (r := B) C_ hP (fun f => LL_D) hw hS hLA rfl rfl (by decide) (LL_in.mpr ⟨0, by decide, rfl⟩) (kdl_at B 0) wl_521 wl_522 wl_523 wl_66 wl_524 (by decide +kernel) (Nat.le_of_ble_eq_true rfl) ⟨by decide, by decide, by decide +kernel⟩ ⟨Nat.le_of_ble_eq_true rfl, Nat.le_of_ble_eq_true rfl⟩ rfl rfl dL_law_327 ⟨Nat.le_refl _, Nat.le_refl _⟩ rfl hl.1 (Nat.le_of_ble_eq_true rfl) (sp_driC hC hz (inR_of _) (fun G' g1 g2 => ⟨rfl, g1, g2⟩)) (fun x1 G1 H locs hx hw hP hS => ?_)
  obtain ⟨rfl, hC, hf1⟩ := hx
  have hR := hR.offC hf1 (Nat.le_refl _)
  refine lv_aload_n C_.1 C_.2.1 dL_law_330 rfl (lv_at hl 1 rfl) ?_
  refine lx_rd (k := 1) C_ hS hl (by omega) rfl dL_law_331 dL_law_332 dL_law_333 dL_law_334 dL_law_335 ?_
  refine lx_call (k' := 117) (idx := 48) (n := 1) (As := [jI (xs (i + 1)).toInt]) (Q := fun x G' => x = jI (zDri Z (xs (i + 1)).toInt).1 ∧ SysR G' (B + 218) (zDri Z (xs (i + 1)).toInt).2 ∧ FR (B + 218) 7 G1 G') (C := RX8) (T := TX8) (N := 11) (t := 8) (r := B + 218) C_ hP (fun f => LL_D) hw hS hLA rfl rfl (by decide) (LL_in.mpr ⟨218, by decide, rfl⟩) (kdl_at B 218) wl_826 wl_827 wl_828 wl_74 wl_829 (by decide +kernel) (Nat.le_of_ble_eq_true rfl) ⟨by decide, by decide, by decide +kernel⟩ ⟨Nat.le_of_ble_eq_true rfl, Nat.le_of_ble_eq_true rfl⟩ rfl rfl dL_law_336 ⟨Nat.le_refl _, Nat.le_refl _⟩ rfl hl.1 (Nat.le_of_ble_eq_true rfl) (sp_driR hR hz (inR_of _) (fun G' g1 g2 => ⟨rfl, g1, g2⟩)) (fun x2 G2 H locs hx hw hP hS => ?_)
  obtain ⟨rfl, hR, hf2⟩ := hx
  have hC := hC.offR hf2 (Nat.le_refl _)
  refine lv_icmp_eq (tgt := 701) C_.1 C_.2.1 dL_law_339 (by decide) (fun _ => ?_) (fun q => absurd rfl q)
  exact kk H locs _ G2 ⟨hP, hw, hS, hC, hR, (zDri_ZI hz).mono (by omega) (by omega) hT hK⟩
theorem lc_8 (C_ : lx_K D aC p s m meth c b L B xs) (hI : lx_I D aC B s.heap H locs Z T K G) (hT0 : 99999 ≤ T) (hT : T + 2000 ≤ 100000000) (hK : K + 1000 ≤ 10000000) (hl : lv_has ls 4 (lxL b B i)) (hi : i + 4 ≤ L)
    (kk : ∀ (H1 : Heap) (locs1 : List Loc) (Z1 : Zst) (G1 : Mm), lx_I D aC B s.heap H1 locs1 Z1 (T + 2000) (K + 1000) G1 → W p l e room_1 s m #[Value.ref b] below meth c H1 locs1 600000 7302249 Qw (F0 m 701 ls [])) : W p l e room_1 s m #[Value.ref b] below meth c H locs 600000 7302249 Qw (F0 m 344 ls []) := by
  obtain ⟨hP, hw, hS, hC, hR, hz⟩ := hI
  have hLA : ∀ q, q ∈ LL B → B ≤ q := fun q hq => by obtain ⟨k, _, rfl⟩ := LL_in.mp hq; omega
  refine lv_aload_n C_.1 C_.2.1 dL_law_344 rfl (lv_at hl 2 rfl) ?_
  refine lx_rd (k := 1) C_ hS hl (by omega) rfl dL_law_345 dL_law_346 dL_law_347 dL_law_348 dL_law_349 ?_
  refine lx_call (k' := 63) (idx := 49) (n := 1) (As := [jI (xs (i + 1)).toInt]) (Q := fun x G' => x = jI (zCor Z (xs (i + 1)).toInt).1 ∧ SysC G' B (zCor Z (xs (i + 1)).toInt).2 ∧ FR B 218 G G') (C := RX7) (T := TX7) (N := 6) (t := 7) (r := B) C_ hP (fun f => LL_D) hw hS hLA rfl rfl (by decide) (LL_in.mpr ⟨0, by decide, rfl⟩) (kdl_at B 0) wl_525 wl_526 wl_527 wl_66 wl_528 (by decide +kernel) (Nat.le_of_ble_eq_true rfl) ⟨by decide, by decide, by decide +kernel⟩ ⟨Nat.le_of_ble_eq_true rfl, Nat.le_of_ble_eq_true rfl⟩ rfl rfl dL_law_350 ⟨Nat.le_refl _, Nat.le_refl _⟩ rfl hl.1 (Nat.le_of_ble_eq_true rfl) (sp_corC hC hz hT0 (inR_of _) (fun G' g1 g2 => ⟨rfl, g1, g2⟩)) (fun x1 G1 H locs hx hw hP hS => ?_)
  obtain ⟨rfl, hC, hf1⟩ := hx
  have hR := hR.offC hf1 (Nat.le_refl _)
  refine lv_aload_n C_.1 C_.2.1 dL_law_353 rfl (lv_at hl 1 rfl) ?_
  refine lx_rd (k := 1) C_ hS hl (by omega) rfl dL_law_354 dL_law_355 dL_law_356 dL_law_357 dL_law_358 ?_
  refine lx_call (k' := 118) (idx := 52) (n := 1) (As := [jI (xs (i + 1)).toInt]) (Q := fun x G' => x = jI (zCor Z (xs (i + 1)).toInt).1 ∧ SysR G' (B + 218) (zCor Z (xs (i + 1)).toInt).2 ∧ FR (B + 218) 7 G1 G') (C := RX8) (T := TX8) (N := 11) (t := 8) (r := B + 218) C_ hP (fun f => LL_D) hw hS hLA rfl rfl (by decide) (LL_in.mpr ⟨218, by decide, rfl⟩) (kdl_at B 218) wl_830 wl_831 wl_832 wl_74 wl_833 (by decide +kernel) (Nat.le_of_ble_eq_true rfl) ⟨by decide, by decide, by decide +kernel⟩ ⟨Nat.le_of_ble_eq_true rfl, Nat.le_of_ble_eq_true rfl⟩ rfl rfl dL_law_359 ⟨Nat.le_refl _, Nat.le_refl _⟩ rfl hl.1 (Nat.le_of_ble_eq_true rfl) (sp_corR hR hz hT0 (inR_of _) (fun G' g1 g2 => ⟨rfl, g1, g2⟩)) (fun x2 G2 H locs hx hw hP hS => ?_)
  obtain ⟨rfl, hR, hf2⟩ := hx
  have hC := hC.offR hf2 (Nat.le_refl _)
  refine lv_icmp_eq (tgt := 701) C_.1 C_.2.1 dL_law_362 (by decide) (fun _ => ?_) (fun q => absurd rfl q)
  exact kk H locs _ G2 ⟨hP, hw, hS, hC, hR, (zCor_ZI hz hT0).mono (by omega) (by omega) hT hK⟩
theorem lc_9 (C_ : lx_K D aC p s m meth c b L B xs) (hI : lx_I D aC B s.heap H locs Z T K G) (hT0 : 99999 ≤ T) (hT : T + 2000 ≤ 100000000) (hK : K + 1000 ≤ 10000000) (hl : lv_has ls 4 (lxL b B i)) (hi : i + 4 ≤ L)
    (kk : ∀ (H1 : Heap) (locs1 : List Loc) (Z1 : Zst) (G1 : Mm), lx_I D aC B s.heap H1 locs1 Z1 (T + 2000) (K + 1000) G1 → W p l e room_1 s m #[Value.ref b] below meth c H1 locs1 600000 7302249 Qw (F0 m 701 ls [])) : W p l e room_1 s m #[Value.ref b] below meth c H locs 600000 7302249 Qw (F0 m 367 ls []) := by
  obtain ⟨hP, hw, hS, hC, hR, hz⟩ := hI
  have hLA : ∀ q, q ∈ LL B → B ≤ q := fun q hq => by obtain ⟨k, _, rfl⟩ := LL_in.mp hq; omega
  refine lv_aload_n C_.1 C_.2.1 dL_law_367 rfl (lv_at hl 2 rfl) ?_
  refine lx_rd (k := 1) C_ hS hl (by omega) rfl dL_law_368 dL_law_369 dL_law_370 dL_law_371 dL_law_372 ?_
  refine lx_call (k' := 64) (idx := 53) (n := 1) (As := [jI (xs (i + 1)).toInt]) (Q := fun x G' => x = jI (zRun Z (xs (i + 1)).toInt).1 ∧ SysC G' B (zRun Z (xs (i + 1)).toInt).2 ∧ FR B 218 G G') (C := RX7) (T := TX7) (N := 6) (t := 7) (r := B) C_ hP (fun f => LL_D) hw hS hLA rfl rfl (by decide) (LL_in.mpr ⟨0, by decide, rfl⟩) (kdl_at B 0) wl_529 wl_530 wl_531 wl_66 wl_532 (by decide +kernel) (Nat.le_of_ble_eq_true rfl) ⟨by decide, by decide, by decide +kernel⟩ ⟨Nat.le_of_ble_eq_true rfl, Nat.le_of_ble_eq_true rfl⟩ rfl rfl dL_law_373 ⟨Nat.le_refl _, Nat.le_refl _⟩ rfl hl.1 (Nat.le_of_ble_eq_true rfl) (sp_runC hC hz hT hK (inR_of _) (fun G' g1 g2 => ⟨rfl, g1, g2⟩)) (fun x1 G1 H locs hx hw hP hS => ?_)
  obtain ⟨rfl, hC, hf1⟩ := hx
  have hR := hR.offC hf1 (Nat.le_refl _)
  refine lv_aload_n C_.1 C_.2.1 dL_law_376 rfl (lv_at hl 1 rfl) ?_
  refine lx_rd (k := 1) C_ hS hl (by omega) rfl dL_law_377 dL_law_378 dL_law_379 dL_law_380 dL_law_381 ?_
  refine lx_call (k' := 119) (idx := 56) (n := 1) (As := [jI (xs (i + 1)).toInt]) (Q := fun x G' => x = jI (zRun Z (xs (i + 1)).toInt).1 ∧ SysR G' (B + 218) (zRun Z (xs (i + 1)).toInt).2 ∧ FR (B + 218) 7 G1 G') (C := RX8) (T := TX8) (N := 11) (t := 8) (r := B + 218) C_ hP (fun f => LL_D) hw hS hLA rfl rfl (by decide) (LL_in.mpr ⟨218, by decide, rfl⟩) (kdl_at B 218) wl_834 wl_835 wl_836 wl_74 wl_837 (by decide +kernel) (Nat.le_of_ble_eq_true rfl) ⟨by decide, by decide, by decide +kernel⟩ ⟨Nat.le_of_ble_eq_true rfl, Nat.le_of_ble_eq_true rfl⟩ rfl rfl dL_law_382 ⟨Nat.le_refl _, Nat.le_refl _⟩ rfl hl.1 (Nat.le_of_ble_eq_true rfl) (sp_runR hR hz hT hK (inR_of _) (fun G' g1 g2 => ⟨rfl, g1, g2⟩)) (fun x2 G2 H locs hx hw hP hS => ?_)
  obtain ⟨rfl, hR, hf2⟩ := hx
  have hC := hC.offR hf2 (Nat.le_refl _)
  refine lv_icmp_eq (tgt := 701) C_.1 C_.2.1 dL_law_385 (by decide) (fun _ => ?_) (fun q => absurd rfl q)
  exact kk H locs _ G2 ⟨hP, hw, hS, hC, hR, zRun_ZI hz hT hK⟩
theorem lc_10 (C_ : lx_K D aC p s m meth c b L B xs) (hI : lx_I D aC B s.heap H locs Z T K G) (hT0 : 99999 ≤ T) (hT : T + 2000 ≤ 100000000) (hK : K + 1000 ≤ 10000000) (hl : lv_has ls 4 (lxL b B i)) (hi : i + 4 ≤ L)
    (kk : ∀ (H1 : Heap) (locs1 : List Loc) (Z1 : Zst) (G1 : Mm), lx_I D aC B s.heap H1 locs1 Z1 (T + 2000) (K + 1000) G1 → W p l e room_1 s m #[Value.ref b] below meth c H1 locs1 600000 7302249 Qw (F0 m 701 ls [])) : W p l e room_1 s m #[Value.ref b] below meth c H locs 600000 7302249 Qw (F0 m 390 ls []) := by
  obtain ⟨hP, hw, hS, hC, hR, hz⟩ := hI
  have hLA : ∀ q, q ∈ LL B → B ≤ q := fun q hq => by obtain ⟨k, _, rfl⟩ := LL_in.mp hq; omega
  obtain ⟨ch, hch, hc0, hc1⟩ := chr_b (jI (xs (i + 1)).toInt)
  refine lv_aload_n C_.1 C_.2.1 dL_law_390 rfl (lv_at hl 2 rfl) ?_
  refine lx_rd (k := 1) C_ hS hl (by omega) rfl dL_law_391 dL_law_392 dL_law_393 dL_law_394 dL_law_395 ?_
  refine lv_i2c (v := jI ch) C_.1 C_.2.1 dL_law_396 hch ?_
  refine lx_call (k' := 65) (idx := 57) (n := 1) (As := [jI ch]) (Q := fun x G' => x = jI (zTyp Z ch).1 ∧ SysC G' B (zTyp Z ch).2 ∧ FR B 218 G G') (C := RX7) (T := TX7) (N := 6) (t := 7) (r := B) C_ hP (fun f => LL_D) hw hS hLA rfl rfl (by decide) (LL_in.mpr ⟨0, by decide, rfl⟩) (kdl_at B 0) wl_575 wl_576 wl_577 wl_66 wl_578 (by decide +kernel) (Nat.le_of_ble_eq_true rfl) ⟨by decide, by decide, by decide +kernel⟩ ⟨Nat.le_of_ble_eq_true rfl, Nat.le_of_ble_eq_true rfl⟩ rfl rfl dL_law_397 ⟨Nat.le_refl _, Nat.le_refl _⟩ rfl hl.1 (Nat.le_of_ble_eq_true rfl) (sp_typC hC ⟨hc0, hc1⟩ (fun G' g1 g2 => ⟨rfl, g1, g2⟩)) (fun x1 G1 H locs hx hw hP hS => ?_)
  obtain ⟨rfl, hC, hf1⟩ := hx
  have hR := hR.offC hf1 (Nat.le_refl _)
  refine lv_aload_n C_.1 C_.2.1 dL_law_400 rfl (lv_at hl 1 rfl) ?_
  refine lx_rd (k := 1) C_ hS hl (by omega) rfl dL_law_401 dL_law_402 dL_law_403 dL_law_404 dL_law_405 ?_
  refine lv_i2c (v := jI ch) C_.1 C_.2.1 dL_law_406 hch ?_
  refine lx_call (k' := 120) (idx := 61) (n := 1) (As := [jI ch]) (Q := fun x G' => x = jI (zTyp Z ch).1 ∧ SysR G' (B + 218) (zTyp Z ch).2 ∧ FR (B + 218) 7 G1 G') (C := RX8) (T := TX8) (N := 11) (t := 8) (r := B + 218) C_ hP (fun f => LL_D) hw hS hLA rfl rfl (by decide) (LL_in.mpr ⟨218, by decide, rfl⟩) (kdl_at B 218) wl_853 wl_854 wl_855 wl_74 wl_856 (by decide +kernel) (Nat.le_of_ble_eq_true rfl) ⟨by decide, by decide, by decide +kernel⟩ ⟨Nat.le_of_ble_eq_true rfl, Nat.le_of_ble_eq_true rfl⟩ rfl rfl dL_law_407 ⟨Nat.le_refl _, Nat.le_refl _⟩ rfl hl.1 (Nat.le_of_ble_eq_true rfl) (sp_typR hR ⟨hc0, hc1⟩ (fun G' g1 g2 => ⟨rfl, g1, g2⟩)) (fun x2 G2 H locs hx hw hP hS => ?_)
  obtain ⟨rfl, hR, hf2⟩ := hx
  have hC := hC.offR hf2 (Nat.le_refl _)
  refine lv_icmp_eq (tgt := 701) C_.1 C_.2.1 dL_law_410 (by decide) (fun _ => ?_) (fun q => absurd rfl q)
  exact kk H locs _ G2 ⟨hP, hw, hS, hC, hR, (zTyp_ZI hz).mono (by omega) (by omega) hT hK⟩
theorem lc_11 (C_ : lx_K D aC p s m meth c b L B xs) (hI : lx_I D aC B s.heap H locs Z T K G) (hT0 : 99999 ≤ T) (hT : T + 2000 ≤ 100000000) (hK : K + 1000 ≤ 10000000) (hl : lv_has ls 4 (lxL b B i)) (hi : i + 4 ≤ L)
    (kk : ∀ (H1 : Heap) (locs1 : List Loc) (Z1 : Zst) (G1 : Mm), lx_I D aC B s.heap H1 locs1 Z1 (T + 2000) (K + 1000) G1 → W p l e room_1 s m #[Value.ref b] below meth c H1 locs1 600000 7302249 Qw (F0 m 701 ls [])) : W p l e room_1 s m #[Value.ref b] below meth c H locs 600000 7302249 Qw (F0 m 415 ls []) := by
  obtain ⟨hP, hw, hS, hC, hR, hz⟩ := hI
  have hLA : ∀ q, q ∈ LL B → B ≤ q := fun q hq => by obtain ⟨k, _, rfl⟩ := LL_in.mp hq; omega
  refine lv_aload_n C_.1 C_.2.1 dL_law_415 rfl (lv_at hl 2 rfl) ?_
  refine lx_call (k' := 66) (idx := 62) (n := 0) (As := []) (Q := fun x G' => x = jI (zClr Z).1 ∧ SysC G' B (zClr Z).2 ∧ FR B 218 G G') (C := RX7) (T := TX7) (N := 6) (t := 7) (r := B) C_ hP (fun f => LL_D) hw hS hLA rfl rfl (by decide) (LL_in.mpr ⟨0, by decide, rfl⟩) (kdl_at B 0) wl_583 wl_584 wl_585 wl_66 wl_586 (by decide +kernel) (Nat.le_of_ble_eq_true rfl) ⟨by decide, by decide, by decide +kernel⟩ ⟨Nat.le_of_ble_eq_true rfl, Nat.le_of_ble_eq_true rfl⟩ rfl rfl dL_law_416 ⟨Nat.le_refl _, Nat.le_refl _⟩ rfl hl.1 (Nat.le_of_ble_eq_true rfl) (sp_clrC hC (fun G' g1 g2 => ⟨rfl, g1, g2⟩)) (fun x1 G1 H locs hx hw hP hS => ?_)
  obtain ⟨rfl, hC, hf1⟩ := hx
  have hR := hR.offC hf1 (Nat.le_refl _)
  refine lv_aload_n C_.1 C_.2.1 dL_law_419 rfl (lv_at hl 1 rfl) ?_
  refine lx_call (k' := 121) (idx := 65) (n := 0) (As := []) (Q := fun x G' => x = jI (zClr Z).1 ∧ SysR G' (B + 218) (zClr Z).2 ∧ FR (B + 218) 7 G1 G') (C := RX8) (T := TX8) (N := 11) (t := 8) (r := B + 218) C_ hP (fun f => LL_D) hw hS hLA rfl rfl (by decide) (LL_in.mpr ⟨218, by decide, rfl⟩) (kdl_at B 218) wl_857 wl_858 wl_859 wl_74 wl_860 (by decide +kernel) (Nat.le_of_ble_eq_true rfl) ⟨by decide, by decide, by decide +kernel⟩ ⟨Nat.le_of_ble_eq_true rfl, Nat.le_of_ble_eq_true rfl⟩ rfl rfl dL_law_420 ⟨Nat.le_refl _, Nat.le_refl _⟩ rfl hl.1 (Nat.le_of_ble_eq_true rfl) (sp_clrR hR (fun G' g1 g2 => ⟨rfl, g1, g2⟩)) (fun x2 G2 H locs hx hw hP hS => ?_)
  obtain ⟨rfl, hR, hf2⟩ := hx
  have hC := hC.offR hf2 (Nat.le_refl _)
  refine lv_icmp_eq (tgt := 701) C_.1 C_.2.1 dL_law_423 (by decide) (fun _ => ?_) (fun q => absurd rfl q)
  exact kk H locs _ G2 ⟨hP, hw, hS, hC, hR, (zClr_ZI hz).mono (by omega) (by omega) hT hK⟩
theorem lc_12 (C_ : lx_K D aC p s m meth c b L B xs) (hI : lx_I D aC B s.heap H locs Z T K G) (hT0 : 99999 ≤ T) (hT : T + 2000 ≤ 100000000) (hK : K + 1000 ≤ 10000000) (hl : lv_has ls 4 (lxL b B i)) (hi : i + 4 ≤ L)
    (kk : ∀ (H1 : Heap) (locs1 : List Loc) (Z1 : Zst) (G1 : Mm), lx_I D aC B s.heap H1 locs1 Z1 (T + 2000) (K + 1000) G1 → W p l e room_1 s m #[Value.ref b] below meth c H1 locs1 600000 7302249 Qw (F0 m 701 ls [])) : W p l e room_1 s m #[Value.ref b] below meth c H locs 600000 7302249 Qw (F0 m 428 ls []) := by
  obtain ⟨hP, hw, hS, hC, hR, hz⟩ := hI
  have hLA : ∀ q, q ∈ LL B → B ≤ q := fun q hq => by obtain ⟨k, _, rfl⟩ := LL_in.mp hq; omega
  refine lv_aload_n C_.1 C_.2.1 dL_law_428 rfl (lv_at hl 2 rfl) ?_
  refine lx_call (k' := 67) (idx := 66) (n := 0) (As := []) (Q := fun x G' => x = jI (zUnd Z).1 ∧ SysC G' B (zUnd Z).2 ∧ FR B 218 G G') (C := RX7) (T := TX7) (N := 6) (t := 7) (r := B) C_ hP (fun f => LL_D) hw hS hLA rfl rfl (by decide) (LL_in.mpr ⟨0, by decide, rfl⟩) (kdl_at B 0) wl_587 wl_588 wl_589 wl_66 wl_590 (by decide +kernel) (Nat.le_of_ble_eq_true rfl) ⟨by decide, by decide, by decide +kernel⟩ ⟨Nat.le_of_ble_eq_true rfl, Nat.le_of_ble_eq_true rfl⟩ rfl rfl dL_law_429 ⟨Nat.le_refl _, Nat.le_refl _⟩ rfl hl.1 (Nat.le_of_ble_eq_true rfl) (sp_undC hC (fun G' g1 g2 => ⟨rfl, g1, g2⟩)) (fun x1 G1 H locs hx hw hP hS => ?_)
  obtain ⟨rfl, hC, hf1⟩ := hx
  have hR := hR.offC hf1 (Nat.le_refl _)
  refine lv_aload_n C_.1 C_.2.1 dL_law_432 rfl (lv_at hl 1 rfl) ?_
  refine lx_call (k' := 127) (idx := 69) (n := 0) (As := []) (Q := fun x G' => x = jI (zUnd Z).1 ∧ SysR G' (B + 218) (zUnd Z).2 ∧ FR (B + 218) 7 G1 G') (C := RX8) (T := TX8) (N := 11) (t := 8) (r := B + 218) C_ hP (fun f => LL_D) hw hS hLA rfl rfl (by decide) (LL_in.mpr ⟨218, by decide, rfl⟩) (kdl_at B 218) wl_861 wl_862 wl_863 wl_74 wl_864 (by decide +kernel) (Nat.le_of_ble_eq_true rfl) ⟨by decide, by decide, by decide +kernel⟩ ⟨Nat.le_of_ble_eq_true rfl, Nat.le_of_ble_eq_true rfl⟩ rfl rfl dL_law_433 ⟨Nat.le_refl _, Nat.le_refl _⟩ rfl hl.1 (Nat.le_of_ble_eq_true rfl) (sp_undR hR (fun G' g1 g2 => ⟨rfl, g1, g2⟩)) (fun x2 G2 H locs hx hw hP hS => ?_)
  obtain ⟨rfl, hR, hf2⟩ := hx
  have hC := hC.offR hf2 (Nat.le_refl _)
  refine lv_icmp_eq (tgt := 701) C_.1 C_.2.1 dL_law_436 (by decide) (fun _ => ?_) (fun q => absurd rfl q)
  exact kk H locs _ G2 ⟨hP, hw, hS, hC, hR, (zUnd_ZI hz).mono (by omega) (by omega) hT hK⟩
theorem lc_13 (C_ : lx_K D aC p s m meth c b L B xs) (hI : lx_I D aC B s.heap H locs Z T K G) (hT0 : 99999 ≤ T) (hT : T + 2000 ≤ 100000000) (hK : K + 1000 ≤ 10000000) (hl : lv_has ls 4 (lxL b B i)) (hi : i + 4 ≤ L)
    (kk : ∀ (H1 : Heap) (locs1 : List Loc) (Z1 : Zst) (G1 : Mm), lx_I D aC B s.heap H1 locs1 Z1 (T + 2000) (K + 1000) G1 → W p l e room_1 s m #[Value.ref b] below meth c H1 locs1 600000 7302249 Qw (F0 m 701 ls [])) : W p l e room_1 s m #[Value.ref b] below meth c H locs 600000 7302249 Qw (F0 m 441 ls []) := by
  obtain ⟨hP, hw, hS, hC, hR, hz⟩ := hI
  have hLA : ∀ q, q ∈ LL B → B ≤ q := fun q hq => by obtain ⟨k, _, rfl⟩ := LL_in.mp hq; omega
  refine lv_aload_n C_.1 C_.2.1 dL_law_441 rfl (lv_at hl 2 rfl) ?_
  refine lx_call (k' := 68) (idx := 70) (n := 0) (As := []) (Q := fun x G' => x = jI (zKee Z).1 ∧ SysC G' B (zKee Z).2 ∧ FR B 218 G G') (C := RX7) (T := TX7) (N := 6) (t := 7) (r := B) C_ hP (fun f => LL_D) hw hS hLA rfl rfl (by decide) (LL_in.mpr ⟨0, by decide, rfl⟩) (kdl_at B 0) wl_595 wl_596 wl_597 wl_66 wl_598 (by decide +kernel) (Nat.le_of_ble_eq_true rfl) ⟨by decide, by decide, by decide +kernel⟩ ⟨Nat.le_of_ble_eq_true rfl, Nat.le_of_ble_eq_true rfl⟩ rfl rfl dL_law_442 ⟨Nat.le_refl _, Nat.le_refl _⟩ rfl hl.1 (Nat.le_of_ble_eq_true rfl) (sp_keeC hC hz (fun G' g1 g2 => ⟨rfl, g1, g2⟩)) (fun x1 G1 H locs hx hw hP hS => ?_)
  obtain ⟨rfl, hC, hf1⟩ := hx
  have hR := hR.offC hf1 (Nat.le_refl _)
  refine lv_aload_n C_.1 C_.2.1 dL_law_445 rfl (lv_at hl 1 rfl) ?_
  refine lx_call (k' := 128) (idx := 73) (n := 0) (As := []) (Q := fun x G' => x = jI (zKee Z).1 ∧ SysR G' (B + 218) (zKee Z).2 ∧ FR (B + 218) 7 G1 G') (C := RX8) (T := TX8) (N := 11) (t := 8) (r := B + 218) C_ hP (fun f => LL_D) hw hS hLA rfl rfl (by decide) (LL_in.mpr ⟨218, by decide, rfl⟩) (kdl_at B 218) wl_865 wl_866 wl_867 wl_74 wl_868 (by decide +kernel) (Nat.le_of_ble_eq_true rfl) ⟨by decide, by decide, by decide +kernel⟩ ⟨Nat.le_of_ble_eq_true rfl, Nat.le_of_ble_eq_true rfl⟩ rfl rfl dL_law_446 ⟨Nat.le_refl _, Nat.le_refl _⟩ rfl hl.1 (Nat.le_of_ble_eq_true rfl) (sp_keeR hR hz (fun G' g1 g2 => ⟨rfl, g1, g2⟩)) (fun x2 G2 H locs hx hw hP hS => ?_)
  obtain ⟨rfl, hR, hf2⟩ := hx
  have hC := hC.offR hf2 (Nat.le_refl _)
  refine lv_icmp_eq (tgt := 701) C_.1 C_.2.1 dL_law_449 (by decide) (fun _ => ?_) (fun q => absurd rfl q)
  exact kk H locs _ G2 ⟨hP, hw, hS, hC, hR, (zKee_ZI hz).mono (by omega) (by omega) hT hK⟩
theorem lc_14 (C_ : lx_K D aC p s m meth c b L B xs) (hI : lx_I D aC B s.heap H locs Z T K G) (hT0 : 99999 ≤ T) (hT : T + 2000 ≤ 100000000) (hK : K + 1000 ≤ 10000000) (hl : lv_has ls 4 (lxL b B i)) (hi : i + 4 ≤ L)
    (kk : ∀ (H1 : Heap) (locs1 : List Loc) (Z1 : Zst) (G1 : Mm), lx_I D aC B s.heap H1 locs1 Z1 (T + 2000) (K + 1000) G1 → W p l e room_1 s m #[Value.ref b] below meth c H1 locs1 600000 7302249 Qw (F0 m 701 ls [])) : W p l e room_1 s m #[Value.ref b] below meth c H locs 600000 7302249 Qw (F0 m 454 ls []) := by
  obtain ⟨hP, hw, hS, hC, hR, hz⟩ := hI
  have hLA : ∀ q, q ∈ LL B → B ≤ q := fun q hq => by obtain ⟨k, _, rfl⟩ := LL_in.mp hq; omega
  refine lv_aload_n C_.1 C_.2.1 dL_law_454 rfl (lv_at hl 2 rfl) ?_
  refine lx_call (k' := 69) (idx := 74) (n := 0) (As := []) (Q := fun x G' => x = jI (zRes Z).1 ∧ SysC G' B (zRes Z).2 ∧ FR B 218 G G') (C := RX7) (T := TX7) (N := 6) (t := 7) (r := B) C_ hP (fun f => LL_D) hw hS hLA rfl rfl (by decide) (LL_in.mpr ⟨0, by decide, rfl⟩) (kdl_at B 0) wl_600 wl_601 wl_602 wl_66 wl_603 (by decide +kernel) (Nat.le_of_ble_eq_true rfl) ⟨by decide, by decide, by decide +kernel⟩ ⟨Nat.le_of_ble_eq_true rfl, Nat.le_of_ble_eq_true rfl⟩ rfl rfl dL_law_455 ⟨Nat.le_refl _, Nat.le_refl _⟩ rfl hl.1 (Nat.le_of_ble_eq_true rfl) (sp_resC hC (fun G' g1 g2 => ⟨rfl, g1, g2⟩)) (fun x1 G1 H locs hx hw hP hS => ?_)
  obtain ⟨rfl, hC, hf1⟩ := hx
  have hR := hR.offC hf1 (Nat.le_refl _)
  refine lv_aload_n C_.1 C_.2.1 dL_law_458 rfl (lv_at hl 1 rfl) ?_
  refine lx_call (k' := 129) (idx := 77) (n := 0) (As := []) (Q := fun x G' => x = jI (zRes Z).1 ∧ SysR G' (B + 218) (zRes Z).2 ∧ FR (B + 218) 7 G1 G') (C := RX8) (T := TX8) (N := 11) (t := 8) (r := B + 218) C_ hP (fun f => LL_D) hw hS hLA rfl rfl (by decide) (LL_in.mpr ⟨218, by decide, rfl⟩) (kdl_at B 218) wl_869 wl_870 wl_871 wl_74 wl_872 (by decide +kernel) (Nat.le_of_ble_eq_true rfl) ⟨by decide, by decide, by decide +kernel⟩ ⟨Nat.le_of_ble_eq_true rfl, Nat.le_of_ble_eq_true rfl⟩ rfl rfl dL_law_459 ⟨Nat.le_refl _, Nat.le_refl _⟩ rfl hl.1 (Nat.le_of_ble_eq_true rfl) (sp_resR hR (fun G' g1 g2 => ⟨rfl, g1, g2⟩)) (fun x2 G2 H locs hx hw hP hS => ?_)
  obtain ⟨rfl, hR, hf2⟩ := hx
  have hC := hC.offR hf2 (Nat.le_refl _)
  refine lv_icmp_eq (tgt := 701) C_.1 C_.2.1 dL_law_462 (by decide) (fun _ => ?_) (fun q => absurd rfl q)
  exact kk H locs _ G2 ⟨hP, hw, hS, hC, hR, (zRes_ZI hz).mono (by omega) (by omega) hT hK⟩
theorem lc_15 (C_ : lx_K D aC p s m meth c b L B xs) (hI : lx_I D aC B s.heap H locs Z T K G) (hT0 : 99999 ≤ T) (hT : T + 2000 ≤ 100000000) (hK : K + 1000 ≤ 10000000) (hl : lv_has ls 4 (lxL b B i)) (hi : i + 4 ≤ L)
    (kk : ∀ (H1 : Heap) (locs1 : List Loc) (Z1 : Zst) (G1 : Mm), lx_I D aC B s.heap H1 locs1 Z1 (T + 2000) (K + 1000) G1 → W p l e room_1 s m #[Value.ref b] below meth c H1 locs1 600000 7302249 Qw (F0 m 701 ls [])) : W p l e room_1 s m #[Value.ref b] below meth c H locs 600000 7302249 Qw (F0 m 467 ls []) := by
  obtain ⟨hP, hw, hS, hC, hR, hz⟩ := hI
  have hLA : ∀ q, q ∈ LL B → B ≤ q := fun q hq => by obtain ⟨k, _, rfl⟩ := LL_in.mp hq; omega
  refine lv_aload_n C_.1 C_.2.1 dL_law_467 rfl (lv_at hl 2 rfl) ?_
  refine lx_rd (k := 1) C_ hS hl (by omega) rfl dL_law_468 dL_law_469 dL_law_470 dL_law_471 dL_law_472 ?_
  refine lx_rd (k := 2) C_ hS hl (by omega) rfl dL_law_473 dL_law_474 dL_law_475 dL_law_476 dL_law_477 ?_
  refine lx_call (k' := 70) (idx := 78) (n := 2) (As := [jI (xs (i + 1)).toInt, jI (xs (i + 2)).toInt]) (Q := fun x G' => x = jI (zAla Z (xs (i + 1)).toInt (xs (i + 2)).toInt) ∧ SysC G' B Z ∧ FR B 218 G G') (C := RX7) (T := TX7) (N := 6) (t := 7) (r := B) C_ hP (fun f => LL_D) hw hS hLA rfl rfl (by decide) (LL_in.mpr ⟨0, by decide, rfl⟩) (kdl_at B 0) wl_604 wl_605 wl_606 wl_66 wl_607 (by decide +kernel) (Nat.le_of_ble_eq_true rfl) ⟨by decide, by decide, by decide +kernel⟩ ⟨Nat.le_of_ble_eq_true rfl, Nat.le_of_ble_eq_true rfl⟩ rfl rfl dL_law_478 ⟨Nat.le_refl _, Nat.le_refl _⟩ rfl hl.1 (Nat.le_of_ble_eq_true rfl) (sp_alaC hC hz (inR_of _) (inR_of _) ⟨rfl, hC, FR.rf⟩) (fun x1 G1 H locs hx hw hP hS => ?_)
  obtain ⟨rfl, hC, hf1⟩ := hx
  have hR := hR.offC hf1 (Nat.le_refl _)
  refine lv_aload_n C_.1 C_.2.1 dL_law_481 rfl (lv_at hl 1 rfl) ?_
  refine lx_rd (k := 1) C_ hS hl (by omega) rfl dL_law_482 dL_law_483 dL_law_484 dL_law_485 dL_law_486 ?_
  refine lx_rd (k := 2) C_ hS hl (by omega) rfl dL_law_487 dL_law_488 dL_law_489 dL_law_490 dL_law_491 ?_
  refine lx_call (k' := 130) (idx := 81) (n := 2) (As := [jI (xs (i + 1)).toInt, jI (xs (i + 2)).toInt]) (Q := fun x G' => x = jI (zAla Z (xs (i + 1)).toInt (xs (i + 2)).toInt) ∧ SysR G' (B + 218) Z ∧ FR (B + 218) 7 G1 G') (C := RX8) (T := TX8) (N := 11) (t := 8) (r := B + 218) C_ hP (fun f => LL_D) hw hS hLA rfl rfl (by decide) (LL_in.mpr ⟨218, by decide, rfl⟩) (kdl_at B 218) wl_873 wl_874 wl_875 wl_74 wl_876 (by decide +kernel) (Nat.le_of_ble_eq_true rfl) ⟨by decide, by decide, by decide +kernel⟩ ⟨Nat.le_of_ble_eq_true rfl, Nat.le_of_ble_eq_true rfl⟩ rfl rfl dL_law_492 ⟨Nat.le_refl _, Nat.le_refl _⟩ rfl hl.1 (Nat.le_of_ble_eq_true rfl) (sp_alaR hR hz (inR_of _) (inR_of _) ⟨rfl, hR, FR.rf⟩) (fun x2 G2 H locs hx hw hP hS => ?_)
  obtain ⟨rfl, hR, hf2⟩ := hx
  have hC := hC.offR hf2 (Nat.le_refl _)
  refine lv_icmp_eq (tgt := 701) C_.1 C_.2.1 dL_law_495 (by decide) (fun _ => ?_) (fun q => absurd rfl q)
  exact kk H locs _ G2 ⟨hP, hw, hS, hC, hR, hz.mono (by omega) (by omega) hT hK⟩
theorem lc_16 (C_ : lx_K D aC p s m meth c b L B xs) (hI : lx_I D aC B s.heap H locs Z T K G) (hT0 : 99999 ≤ T) (hT : T + 2000 ≤ 100000000) (hK : K + 1000 ≤ 10000000) (hl : lv_has ls 4 (lxL b B i)) (hi : i + 4 ≤ L)
    (kk : ∀ (H1 : Heap) (locs1 : List Loc) (Z1 : Zst) (G1 : Mm), lx_I D aC B s.heap H1 locs1 Z1 (T + 2000) (K + 1000) G1 → W p l e room_1 s m #[Value.ref b] below meth c H1 locs1 600000 7302249 Qw (F0 m 701 ls [])) : W p l e room_1 s m #[Value.ref b] below meth c H locs 600000 7302249 Qw (F0 m 500 ls []) := by
  obtain ⟨hP, hw, hS, hC, hR, hz⟩ := hI
  have hLA : ∀ q, q ∈ LL B → B ≤ q := fun q hq => by obtain ⟨k, _, rfl⟩ := LL_in.mp hq; omega
  refine lv_aload_n C_.1 C_.2.1 dL_law_500 rfl (lv_at hl 2 rfl) ?_
  refine lx_rd (k := 1) C_ hS hl (by omega) rfl dL_law_501 dL_law_502 dL_law_503 dL_law_504 dL_law_505 ?_
  refine lx_rd (k := 2) C_ hS hl (by omega) rfl dL_law_506 dL_law_507 dL_law_508 dL_law_509 dL_law_510 ?_
  refine lx_call (k' := 71) (idx := 82) (n := 2) (As := [jI (xs (i + 1)).toInt, jI (xs (i + 2)).toInt]) (Q := fun x G' => x = jI (zCpr Z (xs (i + 1)).toInt (xs (i + 2)).toInt) ∧ SysC G' B Z ∧ FR B 218 G G') (C := RX7) (T := TX7) (N := 6) (t := 7) (r := B) C_ hP (fun f => LL_D) hw hS hLA rfl rfl (by decide) (LL_in.mpr ⟨0, by decide, rfl⟩) (kdl_at B 0) wl_608 wl_609 wl_610 wl_66 wl_611 (by decide +kernel) (Nat.le_of_ble_eq_true rfl) ⟨by decide, by decide, by decide +kernel⟩ ⟨Nat.le_of_ble_eq_true rfl, Nat.le_of_ble_eq_true rfl⟩ rfl rfl dL_law_511 ⟨Nat.le_refl _, Nat.le_refl _⟩ rfl hl.1 (Nat.le_of_ble_eq_true rfl) (sp_cprC hC hz (inR_of _) (inR_of _) ⟨rfl, hC, FR.rf⟩) (fun x1 G1 H locs hx hw hP hS => ?_)
  obtain ⟨rfl, hC, hf1⟩ := hx
  have hR := hR.offC hf1 (Nat.le_refl _)
  refine lv_aload_n C_.1 C_.2.1 dL_law_514 rfl (lv_at hl 1 rfl) ?_
  refine lx_rd (k := 1) C_ hS hl (by omega) rfl dL_law_515 dL_law_516 dL_law_517 dL_law_518 dL_law_519 ?_
  refine lx_rd (k := 2) C_ hS hl (by omega) rfl dL_law_520 dL_law_521 dL_law_522 dL_law_523 dL_law_524 ?_
  refine lx_call (k' := 131) (idx := 85) (n := 2) (As := [jI (xs (i + 1)).toInt, jI (xs (i + 2)).toInt]) (Q := fun x G' => x = jI (zCpr Z (xs (i + 1)).toInt (xs (i + 2)).toInt) ∧ SysR G' (B + 218) Z ∧ FR (B + 218) 7 G1 G') (C := RX8) (T := TX8) (N := 11) (t := 8) (r := B + 218) C_ hP (fun f => LL_D) hw hS hLA rfl rfl (by decide) (LL_in.mpr ⟨218, by decide, rfl⟩) (kdl_at B 218) wl_880 wl_881 wl_882 wl_74 wl_883 (by decide +kernel) (Nat.le_of_ble_eq_true rfl) ⟨by decide, by decide, by decide +kernel⟩ ⟨Nat.le_of_ble_eq_true rfl, Nat.le_of_ble_eq_true rfl⟩ rfl rfl dL_law_525 ⟨Nat.le_refl _, Nat.le_refl _⟩ rfl hl.1 (Nat.le_of_ble_eq_true rfl) (sp_cprR hR hz (inR_of _) (inR_of _) ⟨rfl, hR, FR.rf⟩) (fun x2 G2 H locs hx hw hP hS => ?_)
  obtain ⟨rfl, hR, hf2⟩ := hx
  have hC := hC.offR hf2 (Nat.le_refl _)
  refine lv_icmp_eq (tgt := 701) C_.1 C_.2.1 dL_law_528 (by decide) (fun _ => ?_) (fun q => absurd rfl q)
  exact kk H locs _ G2 ⟨hP, hw, hS, hC, hR, hz.mono (by omega) (by omega) hT hK⟩
theorem lc_17 (C_ : lx_K D aC p s m meth c b L B xs) (hI : lx_I D aC B s.heap H locs Z T K G) (hT0 : 99999 ≤ T) (hT : T + 2000 ≤ 100000000) (hK : K + 1000 ≤ 10000000) (hl : lv_has ls 4 (lxL b B i)) (hi : i + 4 ≤ L)
    (kk : ∀ (H1 : Heap) (locs1 : List Loc) (Z1 : Zst) (G1 : Mm), lx_I D aC B s.heap H1 locs1 Z1 (T + 2000) (K + 1000) G1 → W p l e room_1 s m #[Value.ref b] below meth c H1 locs1 600000 7302249 Qw (F0 m 701 ls [])) : W p l e room_1 s m #[Value.ref b] below meth c H locs 600000 7302249 Qw (F0 m 533 ls []) := by
  obtain ⟨hP, hw, hS, hC, hR, hz⟩ := hI
  have hLA : ∀ q, q ∈ LL B → B ≤ q := fun q hq => by obtain ⟨k, _, rfl⟩ := LL_in.mp hq; omega
  refine lv_aload_n C_.1 C_.2.1 dL_law_533 rfl (lv_at hl 2 rfl) ?_
  refine lx_rd (k := 1) C_ hS hl (by omega) rfl dL_law_534 dL_law_535 dL_law_536 dL_law_537 dL_law_538 ?_
  refine lx_call (k' := 72) (idx := 86) (n := 1) (As := [jI (xs (i + 1)).toInt]) (Q := fun x G' => x = jI (zAt Z (xs (i + 1)).toInt) ∧ SysC G' B Z ∧ FR B 218 G G') (C := RX7) (T := TX7) (N := 6) (t := 7) (r := B) C_ hP (fun f => LL_D) hw hS hLA rfl rfl (by decide) (LL_in.mpr ⟨0, by decide, rfl⟩) (kdl_at B 0) wl_617 wl_618 wl_619 wl_66 wl_620 (by decide +kernel) (Nat.le_of_ble_eq_true rfl) ⟨by decide, by decide, by decide +kernel⟩ ⟨Nat.le_of_ble_eq_true rfl, Nat.le_of_ble_eq_true rfl⟩ rfl rfl dL_law_539 ⟨Nat.le_refl _, Nat.le_refl _⟩ rfl hl.1 (Nat.le_of_ble_eq_true rfl) (sp_atC hC hz (inR_of _) ⟨rfl, hC, FR.rf⟩) (fun x1 G1 H locs hx hw hP hS => ?_)
  obtain ⟨rfl, hC, hf1⟩ := hx
  have hR := hR.offC hf1 (Nat.le_refl _)
  refine lv_aload_n C_.1 C_.2.1 dL_law_542 rfl (lv_at hl 1 rfl) ?_
  refine lx_rd (k := 1) C_ hS hl (by omega) rfl dL_law_543 dL_law_544 dL_law_545 dL_law_546 dL_law_547 ?_
  refine lx_call (k' := 132) (idx := 89) (n := 1) (As := [jI (xs (i + 1)).toInt]) (Q := fun x G' => x = jI (zAt Z (xs (i + 1)).toInt) ∧ SysR G' (B + 218) Z ∧ FR (B + 218) 7 G1 G') (C := RX8) (T := TX8) (N := 11) (t := 8) (r := B + 218) C_ hP (fun f => LL_D) hw hS hLA rfl rfl (by decide) (LL_in.mpr ⟨218, by decide, rfl⟩) (kdl_at B 218) wl_887 wl_888 wl_889 wl_74 wl_890 (by decide +kernel) (Nat.le_of_ble_eq_true rfl) ⟨by decide, by decide, by decide +kernel⟩ ⟨Nat.le_of_ble_eq_true rfl, Nat.le_of_ble_eq_true rfl⟩ rfl rfl dL_law_548 ⟨Nat.le_refl _, Nat.le_refl _⟩ rfl hl.1 (Nat.le_of_ble_eq_true rfl) (sp_atR hR hz (inR_of _) ⟨rfl, hR, FR.rf⟩) (fun x2 G2 H locs hx hw hP hS => ?_)
  obtain ⟨rfl, hR, hf2⟩ := hx
  have hC := hC.offR hf2 (Nat.le_refl _)
  refine lv_icmp_eq (tgt := 701) C_.1 C_.2.1 dL_law_551 (by decide) (fun _ => ?_) (fun q => absurd rfl q)
  exact kk H locs _ G2 ⟨hP, hw, hS, hC, hR, hz.mono (by omega) (by omega) hT hK⟩
theorem lc_18 (C_ : lx_K D aC p s m meth c b L B xs) (hI : lx_I D aC B s.heap H locs Z T K G) (hT0 : 99999 ≤ T) (hT : T + 2000 ≤ 100000000) (hK : K + 1000 ≤ 10000000) (hl : lv_has ls 4 (lxL b B i)) (hi : i + 4 ≤ L)
    (kk : ∀ (H1 : Heap) (locs1 : List Loc) (Z1 : Zst) (G1 : Mm), lx_I D aC B s.heap H1 locs1 Z1 (T + 2000) (K + 1000) G1 → W p l e room_1 s m #[Value.ref b] below meth c H1 locs1 600000 7302249 Qw (F0 m 701 ls [])) : W p l e room_1 s m #[Value.ref b] below meth c H locs 600000 7302249 Qw (F0 m 556 ls []) := by
  obtain ⟨hP, hw, hS, hC, hR, hz⟩ := hI
  have hLA : ∀ q, q ∈ LL B → B ≤ q := fun q hq => by obtain ⟨k, _, rfl⟩ := LL_in.mp hq; omega
  refine lv_aload_n C_.1 C_.2.1 dL_law_556 rfl (lv_at hl 2 rfl) ?_
  refine lx_rd (k := 1) C_ hS hl (by omega) rfl dL_law_557 dL_law_558 dL_law_559 dL_law_560 dL_law_561 ?_
  refine lx_call (k' := 73) (idx := 90) (n := 1) (As := [jI (xs (i + 1)).toInt]) (Q := fun x G' => x = jI (zRin Z (xs (i + 1)).toInt) ∧ SysC G' B Z ∧ FR B 218 G G') (C := RX7) (T := TX7) (N := 6) (t := 7) (r := B) C_ hP (fun f => LL_D) hw hS hLA rfl rfl (by decide) (LL_in.mpr ⟨0, by decide, rfl⟩) (kdl_at B 0) wl_621 wl_622 wl_623 wl_66 wl_624 (by decide +kernel) (Nat.le_of_ble_eq_true rfl) ⟨by decide, by decide, by decide +kernel⟩ ⟨Nat.le_of_ble_eq_true rfl, Nat.le_of_ble_eq_true rfl⟩ rfl rfl dL_law_562 ⟨Nat.le_refl _, Nat.le_refl _⟩ rfl hl.1 (Nat.le_of_ble_eq_true rfl) (sp_rinC hC hz hT hK (inR_of _) (fun G' g1 g2 => ⟨rfl, g1, g2⟩)) (fun x1 G1 H locs hx hw hP hS => ?_)
  obtain ⟨rfl, hC, hf1⟩ := hx
  have hR := hR.offC hf1 (Nat.le_refl _)
  refine lv_aload_n C_.1 C_.2.1 dL_law_565 rfl (lv_at hl 1 rfl) ?_
  refine lx_rd (k := 1) C_ hS hl (by omega) rfl dL_law_566 dL_law_567 dL_law_568 dL_law_569 dL_law_570 ?_
  refine lx_call (k' := 133) (idx := 93) (n := 1) (As := [jI (xs (i + 1)).toInt]) (Q := fun x G' => x = jI (zRin Z (xs (i + 1)).toInt) ∧ SysR G' (B + 218) Z ∧ FR (B + 218) 7 G1 G') (C := RX8) (T := TX8) (N := 11) (t := 8) (r := B + 218) C_ hP (fun f => LL_D) hw hS hLA rfl rfl (by decide) (LL_in.mpr ⟨218, by decide, rfl⟩) (kdl_at B 218) wl_891 wl_892 wl_893 wl_74 wl_894 (by decide +kernel) (Nat.le_of_ble_eq_true rfl) ⟨by decide, by decide, by decide +kernel⟩ ⟨Nat.le_of_ble_eq_true rfl, Nat.le_of_ble_eq_true rfl⟩ rfl rfl dL_law_571 ⟨Nat.le_refl _, Nat.le_refl _⟩ rfl hl.1 (Nat.le_of_ble_eq_true rfl) (sp_rinR hR hz hT hK (inR_of _) (fun G' g1 g2 => ⟨rfl, g1, g2⟩)) (fun x2 G2 H locs hx hw hP hS => ?_)
  obtain ⟨rfl, hR, hf2⟩ := hx
  have hC := hC.offR hf2 (Nat.le_refl _)
  refine lv_icmp_eq (tgt := 701) C_.1 C_.2.1 dL_law_574 (by decide) (fun _ => ?_) (fun q => absurd rfl q)
  exact kk H locs _ G2 ⟨hP, hw, hS, hC, hR, hz.mono (by omega) (by omega) hT hK⟩
theorem lc_19 (C_ : lx_K D aC p s m meth c b L B xs) (hI : lx_I D aC B s.heap H locs Z T K G) (hT0 : 99999 ≤ T) (hT : T + 2000 ≤ 100000000) (hK : K + 1000 ≤ 10000000) (hl : lv_has ls 4 (lxL b B i)) (hi : i + 4 ≤ L)
    (kk : ∀ (H1 : Heap) (locs1 : List Loc) (Z1 : Zst) (G1 : Mm), lx_I D aC B s.heap H1 locs1 Z1 (T + 2000) (K + 1000) G1 → W p l e room_1 s m #[Value.ref b] below meth c H1 locs1 600000 7302249 Qw (F0 m 701 ls [])) : W p l e room_1 s m #[Value.ref b] below meth c H locs 600000 7302249 Qw (F0 m 579 ls []) := by
  obtain ⟨hP, hw, hS, hC, hR, hz⟩ := hI
  have hLA : ∀ q, q ∈ LL B → B ≤ q := fun q hq => by obtain ⟨k, _, rfl⟩ := LL_in.mp hq; omega
  refine lv_aload_n C_.1 C_.2.1 dL_law_579 rfl (lv_at hl 2 rfl) ?_
  refine lx_rd (k := 1) C_ hS hl (by omega) rfl dL_law_580 dL_law_581 dL_law_582 dL_law_583 dL_law_584 ?_
  refine lx_rd (k := 2) C_ hS hl (by omega) rfl dL_law_585 dL_law_586 dL_law_587 dL_law_588 dL_law_589 ?_
  refine lx_rd (k := 3) C_ hS hl (by omega) rfl dL_law_590 dL_law_591 dL_law_592 dL_law_593 dL_law_594 ?_
  refine lx_call (k' := 74) (idx := 94) (n := 3) (As := [jI (xs (i + 1)).toInt, jI (xs (i + 2)).toInt, jI (xs (i + 3)).toInt]) (Q := fun x G' => x = jI (zIfc Z (xs (i + 1)).toInt (xs (i + 2)).toInt (xs (i + 3)).toInt) ∧ SysC G' B Z ∧ FR B 218 G G') (C := RX7) (T := TX7) (N := 6) (t := 7) (r := B) C_ hP (fun f => LL_D) hw hS hLA rfl rfl (by decide) (LL_in.mpr ⟨0, by decide, rfl⟩) (kdl_at B 0) wl_630 wl_631 wl_632 wl_66 wl_633 (by decide +kernel) (Nat.le_of_ble_eq_true rfl) ⟨by decide, by decide, by decide +kernel⟩ ⟨Nat.le_of_ble_eq_true rfl, Nat.le_of_ble_eq_true rfl⟩ rfl rfl dL_law_595 ⟨Nat.le_refl _, Nat.le_refl _⟩ rfl hl.1 (Nat.le_of_ble_eq_true rfl) (sp_ifcC hC hz hT hK (inR_of _) (inR_of _) (inR_of _) (fun G' g1 g2 => ⟨rfl, g1, g2⟩)) (fun x1 G1 H locs hx hw hP hS => ?_)
  obtain ⟨rfl, hC, hf1⟩ := hx
  have hR := hR.offC hf1 (Nat.le_refl _)
  refine lv_aload_n C_.1 C_.2.1 dL_law_598 rfl (lv_at hl 1 rfl) ?_
  refine lx_rd (k := 1) C_ hS hl (by omega) rfl dL_law_599 dL_law_600 dL_law_601 dL_law_602 dL_law_603 ?_
  refine lx_rd (k := 2) C_ hS hl (by omega) rfl dL_law_604 dL_law_605 dL_law_606 dL_law_607 dL_law_608 ?_
  refine lx_rd (k := 3) C_ hS hl (by omega) rfl dL_law_609 dL_law_610 dL_law_611 dL_law_612 dL_law_613 ?_
  refine lx_call (k' := 135) (idx := 97) (n := 3) (As := [jI (xs (i + 1)).toInt, jI (xs (i + 2)).toInt, jI (xs (i + 3)).toInt]) (Q := fun x G' => x = jI (zIfc Z (xs (i + 1)).toInt (xs (i + 2)).toInt (xs (i + 3)).toInt) ∧ SysR G' (B + 218) Z ∧ FR (B + 218) 7 G1 G') (C := RX8) (T := TX8) (N := 11) (t := 8) (r := B + 218) C_ hP (fun f => LL_D) hw hS hLA rfl rfl (by decide) (LL_in.mpr ⟨218, by decide, rfl⟩) (kdl_at B 218) wl_895 wl_896 wl_897 wl_74 wl_898 (by decide +kernel) (Nat.le_of_ble_eq_true rfl) ⟨by decide, by decide, by decide +kernel⟩ ⟨Nat.le_of_ble_eq_true rfl, Nat.le_of_ble_eq_true rfl⟩ rfl rfl dL_law_614 ⟨Nat.le_refl _, Nat.le_refl _⟩ rfl hl.1 (Nat.le_of_ble_eq_true rfl) (sp_ifcR hR hz hT hK (inR_of _) (inR_of _) (inR_of _) (fun G' g1 g2 => ⟨rfl, g1, g2⟩)) (fun x2 G2 H locs hx hw hP hS => ?_)
  obtain ⟨rfl, hR, hf2⟩ := hx
  have hC := hC.offR hf2 (Nat.le_refl _)
  refine lv_icmp_eq (tgt := 701) C_.1 C_.2.1 dL_law_617 (by decide) (fun _ => ?_) (fun q => absurd rfl q)
  exact kk H locs _ G2 ⟨hP, hw, hS, hC, hR, hz.mono (by omega) (by omega) hT hK⟩
theorem lc_20 (C_ : lx_K D aC p s m meth c b L B xs) (hI : lx_I D aC B s.heap H locs Z T K G) (hT0 : 99999 ≤ T) (hT : T + 2000 ≤ 100000000) (hK : K + 1000 ≤ 10000000) (hl : lv_has ls 4 (lxL b B i)) (hi : i + 4 ≤ L)
    (kk : ∀ (H1 : Heap) (locs1 : List Loc) (Z1 : Zst) (G1 : Mm), lx_I D aC B s.heap H1 locs1 Z1 (T + 2000) (K + 1000) G1 → W p l e room_1 s m #[Value.ref b] below meth c H1 locs1 600000 7302249 Qw (F0 m 701 ls [])) : W p l e room_1 s m #[Value.ref b] below meth c H locs 600000 7302249 Qw (F0 m 622 ls []) := by
  obtain ⟨hP, hw, hS, hC, hR, hz⟩ := hI
  have hLA : ∀ q, q ∈ LL B → B ≤ q := fun q hq => by obtain ⟨k, _, rfl⟩ := LL_in.mp hq; omega
  refine lv_aload_n C_.1 C_.2.1 dL_law_622 rfl (lv_at hl 2 rfl) ?_
  refine lx_rd (k := 1) C_ hS hl (by omega) rfl dL_law_623 dL_law_624 dL_law_625 dL_law_626 dL_law_627 ?_
  refine lx_call (k' := 75) (idx := 98) (n := 1) (As := [jI (xs (i + 1)).toInt]) (Q := fun x G' => x = jI (zFew Z (xs (i + 1)).toInt) ∧ SysC G' B Z ∧ FR B 218 G G') (C := RX7) (T := TX7) (N := 6) (t := 7) (r := B) C_ hP (fun f => LL_D) hw hS hLA rfl rfl (by decide) (LL_in.mpr ⟨0, by decide, rfl⟩) (kdl_at B 0) wl_642 wl_643 wl_644 wl_66 wl_645 (by decide +kernel) (Nat.le_of_ble_eq_true rfl) ⟨by decide, by decide, by decide +kernel⟩ ⟨Nat.le_of_ble_eq_true rfl, Nat.le_of_ble_eq_true rfl⟩ rfl rfl dL_law_628 ⟨Nat.le_refl _, Nat.le_refl _⟩ rfl hl.1 (Nat.le_of_ble_eq_true rfl) (sp_fewC hC hz hT hK (inR_of _) (fun G' g1 g2 => ⟨rfl, g1, g2⟩)) (fun x1 G1 H locs hx hw hP hS => ?_)
  obtain ⟨rfl, hC, hf1⟩ := hx
  have hR := hR.offC hf1 (Nat.le_refl _)
  refine lv_aload_n C_.1 C_.2.1 dL_law_631 rfl (lv_at hl 1 rfl) ?_
  refine lx_rd (k := 1) C_ hS hl (by omega) rfl dL_law_632 dL_law_633 dL_law_634 dL_law_635 dL_law_636 ?_
  refine lx_call (k' := 136) (idx := 101) (n := 1) (As := [jI (xs (i + 1)).toInt]) (Q := fun x G' => x = jI (zFew Z (xs (i + 1)).toInt) ∧ SysR G' (B + 218) Z ∧ FR (B + 218) 7 G1 G') (C := RX8) (T := TX8) (N := 11) (t := 8) (r := B + 218) C_ hP (fun f => LL_D) hw hS hLA rfl rfl (by decide) (LL_in.mpr ⟨218, by decide, rfl⟩) (kdl_at B 218) wl_903 wl_904 wl_905 wl_74 wl_906 (by decide +kernel) (Nat.le_of_ble_eq_true rfl) ⟨by decide, by decide, by decide +kernel⟩ ⟨Nat.le_of_ble_eq_true rfl, Nat.le_of_ble_eq_true rfl⟩ rfl rfl dL_law_637 ⟨Nat.le_refl _, Nat.le_refl _⟩ rfl hl.1 (Nat.le_of_ble_eq_true rfl) (sp_fewR hR hz hT hK (inR_of _) (fun G' g1 g2 => ⟨rfl, g1, g2⟩)) (fun x2 G2 H locs hx hw hP hS => ?_)
  obtain ⟨rfl, hR, hf2⟩ := hx
  have hC := hC.offR hf2 (Nat.le_refl _)
  refine lv_icmp_eq (tgt := 701) C_.1 C_.2.1 dL_law_640 (by decide) (fun _ => ?_) (fun q => absurd rfl q)
  exact kk H locs _ G2 ⟨hP, hw, hS, hC, hR, hz.mono (by omega) (by omega) hT hK⟩
theorem lc_21 (C_ : lx_K D aC p s m meth c b L B xs) (hI : lx_I D aC B s.heap H locs Z T K G) (hT0 : 99999 ≤ T) (hT : T + 2000 ≤ 100000000) (hK : K + 1000 ≤ 10000000) (hl : lv_has ls 4 (lxL b B i)) (hi : i + 4 ≤ L)
    (kk : ∀ (H1 : Heap) (locs1 : List Loc) (Z1 : Zst) (G1 : Mm), lx_I D aC B s.heap H1 locs1 Z1 (T + 2000) (K + 1000) G1 → W p l e room_1 s m #[Value.ref b] below meth c H1 locs1 600000 7302249 Qw (F0 m 701 ls [])) : W p l e room_1 s m #[Value.ref b] below meth c H locs 600000 7302249 Qw (F0 m 645 ls []) := by
  obtain ⟨hP, hw, hS, hC, hR, hz⟩ := hI
  have hLA : ∀ q, q ∈ LL B → B ≤ q := fun q hq => by obtain ⟨k, _, rfl⟩ := LL_in.mp hq; omega
  refine lv_aload_n C_.1 C_.2.1 dL_law_645 rfl (lv_at hl 2 rfl) ?_
  refine lx_rd (k := 1) C_ hS hl (by omega) rfl dL_law_646 dL_law_647 dL_law_648 dL_law_649 dL_law_650 ?_
  refine lx_rd (k := 2) C_ hS hl (by omega) rfl dL_law_651 dL_law_652 dL_law_653 dL_law_654 dL_law_655 ?_
  refine lx_call (k' := 76) (idx := 102) (n := 2) (As := [jI (xs (i + 1)).toInt, jI (xs (i + 2)).toInt]) (Q := fun x G' => x = jI (zRng Z (xs (i + 1)).toInt (xs (i + 2)).toInt) ∧ SysC G' B Z ∧ FR B 218 G G') (C := RX7) (T := TX7) (N := 6) (t := 7) (r := B) C_ hP (fun f => LL_D) hw hS hLA rfl rfl (by decide) (LL_in.mpr ⟨0, by decide, rfl⟩) (kdl_at B 0) wl_646 wl_647 wl_648 wl_66 wl_649 (by decide +kernel) (Nat.le_of_ble_eq_true rfl) ⟨by decide, by decide, by decide +kernel⟩ ⟨Nat.le_of_ble_eq_true rfl, Nat.le_of_ble_eq_true rfl⟩ rfl rfl dL_law_656 ⟨Nat.le_refl _, Nat.le_refl _⟩ rfl hl.1 (Nat.le_of_ble_eq_true rfl) (sp_rngC hC hz (inR_of _) (inR_of _) ⟨rfl, hC, FR.rf⟩) (fun x1 G1 H locs hx hw hP hS => ?_)
  obtain ⟨rfl, hC, hf1⟩ := hx
  have hR := hR.offC hf1 (Nat.le_refl _)
  refine lv_aload_n C_.1 C_.2.1 dL_law_659 rfl (lv_at hl 1 rfl) ?_
  refine lx_rd (k := 1) C_ hS hl (by omega) rfl dL_law_660 dL_law_661 dL_law_662 dL_law_663 dL_law_664 ?_
  refine lx_rd (k := 2) C_ hS hl (by omega) rfl dL_law_665 dL_law_666 dL_law_667 dL_law_668 dL_law_669 ?_
  refine lx_call (k' := 137) (idx := 105) (n := 2) (As := [jI (xs (i + 1)).toInt, jI (xs (i + 2)).toInt]) (Q := fun x G' => x = jI (zRng Z (xs (i + 1)).toInt (xs (i + 2)).toInt) ∧ SysR G' (B + 218) Z ∧ FR (B + 218) 7 G1 G') (C := RX8) (T := TX8) (N := 11) (t := 8) (r := B + 218) C_ hP (fun f => LL_D) hw hS hLA rfl rfl (by decide) (LL_in.mpr ⟨218, by decide, rfl⟩) (kdl_at B 218) wl_907 wl_908 wl_909 wl_74 wl_910 (by decide +kernel) (Nat.le_of_ble_eq_true rfl) ⟨by decide, by decide, by decide +kernel⟩ ⟨Nat.le_of_ble_eq_true rfl, Nat.le_of_ble_eq_true rfl⟩ rfl rfl dL_law_670 ⟨Nat.le_refl _, Nat.le_refl _⟩ rfl hl.1 (Nat.le_of_ble_eq_true rfl) (sp_rngR hR hz (inR_of _) (inR_of _) ⟨rfl, hR, FR.rf⟩) (fun x2 G2 H locs hx hw hP hS => ?_)
  obtain ⟨rfl, hR, hf2⟩ := hx
  have hC := hC.offR hf2 (Nat.le_refl _)
  refine lv_icmp_eq (tgt := 701) C_.1 C_.2.1 dL_law_673 (by decide) (fun _ => ?_) (fun q => absurd rfl q)
  exact kk H locs _ G2 ⟨hP, hw, hS, hC, hR, hz.mono (by omega) (by omega) hT hK⟩
theorem lc_22 (C_ : lx_K D aC p s m meth c b L B xs) (hI : lx_I D aC B s.heap H locs Z T K G) (hT0 : 99999 ≤ T) (hT : T + 2000 ≤ 100000000) (hK : K + 1000 ≤ 10000000) (hl : lv_has ls 4 (lxL b B i)) (hi : i + 4 ≤ L)
    (kk : ∀ (H1 : Heap) (locs1 : List Loc) (Z1 : Zst) (G1 : Mm), lx_I D aC B s.heap H1 locs1 Z1 (T + 2000) (K + 1000) G1 → W p l e room_1 s m #[Value.ref b] below meth c H1 locs1 600000 7302249 Qw (F0 m 701 ls [])) : W p l e room_1 s m #[Value.ref b] below meth c H locs 600000 7302249 Qw (F0 m 678 ls []) := by
  obtain ⟨hP, hw, hS, hC, hR, hz⟩ := hI
  have hLA : ∀ q, q ∈ LL B → B ≤ q := fun q hq => by obtain ⟨k, _, rfl⟩ := LL_in.mp hq; omega
  refine lv_aload_n C_.1 C_.2.1 dL_law_678 rfl (lv_at hl 2 rfl) ?_
  refine lx_rd (k := 1) C_ hS hl (by omega) rfl dL_law_679 dL_law_680 dL_law_681 dL_law_682 dL_law_683 ?_
  refine lx_call (k' := 77) (idx := 106) (n := 1) (As := [jI (xs (i + 1)).toInt]) (Q := fun x G' => x = jI (zCnt Z (xs (i + 1)).toInt) ∧ SysC G' B Z ∧ FR B 218 G G') (C := RX7) (T := TX7) (N := 6) (t := 7) (r := B) C_ hP (fun f => LL_D) hw hS hLA rfl rfl (by decide) (LL_in.mpr ⟨0, by decide, rfl⟩) (kdl_at B 0) wl_654 wl_655 wl_656 wl_66 wl_657 (by decide +kernel) (Nat.le_of_ble_eq_true rfl) ⟨by decide, by decide, by decide +kernel⟩ ⟨Nat.le_of_ble_eq_true rfl, Nat.le_of_ble_eq_true rfl⟩ rfl rfl dL_law_684 ⟨Nat.le_refl _, Nat.le_refl _⟩ rfl hl.1 (Nat.le_of_ble_eq_true rfl) (sp_cntC hC hz (inR_of _) ⟨rfl, hC, FR.rf⟩) (fun x1 G1 H locs hx hw hP hS => ?_)
  obtain ⟨rfl, hC, hf1⟩ := hx
  have hR := hR.offC hf1 (Nat.le_refl _)
  refine lv_aload_n C_.1 C_.2.1 dL_law_687 rfl (lv_at hl 1 rfl) ?_
  refine lx_rd (k := 1) C_ hS hl (by omega) rfl dL_law_688 dL_law_689 dL_law_690 dL_law_691 dL_law_692 ?_
  refine lx_call (k' := 139) (idx := 109) (n := 1) (As := [jI (xs (i + 1)).toInt]) (Q := fun x G' => x = jI (zCnt Z (xs (i + 1)).toInt) ∧ SysR G' (B + 218) Z ∧ FR (B + 218) 7 G1 G') (C := RX8) (T := TX8) (N := 11) (t := 8) (r := B + 218) C_ hP (fun f => LL_D) hw hS hLA rfl rfl (by decide) (LL_in.mpr ⟨218, by decide, rfl⟩) (kdl_at B 218) wl_911 wl_912 wl_913 wl_74 wl_914 (by decide +kernel) (Nat.le_of_ble_eq_true rfl) ⟨by decide, by decide, by decide +kernel⟩ ⟨Nat.le_of_ble_eq_true rfl, Nat.le_of_ble_eq_true rfl⟩ rfl rfl dL_law_693 ⟨Nat.le_refl _, Nat.le_refl _⟩ rfl hl.1 (Nat.le_of_ble_eq_true rfl) (sp_cntR hR hz (inR_of _) ⟨rfl, hR, FR.rf⟩) (fun x2 G2 H locs hx hw hP hS => ?_)
  obtain ⟨rfl, hR, hf2⟩ := hx
  have hC := hC.offR hf2 (Nat.le_refl _)
  refine lv_icmp_eq (tgt := 701) C_.1 C_.2.1 dL_law_696 (by decide) (fun _ => ?_) (fun q => absurd rfl q)
  exact kk H locs _ G2 ⟨hP, hw, hS, hC, hR, hz.mono (by omega) (by omega) hT hK⟩
end LXC
