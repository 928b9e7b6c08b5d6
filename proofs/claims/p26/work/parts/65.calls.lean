/-! ===== the law's methods: what they stand on, an object's world, a row for each call of the class ===== -/
theorem wl_56 : (Jvm.Cond.initialized "SharedComparersLaw") ∈ lw_tb2 := dp_w2 (List.mem_of_getElem? (i := 56) (by decide +kernel)) rfl
theorem wl_57 : (Jvm.Cond.initialized "SharedComparers") ∈ lw_tb2 := dp_w2 (List.mem_of_getElem? (i := 57) (by decide +kernel)) rfl
theorem wl_67 : (Jvm.Cond.classLink "SharedComparersLaw" (14 : Nat) "SharedComparers") ∈ lw_tb2 := dp_w2 (List.mem_of_getElem? (i := 67) (by decide +kernel)) rfl
theorem wl_68 : (Jvm.Cond.instantiable "SharedComparers" (6 : Nat)) ∈ lw_tb2 := dp_w2 (List.mem_of_getElem? (i := 68) (by decide +kernel)) rfl
theorem wl_69 : (Jvm.Cond.methodLink "SharedComparersLaw" (81 : Nat) ({ cls := "SharedComparers", name := "<init>", desc := "()V" } : Jvm.MethodName)) ∈ lw_tb2 := dp_w2 (List.mem_of_getElem? (i := 69) (by decide +kernel)) rfl
theorem wl_70 : (Jvm.Cond.instanceMethod ({ cls := "SharedComparers", name := "<init>", desc := "()V" } : Jvm.MethodName)) ∈ lw_tb2 := dp_w2 (List.mem_of_getElem? (i := 70) (by decide +kernel)) rfl
theorem wl_71 : (Jvm.Cond.code ({ cls := "SharedComparers", name := "<init>", desc := "()V" } : Jvm.MethodName) prog_1_method_1_code (1 : Nat) (Option.none : Option Jvm.ClassFile.FieldType)) ∈ lw_tb2 := dp_w2 (List.mem_of_getElem? (i := 71) (by decide +kernel)) rfl
theorem wl_317 : (Jvm.Cond.methodLink "SharedComparersLaw" (33 : Nat) ({ cls := "SharedComparers", name := "set", desc := "(III)I" } : Jvm.MethodName)) ∈ lw_tb2 := dp_w2 (List.mem_of_getElem? (i := 317) (by decide +kernel)) rfl
theorem wl_318 : (Jvm.Cond.instanceMethod ({ cls := "SharedComparers", name := "set", desc := "(III)I" } : Jvm.MethodName)) ∈ lw_tb2 := dp_w2 (List.mem_of_getElem? (i := 318) (by decide +kernel)) rfl
theorem wl_319 : (Jvm.Cond.selects "SharedComparers" ({ cls := "SharedComparers", name := "set", desc := "(III)I" } : Jvm.MethodName) ({ cls := "SharedComparers", name := "set", desc := "(III)I" } : Jvm.MethodName)) ∈ lw_tb2 := dp_w2 (List.mem_of_getElem? (i := 319) (by decide +kernel)) rfl
theorem wl_320 : (Jvm.Cond.code ({ cls := "SharedComparers", name := "set", desc := "(III)I" } : Jvm.MethodName) prog_1_method_2_code (4 : Nat) (Option.some Jvm.ClassFile.FieldType.int)) ∈ lw_tb2 := dp_w2 (List.mem_of_getElem? (i := 320) (by decide +kernel)) rfl
theorem wl_436 : (Jvm.Cond.methodLink "SharedComparersLaw" (40 : Nat) ({ cls := "SharedComparers", name := "cancel", desc := "(I)I" } : Jvm.MethodName)) ∈ lw_tb2 := dp_w2 (List.mem_of_getElem? (i := 436) (by decide +kernel)) rfl
theorem wl_437 : (Jvm.Cond.instanceMethod ({ cls := "SharedComparers", name := "cancel", desc := "(I)I" } : Jvm.MethodName)) ∈ lw_tb2 := dp_w2 (List.mem_of_getElem? (i := 437) (by decide +kernel)) rfl
theorem wl_438 : (Jvm.Cond.selects "SharedComparers" ({ cls := "SharedComparers", name := "cancel", desc := "(I)I" } : Jvm.MethodName) ({ cls := "SharedComparers", name := "cancel", desc := "(I)I" } : Jvm.MethodName)) ∈ lw_tb2 := dp_w2 (List.mem_of_getElem? (i := 438) (by decide +kernel)) rfl
theorem wl_439 : (Jvm.Cond.code ({ cls := "SharedComparers", name := "cancel", desc := "(I)I" } : Jvm.MethodName) prog_1_method_4_code (3 : Nat) (Option.some Jvm.ClassFile.FieldType.int)) ∈ lw_tb2 := dp_w2 (List.mem_of_getElem? (i := 439) (by decide +kernel)) rfl
theorem wl_456 : (Jvm.Cond.methodLink "SharedComparersLaw" (43 : Nat) ({ cls := "SharedComparers", name := "move", desc := "(II)I" } : Jvm.MethodName)) ∈ lw_tb2 := dp_w2 (List.mem_of_getElem? (i := 456) (by decide +kernel)) rfl
theorem wl_457 : (Jvm.Cond.instanceMethod ({ cls := "SharedComparers", name := "move", desc := "(II)I" } : Jvm.MethodName)) ∈ lw_tb2 := dp_w2 (List.mem_of_getElem? (i := 457) (by decide +kernel)) rfl
theorem wl_458 : (Jvm.Cond.selects "SharedComparers" ({ cls := "SharedComparers", name := "move", desc := "(II)I" } : Jvm.MethodName) ({ cls := "SharedComparers", name := "move", desc := "(II)I" } : Jvm.MethodName)) ∈ lw_tb2 := dp_w2 (List.mem_of_getElem? (i := 458) (by decide +kernel)) rfl
theorem wl_459 : (Jvm.Cond.code ({ cls := "SharedComparers", name := "move", desc := "(II)I" } : Jvm.MethodName) prog_1_method_5_code (5 : Nat) (Option.some Jvm.ClassFile.FieldType.int)) ∈ lw_tb2 := dp_w2 (List.mem_of_getElem? (i := 459) (by decide +kernel)) rfl
theorem wl_464 : (Jvm.Cond.methodLink "SharedComparersLaw" (46 : Nat) ({ cls := "SharedComparers", name := "setComparers", desc := "(I)I" } : Jvm.MethodName)) ∈ lw_tb2 := dp_w2 (List.mem_of_getElem? (i := 464) (by decide +kernel)) rfl
theorem wl_465 : (Jvm.Cond.instanceMethod ({ cls := "SharedComparers", name := "setComparers", desc := "(I)I" } : Jvm.MethodName)) ∈ lw_tb2 := dp_w2 (List.mem_of_getElem? (i := 465) (by decide +kernel)) rfl
theorem wl_466 : (Jvm.Cond.selects "SharedComparers" ({ cls := "SharedComparers", name := "setComparers", desc := "(I)I" } : Jvm.MethodName) ({ cls := "SharedComparers", name := "setComparers", desc := "(I)I" } : Jvm.MethodName)) ∈ lw_tb2 := dp_w2 (List.mem_of_getElem? (i := 466) (by decide +kernel)) rfl
theorem wl_467 : (Jvm.Cond.code ({ cls := "SharedComparers", name := "setComparers", desc := "(I)I" } : Jvm.MethodName) prog_1_method_6_code (3 : Nat) (Option.some Jvm.ClassFile.FieldType.int)) ∈ lw_tb2 := dp_w2 (List.mem_of_getElem? (i := 467) (by decide +kernel)) rfl
theorem wl_472 : (Jvm.Cond.methodLink "SharedComparersLaw" (49 : Nat) ({ cls := "SharedComparers", name := "setWindow", desc := "(I)I" } : Jvm.MethodName)) ∈ lw_tb2 := dp_w2 (List.mem_of_getElem? (i := 472) (by decide +kernel)) rfl
theorem wl_473 : (Jvm.Cond.instanceMethod ({ cls := "SharedComparers", name := "setWindow", desc := "(I)I" } : Jvm.MethodName)) ∈ lw_tb2 := dp_w2 (List.mem_of_getElem? (i := 473) (by decide +kernel)) rfl
theorem wl_474 : (Jvm.Cond.selects "SharedComparers" ({ cls := "SharedComparers", name := "setWindow", desc := "(I)I" } : Jvm.MethodName) ({ cls := "SharedComparers", name := "setWindow", desc := "(I)I" } : Jvm.MethodName)) ∈ lw_tb2 := dp_w2 (List.mem_of_getElem? (i := 474) (by decide +kernel)) rfl
theorem wl_475 : (Jvm.Cond.code ({ cls := "SharedComparers", name := "setWindow", desc := "(I)I" } : Jvm.MethodName) prog_1_method_7_code (3 : Nat) (Option.some Jvm.ClassFile.FieldType.int)) ∈ lw_tb2 := dp_w2 (List.mem_of_getElem? (i := 475) (by decide +kernel)) rfl
theorem wl_477 : (Jvm.Cond.methodLink "SharedComparersLaw" (52 : Nat) ({ cls := "SharedComparers", name := "setLoading", desc := "(I)I" } : Jvm.MethodName)) ∈ lw_tb2 := dp_w2 (List.mem_of_getElem? (i := 477) (by decide +kernel)) rfl
theorem wl_478 : (Jvm.Cond.instanceMethod ({ cls := "SharedComparers", name := "setLoading", desc := "(I)I" } : Jvm.MethodName)) ∈ lw_tb2 := dp_w2 (List.mem_of_getElem? (i := 478) (by decide +kernel)) rfl
theorem wl_479 : (Jvm.Cond.selects "SharedComparers" ({ cls := "SharedComparers", name := "setLoading", desc := "(I)I" } : Jvm.MethodName) ({ cls := "SharedComparers", name := "setLoading", desc := "(I)I" } : Jvm.MethodName)) ∈ lw_tb2 := dp_w2 (List.mem_of_getElem? (i := 479) (by decide +kernel)) rfl
theorem wl_480 : (Jvm.Cond.code ({ cls := "SharedComparers", name := "setLoading", desc := "(I)I" } : Jvm.MethodName) prog_1_method_8_code (3 : Nat) (Option.some Jvm.ClassFile.FieldType.int)) ∈ lw_tb2 := dp_w2 (List.mem_of_getElem? (i := 480) (by decide +kernel)) rfl
theorem wl_481 : (Jvm.Cond.methodLink "SharedComparersLaw" (55 : Nat) ({ cls := "SharedComparers", name := "setDrift", desc := "(I)I" } : Jvm.MethodName)) ∈ lw_tb2 := dp_w2 (List.mem_of_getElem? (i := 481) (by decide +kernel)) rfl
theorem wl_482 : (Jvm.Cond.instanceMethod ({ cls := "SharedComparers", name := "setDrift", desc := "(I)I" } : Jvm.MethodName)) ∈ lw_tb2 := dp_w2 (List.mem_of_getElem? (i := 482) (by decide +kernel)) rfl
theorem wl_483 : (Jvm.Cond.selects "SharedComparers" ({ cls := "SharedComparers", name := "setDrift", desc := "(I)I" } : Jvm.MethodName) ({ cls := "SharedComparers", name := "setDrift", desc := "(I)I" } : Jvm.MethodName)) ∈ lw_tb2 := dp_w2 (List.mem_of_getElem? (i := 483) (by decide +kernel)) rfl
theorem wl_484 : (Jvm.Cond.code ({ cls := "SharedComparers", name := "setDrift", desc := "(I)I" } : Jvm.MethodName) prog_1_method_9_code (3 : Nat) (Option.some Jvm.ClassFile.FieldType.int)) ∈ lw_tb2 := dp_w2 (List.mem_of_getElem? (i := 484) (by decide +kernel)) rfl
theorem wl_485 : (Jvm.Cond.methodLink "SharedComparersLaw" (58 : Nat) ({ cls := "SharedComparers", name := "correct", desc := "(I)I" } : Jvm.MethodName)) ∈ lw_tb2 := dp_w2 (List.mem_of_getElem? (i := 485) (by decide +kernel)) rfl
theorem wl_486 : (Jvm.Cond.instanceMethod ({ cls := "SharedComparers", name := "correct", desc := "(I)I" } : Jvm.MethodName)) ∈ lw_tb2 := dp_w2 (List.mem_of_getElem? (i := 486) (by decide +kernel)) rfl
theorem wl_487 : (Jvm.Cond.selects "SharedComparers" ({ cls := "SharedComparers", name := "correct", desc := "(I)I" } : Jvm.MethodName) ({ cls := "SharedComparers", name := "correct", desc := "(I)I" } : Jvm.MethodName)) ∈ lw_tb2 := dp_w2 (List.mem_of_getElem? (i := 487) (by decide +kernel)) rfl
theorem wl_488 : (Jvm.Cond.code ({ cls := "SharedComparers", name := "correct", desc := "(I)I" } : Jvm.MethodName) prog_1_method_10_code (3 : Nat) (Option.some Jvm.ClassFile.FieldType.int)) ∈ lw_tb2 := dp_w2 (List.mem_of_getElem? (i := 488) (by decide +kernel)) rfl
theorem wl_489 : (Jvm.Cond.methodLink "SharedComparersLaw" (61 : Nat) ({ cls := "SharedComparers", name := "run", desc := "(I)I" } : Jvm.MethodName)) ∈ lw_tb2 := dp_w2 (List.mem_of_getElem? (i := 489) (by decide +kernel)) rfl
theorem wl_490 : (Jvm.Cond.instanceMethod ({ cls := "SharedComparers", name := "run", desc := "(I)I" } : Jvm.MethodName)) ∈ lw_tb2 := dp_w2 (List.mem_of_getElem? (i := 490) (by decide +kernel)) rfl
theorem wl_491 : (Jvm.Cond.selects "SharedComparers" ({ cls := "SharedComparers", name := "run", desc := "(I)I" } : Jvm.MethodName) ({ cls := "SharedComparers", name := "run", desc := "(I)I" } : Jvm.MethodName)) ∈ lw_tb2 := dp_w2 (List.mem_of_getElem? (i := 491) (by decide +kernel)) rfl
theorem wl_492 : (Jvm.Cond.code ({ cls := "SharedComparers", name := "run", desc := "(I)I" } : Jvm.MethodName) prog_1_method_11_code (4 : Nat) (Option.some Jvm.ClassFile.FieldType.int)) ∈ lw_tb2 := dp_w2 (List.mem_of_getElem? (i := 492) (by decide +kernel)) rfl
theorem wl_535 : (Jvm.Cond.methodLink "SharedComparersLaw" (82 : Nat) ({ cls := "SharedComparers", name := "undo", desc := "()I" } : Jvm.MethodName)) ∈ lw_tb2 := dp_w2 (List.mem_of_getElem? (i := 535) (by decide +kernel)) rfl
theorem wl_536 : (Jvm.Cond.instanceMethod ({ cls := "SharedComparers", name := "undo", desc := "()I" } : Jvm.MethodName)) ∈ lw_tb2 := dp_w2 (List.mem_of_getElem? (i := 536) (by decide +kernel)) rfl
theorem wl_537 : (Jvm.Cond.selects "SharedComparers" ({ cls := "SharedComparers", name := "undo", desc := "()I" } : Jvm.MethodName) ({ cls := "SharedComparers", name := "undo", desc := "()I" } : Jvm.MethodName)) ∈ lw_tb2 := dp_w2 (List.mem_of_getElem? (i := 537) (by decide +kernel)) rfl
theorem wl_538 : (Jvm.Cond.code ({ cls := "SharedComparers", name := "undo", desc := "()I" } : Jvm.MethodName) prog_1_method_14_code (1 : Nat) (Option.some Jvm.ClassFile.FieldType.int)) ∈ lw_tb2 := dp_w2 (List.mem_of_getElem? (i := 538) (by decide +kernel)) rfl
theorem wl_543 : (Jvm.Cond.methodLink "SharedComparersLaw" (93 : Nat) ({ cls := "SharedComparers", name := "keep", desc := "()I" } : Jvm.MethodName)) ∈ lw_tb2 := dp_w2 (List.mem_of_getElem? (i := 543) (by decide +kernel)) rfl
theorem wl_544 : (Jvm.Cond.instanceMethod ({ cls := "SharedComparers", name := "keep", desc := "()I" } : Jvm.MethodName)) ∈ lw_tb2 := dp_w2 (List.mem_of_getElem? (i := 544) (by decide +kernel)) rfl
theorem wl_545 : (Jvm.Cond.selects "SharedComparers" ({ cls := "SharedComparers", name := "keep", desc := "()I" } : Jvm.MethodName) ({ cls := "SharedComparers", name := "keep", desc := "()I" } : Jvm.MethodName)) ∈ lw_tb2 := dp_w2 (List.mem_of_getElem? (i := 545) (by decide +kernel)) rfl
theorem wl_546 : (Jvm.Cond.code ({ cls := "SharedComparers", name := "keep", desc := "()I" } : Jvm.MethodName) prog_1_method_15_code (1 : Nat) (Option.some Jvm.ClassFile.FieldType.int)) ∈ lw_tb2 := dp_w2 (List.mem_of_getElem? (i := 546) (by decide +kernel)) rfl
theorem wl_548 : (Jvm.Cond.methodLink "SharedComparersLaw" (86 : Nat) ({ cls := "SharedComparers", name := "restore", desc := "()I" } : Jvm.MethodName)) ∈ lw_tb2 := dp_w2 (List.mem_of_getElem? (i := 548) (by decide +kernel)) rfl
theorem wl_549 : (Jvm.Cond.instanceMethod ({ cls := "SharedComparers", name := "restore", desc := "()I" } : Jvm.MethodName)) ∈ lw_tb2 := dp_w2 (List.mem_of_getElem? (i := 549) (by decide +kernel)) rfl
theorem wl_550 : (Jvm.Cond.selects "SharedComparers" ({ cls := "SharedComparers", name := "restore", desc := "()I" } : Jvm.MethodName) ({ cls := "SharedComparers", name := "restore", desc := "()I" } : Jvm.MethodName)) ∈ lw_tb2 := dp_w2 (List.mem_of_getElem? (i := 550) (by decide +kernel)) rfl
theorem wl_551 : (Jvm.Cond.code ({ cls := "SharedComparers", name := "restore", desc := "()I" } : Jvm.MethodName) prog_1_method_16_code (1 : Nat) (Option.some Jvm.ClassFile.FieldType.int)) ∈ lw_tb2 := dp_w2 (List.mem_of_getElem? (i := 551) (by decide +kernel)) rfl
theorem wl_552 : (Jvm.Cond.methodLink "SharedComparersLaw" (13 : Nat) ({ cls := "SharedComparers", name := "count", desc := "(I)I" } : Jvm.MethodName)) ∈ lw_tb2 := dp_w2 (List.mem_of_getElem? (i := 552) (by decide +kernel)) rfl
theorem wl_553 : (Jvm.Cond.instanceMethod ({ cls := "SharedComparers", name := "count", desc := "(I)I" } : Jvm.MethodName)) ∈ lw_tb2 := dp_w2 (List.mem_of_getElem? (i := 553) (by decide +kernel)) rfl
theorem wl_554 : (Jvm.Cond.selects "SharedComparers" ({ cls := "SharedComparers", name := "count", desc := "(I)I" } : Jvm.MethodName) ({ cls := "SharedComparers", name := "count", desc := "(I)I" } : Jvm.MethodName)) ∈ lw_tb2 := dp_w2 (List.mem_of_getElem? (i := 554) (by decide +kernel)) rfl
theorem wl_555 : (Jvm.Cond.code ({ cls := "SharedComparers", name := "count", desc := "(I)I" } : Jvm.MethodName) prog_1_method_24_code (2 : Nat) (Option.some Jvm.ClassFile.FieldType.int)) ∈ lw_tb2 := dp_w2 (List.mem_of_getElem? (i := 555) (by decide +kernel)) rfl
theorem wl_564 : (Jvm.Cond.methodLink "SharedComparersLaw" (169 : Nat) ({ cls := "SharedComparersLaw", name := "part", desc := "(II)I" } : Jvm.MethodName)) ∈ lw_tb2 := dp_w2 (List.mem_of_getElem? (i := 564) (by decide +kernel)) rfl
theorem wl_565 : (Jvm.Cond.static ({ cls := "SharedComparersLaw", name := "part", desc := "(II)I" } : Jvm.MethodName)) ∈ lw_tb2 := dp_w2 (List.mem_of_getElem? (i := 565) (by decide +kernel)) rfl
set_option maxRecDepth 100000 in
theorem wl_566 : (Jvm.Cond.code ({ cls := "SharedComparersLaw", name := "part", desc := "(II)I" } : Jvm.MethodName) method_2_code (2 : Nat) (Option.some Jvm.ClassFile.FieldType.int)) ∈ lw_tb2 := dp_w2 (List.mem_of_getElem? (i := 566) rfl) rfl
theorem wl_567 : (Jvm.Cond.constant "SharedComparersLaw" (7 : Nat) (2147483647 : Int32)) ∈ lw_tb2 := dp_w2 (List.mem_of_getElem? (i := 567) (by decide +kernel)) rfl
theorem wl_568 : (Jvm.Cond.methodLink "SharedComparersLaw" (165 : Nat) ({ cls := "SharedComparersLaw", name := "drawn", desc := "([II)I" } : Jvm.MethodName)) ∈ lw_tb2 := dp_w2 (List.mem_of_getElem? (i := 568) (by decide +kernel)) rfl
theorem wl_569 : (Jvm.Cond.static ({ cls := "SharedComparersLaw", name := "drawn", desc := "([II)I" } : Jvm.MethodName)) ∈ lw_tb2 := dp_w2 (List.mem_of_getElem? (i := 569) (by decide +kernel)) rfl
set_option maxRecDepth 100000 in
theorem wl_570 : (Jvm.Cond.code ({ cls := "SharedComparersLaw", name := "drawn", desc := "([II)I" } : Jvm.MethodName) method_3_code (2 : Nat) (Option.some Jvm.ClassFile.FieldType.int)) ∈ lw_tb2 := dp_w2 (List.mem_of_getElem? (i := 570) rfl) rfl
theorem wl_571 : (Jvm.Cond.constant "SharedComparersLaw" (8 : Nat) (2654435 : Int32)) ∈ lw_tb2 := dp_w2 (List.mem_of_getElem? (i := 571) (by decide +kernel)) rfl
theorem wl_572 : (Jvm.Cond.methodLink "SharedComparersLaw" (73 : Nat) ({ cls := "SharedComparersLaw", name := "seen", desc := "(LSharedComparers;)J" } : Jvm.MethodName)) ∈ lw_tb2 := dp_w2 (List.mem_of_getElem? (i := 572) (by decide +kernel)) rfl
theorem wl_573 : (Jvm.Cond.static ({ cls := "SharedComparersLaw", name := "seen", desc := "(LSharedComparers;)J" } : Jvm.MethodName)) ∈ lw_tb2 := dp_w2 (List.mem_of_getElem? (i := 573) (by decide +kernel)) rfl
set_option maxRecDepth 100000 in
theorem wl_574 : (Jvm.Cond.code ({ cls := "SharedComparersLaw", name := "seen", desc := "(LSharedComparers;)J" } : Jvm.MethodName) method_4_code (4 : Nat) (Option.some Jvm.ClassFile.FieldType.long)) ∈ lw_tb2 := dp_w2 (List.mem_of_getElem? (i := 574) rfl) rfl
theorem wl_575 : (Jvm.Cond.constantLong "SharedComparersLaw" (9 : Nat) (79 : Int64)) ∈ lw_tb2 := dp_w2 (List.mem_of_getElem? (i := 575) (by decide +kernel)) rfl
theorem wl_576 : (Jvm.Cond.constantLong "SharedComparersLaw" (11 : Nat) (31 : Int64)) ∈ lw_tb2 := dp_w2 (List.mem_of_getElem? (i := 576) (by decide +kernel)) rfl
theorem wl_577 : (Jvm.Cond.methodLink "SharedComparersLaw" (19 : Nat) ({ cls := "SharedComparers", name := "at", desc := "(I)I" } : Jvm.MethodName)) ∈ lw_tb2 := dp_w2 (List.mem_of_getElem? (i := 577) (by decide +kernel)) rfl
theorem wl_578 : (Jvm.Cond.instanceMethod ({ cls := "SharedComparers", name := "at", desc := "(I)I" } : Jvm.MethodName)) ∈ lw_tb2 := dp_w2 (List.mem_of_getElem? (i := 578) (by decide +kernel)) rfl
theorem wl_579 : (Jvm.Cond.selects "SharedComparers" ({ cls := "SharedComparers", name := "at", desc := "(I)I" } : Jvm.MethodName) ({ cls := "SharedComparers", name := "at", desc := "(I)I" } : Jvm.MethodName)) ∈ lw_tb2 := dp_w2 (List.mem_of_getElem? (i := 579) (by decide +kernel)) rfl
theorem wl_580 : (Jvm.Cond.code ({ cls := "SharedComparers", name := "at", desc := "(I)I" } : Jvm.MethodName) prog_1_method_19_code (2 : Nat) (Option.some Jvm.ClassFile.FieldType.int)) ∈ lw_tb2 := dp_w2 (List.mem_of_getElem? (i := 580) (by decide +kernel)) rfl
theorem wl_581 : (Jvm.Cond.methodLink "SharedComparersLaw" (22 : Nat) ({ cls := "SharedComparers", name := "alarm", desc := "(II)I" } : Jvm.MethodName)) ∈ lw_tb2 := dp_w2 (List.mem_of_getElem? (i := 581) (by decide +kernel)) rfl
theorem wl_582 : (Jvm.Cond.instanceMethod ({ cls := "SharedComparers", name := "alarm", desc := "(II)I" } : Jvm.MethodName)) ∈ lw_tb2 := dp_w2 (List.mem_of_getElem? (i := 582) (by decide +kernel)) rfl
theorem wl_583 : (Jvm.Cond.selects "SharedComparers" ({ cls := "SharedComparers", name := "alarm", desc := "(II)I" } : Jvm.MethodName) ({ cls := "SharedComparers", name := "alarm", desc := "(II)I" } : Jvm.MethodName)) ∈ lw_tb2 := dp_w2 (List.mem_of_getElem? (i := 583) (by decide +kernel)) rfl
theorem wl_584 : (Jvm.Cond.code ({ cls := "SharedComparers", name := "alarm", desc := "(II)I" } : Jvm.MethodName) prog_1_method_17_code (5 : Nat) (Option.some Jvm.ClassFile.FieldType.int)) ∈ lw_tb2 := dp_w2 (List.mem_of_getElem? (i := 584) (by decide +kernel)) rfl
theorem wl_585 : (Jvm.Cond.methodLink "SharedComparersLaw" (26 : Nat) ({ cls := "SharedComparers", name := "comparer", desc := "(II)I" } : Jvm.MethodName)) ∈ lw_tb2 := dp_w2 (List.mem_of_getElem? (i := 585) (by decide +kernel)) rfl
theorem wl_586 : (Jvm.Cond.instanceMethod ({ cls := "SharedComparers", name := "comparer", desc := "(II)I" } : Jvm.MethodName)) ∈ lw_tb2 := dp_w2 (List.mem_of_getElem? (i := 586) (by decide +kernel)) rfl
theorem wl_587 : (Jvm.Cond.selects "SharedComparers" ({ cls := "SharedComparers", name := "comparer", desc := "(II)I" } : Jvm.MethodName) ({ cls := "SharedComparers", name := "comparer", desc := "(II)I" } : Jvm.MethodName)) ∈ lw_tb2 := dp_w2 (List.mem_of_getElem? (i := 587) (by decide +kernel)) rfl
theorem wl_588 : (Jvm.Cond.code ({ cls := "SharedComparers", name := "comparer", desc := "(II)I" } : Jvm.MethodName) prog_1_method_18_code (4 : Nat) (Option.some Jvm.ClassFile.FieldType.int)) ∈ lw_tb2 := dp_w2 (List.mem_of_getElem? (i := 588) (by decide +kernel)) rfl
theorem wl_594 : (Jvm.Cond.methodLink "SharedComparersLaw" (29 : Nat) ({ cls := "SharedComparers", name := "ring", desc := "(II)I" } : Jvm.MethodName)) ∈ lw_tb2 := dp_w2 (List.mem_of_getElem? (i := 594) (by decide +kernel)) rfl
theorem wl_595 : (Jvm.Cond.instanceMethod ({ cls := "SharedComparers", name := "ring", desc := "(II)I" } : Jvm.MethodName)) ∈ lw_tb2 := dp_w2 (List.mem_of_getElem? (i := 595) (by decide +kernel)) rfl
theorem wl_596 : (Jvm.Cond.selects "SharedComparers" ({ cls := "SharedComparers", name := "ring", desc := "(II)I" } : Jvm.MethodName) ({ cls := "SharedComparers", name := "ring", desc := "(II)I" } : Jvm.MethodName)) ∈ lw_tb2 := dp_w2 (List.mem_of_getElem? (i := 596) (by decide +kernel)) rfl
theorem wl_597 : (Jvm.Cond.code ({ cls := "SharedComparers", name := "ring", desc := "(II)I" } : Jvm.MethodName) prog_1_method_23_code (3 : Nat) (Option.some Jvm.ClassFile.FieldType.int)) ∈ lw_tb2 := dp_w2 (List.mem_of_getElem? (i := 597) (by decide +kernel)) rfl
theorem wl_602 : (Jvm.Cond.methodLink "SharedComparersLaw" (89 : Nat) ({ cls := "SharedComparersLaw", name := "refused", desc := "(LSharedComparers;)Z" } : Jvm.MethodName)) ∈ lw_tb2 := dp_w2 (List.mem_of_getElem? (i := 602) (by decide +kernel)) rfl
theorem wl_603 : (Jvm.Cond.static ({ cls := "SharedComparersLaw", name := "refused", desc := "(LSharedComparers;)Z" } : Jvm.MethodName)) ∈ lw_tb2 := dp_w2 (List.mem_of_getElem? (i := 603) (by decide +kernel)) rfl
set_option maxRecDepth 100000 in
theorem wl_604 : (Jvm.Cond.code ({ cls := "SharedComparersLaw", name := "refused", desc := "(LSharedComparers;)Z" } : Jvm.MethodName) method_6_code (6 : Nat) (Option.some Jvm.ClassFile.FieldType.boolean)) ∈ lw_tb2 := dp_w2 (List.mem_of_getElem? (i := 604) rfl) rfl
theorem wl_605 : (Jvm.Cond.constant "SharedComparersLaw" (32 : Nat) (100000 : Int32)) ∈ lw_tb2 := dp_w2 (List.mem_of_getElem? (i := 605) (by decide +kernel)) rfl
theorem wl_606 : (Jvm.Cond.methodLink "SharedComparersLaw" (77 : Nat) ({ cls := "SharedComparersLaw", name := "refusesAny", desc := "(LSharedComparers;I)Z" } : Jvm.MethodName)) ∈ lw_tb2 := dp_w2 (List.mem_of_getElem? (i := 606) (by decide +kernel)) rfl
theorem wl_607 : (Jvm.Cond.static ({ cls := "SharedComparersLaw", name := "refusesAny", desc := "(LSharedComparers;I)Z" } : Jvm.MethodName)) ∈ lw_tb2 := dp_w2 (List.mem_of_getElem? (i := 607) (by decide +kernel)) rfl
set_option maxRecDepth 100000 in
theorem wl_608 : (Jvm.Cond.code ({ cls := "SharedComparersLaw", name := "refusesAny", desc := "(LSharedComparers;I)Z" } : Jvm.MethodName) method_5_code (4 : Nat) (Option.some Jvm.ClassFile.FieldType.boolean)) ∈ lw_tb2 := dp_w2 (List.mem_of_getElem? (i := 608) rfl) rfl
theorem wl_609 : (Jvm.Cond.constant "SharedComparersLaw" (39 : Nat) (99999 : Int32)) ∈ lw_tb2 := dp_w2 (List.mem_of_getElem? (i := 609) (by decide +kernel)) rfl
theorem wl_610 : (Jvm.Cond.methodLink "SharedComparersLaw" (64 : Nat) ({ cls := "SharedComparers", name := "ringsIn", desc := "(I)I" } : Jvm.MethodName)) ∈ lw_tb2 := dp_w2 (List.mem_of_getElem? (i := 610) (by decide +kernel)) rfl
theorem wl_611 : (Jvm.Cond.instanceMethod ({ cls := "SharedComparers", name := "ringsIn", desc := "(I)I" } : Jvm.MethodName)) ∈ lw_tb2 := dp_w2 (List.mem_of_getElem? (i := 611) (by decide +kernel)) rfl
theorem wl_612 : (Jvm.Cond.selects "SharedComparers" ({ cls := "SharedComparers", name := "ringsIn", desc := "(I)I" } : Jvm.MethodName) ({ cls := "SharedComparers", name := "ringsIn", desc := "(I)I" } : Jvm.MethodName)) ∈ lw_tb2 := dp_w2 (List.mem_of_getElem? (i := 612) (by decide +kernel)) rfl
theorem wl_613 : (Jvm.Cond.code ({ cls := "SharedComparers", name := "ringsIn", desc := "(I)I" } : Jvm.MethodName) prog_1_method_20_code (5 : Nat) (Option.some Jvm.ClassFile.FieldType.int)) ∈ lw_tb2 := dp_w2 (List.mem_of_getElem? (i := 613) (by decide +kernel)) rfl
theorem wl_619 : (Jvm.Cond.methodLink "SharedComparersLaw" (67 : Nat) ({ cls := "SharedComparers", name := "ifComparers", desc := "(III)I" } : Jvm.MethodName)) ∈ lw_tb2 := dp_w2 (List.mem_of_getElem? (i := 619) (by decide +kernel)) rfl
theorem wl_620 : (Jvm.Cond.instanceMethod ({ cls := "SharedComparers", name := "ifComparers", desc := "(III)I" } : Jvm.MethodName)) ∈ lw_tb2 := dp_w2 (List.mem_of_getElem? (i := 620) (by decide +kernel)) rfl
theorem wl_621 : (Jvm.Cond.selects "SharedComparers" ({ cls := "SharedComparers", name := "ifComparers", desc := "(III)I" } : Jvm.MethodName) ({ cls := "SharedComparers", name := "ifComparers", desc := "(III)I" } : Jvm.MethodName)) ∈ lw_tb2 := dp_w2 (List.mem_of_getElem? (i := 621) (by decide +kernel)) rfl
theorem wl_622 : (Jvm.Cond.code ({ cls := "SharedComparers", name := "ifComparers", desc := "(III)I" } : Jvm.MethodName) prog_1_method_21_code (4 : Nat) (Option.some Jvm.ClassFile.FieldType.int)) ∈ lw_tb2 := dp_w2 (List.mem_of_getElem? (i := 622) (by decide +kernel)) rfl
theorem wl_631 : (Jvm.Cond.methodLink "SharedComparersLaw" (70 : Nat) ({ cls := "SharedComparers", name := "fewest", desc := "(I)I" } : Jvm.MethodName)) ∈ lw_tb2 := dp_w2 (List.mem_of_getElem? (i := 631) (by decide +kernel)) rfl
theorem wl_632 : (Jvm.Cond.instanceMethod ({ cls := "SharedComparers", name := "fewest", desc := "(I)I" } : Jvm.MethodName)) ∈ lw_tb2 := dp_w2 (List.mem_of_getElem? (i := 632) (by decide +kernel)) rfl
theorem wl_633 : (Jvm.Cond.selects "SharedComparers" ({ cls := "SharedComparers", name := "fewest", desc := "(I)I" } : Jvm.MethodName) ({ cls := "SharedComparers", name := "fewest", desc := "(I)I" } : Jvm.MethodName)) ∈ lw_tb2 := dp_w2 (List.mem_of_getElem? (i := 633) (by decide +kernel)) rfl
theorem wl_634 : (Jvm.Cond.code ({ cls := "SharedComparers", name := "fewest", desc := "(I)I" } : Jvm.MethodName) prog_1_method_22_code (5 : Nat) (Option.some Jvm.ClassFile.FieldType.int)) ∈ lw_tb2 := dp_w2 (List.mem_of_getElem? (i := 634) (by decide +kernel)) rfl
theorem wl_635 : (Jvm.Cond.methodLink "SharedComparersLaw" (152 : Nat) ({ cls := "SharedComparersLaw", name := "three", desc := "()Z" } : Jvm.MethodName)) ∈ lw_tb2 := dp_w2 (List.mem_of_getElem? (i := 635) (by decide +kernel)) rfl
theorem wl_636 : (Jvm.Cond.static ({ cls := "SharedComparersLaw", name := "three", desc := "()Z" } : Jvm.MethodName)) ∈ lw_tb2 := dp_w2 (List.mem_of_getElem? (i := 636) (by decide +kernel)) rfl
set_option maxRecDepth 100000 in
theorem wl_637 : (Jvm.Cond.code ({ cls := "SharedComparersLaw", name := "three", desc := "()Z" } : Jvm.MethodName) method_7_code (1 : Nat) (Option.some Jvm.ClassFile.FieldType.boolean)) ∈ lw_tb2 := dp_w2 (List.mem_of_getElem? (i := 637) rfl) rfl
theorem wl_638 : (Jvm.Cond.methodLink "SharedComparersLaw" (156 : Nat) ({ cls := "SharedComparersLaw", name := "shared", desc := "()Z" } : Jvm.MethodName)) ∈ lw_tb2 := dp_w2 (List.mem_of_getElem? (i := 638) (by decide +kernel)) rfl
theorem wl_639 : (Jvm.Cond.static ({ cls := "SharedComparersLaw", name := "shared", desc := "()Z" } : Jvm.MethodName)) ∈ lw_tb2 := dp_w2 (List.mem_of_getElem? (i := 639) (by decide +kernel)) rfl
set_option maxRecDepth 100000 in
theorem wl_640 : (Jvm.Cond.code ({ cls := "SharedComparersLaw", name := "shared", desc := "()Z" } : Jvm.MethodName) method_8_code (1 : Nat) (Option.some Jvm.ClassFile.FieldType.boolean)) ∈ lw_tb2 := dp_w2 (List.mem_of_getElem? (i := 640) rfl) rfl
theorem wl_641 : (Jvm.Cond.methodLink "SharedComparersLaw" (159 : Nat) ({ cls := "SharedComparersLaw", name := "limits", desc := "()Z" } : Jvm.MethodName)) ∈ lw_tb2 := dp_w2 (List.mem_of_getElem? (i := 641) (by decide +kernel)) rfl
theorem wl_642 : (Jvm.Cond.static ({ cls := "SharedComparersLaw", name := "limits", desc := "()Z" } : Jvm.MethodName)) ∈ lw_tb2 := dp_w2 (List.mem_of_getElem? (i := 642) (by decide +kernel)) rfl
set_option maxRecDepth 100000 in
theorem wl_643 : (Jvm.Cond.code ({ cls := "SharedComparersLaw", name := "limits", desc := "()Z" } : Jvm.MethodName) method_9_code (2 : Nat) (Option.some Jvm.ClassFile.FieldType.boolean)) ∈ lw_tb2 := dp_w2 (List.mem_of_getElem? (i := 643) rfl) rfl
theorem wl_644 : (Jvm.Cond.constant "SharedComparersLaw" (96 : Nat) (99996 : Int32)) ∈ lw_tb2 := dp_w2 (List.mem_of_getElem? (i := 644) (by decide +kernel)) rfl
theorem wl_645 : (Jvm.Cond.constant "SharedComparersLaw" (97 : Nat) (99990 : Int32)) ∈ lw_tb2 := dp_w2 (List.mem_of_getElem? (i := 645) (by decide +kernel)) rfl
theorem wl_646 : (Jvm.Cond.methodLink "SharedComparersLaw" (162 : Nat) ({ cls := "SharedComparersLaw", name := "texts", desc := "()Z" } : Jvm.MethodName)) ∈ lw_tb2 := dp_w2 (List.mem_of_getElem? (i := 646) (by decide +kernel)) rfl
theorem wl_647 : (Jvm.Cond.static ({ cls := "SharedComparersLaw", name := "texts", desc := "()Z" } : Jvm.MethodName)) ∈ lw_tb2 := dp_w2 (List.mem_of_getElem? (i := 647) (by decide +kernel)) rfl
set_option maxRecDepth 100000 in
theorem wl_648 : (Jvm.Cond.code ({ cls := "SharedComparersLaw", name := "texts", desc := "()Z" } : Jvm.MethodName) method_12_code (2 : Nat) (Option.some Jvm.ClassFile.FieldType.boolean)) ∈ lw_tb2 := dp_w2 (List.mem_of_getElem? (i := 648) rfl) rfl
theorem wl_649 : (Jvm.Cond.constantLong "SharedComparersLaw" (111 : Nat) (54083036655664 : Int64)) ∈ lw_tb2 := dp_w2 (List.mem_of_getElem? (i := 649) (by decide +kernel)) rfl
theorem wl_650 : (Jvm.Cond.methodLink "SharedComparersLaw" (113 : Nat) ({ cls := "SharedComparersLaw", name := "told", desc := "(JJ)I" } : Jvm.MethodName)) ∈ lw_tb2 := dp_w2 (List.mem_of_getElem? (i := 650) (by decide +kernel)) rfl
theorem wl_651 : (Jvm.Cond.static ({ cls := "SharedComparersLaw", name := "told", desc := "(JJ)I" } : Jvm.MethodName)) ∈ lw_tb2 := dp_w2 (List.mem_of_getElem? (i := 651) (by decide +kernel)) rfl
set_option maxRecDepth 100000 in
theorem wl_652 : (Jvm.Cond.code ({ cls := "SharedComparersLaw", name := "told", desc := "(JJ)I" } : Jvm.MethodName) method_11_code (6 : Nat) (Option.some Jvm.ClassFile.FieldType.int)) ∈ lw_tb2 := dp_w2 (List.mem_of_getElem? (i := 652) rfl) rfl
theorem wl_653 : (Jvm.Cond.methodLink "SharedComparersLaw" (104 : Nat) ({ cls := "SharedComparersLaw", name := "types", desc := "(LSharedComparers;J)Z" } : Jvm.MethodName)) ∈ lw_tb2 := dp_w2 (List.mem_of_getElem? (i := 653) (by decide +kernel)) rfl
theorem wl_654 : (Jvm.Cond.static ({ cls := "SharedComparersLaw", name := "types", desc := "(LSharedComparers;J)Z" } : Jvm.MethodName)) ∈ lw_tb2 := dp_w2 (List.mem_of_getElem? (i := 654) (by decide +kernel)) rfl
set_option maxRecDepth 100000 in
theorem wl_655 : (Jvm.Cond.code ({ cls := "SharedComparersLaw", name := "types", desc := "(LSharedComparers;J)Z" } : Jvm.MethodName) method_10_code (6 : Nat) (Option.some Jvm.ClassFile.FieldType.boolean)) ∈ lw_tb2 := dp_w2 (List.mem_of_getElem? (i := 655) rfl) rfl
theorem wl_656 : (Jvm.Cond.constantLong "SharedComparersLaw" (98 : Nat) (255 : Int64)) ∈ lw_tb2 := dp_w2 (List.mem_of_getElem? (i := 656) (by decide +kernel)) rfl
theorem wl_657 : (Jvm.Cond.methodLink "SharedComparersLaw" (100 : Nat) ({ cls := "SharedComparers", name := "type", desc := "(C)I" } : Jvm.MethodName)) ∈ lw_tb2 := dp_w2 (List.mem_of_getElem? (i := 657) (by decide +kernel)) rfl
theorem wl_658 : (Jvm.Cond.instanceMethod ({ cls := "SharedComparers", name := "type", desc := "(C)I" } : Jvm.MethodName)) ∈ lw_tb2 := dp_w2 (List.mem_of_getElem? (i := 658) (by decide +kernel)) rfl
theorem wl_659 : (Jvm.Cond.selects "SharedComparers" ({ cls := "SharedComparers", name := "type", desc := "(C)I" } : Jvm.MethodName) ({ cls := "SharedComparers", name := "type", desc := "(C)I" } : Jvm.MethodName)) ∈ lw_tb2 := dp_w2 (List.mem_of_getElem? (i := 659) (by decide +kernel)) rfl
theorem wl_660 : (Jvm.Cond.code ({ cls := "SharedComparers", name := "type", desc := "(C)I" } : Jvm.MethodName) prog_1_method_12_code (2 : Nat) (Option.some Jvm.ClassFile.FieldType.int)) ∈ lw_tb2 := dp_w2 (List.mem_of_getElem? (i := 660) (by decide +kernel)) rfl
theorem wl_665 : (Jvm.Cond.methodLink "SharedComparersLaw" (108 : Nat) ({ cls := "SharedComparers", name := "setAll", desc := "()I" } : Jvm.MethodName)) ∈ lw_tb2 := dp_w2 (List.mem_of_getElem? (i := 665) (by decide +kernel)) rfl
theorem wl_666 : (Jvm.Cond.instanceMethod ({ cls := "SharedComparers", name := "setAll", desc := "()I" } : Jvm.MethodName)) ∈ lw_tb2 := dp_w2 (List.mem_of_getElem? (i := 666) (by decide +kernel)) rfl
theorem wl_667 : (Jvm.Cond.selects "SharedComparers" ({ cls := "SharedComparers", name := "setAll", desc := "()I" } : Jvm.MethodName) ({ cls := "SharedComparers", name := "setAll", desc := "()I" } : Jvm.MethodName)) ∈ lw_tb2 := dp_w2 (List.mem_of_getElem? (i := 667) (by decide +kernel)) rfl
theorem wl_668 : (Jvm.Cond.code ({ cls := "SharedComparers", name := "setAll", desc := "()I" } : Jvm.MethodName) prog_1_method_3_code (3 : Nat) (Option.some Jvm.ClassFile.FieldType.int)) ∈ lw_tb2 := dp_w2 (List.mem_of_getElem? (i := 668) (by decide +kernel)) rfl
theorem wl_695 : (Jvm.Cond.constantLong "SharedComparersLaw" (117 : Nat) (12337 : Int64)) ∈ lw_tb2 := dp_w2 (List.mem_of_getElem? (i := 695) (by decide +kernel)) rfl
theorem wl_696 : (Jvm.Cond.constantLong "SharedComparersLaw" (119 : Nat) (3485488 : Int64)) ∈ lw_tb2 := dp_w2 (List.mem_of_getElem? (i := 696) (by decide +kernel)) rfl
theorem wl_697 : (Jvm.Cond.constantLong "SharedComparersLaw" (121 : Nat) (14970062074032176 : Int64)) ∈ lw_tb2 := dp_w2 (List.mem_of_getElem? (i := 697) (by decide +kernel)) rfl
theorem wl_698 : (Jvm.Cond.constantLong "SharedComparersLaw" (123 : Nat) (3481904 : Int64)) ∈ lw_tb2 := dp_w2 (List.mem_of_getElem? (i := 698) (by decide +kernel)) rfl
theorem wl_699 : (Jvm.Cond.constantLong "SharedComparersLaw" (125 : Nat) (3481908 : Int64)) ∈ lw_tb2 := dp_w2 (List.mem_of_getElem? (i := 699) (by decide +kernel)) rfl
theorem wl_700 : (Jvm.Cond.constantLong "SharedComparersLaw" (127 : Nat) (228190138162 : Int64)) ∈ lw_tb2 := dp_w2 (List.mem_of_getElem? (i := 700) (by decide +kernel)) rfl
theorem wl_701 : (Jvm.Cond.constantLong "SharedComparersLaw" (129 : Nat) (13627 : Int64)) ∈ lw_tb2 := dp_w2 (List.mem_of_getElem? (i := 701) (by decide +kernel)) rfl
theorem wl_702 : (Jvm.Cond.constantLong "SharedComparersLaw" (131 : Nat) (13615 : Int64)) ∈ lw_tb2 := dp_w2 (List.mem_of_getElem? (i := 702) (by decide +kernel)) rfl
theorem wl_703 : (Jvm.Cond.constantLong "SharedComparersLaw" (133 : Nat) (4123389851769715001 : Int64)) ∈ lw_tb2 := dp_w2 (List.mem_of_getElem? (i := 703) (by decide +kernel)) rfl
theorem wl_704 : (Jvm.Cond.constantLong "SharedComparersLaw" (135 : Nat) (960045363 : Int64)) ∈ lw_tb2 := dp_w2 (List.mem_of_getElem? (i := 704) (by decide +kernel)) rfl
theorem wl_705 : (Jvm.Cond.constantLong "SharedComparersLaw" (137 : Nat) (13575881514688817 : Int64)) ∈ lw_tb2 := dp_w2 (List.mem_of_getElem? (i := 705) (by decide +kernel)) rfl
theorem wl_706 : (Jvm.Cond.constantLong "SharedComparersLaw" (139 : Nat) (120 : Int64)) ∈ lw_tb2 := dp_w2 (List.mem_of_getElem? (i := 706) (by decide +kernel)) rfl
theorem wl_707 : (Jvm.Cond.constantLong "SharedComparersLaw" (141 : Nat) (14113 : Int64)) ∈ lw_tb2 := dp_w2 (List.mem_of_getElem? (i := 707) (by decide +kernel)) rfl
theorem wl_708 : (Jvm.Cond.constantLong "SharedComparersLaw" (143 : Nat) (237014956859 : Int64)) ∈ lw_tb2 := dp_w2 (List.mem_of_getElem? (i := 708) (by decide +kernel)) rfl
theorem wl_709 : (Jvm.Cond.constantLong "SharedComparersLaw" (145 : Nat) (3219506 : Int64)) ∈ lw_tb2 := dp_w2 (List.mem_of_getElem? (i := 709) (by decide +kernel)) rfl
theorem wl_710 : (Jvm.Cond.constantLong "SharedComparersLaw" (147 : Nat) (16109186168594738 : Int64)) ∈ lw_tb2 := dp_w2 (List.mem_of_getElem? (i := 710) (by decide +kernel)) rfl
theorem wl_711 : (Jvm.Cond.methodLink "SharedComparersLaw" (149 : Nat) ({ cls := "SharedComparers", name := "clearText", desc := "()I" } : Jvm.MethodName)) ∈ lw_tb2 := dp_w2 (List.mem_of_getElem? (i := 711) (by decide +kernel)) rfl
theorem wl_712 : (Jvm.Cond.instanceMethod ({ cls := "SharedComparers", name := "clearText", desc := "()I" } : Jvm.MethodName)) ∈ lw_tb2 := dp_w2 (List.mem_of_getElem? (i := 712) (by decide +kernel)) rfl
theorem wl_713 : (Jvm.Cond.selects "SharedComparers" ({ cls := "SharedComparers", name := "clearText", desc := "()I" } : Jvm.MethodName) ({ cls := "SharedComparers", name := "clearText", desc := "()I" } : Jvm.MethodName)) ∈ lw_tb2 := dp_w2 (List.mem_of_getElem? (i := 713) (by decide +kernel)) rfl
theorem wl_714 : (Jvm.Cond.code ({ cls := "SharedComparers", name := "clearText", desc := "()I" } : Jvm.MethodName) prog_1_method_13_code (2 : Nat) (Option.some Jvm.ClassFile.FieldType.int)) ∈ lw_tb2 := dp_w2 (List.mem_of_getElem? (i := 714) (by decide +kernel)) rfl
abbrev lk_C (D : va_G) (aC : Nat → Nat) (cc : ByteArray) (nL : Nat) (rt : Option FieldType) (p : Program) (s : State) (m : MethodId) (args : Array Value) (meth : Method) (c : Code) : Prop :=
  p.tables.exec = Jvm.exec ∧ c.code = cc ∧ meth.sig.returnType = rt ∧ c.maxLocals = nL ∧ s.vm.findClass R_law = some m.cls ∧ (∀ w ∈ lw_tb2, w.before args s = true) ∧ meth.locks = false ∧ cx_V D aC s
def lWs (y : MethodName) (bytes : ByteArray) (nL : Nat) (rt : Option FieldType) : List Cond := .code y bytes nL rt :: lw_tb2
theorem lWs_good {y : MethodName} {bytes : ByteArray} {nL : Nat} {rt : Option FieldType} (h : Cond.code y bytes nL rt ∈ lw_tb2) (hg : goodWord (Cond.code y bytes nL rt) = true) : GoodIn lw_tb2 (lWs y bytes nL rt) := by
  intro w hw
  rcases List.mem_cons.mp hw with rfl | hw
  · exact ⟨h, good_of_word hg⟩
  · exact dp_good w hw
abbrev rmL (f mc ms : Nat) : Room := { frames := f, cells := mc, slots := ms, locals := 40 * f }
/-- a method of the law: its contract out of a walk of its body -/
theorem lk_met {l : Launch} {D : va_G} {aC : Nat → Nat} {y : MethodName} {bytes : ByteArray} {nL : Nat} {rt : Option FieldType} {rmm : Room} {As : List Value} {P : Heap → Prop} {Qc : Array Value → State → Outcome → State → Prop} {mc ms : Nat} {free : Addr → Prop} (hp : plainName y.cls = true) (hc : y.cls = R_law) (hn : (lg_sl As).length ≤ nL)
    (h : ∀ (p : Program) (e : Env) (s : State) (m : MethodId) (args : Array Value) (below : List Frame) (meth : Method) (c : Code) (ls : Array Slot), lk_C D aC bytes nL rt p s m args meth c → lv_has ls nL (lv_args 0 As) → P s.heap → W p l e rmm s m args below meth c s.heap [] 0 0 (MQ below Qc args s mc ms free) (F0 m 0 ls [])) :
    Met l y (lWs y bytes nL rt) rmm (va_Pc As (fun U => P U.heap ∧ cx_V D aC U)) Qc mc ms free := by
  refine Met.ofW (cc := bytes) (maxL := nL) (ret := rt) hp rfl ?_
  intro p e s m args' below meth c s₁ B hml hv
  obtain ⟨rfl, hP, hV⟩ := hv
  have hts := atoms_spec (ws := lWs y bytes nL rt) B.pre
  have hl := lv_entry As (n := nL) hn
  rw [lg_entry_eq]
  exact h p e s m _ below meth c _ ⟨B.exec, B.bytes, B.returns, hml, by rw [← hc]; exact findClass_of_methodNamed B.named, fun w hw => hts w (List.mem_cons_of_mem _ hw), B.notSynchronized, hV⟩ hl hP
/-- the object at B stands for Z -/
def oB (D : va_G) (aC : Nat → Nat) (B : Nat) (Z : Zst) (H : Heap) : Prop := ∃ G : Mm, va_P D vwCl (va_pl (LA B) (dp_ce aC (kdo B) G)) H ∧ dp_WT (LA B) (kdo B) G ∧ SysC G B Z
def ZJ (Z : Zst) (j : Nat) : Prop := ZI Z (99999 + 2000 * (j : Int)) (1000 * (j : Int)) ∧ j ≤ 9000
def stab (E : Heap → Prop) (B : Nat) : Prop := ∀ H H1 : Heap, E H → H.size ≤ H1.size → (∀ q : Nat, q < H.size → q ∉ LA B → H1[q]? = H[q]?) → E H1
def oI (D : va_G) (aC : Nat → Nat) (B : Nat) (A0 : Nat → Prop) (E : Heap → Prop) (H0 H : Heap) (locs : List Loc) (Z : Zst) (j : Nat) : Prop := oB D aC B Z H ∧ va_S A0 H0 H locs ∧ ZJ Z j ∧ E H ∧ stab E B ∧ ∀ q, q ∈ LA B → A0 q
theorem stab_t {B : Nat} : stab (fun _ => True) B := fun _ _ _ _ _ => trivial
theorem ZJ.T {Z : Zst} {j : Nat} (h : ZJ Z j) : 99999 ≤ (99999 + 2000 * (j : Int)) ∧ (99999 + 2000 * (j : Int)) + 2000 ≤ 100000000 ∧ (1000 * (j : Int)) + 1000 ≤ 10000000 := by
  have := h.2
  omega
theorem ZJ.of {Z Z' : Zst} {j : Nat} (h : ZJ Z j) (h' : ZI Z' (99999 + 2000 * (j : Int)) (1000 * (j : Int))) : ZJ Z' j := ⟨h', h.2⟩
theorem oI.mono {D : va_G} {aC : Nat → Nat} {B : Nat} {A0 : Nat → Prop} {E : Heap → Prop} {H0 H : Heap} {locs : List Loc} {Z : Zst} {j k : Nat} (h : oI D aC B A0 E H0 H locs Z j) (hjk : j ≤ k) (hk : k ≤ 9000) : oI D aC B A0 E H0 H locs Z k :=
  ⟨h.1, h.2.1, ⟨h.2.2.1.1.mono (by omega) (by omega) (by omega) (by omega), hk⟩, h.2.2.2⟩
section LKR
variable {p : Program} {l : Launch} {e : Env} {R : Room} {s : State} {m : MethodId} {args : Array Value} {below : List Frame} {meth : Method} {c : Code} {H : Heap} {locs : List Loc} {cells slots : Nat} {Qw : State → Prop} {cc : ByteArray} {nL : Nat} {rt : Option FieldType} {pc : Nat} {ls : Array Slot} {rest : List Value} {D : va_G} {aC : Nat → Nat} {B : Nat} {Z : Zst} {j : Nat} {A0 : Nat → Prop} {E : Heap → Prop} {H0 : Heap}
/-- a call of the object's -/
theorem lk_cls (C_ : lk_C D aC cc nL rt p s m args meth c) (hI : oI D aC B A0 E H0 H locs Z j) {k' idx n mLl : Nat} {As : List Int32} {xx : Int32} {Z' : Zst} {j' : Nat} (hz : ZJ Z' j')
    (h1 : Cond.methodLink R_law idx (mY k') ∈ lw_tb2) (h2 : Cond.instanceMethod (mY k') ∈ lw_tb2) (h3 : Cond.selects RX7 (mY k') (mY k') ∈ lw_tb2) (h5 : Cond.code (mY k') (mB k') (mL k') (mT k') ∈ lw_tb2) (hcc : (mY k').cls = RX7) (hpn : plainName (mY k').cls = true) (hml : n + 1 ≤ mL k')
    (hd0 : (mY k').cls ≠ "java/lang/invoke/MethodHandle" ∧ (mY k').cls ≠ "java/lang/invoke/VarHandle" ∧ (parseMethodDescriptor (mY k').desc).map (fun d => d.parameters.length) = some n) (hR : (rm k').frames + 1 ≤ R.frames ∧ 8 + (mL k' + 11) + (rm k').locals ≤ R.locals) {ty : FieldType} (hT : mT k' = some ty) (hmm : mL k' = mLl) (hd : decode cc pc = .ok (.invokevirtual idx, 3))
    (hcs : cells ≤ R.cells ∧ slots ≤ R.slots) (hn : As.length = n) (hls : ls.size = nL) (hrm : (rest.map fun v => v.category).sum ≤ 8) (hsp : ∀ G, SysC G B Z → Sp k' mLl (vR 7 B :: As.map vI) G (fun x G' => x = xx ∧ SysC G' B Z'))
    (kk : ∀ (H1 : Heap) (locs1 : List Loc), oI D aC B A0 E H0 H1 locs1 Z' j' → W p l e R s m args below meth c H1 locs1 cells slots Qw (F0 m (pc + 3) ls (.int xx :: rest))) :
    W p l e R s m args below meth c H locs cells slots Qw (F0 m pc ls ((As.map Value.int).reverse ++ .ref B :: rest)) := by
  subst hmm
  obtain ⟨⟨G, hP, hw, hC⟩, hS, -, hE, hEs, hLA⟩ := hI
  obtain ⟨hx, hb, -, hml4, hown, hts, -, hK, hN, -⟩ := C_
  have hr : B ∈ LA B := LA_in.mpr ⟨0, by decide, rfl⟩
  have hkr : kdo B B = 7 := kdo_at B 0
  obtain ⟨q0, hq0⟩ := va_pl_get (X := []) (f := dp_ce aC (kdo B) G) hr
  rw [List.nil_append, dp_ce_obj hkr (by decide)] at hq0
  have hmap : (As.map vI).map dp_tv = As.map Value.int := by
    rw [List.map_map]; rfl
  have hM := dp_met (l := l) (D := D) (L := LA B) (kd := kdo B) (aC := aC) (k := k') (args := vR 7 B :: As.map vI) hpn (by rw [List.length_cons, List.length_map, hn]; exact hml) (dp_sound (hsp G hC)) hw (by
    intro v hv
    rcases List.mem_cons.mp hv with rfl | hv
    · exact ⟨hr, hkr⟩
    · obtain ⟨x, -, rfl⟩ := List.mem_map.mp hv
      exact trivial)
  have hx1 : dp_Q D (LA B) (kdo B) aC k' (fun x G' => x = xx ∧ SysC G' B Z') = va_Qi (fun (x : Int32) (G' : Mm) => (x = xx ∧ SysC G' B Z') ∧ dp_WT (LA B) (kdo B) G') (fun G' t => dp_B D (LA B) (kdo B) aC G' t) (fun q => q ∈ LA B) := by unfold dp_Q; rw [hT]
  rw [hx1] at hM
  rw [show (vR 7 B :: As.map vI).map dp_tv = .ref B :: As.map Value.int by rw [List.map_cons, hmap]; rfl] at hM
  refine va_calli (va_runV (C := RX7) (As := As.map Value.int) (rest := rest) ⟨hx, hb, hml4, hown, hts⟩ hM (cwV n hts ?_ rfl rfl rfl ⟨hcc, hd0⟩ hR) ⟨dp_FB, va_recv hK hP (show vwCl[7]? = some (RX7, TX7, 6) from rfl) hq0, fun U hU hW => ⟨rfl, by rw [hU]; exact hP, va_K.moved hW.alike hK, LA_D, dp_N_warm hW hN⟩⟩ rfl (by rw [List.length_map]; exact hn) hls rfl (lv_room hrm) hd hcs) hS (fun q _ h => hLA q h) (fun q h => hLA q h) (fun x u t H1 locs1 ht hvm hw1 hB1 hz1 hk1 hS1 => ?_)
  · refine dp_wsIn ?_ (dp_mWc k' h5 rfl)
    intro w hw
    simp only [List.mem_cons, List.mem_nil_iff, or_false] at hw
    rcases hw with rfl | rfl | rfl | rfl
    · exact dp_good _ h1
    · exact dp_good _ h2
    · exact dp_good _ h3
    · exact dp_good _ wl_57
  · obtain ⟨hP1, -, -, -⟩ := hB1
    rw [ht] at hP1
    obtain ⟨⟨rfl, hC1⟩, hw1⟩ := hw1
    exact kk H1 locs1 ⟨⟨u, hP1, hw1, hC1⟩, hS1, hz, hEs H H1 hE hz1 hk1, hEs, hLA⟩
/-- a call of one of the law's own -/
theorem lk_stat (C_ : lk_C D aC cc nL rt p s m args meth c) {y : MethodName} {bytes : ByteArray} {maxL mc ms idx n : Nat} {ret : Option FieldType} {rmm : Room} {As : List Value} {P : Heap → Prop} {Qc : Array Value → State → Outcome → State → Prop} {free : Addr → Prop}
    (hM : Met l y (lWs y bytes maxL ret) rmm (va_Pc As (fun U => P U.heap ∧ cx_V D aC U)) Qc mc ms free) (hP : P H) (h1 : Cond.methodLink R_law idx y ∈ lw_tb2) (h2 : Cond.static y ∈ lw_tb2) (h5 : Cond.code y bytes maxL ret ∈ lw_tb2) (hg : goodWord (Cond.code y bytes maxL ret) = true) (hrc : rmm.cells = mc) (hrs : rmm.slots = ms)
    (hd0 : y.cls = R_law ∧ y.cls ≠ "java/lang/invoke/MethodHandle" ∧ y.cls ≠ "java/lang/invoke/VarHandle" ∧ (parseMethodDescriptor y.desc).map (fun d => d.parameters.length) = some n) (hR : rmm.frames + 1 ≤ R.frames ∧ 8 + (maxL + 11) + rmm.locals ≤ R.locals)
    (hn : As.length = n) (hls : ls.size = nL) (hrm : (rest.map fun v => v.category).sum ≤ 8) (hd : decode cc pc = .ok (.invokestatic idx, 3)) (hcs : cells + mc ≤ R.cells ∧ slots + ms ≤ R.slots) :
    va_Run p l e R s m args below meth c H locs cells slots mc ms (F0 m pc ls (As.reverse ++ rest)) rest (Qc As.toArray) free := by
  obtain ⟨hx, hb, -, hml4, hown, hts, -, hV⟩ := C_
  refine va_runS ⟨hx, hb, hml4, hown, hts⟩ hM (cwS n hts ?_ rfl hrc hrs hd0 hR) ⟨fun a U g mk q => ⟨q.1, q.2.1, va_K.moved (u := U) (U := U.calling g mk a) (Vm.Alike.refl U.vm) q.2.2.1, dp_N_same (s := U) (U := U.calling g mk a) rfl q.2.2.2.1, va_AO.moved (u := U) (U := U.calling g mk a) (Vm.Alike.refl U.vm) q.2.2.2.2.1, va_AO.moved (u := U) (U := U.calling g mk a) (Vm.Alike.refl U.vm) q.2.2.2.2.2.1, va_AO.moved (u := U) (U := U.calling g mk a) (Vm.Alike.refl U.vm) q.2.2.2.2.2.2⟩, fun U hU hW => ⟨rfl, by rw [hU]; exact hP, cx_V_warm hW hV⟩⟩ rfl hn hls rfl (lv_room hrm) hd hcs
  refine dp_wsIn ?_ (lWs_good h5 hg)
  intro w hw
  simp only [List.mem_cons, List.mem_nil_iff, or_false] at hw
  rcases hw with rfl | rfl | rfl
  · exact dp_good _ h1
  · exact dp_good _ h2
  · exact dp_good _ wl_56
theorem lk_set (C_ : lk_C D aC cc nL rt p s m args meth c) (hf : 8 ≤ R.frames ∧ 304 ≤ R.locals) (hcs : cells ≤ R.cells ∧ slots ≤ R.slots) (hI : oI D aC B A0 E H0 H locs Z j) {x y w : Int} (ix : inR x) (iy : inR y) (iw : inR w) (hls : ls.size = nL) (hrm : (rest.map fun v => v.category).sum ≤ 8) (hd : decode cc pc = .ok (.invokevirtual 33, 3))
    (kk : ∀ (H1 : Heap) (locs1 : List Loc), oI D aC B A0 E H0 H1 locs1 (zSet Z x y w).2 j → W p l e R s m args below meth c H1 locs1 cells slots Qw (F0 m (pc + 3) ls (.int (jI (zSet Z x y w).1) :: rest))) : W p l e R s m args below meth c H locs cells slots Qw (F0 m pc ls (.int (jI w) :: .int (jI y) :: .int (jI x) :: .ref B :: rest)) := by
  obtain ⟨hT0, hT, hK⟩ := hI.2.2.1.T
  have hz := hI.2.2.1.1
  exact lk_cls (k' := 55) (idx := 33) (n := 3) (As := [jI x, jI y, jI w]) (xx := jI (zSet Z x y w).1) (Z' := (zSet Z x y w).2) (j' := j) C_ hI (hI.2.2.1.of (zSet_ZI hI.2.2.1.1)) wl_317 wl_318 wl_319 wl_320 rfl (by decide +kernel) (Nat.le_of_ble_eq_true rfl) ⟨by decide, by decide, by decide +kernel⟩ ⟨Nat.le_trans (Nat.le_of_ble_eq_true rfl) hf.1, Nat.le_trans (Nat.le_of_ble_eq_true rfl) hf.2⟩ rfl rfl hd hcs rfl hls hrm (fun G h => sp_setC h hz ix iy iw (fun G' g1 g2 => ⟨rfl, g1⟩)) kk
theorem lk_setAll (C_ : lk_C D aC cc nL rt p s m args meth c) (hf : 8 ≤ R.frames ∧ 304 ≤ R.locals) (hcs : cells ≤ R.cells ∧ slots ≤ R.slots) (hI : oI D aC B A0 E H0 H locs Z j)  (hls : ls.size = nL) (hrm : (rest.map fun v => v.category).sum ≤ 8) (hd : decode cc pc = .ok (.invokevirtual 108, 3))
    (kk : ∀ (H1 : Heap) (locs1 : List Loc), oI D aC B A0 E H0 H1 locs1 (zAll Z).2 j → W p l e R s m args below meth c H1 locs1 cells slots Qw (F0 m (pc + 3) ls (.int (jI (zAll Z).1) :: rest))) : W p l e R s m args below meth c H locs cells slots Qw (F0 m pc ls (.ref B :: rest)) := by
  obtain ⟨hT0, hT, hK⟩ := hI.2.2.1.T
  have hz := hI.2.2.1.1
  exact lk_cls (k' := 56) (idx := 108) (n := 0) (As := []) (xx := jI (zAll Z).1) (Z' := (zAll Z).2) (j' := j) C_ hI (hI.2.2.1.of (zAll_ZI hI.2.2.1.1)) wl_665 wl_666 wl_667 wl_668 rfl (by decide +kernel) (Nat.le_of_ble_eq_true rfl) ⟨by decide, by decide, by decide +kernel⟩ ⟨Nat.le_trans (Nat.le_of_ble_eq_true rfl) hf.1, Nat.le_trans (Nat.le_of_ble_eq_true rfl) hf.2⟩ rfl rfl hd hcs rfl hls hrm (fun G h => sp_allC h hz (fun G' g1 g2 => ⟨rfl, g1⟩)) kk
theorem lk_cancel (C_ : lk_C D aC cc nL rt p s m args meth c) (hf : 8 ≤ R.frames ∧ 304 ≤ R.locals) (hcs : cells ≤ R.cells ∧ slots ≤ R.slots) (hI : oI D aC B A0 E H0 H locs Z j) {x : Int} (ix : inR x) (hls : ls.size = nL) (hrm : (rest.map fun v => v.category).sum ≤ 8) (hd : decode cc pc = .ok (.invokevirtual 40, 3))
    (kk : ∀ (H1 : Heap) (locs1 : List Loc), oI D aC B A0 E H0 H1 locs1 (zCan Z x).2 j → W p l e R s m args below meth c H1 locs1 cells slots Qw (F0 m (pc + 3) ls (.int (jI (zCan Z x).1) :: rest))) : W p l e R s m args below meth c H locs cells slots Qw (F0 m pc ls (.int (jI x) :: .ref B :: rest)) := by
  obtain ⟨hT0, hT, hK⟩ := hI.2.2.1.T
  have hz := hI.2.2.1.1
  exact lk_cls (k' := 57) (idx := 40) (n := 1) (As := [jI x]) (xx := jI (zCan Z x).1) (Z' := (zCan Z x).2) (j' := j) C_ hI (hI.2.2.1.of (zCan_ZI hI.2.2.1.1)) wl_436 wl_437 wl_438 wl_439 rfl (by decide +kernel) (Nat.le_of_ble_eq_true rfl) ⟨by decide, by decide, by decide +kernel⟩ ⟨Nat.le_trans (Nat.le_of_ble_eq_true rfl) hf.1, Nat.le_trans (Nat.le_of_ble_eq_true rfl) hf.2⟩ rfl rfl hd hcs rfl hls hrm (fun G h => sp_cancelC h hz ix (fun G' g1 g2 => ⟨rfl, g1⟩)) kk
theorem lk_move (C_ : lk_C D aC cc nL rt p s m args meth c) (hf : 8 ≤ R.frames ∧ 304 ≤ R.locals) (hcs : cells ≤ R.cells ∧ slots ≤ R.slots) (hI : oI D aC B A0 E H0 H locs Z j) {x t : Int} (ix : inR x) (it : inR t) (hls : ls.size = nL) (hrm : (rest.map fun v => v.category).sum ≤ 8) (hd : decode cc pc = .ok (.invokevirtual 43, 3))
    (kk : ∀ (H1 : Heap) (locs1 : List Loc), oI D aC B A0 E H0 H1 locs1 (zMov Z x t).2 j → W p l e R s m args below meth c H1 locs1 cells slots Qw (F0 m (pc + 3) ls (.int (jI (zMov Z x t).1) :: rest))) : W p l e R s m args below meth c H locs cells slots Qw (F0 m pc ls (.int (jI t) :: .int (jI x) :: .ref B :: rest)) := by
  obtain ⟨hT0, hT, hK⟩ := hI.2.2.1.T
  have hz := hI.2.2.1.1
  exact lk_cls (k' := 58) (idx := 43) (n := 2) (As := [jI x, jI t]) (xx := jI (zMov Z x t).1) (Z' := (zMov Z x t).2) (j' := j) C_ hI (hI.2.2.1.of (zMov_ZI hI.2.2.1.1)) wl_456 wl_457 wl_458 wl_459 rfl (by decide +kernel) (Nat.le_of_ble_eq_true rfl) ⟨by decide, by decide, by decide +kernel⟩ ⟨Nat.le_trans (Nat.le_of_ble_eq_true rfl) hf.1, Nat.le_trans (Nat.le_of_ble_eq_true rfl) hf.2⟩ rfl rfl hd hcs rfl hls hrm (fun G h => sp_moveC h hz ix it (fun G' g1 g2 => ⟨rfl, g1⟩)) kk
theorem lk_setComparers (C_ : lk_C D aC cc nL rt p s m args meth c) (hf : 8 ≤ R.frames ∧ 304 ≤ R.locals) (hcs : cells ≤ R.cells ∧ slots ≤ R.slots) (hI : oI D aC B A0 E H0 H locs Z j) {k : Int} (ik : inR k) (hls : ls.size = nL) (hrm : (rest.map fun v => v.category).sum ≤ 8) (hd : decode cc pc = .ok (.invokevirtual 46, 3))
    (kk : ∀ (H1 : Heap) (locs1 : List Loc), oI D aC B A0 E H0 H1 locs1 (zCmp Z k).2 j → W p l e R s m args below meth c H1 locs1 cells slots Qw (F0 m (pc + 3) ls (.int (jI (zCmp Z k).1) :: rest))) : W p l e R s m args below meth c H locs cells slots Qw (F0 m pc ls (.int (jI k) :: .ref B :: rest)) := by
  obtain ⟨hT0, hT, hK⟩ := hI.2.2.1.T
  have hz := hI.2.2.1.1
  exact lk_cls (k' := 59) (idx := 46) (n := 1) (As := [jI k]) (xx := jI (zCmp Z k).1) (Z' := (zCmp Z k).2) (j' := j) C_ hI (hI.2.2.1.of (zCmp_ZI hI.2.2.1.1)) wl_464 wl_465 wl_466 wl_467 rfl (by decide +kernel) (Nat.le_of_ble_eq_true rfl) ⟨by decide, by decide, by decide +kernel⟩ ⟨Nat.le_trans (Nat.le_of_ble_eq_true rfl) hf.1, Nat.le_trans (Nat.le_of_ble_eq_true rfl) hf.2⟩ rfl rfl hd hcs rfl hls hrm (fun G h => sp_cmpC h hz ik (fun G' g1 g2 => ⟨rfl, g1⟩)) kk
theorem lk_setWindow (C_ : lk_C D aC cc nL rt p s m args meth c) (hf : 8 ≤ R.frames ∧ 304 ≤ R.locals) (hcs : cells ≤ R.cells ∧ slots ≤ R.slots) (hI : oI D aC B A0 E H0 H locs Z j) {k : Int} (ik : inR k) (hls : ls.size = nL) (hrm : (rest.map fun v => v.category).sum ≤ 8) (hd : decode cc pc = .ok (.invokevirtual 49, 3))
    (kk : ∀ (H1 : Heap) (locs1 : List Loc), oI D aC B A0 E H0 H1 locs1 (zWin Z k).2 j → W p l e R s m args below meth c H1 locs1 cells slots Qw (F0 m (pc + 3) ls (.int (jI (zWin Z k).1) :: rest))) : W p l e R s m args below meth c H locs cells slots Qw (F0 m pc ls (.int (jI k) :: .ref B :: rest)) := by
  obtain ⟨hT0, hT, hK⟩ := hI.2.2.1.T
  have hz := hI.2.2.1.1
  exact lk_cls (k' := 60) (idx := 49) (n := 1) (As := [jI k]) (xx := jI (zWin Z k).1) (Z' := (zWin Z k).2) (j' := j) C_ hI (hI.2.2.1.of (zWin_ZI hI.2.2.1.1 hT0)) wl_472 wl_473 wl_474 wl_475 rfl (by decide +kernel) (Nat.le_of_ble_eq_true rfl) ⟨by decide, by decide, by decide +kernel⟩ ⟨Nat.le_trans (Nat.le_of_ble_eq_true rfl) hf.1, Nat.le_trans (Nat.le_of_ble_eq_true rfl) hf.2⟩ rfl rfl hd hcs rfl hls hrm (fun G h => sp_winC h hz ik (fun G' g1 g2 => ⟨rfl, g1⟩)) kk
theorem lk_setLoading (C_ : lk_C D aC cc nL rt p s m args meth c) (hf : 8 ≤ R.frames ∧ 304 ≤ R.locals) (hcs : cells ≤ R.cells ∧ slots ≤ R.slots) (hI : oI D aC B A0 E H0 H locs Z j) {k : Int} (ik : inR k) (hls : ls.size = nL) (hrm : (rest.map fun v => v.category).sum ≤ 8) (hd : decode cc pc = .ok (.invokevirtual 52, 3))
    (kk : ∀ (H1 : Heap) (locs1 : List Loc), oI D aC B A0 E H0 H1 locs1 (zLoa Z k).2 j → W p l e R s m args below meth c H1 locs1 cells slots Qw (F0 m (pc + 3) ls (.int (jI (zLoa Z k).1) :: rest))) : W p l e R s m args below meth c H locs cells slots Qw (F0 m pc ls (.int (jI k) :: .ref B :: rest)) := by
  obtain ⟨hT0, hT, hK⟩ := hI.2.2.1.T
  have hz := hI.2.2.1.1
  exact lk_cls (k' := 61) (idx := 52) (n := 1) (As := [jI k]) (xx := jI (zLoa Z k).1) (Z' := (zLoa Z k).2) (j' := j) C_ hI (hI.2.2.1.of (zLoa_ZI hI.2.2.1.1)) wl_477 wl_478 wl_479 wl_480 rfl (by decide +kernel) (Nat.le_of_ble_eq_true rfl) ⟨by decide, by decide, by decide +kernel⟩ ⟨Nat.le_trans (Nat.le_of_ble_eq_true rfl) hf.1, Nat.le_trans (Nat.le_of_ble_eq_true rfl) hf.2⟩ rfl rfl hd hcs rfl hls hrm (fun G h => sp_loaC h hz ik (fun G' g1 g2 => ⟨rfl, g1⟩)) kk
theorem lk_setDrift (C_ : lk_C D aC cc nL rt p s m args meth c) (hf : 8 ≤ R.frames ∧ 304 ≤ R.locals) (hcs : cells ≤ R.cells ∧ slots ≤ R.slots) (hI : oI D aC B A0 E H0 H locs Z j) {k : Int} (ik : inR k) (hls : ls.size = nL) (hrm : (rest.map fun v => v.category).sum ≤ 8) (hd : decode cc pc = .ok (.invokevirtual 55, 3))
    (kk : ∀ (H1 : Heap) (locs1 : List Loc), oI D aC B A0 E H0 H1 locs1 (zDri Z k).2 j → W p l e R s m args below meth c H1 locs1 cells slots Qw (F0 m (pc + 3) ls (.int (jI (zDri Z k).1) :: rest))) : W p l e R s m args below meth c H locs cells slots Qw (F0 m pc ls (.int (jI k) :: .ref B :: rest)) := by
  obtain ⟨hT0, hT, hK⟩ := hI.2.2.1.T
  have hz := hI.2.2.1.1
  exact lk_cls (k' := 62) (idx := 55) (n := 1) (As := [jI k]) (xx := jI (zDri Z k).1) (Z' := (zDri Z k).2) (j' := j) C_ hI (hI.2.2.1.of (zDri_ZI hI.2.2.1.1)) wl_481 wl_482 wl_483 wl_484 rfl (by decide +kernel) (Nat.le_of_ble_eq_true rfl) ⟨by decide, by decide, by decide +kernel⟩ ⟨Nat.le_trans (Nat.le_of_ble_eq_true rfl) hf.1, Nat.le_trans (Nat.le_of_ble_eq_true rfl) hf.2⟩ rfl rfl hd hcs rfl hls hrm (fun G h => sp_driC h hz ik (fun G' g1 g2 => ⟨rfl, g1⟩)) kk
theorem lk_correct (C_ : lk_C D aC cc nL rt p s m args meth c) (hf : 8 ≤ R.frames ∧ 304 ≤ R.locals) (hcs : cells ≤ R.cells ∧ slots ≤ R.slots) (hI : oI D aC B A0 E H0 H locs Z j) {k : Int} (ik : inR k) (hls : ls.size = nL) (hrm : (rest.map fun v => v.category).sum ≤ 8) (hd : decode cc pc = .ok (.invokevirtual 58, 3))
    (kk : ∀ (H1 : Heap) (locs1 : List Loc), oI D aC B A0 E H0 H1 locs1 (zCor Z k).2 j → W p l e R s m args below meth c H1 locs1 cells slots Qw (F0 m (pc + 3) ls (.int (jI (zCor Z k).1) :: rest))) : W p l e R s m args below meth c H locs cells slots Qw (F0 m pc ls (.int (jI k) :: .ref B :: rest)) := by
  obtain ⟨hT0, hT, hK⟩ := hI.2.2.1.T
  have hz := hI.2.2.1.1
  exact lk_cls (k' := 63) (idx := 58) (n := 1) (As := [jI k]) (xx := jI (zCor Z k).1) (Z' := (zCor Z k).2) (j' := j) C_ hI (hI.2.2.1.of (zCor_ZI hI.2.2.1.1 hT0)) wl_485 wl_486 wl_487 wl_488 rfl (by decide +kernel) (Nat.le_of_ble_eq_true rfl) ⟨by decide, by decide, by decide +kernel⟩ ⟨Nat.le_trans (Nat.le_of_ble_eq_true rfl) hf.1, Nat.le_trans (Nat.le_of_ble_eq_true rfl) hf.2⟩ rfl rfl hd hcs rfl hls hrm (fun G h => sp_corC h hz hT0 ik (fun G' g1 g2 => ⟨rfl, g1⟩)) kk
theorem lk_run (C_ : lk_C D aC cc nL rt p s m args meth c) (hf : 8 ≤ R.frames ∧ 304 ≤ R.locals) (hcs : cells ≤ R.cells ∧ slots ≤ R.slots) (hI : oI D aC B A0 E H0 H locs Z j) (hj : j + 1 ≤ 9000) {k : Int} (ik : inR k) (hls : ls.size = nL) (hrm : (rest.map fun v => v.category).sum ≤ 8) (hd : decode cc pc = .ok (.invokevirtual 61, 3))
    (kk : ∀ (H1 : Heap) (locs1 : List Loc), oI D aC B A0 E H0 H1 locs1 (zRun Z k).2 (j + 1) → W p l e R s m args below meth c H1 locs1 cells slots Qw (F0 m (pc + 3) ls (.int (jI (zRun Z k).1) :: rest))) : W p l e R s m args below meth c H locs cells slots Qw (F0 m pc ls (.int (jI k) :: .ref B :: rest)) := by
  obtain ⟨hT0, hT, hK⟩ := hI.2.2.1.T
  have hz := hI.2.2.1.1
  exact lk_cls (k' := 64) (idx := 61) (n := 1) (As := [jI k]) (xx := jI (zRun Z k).1) (Z' := (zRun Z k).2) (j' := (j + 1)) C_ hI ((by have h := zRun_ZI (k := k) hI.2.2.1.1 hT hK; exact ⟨by rw [show (99999 + 2000 * ((j + 1 : Nat) : Int)) = 99999 + 2000 * (j : Int) + 2000 by omega, show (1000 * ((j + 1 : Nat) : Int)) = 1000 * (j : Int) + 1000 by omega]; exact h, hj⟩)) wl_489 wl_490 wl_491 wl_492 rfl (by decide +kernel) (Nat.le_of_ble_eq_true rfl) ⟨by decide, by decide, by decide +kernel⟩ ⟨Nat.le_trans (Nat.le_of_ble_eq_true rfl) hf.1, Nat.le_trans (Nat.le_of_ble_eq_true rfl) hf.2⟩ rfl rfl hd hcs rfl hls hrm (fun G h => sp_runC h hz hT hK ik (fun G' g1 g2 => ⟨rfl, g1⟩)) kk
theorem lk_type (C_ : lk_C D aC cc nL rt p s m args meth c) (hf : 8 ≤ R.frames ∧ 304 ≤ R.locals) (hcs : cells ≤ R.cells ∧ slots ≤ R.slots) (hI : oI D aC B A0 E H0 H locs Z j) {x : Int} (hc : 0 ≤ x ∧ x ≤ 65535) (hls : ls.size = nL) (hrm : (rest.map fun v => v.category).sum ≤ 8) (hd : decode cc pc = .ok (.invokevirtual 100, 3))
    (kk : ∀ (H1 : Heap) (locs1 : List Loc), oI D aC B A0 E H0 H1 locs1 (zTyp Z x).2 j → W p l e R s m args below meth c H1 locs1 cells slots Qw (F0 m (pc + 3) ls (.int (jI (zTyp Z x).1) :: rest))) : W p l e R s m args below meth c H locs cells slots Qw (F0 m pc ls (.int (jI x) :: .ref B :: rest)) := by
  obtain ⟨hT0, hT, hK⟩ := hI.2.2.1.T
  have hz := hI.2.2.1.1
  exact lk_cls (k' := 65) (idx := 100) (n := 1) (As := [jI x]) (xx := jI (zTyp Z x).1) (Z' := (zTyp Z x).2) (j' := j) C_ hI (hI.2.2.1.of (zTyp_ZI hI.2.2.1.1)) wl_657 wl_658 wl_659 wl_660 rfl (by decide +kernel) (Nat.le_of_ble_eq_true rfl) ⟨by decide, by decide, by decide +kernel⟩ ⟨Nat.le_trans (Nat.le_of_ble_eq_true rfl) hf.1, Nat.le_trans (Nat.le_of_ble_eq_true rfl) hf.2⟩ rfl rfl hd hcs rfl hls hrm (fun G h => sp_typC h hc (fun G' g1 g2 => ⟨rfl, g1⟩)) kk
theorem lk_clearText (C_ : lk_C D aC cc nL rt p s m args meth c) (hf : 8 ≤ R.frames ∧ 304 ≤ R.locals) (hcs : cells ≤ R.cells ∧ slots ≤ R.slots) (hI : oI D aC B A0 E H0 H locs Z j)  (hls : ls.size = nL) (hrm : (rest.map fun v => v.category).sum ≤ 8) (hd : decode cc pc = .ok (.invokevirtual 149, 3))
    (kk : ∀ (H1 : Heap) (locs1 : List Loc), oI D aC B A0 E H0 H1 locs1 (zClr Z).2 j → W p l e R s m args below meth c H1 locs1 cells slots Qw (F0 m (pc + 3) ls (.int (jI (zClr Z).1) :: rest))) : W p l e R s m args below meth c H locs cells slots Qw (F0 m pc ls (.ref B :: rest)) := by
  obtain ⟨hT0, hT, hK⟩ := hI.2.2.1.T
  have hz := hI.2.2.1.1
  exact lk_cls (k' := 66) (idx := 149) (n := 0) (As := []) (xx := jI (zClr Z).1) (Z' := (zClr Z).2) (j' := j) C_ hI (hI.2.2.1.of (zClr_ZI hI.2.2.1.1)) wl_711 wl_712 wl_713 wl_714 rfl (by decide +kernel) (Nat.le_of_ble_eq_true rfl) ⟨by decide, by decide, by decide +kernel⟩ ⟨Nat.le_trans (Nat.le_of_ble_eq_true rfl) hf.1, Nat.le_trans (Nat.le_of_ble_eq_true rfl) hf.2⟩ rfl rfl hd hcs rfl hls hrm (fun G h => sp_clrC h (fun G' g1 g2 => ⟨rfl, g1⟩)) kk
theorem lk_undo (C_ : lk_C D aC cc nL rt p s m args meth c) (hf : 8 ≤ R.frames ∧ 304 ≤ R.locals) (hcs : cells ≤ R.cells ∧ slots ≤ R.slots) (hI : oI D aC B A0 E H0 H locs Z j)  (hls : ls.size = nL) (hrm : (rest.map fun v => v.category).sum ≤ 8) (hd : decode cc pc = .ok (.invokevirtual 82, 3))
    (kk : ∀ (H1 : Heap) (locs1 : List Loc), oI D aC B A0 E H0 H1 locs1 (zUnd Z).2 j → W p l e R s m args below meth c H1 locs1 cells slots Qw (F0 m (pc + 3) ls (.int (jI (zUnd Z).1) :: rest))) : W p l e R s m args below meth c H locs cells slots Qw (F0 m pc ls (.ref B :: rest)) := by
  obtain ⟨hT0, hT, hK⟩ := hI.2.2.1.T
  have hz := hI.2.2.1.1
  exact lk_cls (k' := 67) (idx := 82) (n := 0) (As := []) (xx := jI (zUnd Z).1) (Z' := (zUnd Z).2) (j' := j) C_ hI (hI.2.2.1.of (zUnd_ZI hI.2.2.1.1)) wl_535 wl_536 wl_537 wl_538 rfl (by decide +kernel) (Nat.le_of_ble_eq_true rfl) ⟨by decide, by decide, by decide +kernel⟩ ⟨Nat.le_trans (Nat.le_of_ble_eq_true rfl) hf.1, Nat.le_trans (Nat.le_of_ble_eq_true rfl) hf.2⟩ rfl rfl hd hcs rfl hls hrm (fun G h => sp_undC h (fun G' g1 g2 => ⟨rfl, g1⟩)) kk
theorem lk_keep (C_ : lk_C D aC cc nL rt p s m args meth c) (hf : 8 ≤ R.frames ∧ 304 ≤ R.locals) (hcs : cells ≤ R.cells ∧ slots ≤ R.slots) (hI : oI D aC B A0 E H0 H locs Z j)  (hls : ls.size = nL) (hrm : (rest.map fun v => v.category).sum ≤ 8) (hd : decode cc pc = .ok (.invokevirtual 93, 3))
    (kk : ∀ (H1 : Heap) (locs1 : List Loc), oI D aC B A0 E H0 H1 locs1 (zKee Z).2 j → W p l e R s m args below meth c H1 locs1 cells slots Qw (F0 m (pc + 3) ls (.int (jI (zKee Z).1) :: rest))) : W p l e R s m args below meth c H locs cells slots Qw (F0 m pc ls (.ref B :: rest)) := by
  obtain ⟨hT0, hT, hK⟩ := hI.2.2.1.T
  have hz := hI.2.2.1.1
  exact lk_cls (k' := 68) (idx := 93) (n := 0) (As := []) (xx := jI (zKee Z).1) (Z' := (zKee Z).2) (j' := j) C_ hI (hI.2.2.1.of (zKee_ZI hI.2.2.1.1)) wl_543 wl_544 wl_545 wl_546 rfl (by decide +kernel) (Nat.le_of_ble_eq_true rfl) ⟨by decide, by decide, by decide +kernel⟩ ⟨Nat.le_trans (Nat.le_of_ble_eq_true rfl) hf.1, Nat.le_trans (Nat.le_of_ble_eq_true rfl) hf.2⟩ rfl rfl hd hcs rfl hls hrm (fun G h => sp_keeC h hz (fun G' g1 g2 => ⟨rfl, g1⟩)) kk
theorem lk_restore (C_ : lk_C D aC cc nL rt p s m args meth c) (hf : 8 ≤ R.frames ∧ 304 ≤ R.locals) (hcs : cells ≤ R.cells ∧ slots ≤ R.slots) (hI : oI D aC B A0 E H0 H locs Z j)  (hls : ls.size = nL) (hrm : (rest.map fun v => v.category).sum ≤ 8) (hd : decode cc pc = .ok (.invokevirtual 86, 3))
    (kk : ∀ (H1 : Heap) (locs1 : List Loc), oI D aC B A0 E H0 H1 locs1 (zRes Z).2 j → W p l e R s m args below meth c H1 locs1 cells slots Qw (F0 m (pc + 3) ls (.int (jI (zRes Z).1) :: rest))) : W p l e R s m args below meth c H locs cells slots Qw (F0 m pc ls (.ref B :: rest)) := by
  obtain ⟨hT0, hT, hK⟩ := hI.2.2.1.T
  have hz := hI.2.2.1.1
  exact lk_cls (k' := 69) (idx := 86) (n := 0) (As := []) (xx := jI (zRes Z).1) (Z' := (zRes Z).2) (j' := j) C_ hI (hI.2.2.1.of (zRes_ZI hI.2.2.1.1)) wl_548 wl_549 wl_550 wl_551 rfl (by decide +kernel) (Nat.le_of_ble_eq_true rfl) ⟨by decide, by decide, by decide +kernel⟩ ⟨Nat.le_trans (Nat.le_of_ble_eq_true rfl) hf.1, Nat.le_trans (Nat.le_of_ble_eq_true rfl) hf.2⟩ rfl rfl hd hcs rfl hls hrm (fun G h => sp_resC h (fun G' g1 g2 => ⟨rfl, g1⟩)) kk
theorem lk_alarm (C_ : lk_C D aC cc nL rt p s m args meth c) (hf : 8 ≤ R.frames ∧ 304 ≤ R.locals) (hcs : cells ≤ R.cells ∧ slots ≤ R.slots) (hI : oI D aC B A0 E H0 H locs Z j) {x y : Int} (ix : inR x) (iy : inR y) (hls : ls.size = nL) (hrm : (rest.map fun v => v.category).sum ≤ 8) (hd : decode cc pc = .ok (.invokevirtual 22, 3))
    (kk : ∀ (H1 : Heap) (locs1 : List Loc), oI D aC B A0 E H0 H1 locs1 Z j → W p l e R s m args below meth c H1 locs1 cells slots Qw (F0 m (pc + 3) ls (.int (jI (zAla Z x y)) :: rest))) : W p l e R s m args below meth c H locs cells slots Qw (F0 m pc ls (.int (jI y) :: .int (jI x) :: .ref B :: rest)) := by
  obtain ⟨hT0, hT, hK⟩ := hI.2.2.1.T
  have hz := hI.2.2.1.1
  exact lk_cls (k' := 70) (idx := 22) (n := 2) (As := [jI x, jI y]) (xx := jI (zAla Z x y)) (Z' := Z) (j' := j) C_ hI (hI.2.2.1) wl_581 wl_582 wl_583 wl_584 rfl (by decide +kernel) (Nat.le_of_ble_eq_true rfl) ⟨by decide, by decide, by decide +kernel⟩ ⟨Nat.le_trans (Nat.le_of_ble_eq_true rfl) hf.1, Nat.le_trans (Nat.le_of_ble_eq_true rfl) hf.2⟩ rfl rfl hd hcs rfl hls hrm (fun G h => sp_alaC h hz ix iy ⟨rfl, h⟩) kk
theorem lk_comparer (C_ : lk_C D aC cc nL rt p s m args meth c) (hf : 8 ≤ R.frames ∧ 304 ≤ R.locals) (hcs : cells ≤ R.cells ∧ slots ≤ R.slots) (hI : oI D aC B A0 E H0 H locs Z j) {x y : Int} (ix : inR x) (iy : inR y) (hls : ls.size = nL) (hrm : (rest.map fun v => v.category).sum ≤ 8) (hd : decode cc pc = .ok (.invokevirtual 26, 3))
    (kk : ∀ (H1 : Heap) (locs1 : List Loc), oI D aC B A0 E H0 H1 locs1 Z j → W p l e R s m args below meth c H1 locs1 cells slots Qw (F0 m (pc + 3) ls (.int (jI (zCpr Z x y)) :: rest))) : W p l e R s m args below meth c H locs cells slots Qw (F0 m pc ls (.int (jI y) :: .int (jI x) :: .ref B :: rest)) := by
  obtain ⟨hT0, hT, hK⟩ := hI.2.2.1.T
  have hz := hI.2.2.1.1
  exact lk_cls (k' := 71) (idx := 26) (n := 2) (As := [jI x, jI y]) (xx := jI (zCpr Z x y)) (Z' := Z) (j' := j) C_ hI (hI.2.2.1) wl_585 wl_586 wl_587 wl_588 rfl (by decide +kernel) (Nat.le_of_ble_eq_true rfl) ⟨by decide, by decide, by decide +kernel⟩ ⟨Nat.le_trans (Nat.le_of_ble_eq_true rfl) hf.1, Nat.le_trans (Nat.le_of_ble_eq_true rfl) hf.2⟩ rfl rfl hd hcs rfl hls hrm (fun G h => sp_cprC h hz ix iy ⟨rfl, h⟩) kk
theorem lk_at (C_ : lk_C D aC cc nL rt p s m args meth c) (hf : 8 ≤ R.frames ∧ 304 ≤ R.locals) (hcs : cells ≤ R.cells ∧ slots ≤ R.slots) (hI : oI D aC B A0 E H0 H locs Z j) {x : Int} (ix : inR x) (hls : ls.size = nL) (hrm : (rest.map fun v => v.category).sum ≤ 8) (hd : decode cc pc = .ok (.invokevirtual 19, 3))
    (kk : ∀ (H1 : Heap) (locs1 : List Loc), oI D aC B A0 E H0 H1 locs1 Z j → W p l e R s m args below meth c H1 locs1 cells slots Qw (F0 m (pc + 3) ls (.int (jI (zAt Z x)) :: rest))) : W p l e R s m args below meth c H locs cells slots Qw (F0 m pc ls (.int (jI x) :: .ref B :: rest)) := by
  obtain ⟨hT0, hT, hK⟩ := hI.2.2.1.T
  have hz := hI.2.2.1.1
  exact lk_cls (k' := 72) (idx := 19) (n := 1) (As := [jI x]) (xx := jI (zAt Z x)) (Z' := Z) (j' := j) C_ hI (hI.2.2.1) wl_577 wl_578 wl_579 wl_580 rfl (by decide +kernel) (Nat.le_of_ble_eq_true rfl) ⟨by decide, by decide, by decide +kernel⟩ ⟨Nat.le_trans (Nat.le_of_ble_eq_true rfl) hf.1, Nat.le_trans (Nat.le_of_ble_eq_true rfl) hf.2⟩ rfl rfl hd hcs rfl hls hrm (fun G h => sp_atC h hz ix ⟨rfl, h⟩) kk
theorem lk_ringsIn (C_ : lk_C D aC cc nL rt p s m args meth c) (hf : 8 ≤ R.frames ∧ 304 ≤ R.locals) (hcs : cells ≤ R.cells ∧ slots ≤ R.slots) (hI : oI D aC B A0 E H0 H locs Z j) {x : Int} (ix : inR x) (hls : ls.size = nL) (hrm : (rest.map fun v => v.category).sum ≤ 8) (hd : decode cc pc = .ok (.invokevirtual 64, 3))
    (kk : ∀ (H1 : Heap) (locs1 : List Loc), oI D aC B A0 E H0 H1 locs1 Z j → W p l e R s m args below meth c H1 locs1 cells slots Qw (F0 m (pc + 3) ls (.int (jI (zRin Z x)) :: rest))) : W p l e R s m args below meth c H locs cells slots Qw (F0 m pc ls (.int (jI x) :: .ref B :: rest)) := by
  obtain ⟨hT0, hT, hK⟩ := hI.2.2.1.T
  have hz := hI.2.2.1.1
  exact lk_cls (k' := 73) (idx := 64) (n := 1) (As := [jI x]) (xx := jI (zRin Z x)) (Z' := Z) (j' := j) C_ hI (hI.2.2.1) wl_610 wl_611 wl_612 wl_613 rfl (by decide +kernel) (Nat.le_of_ble_eq_true rfl) ⟨by decide, by decide, by decide +kernel⟩ ⟨Nat.le_trans (Nat.le_of_ble_eq_true rfl) hf.1, Nat.le_trans (Nat.le_of_ble_eq_true rfl) hf.2⟩ rfl rfl hd hcs rfl hls hrm (fun G h => sp_rinC h hz hT hK ix (fun G' g1 g2 => ⟨rfl, g1⟩)) kk
theorem lk_ifComparers (C_ : lk_C D aC cc nL rt p s m args meth c) (hf : 8 ≤ R.frames ∧ 304 ≤ R.locals) (hcs : cells ≤ R.cells ∧ slots ≤ R.slots) (hI : oI D aC B A0 E H0 H locs Z j) {x t y : Int} (ix : inR x) (it : inR t) (iy : inR y) (hls : ls.size = nL) (hrm : (rest.map fun v => v.category).sum ≤ 8) (hd : decode cc pc = .ok (.invokevirtual 67, 3))
    (kk : ∀ (H1 : Heap) (locs1 : List Loc), oI D aC B A0 E H0 H1 locs1 Z j → W p l e R s m args below meth c H1 locs1 cells slots Qw (F0 m (pc + 3) ls (.int (jI (zIfc Z x t y)) :: rest))) : W p l e R s m args below meth c H locs cells slots Qw (F0 m pc ls (.int (jI y) :: .int (jI t) :: .int (jI x) :: .ref B :: rest)) := by
  obtain ⟨hT0, hT, hK⟩ := hI.2.2.1.T
  have hz := hI.2.2.1.1
  exact lk_cls (k' := 74) (idx := 67) (n := 3) (As := [jI x, jI t, jI y]) (xx := jI (zIfc Z x t y)) (Z' := Z) (j' := j) C_ hI (hI.2.2.1) wl_619 wl_620 wl_621 wl_622 rfl (by decide +kernel) (Nat.le_of_ble_eq_true rfl) ⟨by decide, by decide, by decide +kernel⟩ ⟨Nat.le_trans (Nat.le_of_ble_eq_true rfl) hf.1, Nat.le_trans (Nat.le_of_ble_eq_true rfl) hf.2⟩ rfl rfl hd hcs rfl hls hrm (fun G h => sp_ifcC h hz hT hK ix it iy (fun G' g1 g2 => ⟨rfl, g1⟩)) kk
theorem lk_fewest (C_ : lk_C D aC cc nL rt p s m args meth c) (hf : 8 ≤ R.frames ∧ 304 ≤ R.locals) (hcs : cells ≤ R.cells ∧ slots ≤ R.slots) (hI : oI D aC B A0 E H0 H locs Z j) {t : Int} (it : inR t) (hls : ls.size = nL) (hrm : (rest.map fun v => v.category).sum ≤ 8) (hd : decode cc pc = .ok (.invokevirtual 70, 3))
    (kk : ∀ (H1 : Heap) (locs1 : List Loc), oI D aC B A0 E H0 H1 locs1 Z j → W p l e R s m args below meth c H1 locs1 cells slots Qw (F0 m (pc + 3) ls (.int (jI (zFew Z t)) :: rest))) : W p l e R s m args below meth c H locs cells slots Qw (F0 m pc ls (.int (jI t) :: .ref B :: rest)) := by
  obtain ⟨hT0, hT, hK⟩ := hI.2.2.1.T
  have hz := hI.2.2.1.1
  exact lk_cls (k' := 75) (idx := 70) (n := 1) (As := [jI t]) (xx := jI (zFew Z t)) (Z' := Z) (j' := j) C_ hI (hI.2.2.1) wl_631 wl_632 wl_633 wl_634 rfl (by decide +kernel) (Nat.le_of_ble_eq_true rfl) ⟨by decide, by decide, by decide +kernel⟩ ⟨Nat.le_trans (Nat.le_of_ble_eq_true rfl) hf.1, Nat.le_trans (Nat.le_of_ble_eq_true rfl) hf.2⟩ rfl rfl hd hcs rfl hls hrm (fun G h => sp_fewC h hz hT hK it (fun G' g1 g2 => ⟨rfl, g1⟩)) kk
theorem lk_ring (C_ : lk_C D aC cc nL rt p s m args meth c) (hf : 8 ≤ R.frames ∧ 304 ≤ R.locals) (hcs : cells ≤ R.cells ∧ slots ≤ R.slots) (hI : oI D aC B A0 E H0 H locs Z j) {x y : Int} (ix : inR x) (iy : inR y) (hls : ls.size = nL) (hrm : (rest.map fun v => v.category).sum ≤ 8) (hd : decode cc pc = .ok (.invokevirtual 29, 3))
    (kk : ∀ (H1 : Heap) (locs1 : List Loc), oI D aC B A0 E H0 H1 locs1 Z j → W p l e R s m args below meth c H1 locs1 cells slots Qw (F0 m (pc + 3) ls (.int (jI (zRng Z x y)) :: rest))) : W p l e R s m args below meth c H locs cells slots Qw (F0 m pc ls (.int (jI y) :: .int (jI x) :: .ref B :: rest)) := by
  obtain ⟨hT0, hT, hK⟩ := hI.2.2.1.T
  have hz := hI.2.2.1.1
  exact lk_cls (k' := 76) (idx := 29) (n := 2) (As := [jI x, jI y]) (xx := jI (zRng Z x y)) (Z' := Z) (j' := j) C_ hI (hI.2.2.1) wl_594 wl_595 wl_596 wl_597 rfl (by decide +kernel) (Nat.le_of_ble_eq_true rfl) ⟨by decide, by decide, by decide +kernel⟩ ⟨Nat.le_trans (Nat.le_of_ble_eq_true rfl) hf.1, Nat.le_trans (Nat.le_of_ble_eq_true rfl) hf.2⟩ rfl rfl hd hcs rfl hls hrm (fun G h => sp_rngC h hz ix iy ⟨rfl, h⟩) kk
theorem lk_count (C_ : lk_C D aC cc nL rt p s m args meth c) (hf : 8 ≤ R.frames ∧ 304 ≤ R.locals) (hcs : cells ≤ R.cells ∧ slots ≤ R.slots) (hI : oI D aC B A0 E H0 H locs Z j) {y : Int} (iy : inR y) (hls : ls.size = nL) (hrm : (rest.map fun v => v.category).sum ≤ 8) (hd : decode cc pc = .ok (.invokevirtual 13, 3))
    (kk : ∀ (H1 : Heap) (locs1 : List Loc), oI D aC B A0 E H0 H1 locs1 Z j → W p l e R s m args below meth c H1 locs1 cells slots Qw (F0 m (pc + 3) ls (.int (jI (zCnt Z y)) :: rest))) : W p l e R s m args below meth c H locs cells slots Qw (F0 m pc ls (.int (jI y) :: .ref B :: rest)) := by
  obtain ⟨hT0, hT, hK⟩ := hI.2.2.1.T
  have hz := hI.2.2.1.1
  exact lk_cls (k' := 77) (idx := 13) (n := 1) (As := [jI y]) (xx := jI (zCnt Z y)) (Z' := Z) (j' := j) C_ hI (hI.2.2.1) wl_552 wl_553 wl_554 wl_555 rfl (by decide +kernel) (Nat.le_of_ble_eq_true rfl) ⟨by decide, by decide, by decide +kernel⟩ ⟨Nat.le_trans (Nat.le_of_ble_eq_true rfl) hf.1, Nat.le_trans (Nat.le_of_ble_eq_true rfl) hf.2⟩ rfl rfl hd hcs rfl hls hrm (fun G h => sp_cntC h hz iy ⟨rfl, h⟩) kk
end LKR
