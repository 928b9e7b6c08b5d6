section
-- ===== PART A: goes FIRST, ahead of the names: the tables' words, and 'selects' of the private methods out of them =====
/-- a private method of a class that the tables say can be made, by its rows of tables_1 -/
def lw_okq (q : MethodName × Nat) : Prop := (q.1.cls ≠ "java/lang/invoke/MethodHandle" ∧ q.1.cls ≠ "java/lang/invoke/VarHandle") ∧ Cond.instantiable q.1.cls q.2 ∈ tables_1 ∧ Cond.privateMethod q.1 ∈ tables_1 ∧ Cond.instanceMethod q.1 ∈ tables_1
theorem lw_p0 : lw_okq (⟨"SharedComparers$Chip", "hasRoomFor", "(I)Z"⟩, 12) := ⟨⟨by decide +kernel, by decide +kernel⟩, List.mem_of_getElem? (i := 21) (by decide +kernel), List.mem_of_getElem? (i := 271) (by decide +kernel), List.mem_of_getElem? (i := 272) (by decide +kernel)⟩
theorem lw_p1 : lw_okq (⟨"SharedComparers$History", "recordState", "(LSharedComparers$Chip;)V"⟩, 2) := ⟨⟨by decide +kernel, by decide +kernel⟩, List.mem_of_getElem? (i := 193) (by decide +kernel), List.mem_of_getElem? (i := 275) (by decide +kernel), List.mem_of_getElem? (i := 276) (by decide +kernel)⟩
theorem lw_p2 : lw_okq (⟨"SharedComparers$History", "dropOldest", "()V"⟩, 2) := ⟨⟨by decide +kernel, by decide +kernel⟩, List.mem_of_getElem? (i := 193) (by decide +kernel), List.mem_of_getElem? (i := 279) (by decide +kernel), List.mem_of_getElem? (i := 280) (by decide +kernel)⟩
theorem lw_p3 : lw_okq (⟨"SharedComparers$Chip", "copyFrom", "(LSharedComparers$Chip;)V"⟩, 12) := ⟨⟨by decide +kernel, by decide +kernel⟩, List.mem_of_getElem? (i := 21) (by decide +kernel), List.mem_of_getElem? (i := 283) (by decide +kernel), List.mem_of_getElem? (i := 284) (by decide +kernel)⟩
theorem lw_p4 : lw_okq (⟨"SharedComparers$Alarm", "copyFrom", "(LSharedComparers$Alarm;)V"⟩, 8) := ⟨⟨by decide +kernel, by decide +kernel⟩, List.mem_of_getElem? (i := 28) (by decide +kernel), List.mem_of_getElem? (i := 287) (by decide +kernel), List.mem_of_getElem? (i := 288) (by decide +kernel)⟩
theorem lw_p5 : lw_okq (⟨"SharedComparers$Comparer", "copyFrom", "(LSharedComparers$Comparer;)V"⟩, 4) := ⟨⟨by decide +kernel, by decide +kernel⟩, List.mem_of_getElem? (i := 72) (by decide +kernel), List.mem_of_getElem? (i := 291) (by decide +kernel), List.mem_of_getElem? (i := 292) (by decide +kernel)⟩
theorem lw_p6 : lw_okq (⟨"SharedComparers$Totals", "copyFrom", "(LSharedComparers$Totals;)V"⟩, 6) := ⟨⟨by decide +kernel, by decide +kernel⟩, List.mem_of_getElem? (i := 96) (by decide +kernel), List.mem_of_getElem? (i := 295) (by decide +kernel), List.mem_of_getElem? (i := 296) (by decide +kernel)⟩
theorem lw_p7 : lw_okq (⟨"SharedComparers$RingLog", "copyFrom", "(LSharedComparers$RingLog;)V"⟩, 2) := ⟨⟨by decide +kernel, by decide +kernel⟩, List.mem_of_getElem? (i := 130) (by decide +kernel), List.mem_of_getElem? (i := 299) (by decide +kernel), List.mem_of_getElem? (i := 300) (by decide +kernel)⟩
theorem lw_p8 : lw_okq (⟨"SharedComparers$Chip", "addAlarm", "(III)I"⟩, 12) := ⟨⟨by decide +kernel, by decide +kernel⟩, List.mem_of_getElem? (i := 21) (by decide +kernel), List.mem_of_getElem? (i := 306) (by decide +kernel), List.mem_of_getElem? (i := 307) (by decide +kernel)⟩
theorem lw_p9 : lw_okq (⟨"SharedComparers$Alarm", "begin", "(IIII)V"⟩, 8) := ⟨⟨by decide +kernel, by decide +kernel⟩, List.mem_of_getElem? (i := 28) (by decide +kernel), List.mem_of_getElem? (i := 311) (by decide +kernel), List.mem_of_getElem? (i := 312) (by decide +kernel)⟩
theorem lw_p10 : lw_okq (⟨"SharedComparers$Chip", "sortAlarms", "()V"⟩, 12) := ⟨⟨by decide +kernel, by decide +kernel⟩, List.mem_of_getElem? (i := 21) (by decide +kernel), List.mem_of_getElem? (i := 315) (by decide +kernel), List.mem_of_getElem? (i := 316) (by decide +kernel)⟩
theorem lw_p11 : lw_okq (⟨"SharedComparers$Alarm", "isBefore", "(LSharedComparers$Alarm;)Z"⟩, 8) := ⟨⟨by decide +kernel, by decide +kernel⟩, List.mem_of_getElem? (i := 28) (by decide +kernel), List.mem_of_getElem? (i := 319) (by decide +kernel), List.mem_of_getElem? (i := 320) (by decide +kernel)⟩
theorem lw_p12 : lw_okq (⟨"SharedComparers$Chip", "shareOut", "()V"⟩, 12) := ⟨⟨by decide +kernel, by decide +kernel⟩, List.mem_of_getElem? (i := 21) (by decide +kernel), List.mem_of_getElem? (i := 323) (by decide +kernel), List.mem_of_getElem? (i := 324) (by decide +kernel)⟩
theorem lw_p13 : lw_okq (⟨"SharedComparers$Chip", "firstWithoutComparer", "()I"⟩, 12) := ⟨⟨by decide +kernel, by decide +kernel⟩, List.mem_of_getElem? (i := 21) (by decide +kernel), List.mem_of_getElem? (i := 328) (by decide +kernel), List.mem_of_getElem? (i := 329) (by decide +kernel)⟩
theorem lw_p14 : lw_okq (⟨"SharedComparers$Chip", "findComparerFor", "(LSharedComparers$Alarm;)Z"⟩, 12) := ⟨⟨by decide +kernel, by decide +kernel⟩, List.mem_of_getElem? (i := 21) (by decide +kernel), List.mem_of_getElem? (i := 332) (by decide +kernel), List.mem_of_getElem? (i := 333) (by decide +kernel)⟩
theorem lw_p15 : lw_okq (⟨"SharedComparers$Chip", "firstThatCanTake", "(I)I"⟩, 12) := ⟨⟨by decide +kernel, by decide +kernel⟩, List.mem_of_getElem? (i := 21) (by decide +kernel), List.mem_of_getElem? (i := 336) (by decide +kernel), List.mem_of_getElem? (i := 337) (by decide +kernel)⟩
def lw_privs_1 : List (MethodName × Nat) := [(⟨"SharedComparers$Chip", "hasRoomFor", "(I)Z"⟩, 12), (⟨"SharedComparers$History", "recordState", "(LSharedComparers$Chip;)V"⟩, 2), (⟨"SharedComparers$History", "dropOldest", "()V"⟩, 2), (⟨"SharedComparers$Chip", "copyFrom", "(LSharedComparers$Chip;)V"⟩, 12), (⟨"SharedComparers$Alarm", "copyFrom", "(LSharedComparers$Alarm;)V"⟩, 8), (⟨"SharedComparers$Comparer", "copyFrom", "(LSharedComparers$Comparer;)V"⟩, 4), (⟨"SharedComparers$Totals", "copyFrom", "(LSharedComparers$Totals;)V"⟩, 6), (⟨"SharedComparers$RingLog", "copyFrom", "(LSharedComparers$RingLog;)V"⟩, 2), (⟨"SharedComparers$Chip", "addAlarm", "(III)I"⟩, 12), (⟨"SharedComparers$Alarm", "begin", "(IIII)V"⟩, 8), (⟨"SharedComparers$Chip", "sortAlarms", "()V"⟩, 12), (⟨"SharedComparers$Alarm", "isBefore", "(LSharedComparers$Alarm;)Z"⟩, 8), (⟨"SharedComparers$Chip", "shareOut", "()V"⟩, 12), (⟨"SharedComparers$Chip", "firstWithoutComparer", "()I"⟩, 12), (⟨"SharedComparers$Chip", "findComparerFor", "(LSharedComparers$Alarm;)Z"⟩, 12), (⟨"SharedComparers$Chip", "firstThatCanTake", "(I)I"⟩, 12)]
theorem lw_r1 : ∀ q ∈ lw_privs_1, lw_okq q := List.forall_mem_cons.mpr ⟨lw_p0, List.forall_mem_cons.mpr ⟨lw_p1, List.forall_mem_cons.mpr ⟨lw_p2, List.forall_mem_cons.mpr ⟨lw_p3, List.forall_mem_cons.mpr ⟨lw_p4, List.forall_mem_cons.mpr ⟨lw_p5, List.forall_mem_cons.mpr ⟨lw_p6, List.forall_mem_cons.mpr ⟨lw_p7, List.forall_mem_cons.mpr ⟨lw_p8, List.forall_mem_cons.mpr ⟨lw_p9, List.forall_mem_cons.mpr ⟨lw_p10, List.forall_mem_cons.mpr ⟨lw_p11, List.forall_mem_cons.mpr ⟨lw_p12, List.forall_mem_cons.mpr ⟨lw_p13, List.forall_mem_cons.mpr ⟨lw_p14, List.forall_mem_cons.mpr ⟨lw_p15, fun _ h => absurd h List.not_mem_nil⟩⟩⟩⟩⟩⟩⟩⟩⟩⟩⟩⟩⟩⟩⟩⟩
theorem lw_p16 : lw_okq (⟨"SharedComparers$Comparer", "canTake", "(II)Z"⟩, 4) := ⟨⟨by decide +kernel, by decide +kernel⟩, List.mem_of_getElem? (i := 72) (by decide +kernel), List.mem_of_getElem? (i := 340) (by decide +kernel), List.mem_of_getElem? (i := 341) (by decide +kernel)⟩
theorem lw_p17 : lw_okq (⟨"SharedComparers$Comparer", "join", "(I)V"⟩, 4) := ⟨⟨by decide +kernel, by decide +kernel⟩, List.mem_of_getElem? (i := 72) (by decide +kernel), List.mem_of_getElem? (i := 344) (by decide +kernel), List.mem_of_getElem? (i := 345) (by decide +kernel)⟩
theorem lw_p18 : lw_okq (⟨"SharedComparers$Chip", "firstFree", "()I"⟩, 12) := ⟨⟨by decide +kernel, by decide +kernel⟩, List.mem_of_getElem? (i := 21) (by decide +kernel), List.mem_of_getElem? (i := 354) (by decide +kernel), List.mem_of_getElem? (i := 355) (by decide +kernel)⟩
theorem lw_p19 : lw_okq (⟨"SharedComparers$Comparer", "isFree", "()Z"⟩, 4) := ⟨⟨by decide +kernel, by decide +kernel⟩, List.mem_of_getElem? (i := 72) (by decide +kernel), List.mem_of_getElem? (i := 358) (by decide +kernel), List.mem_of_getElem? (i := 359) (by decide +kernel)⟩
theorem lw_p20 : lw_okq (⟨"SharedComparers$Chip", "loadFor", "(LSharedComparers$Alarm;I)V"⟩, 12) := ⟨⟨by decide +kernel, by decide +kernel⟩, List.mem_of_getElem? (i := 21) (by decide +kernel), List.mem_of_getElem? (i := 362) (by decide +kernel), List.mem_of_getElem? (i := 363) (by decide +kernel)⟩
theorem lw_p21 : lw_okq (⟨"SharedComparers$Comparer", "load", "(II)V"⟩, 4) := ⟨⟨by decide +kernel, by decide +kernel⟩, List.mem_of_getElem? (i := 72) (by decide +kernel), List.mem_of_getElem? (i := 366) (by decide +kernel), List.mem_of_getElem? (i := 367) (by decide +kernel)⟩
theorem lw_p22 : lw_okq (⟨"SharedComparers$Chip", "firstOfGreatestCount", "()I"⟩, 12) := ⟨⟨by decide +kernel, by decide +kernel⟩, List.mem_of_getElem? (i := 21) (by decide +kernel), List.mem_of_getElem? (i := 370) (by decide +kernel), List.mem_of_getElem? (i := 371) (by decide +kernel)⟩
theorem lw_p23 : lw_okq (⟨"SharedComparers$Chip", "sendOffSharers", "(I)V"⟩, 12) := ⟨⟨by decide +kernel, by decide +kernel⟩, List.mem_of_getElem? (i := 21) (by decide +kernel), List.mem_of_getElem? (i := 374) (by decide +kernel), List.mem_of_getElem? (i := 375) (by decide +kernel)⟩
theorem lw_p24 : lw_okq (⟨"SharedComparers$Comparer", "release", "()V"⟩, 4) := ⟨⟨by decide +kernel, by decide +kernel⟩, List.mem_of_getElem? (i := 72) (by decide +kernel), List.mem_of_getElem? (i := 378) (by decide +kernel), List.mem_of_getElem? (i := 379) (by decide +kernel)⟩
theorem lw_p25 : lw_okq (⟨"SharedComparers$AlarmText", "readList", "()I"⟩, 7) := ⟨⟨by decide +kernel, by decide +kernel⟩, List.mem_of_getElem? (i := 210) (by decide +kernel), List.mem_of_getElem? (i := 386) (by decide +kernel), List.mem_of_getElem? (i := 387) (by decide +kernel)⟩
theorem lw_p26 : lw_okq (⟨"SharedComparers$AlarmText", "readAlarm", "()Z"⟩, 7) := ⟨⟨by decide +kernel, by decide +kernel⟩, List.mem_of_getElem? (i := 210) (by decide +kernel), List.mem_of_getElem? (i := 390) (by decide +kernel), List.mem_of_getElem? (i := 391) (by decide +kernel)⟩
theorem lw_p27 : lw_okq (⟨"SharedComparers$AlarmText", "readNumber", "(II)I"⟩, 7) := ⟨⟨by decide +kernel, by decide +kernel⟩, List.mem_of_getElem? (i := 210) (by decide +kernel), List.mem_of_getElem? (i := 395) (by decide +kernel), List.mem_of_getElem? (i := 396) (by decide +kernel)⟩
theorem lw_p28 : lw_okq (⟨"SharedComparers$AlarmText", "digitHere", "()I"⟩, 7) := ⟨⟨by decide +kernel, by decide +kernel⟩, List.mem_of_getElem? (i := 210) (by decide +kernel), List.mem_of_getElem? (i := 399) (by decide +kernel), List.mem_of_getElem? (i := 400) (by decide +kernel)⟩
theorem lw_p29 : lw_okq (⟨"SharedComparers$AlarmText", "readSign", "(C)Z"⟩, 7) := ⟨⟨by decide +kernel, by decide +kernel⟩, List.mem_of_getElem? (i := 210) (by decide +kernel), List.mem_of_getElem? (i := 403) (by decide +kernel), List.mem_of_getElem? (i := 404) (by decide +kernel)⟩
theorem lw_p30 : lw_okq (⟨"SharedComparers$AlarmText", "leastTime", "()I"⟩, 7) := ⟨⟨by decide +kernel, by decide +kernel⟩, List.mem_of_getElem? (i := 210) (by decide +kernel), List.mem_of_getElem? (i := 407) (by decide +kernel), List.mem_of_getElem? (i := 408) (by decide +kernel)⟩
theorem lw_p31 : lw_okq (⟨"SharedComparers$Chip", "placeOf", "(I)I"⟩, 12) := ⟨⟨by decide +kernel, by decide +kernel⟩, List.mem_of_getElem? (i := 21) (by decide +kernel), List.mem_of_getElem? (i := 416) (by decide +kernel), List.mem_of_getElem? (i := 417) (by decide +kernel)⟩
def lw_privs_2 : List (MethodName × Nat) := [(⟨"SharedComparers$Comparer", "canTake", "(II)Z"⟩, 4), (⟨"SharedComparers$Comparer", "join", "(I)V"⟩, 4), (⟨"SharedComparers$Chip", "firstFree", "()I"⟩, 12), (⟨"SharedComparers$Comparer", "isFree", "()Z"⟩, 4), (⟨"SharedComparers$Chip", "loadFor", "(LSharedComparers$Alarm;I)V"⟩, 12), (⟨"SharedComparers$Comparer", "load", "(II)V"⟩, 4), (⟨"SharedComparers$Chip", "firstOfGreatestCount", "()I"⟩, 12), (⟨"SharedComparers$Chip", "sendOffSharers", "(I)V"⟩, 12), (⟨"SharedComparers$Comparer", "release", "()V"⟩, 4), (⟨"SharedComparers$AlarmText", "readList", "()I"⟩, 7), (⟨"SharedComparers$AlarmText", "readAlarm", "()Z"⟩, 7), (⟨"SharedComparers$AlarmText", "readNumber", "(II)I"⟩, 7), (⟨"SharedComparers$AlarmText", "digitHere", "()I"⟩, 7), (⟨"SharedComparers$AlarmText", "readSign", "(C)Z"⟩, 7), (⟨"SharedComparers$AlarmText", "leastTime", "()I"⟩, 7), (⟨"SharedComparers$Chip", "placeOf", "(I)I"⟩, 12)]
theorem lw_r2 : ∀ q ∈ lw_privs_2, lw_okq q := List.forall_mem_cons.mpr ⟨lw_p16, List.forall_mem_cons.mpr ⟨lw_p17, List.forall_mem_cons.mpr ⟨lw_p18, List.forall_mem_cons.mpr ⟨lw_p19, List.forall_mem_cons.mpr ⟨lw_p20, List.forall_mem_cons.mpr ⟨lw_p21, List.forall_mem_cons.mpr ⟨lw_p22, List.forall_mem_cons.mpr ⟨lw_p23, List.forall_mem_cons.mpr ⟨lw_p24, List.forall_mem_cons.mpr ⟨lw_p25, List.forall_mem_cons.mpr ⟨lw_p26, List.forall_mem_cons.mpr ⟨lw_p27, List.forall_mem_cons.mpr ⟨lw_p28, List.forall_mem_cons.mpr ⟨lw_p29, List.forall_mem_cons.mpr ⟨lw_p30, List.forall_mem_cons.mpr ⟨lw_p31, fun _ h => absurd h List.not_mem_nil⟩⟩⟩⟩⟩⟩⟩⟩⟩⟩⟩⟩⟩⟩⟩⟩
theorem lw_p32 : lw_okq (⟨"SharedComparers$Chip", "cancelAlarm", "(I)V"⟩, 12) := ⟨⟨by decide +kernel, by decide +kernel⟩, List.mem_of_getElem? (i := 21) (by decide +kernel), List.mem_of_getElem? (i := 420) (by decide +kernel), List.mem_of_getElem? (i := 421) (by decide +kernel)⟩
theorem lw_p33 : lw_okq (⟨"SharedComparers$Chip", "takeOff", "(LSharedComparers$Alarm;)V"⟩, 12) := ⟨⟨by decide +kernel, by decide +kernel⟩, List.mem_of_getElem? (i := 21) (by decide +kernel), List.mem_of_getElem? (i := 424) (by decide +kernel), List.mem_of_getElem? (i := 425) (by decide +kernel)⟩
theorem lw_p34 : lw_okq (⟨"SharedComparers$Chip", "removeAlarm", "(I)V"⟩, 12) := ⟨⟨by decide +kernel, by decide +kernel⟩, List.mem_of_getElem? (i := 21) (by decide +kernel), List.mem_of_getElem? (i := 428) (by decide +kernel), List.mem_of_getElem? (i := 429) (by decide +kernel)⟩
theorem lw_p35 : lw_okq (⟨"SharedComparers$Chip", "moveAlarm", "(II)V"⟩, 12) := ⟨⟨by decide +kernel, by decide +kernel⟩, List.mem_of_getElem? (i := 21) (by decide +kernel), List.mem_of_getElem? (i := 436) (by decide +kernel), List.mem_of_getElem? (i := 437) (by decide +kernel)⟩
theorem lw_p36 : lw_okq (⟨"SharedComparers$Chip", "changeComparers", "(I)V"⟩, 12) := ⟨⟨by decide +kernel, by decide +kernel⟩, List.mem_of_getElem? (i := 21) (by decide +kernel), List.mem_of_getElem? (i := 444) (by decide +kernel), List.mem_of_getElem? (i := 445) (by decide +kernel)⟩
theorem lw_p37 : lw_okq (⟨"SharedComparers$Chip", "tick", "()V"⟩, 12) := ⟨⟨by decide +kernel, by decide +kernel⟩, List.mem_of_getElem? (i := 21) (by decide +kernel), List.mem_of_getElem? (i := 469) (by decide +kernel), List.mem_of_getElem? (i := 470) (by decide +kernel)⟩
theorem lw_p38 : lw_okq (⟨"SharedComparers$Chip", "growth", "()I"⟩, 12) := ⟨⟨by decide +kernel, by decide +kernel⟩, List.mem_of_getElem? (i := 21) (by decide +kernel), List.mem_of_getElem? (i := 473) (by decide +kernel), List.mem_of_getElem? (i := 474) (by decide +kernel)⟩
theorem lw_p39 : lw_okq (⟨"SharedComparers$Comparer", "loadOn", "()V"⟩, 4) := ⟨⟨by decide +kernel, by decide +kernel⟩, List.mem_of_getElem? (i := 72) (by decide +kernel), List.mem_of_getElem? (i := 477) (by decide +kernel), List.mem_of_getElem? (i := 478) (by decide +kernel)⟩
theorem lw_p40 : lw_okq (⟨"SharedComparers$Comparer", "isDue", "(I)Z"⟩, 4) := ⟨⟨by decide +kernel, by decide +kernel⟩, List.mem_of_getElem? (i := 72) (by decide +kernel), List.mem_of_getElem? (i := 481) (by decide +kernel), List.mem_of_getElem? (i := 482) (by decide +kernel)⟩
theorem lw_p41 : lw_okq (⟨"SharedComparers$Chip", "ringComparer", "(I)V"⟩, 12) := ⟨⟨by decide +kernel, by decide +kernel⟩, List.mem_of_getElem? (i := 21) (by decide +kernel), List.mem_of_getElem? (i := 485) (by decide +kernel), List.mem_of_getElem? (i := 486) (by decide +kernel)⟩
theorem lw_p42 : lw_okq (⟨"SharedComparers$Chip", "ringAlarm", "(LSharedComparers$Alarm;I)V"⟩, 12) := ⟨⟨by decide +kernel, by decide +kernel⟩, List.mem_of_getElem? (i := 21) (by decide +kernel), List.mem_of_getElem? (i := 489) (by decide +kernel), List.mem_of_getElem? (i := 490) (by decide +kernel)⟩
theorem lw_p43 : lw_okq (⟨"SharedComparers$RingLog", "note", "(IIII)V"⟩, 2) := ⟨⟨by decide +kernel, by decide +kernel⟩, List.mem_of_getElem? (i := 130) (by decide +kernel), List.mem_of_getElem? (i := 493) (by decide +kernel), List.mem_of_getElem? (i := 494) (by decide +kernel)⟩
theorem lw_p44 : lw_okq (⟨"SharedComparers$Totals", "noteRing", "(I)V"⟩, 6) := ⟨⟨by decide +kernel, by decide +kernel⟩, List.mem_of_getElem? (i := 96) (by decide +kernel), List.mem_of_getElem? (i := 497) (by decide +kernel), List.mem_of_getElem? (i := 498) (by decide +kernel)⟩
theorem lw_p45 : lw_okq (⟨"SharedComparers$Alarm", "noteRing", "(I)V"⟩, 8) := ⟨⟨by decide +kernel, by decide +kernel⟩, List.mem_of_getElem? (i := 28) (by decide +kernel), List.mem_of_getElem? (i := 502) (by decide +kernel), List.mem_of_getElem? (i := 503) (by decide +kernel)⟩
theorem lw_p46 : lw_okq (⟨"SharedComparers$Alarm", "goOn", "(I)I"⟩, 8) := ⟨⟨by decide +kernel, by decide +kernel⟩, List.mem_of_getElem? (i := 28) (by decide +kernel), List.mem_of_getElem? (i := 507) (by decide +kernel), List.mem_of_getElem? (i := 508) (by decide +kernel)⟩
theorem lw_p47 : lw_okq (⟨"SharedComparers$AlarmText", "append", "(C)Z"⟩, 7) := ⟨⟨by decide +kernel, by decide +kernel⟩, List.mem_of_getElem? (i := 210) (by decide +kernel), List.mem_of_getElem? (i := 515) (by decide +kernel), List.mem_of_getElem? (i := 516) (by decide +kernel)⟩
def lw_privs_3 : List (MethodName × Nat) := [(⟨"SharedComparers$Chip", "cancelAlarm", "(I)V"⟩, 12), (⟨"SharedComparers$Chip", "takeOff", "(LSharedComparers$Alarm;)V"⟩, 12), (⟨"SharedComparers$Chip", "removeAlarm", "(I)V"⟩, 12), (⟨"SharedComparers$Chip", "moveAlarm", "(II)V"⟩, 12), (⟨"SharedComparers$Chip", "changeComparers", "(I)V"⟩, 12), (⟨"SharedComparers$Chip", "tick", "()V"⟩, 12), (⟨"SharedComparers$Chip", "growth", "()I"⟩, 12), (⟨"SharedComparers$Comparer", "loadOn", "()V"⟩, 4), (⟨"SharedComparers$Comparer", "isDue", "(I)Z"⟩, 4), (⟨"SharedComparers$Chip", "ringComparer", "(I)V"⟩, 12), (⟨"SharedComparers$Chip", "ringAlarm", "(LSharedComparers$Alarm;I)V"⟩, 12), (⟨"SharedComparers$RingLog", "note", "(IIII)V"⟩, 2), (⟨"SharedComparers$Totals", "noteRing", "(I)V"⟩, 6), (⟨"SharedComparers$Alarm", "noteRing", "(I)V"⟩, 8), (⟨"SharedComparers$Alarm", "goOn", "(I)I"⟩, 8), (⟨"SharedComparers$AlarmText", "append", "(C)Z"⟩, 7)]
theorem lw_r3 : ∀ q ∈ lw_privs_3, lw_okq q := List.forall_mem_cons.mpr ⟨lw_p32, List.forall_mem_cons.mpr ⟨lw_p33, List.forall_mem_cons.mpr ⟨lw_p34, List.forall_mem_cons.mpr ⟨lw_p35, List.forall_mem_cons.mpr ⟨lw_p36, List.forall_mem_cons.mpr ⟨lw_p37, List.forall_mem_cons.mpr ⟨lw_p38, List.forall_mem_cons.mpr ⟨lw_p39, List.forall_mem_cons.mpr ⟨lw_p40, List.forall_mem_cons.mpr ⟨lw_p41, List.forall_mem_cons.mpr ⟨lw_p42, List.forall_mem_cons.mpr ⟨lw_p43, List.forall_mem_cons.mpr ⟨lw_p44, List.forall_mem_cons.mpr ⟨lw_p45, List.forall_mem_cons.mpr ⟨lw_p46, List.forall_mem_cons.mpr ⟨lw_p47, fun _ h => absurd h List.not_mem_nil⟩⟩⟩⟩⟩⟩⟩⟩⟩⟩⟩⟩⟩⟩⟩⟩
theorem lw_p48 : lw_okq (⟨"SharedComparers$History", "takeBack", "(LSharedComparers$Chip;)V"⟩, 2) := ⟨⟨by decide +kernel, by decide +kernel⟩, List.mem_of_getElem? (i := 193) (by decide +kernel), List.mem_of_getElem? (i := 527) (by decide +kernel), List.mem_of_getElem? (i := 528) (by decide +kernel)⟩
theorem lw_p49 : lw_okq (⟨"SharedComparers$Chip", "firstSharerOf", "(I)I"⟩, 12) := ⟨⟨by decide +kernel, by decide +kernel⟩, List.mem_of_getElem? (i := 21) (by decide +kernel), List.mem_of_getElem? (i := 549) (by decide +kernel), List.mem_of_getElem? (i := 550) (by decide +kernel)⟩
theorem lw_p50 : lw_okq (⟨"SharedComparers$Chip", "hasRungSince", "(II)Z"⟩, 12) := ⟨⟨by decide +kernel, by decide +kernel⟩, List.mem_of_getElem? (i := 21) (by decide +kernel), List.mem_of_getElem? (i := 561) (by decide +kernel), List.mem_of_getElem? (i := 562) (by decide +kernel)⟩
theorem lw_p51 : lw_okq (⟨"SharedComparers", "tryComparers", "(II)V"⟩, 6) := ⟨⟨by decide +kernel, by decide +kernel⟩, List.mem_of_getElem? (i := 13) (by decide +kernel), List.mem_of_getElem? (i := 570) (by decide +kernel), List.mem_of_getElem? (i := 571) (by decide +kernel)⟩
theorem lw_p52 : lw_okq (⟨"SharedComparers$Totals", "clear", "()V"⟩, 6) := ⟨⟨by decide +kernel, by decide +kernel⟩, List.mem_of_getElem? (i := 96) (by decide +kernel), List.mem_of_getElem? (i := 574) (by decide +kernel), List.mem_of_getElem? (i := 575) (by decide +kernel)⟩
theorem lw_p53 : lw_okq (⟨"SharedComparers$RingLog", "tell", "(II)I"⟩, 2) := ⟨⟨by decide +kernel, by decide +kernel⟩, List.mem_of_getElem? (i := 130) (by decide +kernel), List.mem_of_getElem? (i := 586) (by decide +kernel), List.mem_of_getElem? (i := 587) (by decide +kernel)⟩
theorem lw_p54 : lw_okq (⟨"SharedComparers$Chip", "alarmsWithoutComparer", "()I"⟩, 12) := ⟨⟨by decide +kernel, by decide +kernel⟩, List.mem_of_getElem? (i := 21) (by decide +kernel), List.mem_of_getElem? (i := 594) (by decide +kernel), List.mem_of_getElem? (i := 595) (by decide +kernel)⟩
theorem lw_p55 : lw_okq (⟨"SharedComparers$Chip", "freeComparers", "()I"⟩, 12) := ⟨⟨by decide +kernel, by decide +kernel⟩, List.mem_of_getElem? (i := 21) (by decide +kernel), List.mem_of_getElem? (i := 598) (by decide +kernel), List.mem_of_getElem? (i := 599) (by decide +kernel)⟩
theorem lw_p56 : lw_okq (⟨"SharedComparersModel", "records", "()V"⟩, 11) := ⟨⟨by decide +kernel, by decide +kernel⟩, List.mem_of_getElem? (i := 602) (by decide +kernel), List.mem_of_getElem? (i := 650) (by decide +kernel), List.mem_of_getElem? (i := 651) (by decide +kernel)⟩
theorem lw_p57 : lw_okq (⟨"SharedComparersModel", "fault", "()I"⟩, 11) := ⟨⟨by decide +kernel, by decide +kernel⟩, List.mem_of_getElem? (i := 602) (by decide +kernel), List.mem_of_getElem? (i := 706) (by decide +kernel), List.mem_of_getElem? (i := 707) (by decide +kernel)⟩
theorem lw_p58 : lw_okq (⟨"SharedComparersModel", "isAlarmTold", "()Z"⟩, 11) := ⟨⟨by decide +kernel, by decide +kernel⟩, List.mem_of_getElem? (i := 602) (by decide +kernel), List.mem_of_getElem? (i := 710) (by decide +kernel), List.mem_of_getElem? (i := 711) (by decide +kernel)⟩
theorem lw_p59 : lw_okq (⟨"SharedComparersModel", "isNumber", "(III)Z"⟩, 11) := ⟨⟨by decide +kernel, by decide +kernel⟩, List.mem_of_getElem? (i := 602) (by decide +kernel), List.mem_of_getElem? (i := 714) (by decide +kernel), List.mem_of_getElem? (i := 715) (by decide +kernel)⟩
theorem lw_p60 : lw_okq (⟨"SharedComparersModel", "sees", "(II)Z"⟩, 11) := ⟨⟨by decide +kernel, by decide +kernel⟩, List.mem_of_getElem? (i := 602) (by decide +kernel), List.mem_of_getElem? (i := 718) (by decide +kernel), List.mem_of_getElem? (i := 719) (by decide +kernel)⟩
theorem lw_p61 : lw_okq (⟨"SharedComparersModel", "takes", "(I)Z"⟩, 11) := ⟨⟨by decide +kernel, by decide +kernel⟩, List.mem_of_getElem? (i := 602) (by decide +kernel), List.mem_of_getElem? (i := 722) (by decide +kernel), List.mem_of_getElem? (i := 723) (by decide +kernel)⟩
theorem lw_p62 : lw_okq (⟨"SharedComparersModel", "becomes", "(II)I"⟩, 11) := ⟨⟨by decide +kernel, by decide +kernel⟩, List.mem_of_getElem? (i := 602) (by decide +kernel), List.mem_of_getElem? (i := 754) (by decide +kernel), List.mem_of_getElem? (i := 755) (by decide +kernel)⟩
theorem lw_p63 : lw_okq (⟨"SharedComparersModel", "would", "(II)I"⟩, 11) := ⟨⟨by decide +kernel, by decide +kernel⟩, List.mem_of_getElem? (i := 602) (by decide +kernel), List.mem_of_getElem? (i := 835) (by decide +kernel), List.mem_of_getElem? (i := 836) (by decide +kernel)⟩
def lw_privs_4 : List (MethodName × Nat) := [(⟨"SharedComparers$History", "takeBack", "(LSharedComparers$Chip;)V"⟩, 2), (⟨"SharedComparers$Chip", "firstSharerOf", "(I)I"⟩, 12), (⟨"SharedComparers$Chip", "hasRungSince", "(II)Z"⟩, 12), (⟨"SharedComparers", "tryComparers", "(II)V"⟩, 6), (⟨"SharedComparers$Totals", "clear", "()V"⟩, 6), (⟨"SharedComparers$RingLog", "tell", "(II)I"⟩, 2), (⟨"SharedComparers$Chip", "alarmsWithoutComparer", "()I"⟩, 12), (⟨"SharedComparers$Chip", "freeComparers", "()I"⟩, 12), (⟨"SharedComparersModel", "records", "()V"⟩, 11), (⟨"SharedComparersModel", "fault", "()I"⟩, 11), (⟨"SharedComparersModel", "isAlarmTold", "()Z"⟩, 11), (⟨"SharedComparersModel", "isNumber", "(III)Z"⟩, 11), (⟨"SharedComparersModel", "sees", "(II)Z"⟩, 11), (⟨"SharedComparersModel", "takes", "(I)Z"⟩, 11), (⟨"SharedComparersModel", "becomes", "(II)I"⟩, 11), (⟨"SharedComparersModel", "would", "(II)I"⟩, 11)]
theorem lw_r4 : ∀ q ∈ lw_privs_4, lw_okq q := List.forall_mem_cons.mpr ⟨lw_p48, List.forall_mem_cons.mpr ⟨lw_p49, List.forall_mem_cons.mpr ⟨lw_p50, List.forall_mem_cons.mpr ⟨lw_p51, List.forall_mem_cons.mpr ⟨lw_p52, List.forall_mem_cons.mpr ⟨lw_p53, List.forall_mem_cons.mpr ⟨lw_p54, List.forall_mem_cons.mpr ⟨lw_p55, List.forall_mem_cons.mpr ⟨lw_p56, List.forall_mem_cons.mpr ⟨lw_p57, List.forall_mem_cons.mpr ⟨lw_p58, List.forall_mem_cons.mpr ⟨lw_p59, List.forall_mem_cons.mpr ⟨lw_p60, List.forall_mem_cons.mpr ⟨lw_p61, List.forall_mem_cons.mpr ⟨lw_p62, List.forall_mem_cons.mpr ⟨lw_p63, fun _ h => absurd h List.not_mem_nil⟩⟩⟩⟩⟩⟩⟩⟩⟩⟩⟩⟩⟩⟩⟩⟩
theorem lw_p64 : lw_okq (⟨"SharedComparersModel", "free", "()I"⟩, 11) := ⟨⟨by decide +kernel, by decide +kernel⟩, List.mem_of_getElem? (i := 602) (by decide +kernel), List.mem_of_getElem? (i := 851) (by decide +kernel), List.mem_of_getElem? (i := 852) (by decide +kernel)⟩
def lw_privs_5 : List (MethodName × Nat) := [(⟨"SharedComparersModel", "free", "()I"⟩, 11)]
theorem lw_r5 : ∀ q ∈ lw_privs_5, lw_okq q := List.forall_mem_cons.mpr ⟨lw_p64, fun _ h => absurd h List.not_mem_nil⟩
def lw_privs : List (MethodName × Nat) := lw_privs_1 ++ (lw_privs_2 ++ (lw_privs_3 ++ (lw_privs_4 ++ (lw_privs_5))))
def lw_tbl : List Cond := k2_sels lw_privs ++ tables_1
theorem lw_privs_ok : ∀ q ∈ lw_privs, lw_okq q := by
  show ∀ q ∈ lw_privs_1 ++ (lw_privs_2 ++ (lw_privs_3 ++ (lw_privs_4 ++ (lw_privs_5)))), lw_okq q
  exact List.forall_mem_append.mpr ⟨lw_r1, List.forall_mem_append.mpr ⟨lw_r2, List.forall_mem_append.mpr ⟨lw_r3, List.forall_mem_append.mpr ⟨lw_r4, lw_r5⟩⟩⟩⟩
end
section
/-! ===== names, fields: printed by a program out of the claim ===== -/
def RX0 : String := "SharedComparers$Alarm"
def TX0 : u_T := fun k => match k with
  | 0 => ("SharedComparers$Alarm", "number", "I", false)
  | 1 => ("SharedComparers$Alarm", "time", "I", false)
  | 2 => ("SharedComparers$Alarm", "period", "I", false)
  | 3 => ("SharedComparers$Alarm", "rank", "I", false)
  | 4 => ("SharedComparers$Alarm", "comparer", "I", false)
  | 5 => ("SharedComparers$Alarm", "rings", "I", false)
  | 6 => ("SharedComparers$Alarm", "greatestSlip", "I", false)
  | _ => ("SharedComparers$Alarm", "isOver", "Z", false)
def tyX0 : Nat → FieldType := fun k => match k with
  | 0 => .int
  | 1 => .int
  | 2 => .int
  | 3 => .int
  | 4 => .int
  | 5 => .int
  | 6 => .int
  | _ => .boolean
abbrev wsX00 : List Cond := u_ws RX0 TX0 8
theorem nmX0 : ∀ a, a < 8 → ∀ b, b < 8 → a ≠ b → (TX0 a).2.1 ≠ (TX0 b).2.1 := by decide +kernel
theorem tyX0_ok : ∀ k, k < 8 → parseFieldDescriptor (TX0 k).2.2.1 = some (tyX0 k) := by decide +kernel
abbrev cX0_init : ByteArray := prog_2_method_1_code
def yX0_init : MethodName := ⟨RX0, "<init>", "()V"⟩
abbrev cX0_begin : ByteArray := prog_2_method_2_code
def yX0_begin : MethodName := ⟨RX0, "begin", "(IIII)V"⟩
abbrev cX0_copyFrom : ByteArray := prog_2_method_3_code
def yX0_copyFrom : MethodName := ⟨RX0, "copyFrom", "(LSharedComparers$Alarm;)V"⟩
abbrev cX0_isBefore : ByteArray := prog_2_method_4_code
def yX0_isBefore : MethodName := ⟨RX0, "isBefore", "(LSharedComparers$Alarm;)Z"⟩
abbrev cX0_noteRing : ByteArray := prog_2_method_5_code
def yX0_noteRing : MethodName := ⟨RX0, "noteRing", "(I)V"⟩
abbrev cX0_goOn : ByteArray := prog_2_method_6_code
def yX0_goOn : MethodName := ⟨RX0, "goOn", "(I)I"⟩
def RX1 : String := "SharedComparers$AlarmText"
def TX1 : u_T := fun k => match k with
  | 0 => ("SharedComparers$AlarmText", "characters", "[C", true)
  | 1 => ("SharedComparers$AlarmText", "length", "I", false)
  | 2 => ("SharedComparers$AlarmText", "times", "[I", true)
  | 3 => ("SharedComparers$AlarmText", "periods", "[I", true)
  | 4 => ("SharedComparers$AlarmText", "ranks", "[I", true)
  | 5 => ("SharedComparers$AlarmText", "listed", "I", false)
  | _ => ("SharedComparers$AlarmText", "position", "I", false)
def tyX1 : Nat → FieldType := fun k => match k with
  | 0 => .array .char
  | 1 => .int
  | 2 => .array .int
  | 3 => .array .int
  | 4 => .array .int
  | 5 => .int
  | _ => .int
abbrev wsX10 : List Cond := u_ws RX1 TX1 7
theorem nmX1 : ∀ a, a < 7 → ∀ b, b < 7 → a ≠ b → (TX1 a).2.1 ≠ (TX1 b).2.1 := by decide +kernel
theorem tyX1_ok : ∀ k, k < 7 → parseFieldDescriptor (TX1 k).2.2.1 = some (tyX1 k) := by decide +kernel
abbrev cX1_init : ByteArray := prog_3_method_1_code
def yX1_init : MethodName := ⟨RX1, "<init>", "()V"⟩
abbrev cX1_append : ByteArray := prog_3_method_2_code
def yX1_append : MethodName := ⟨RX1, "append", "(C)Z"⟩
abbrev cX1_readList : ByteArray := prog_3_method_3_code
def yX1_readList : MethodName := ⟨RX1, "readList", "()I"⟩
abbrev cX1_readAlarm : ByteArray := prog_3_method_4_code
def yX1_readAlarm : MethodName := ⟨RX1, "readAlarm", "()Z"⟩
abbrev cX1_readSign : ByteArray := prog_3_method_5_code
def yX1_readSign : MethodName := ⟨RX1, "readSign", "(C)Z"⟩
abbrev cX1_readNumber : ByteArray := prog_3_method_6_code
def yX1_readNumber : MethodName := ⟨RX1, "readNumber", "(II)I"⟩
abbrev cX1_digitHere : ByteArray := prog_3_method_7_code
def yX1_digitHere : MethodName := ⟨RX1, "digitHere", "()I"⟩
abbrev cX1_leastTime : ByteArray := prog_3_method_8_code
def yX1_leastTime : MethodName := ⟨RX1, "leastTime", "()I"⟩
def RX2 : String := "SharedComparers$Chip"
def TX2 : u_T := fun k => match k with
  | 0 => ("SharedComparers$Chip", "counter", "I", false)
  | 1 => ("SharedComparers$Chip", "ticks", "I", false)
  | 2 => ("SharedComparers$Chip", "drift", "I", false)
  | 3 => ("SharedComparers$Chip", "window", "I", false)
  | 4 => ("SharedComparers$Chip", "loading", "I", false)
  | 5 => ("SharedComparers$Chip", "alarmsSet", "I", false)
  | 6 => ("SharedComparers$Chip", "alarmsEver", "I", false)
  | 7 => ("SharedComparers$Chip", "comparersInUse", "I", false)
  | 8 => ("SharedComparers$Chip", "alarms", "[LSharedComparers$Alarm;", true)
  | 9 => ("SharedComparers$Chip", "comparers", "[LSharedComparers$Comparer;", true)
  | 10 => ("SharedComparers$Chip", "totals", "LSharedComparers$Totals;", true)
  | _ => ("SharedComparers$Chip", "log", "LSharedComparers$RingLog;", true)
def tyX2 : Nat → FieldType := fun k => match k with
  | 0 => .int
  | 1 => .int
  | 2 => .int
  | 3 => .int
  | 4 => .int
  | 5 => .int
  | 6 => .int
  | 7 => .int
  | 8 => .array (.object "SharedComparers$Alarm")
  | 9 => .array (.object "SharedComparers$Comparer")
  | 10 => .object "SharedComparers$Totals"
  | _ => .object "SharedComparers$RingLog"
abbrev wsX20 : List Cond := u_ws RX2 TX2 12
theorem nmX2 : ∀ a, a < 12 → ∀ b, b < 12 → a ≠ b → (TX2 a).2.1 ≠ (TX2 b).2.1 := by decide +kernel
theorem tyX2_ok : ∀ k, k < 12 → parseFieldDescriptor (TX2 k).2.2.1 = some (tyX2 k) := by decide +kernel
abbrev cX2_init : ByteArray := prog_4_method_1_code
def yX2_init : MethodName := ⟨RX2, "<init>", "()V"⟩
abbrev cX2_copyFrom : ByteArray := prog_4_method_2_code
def yX2_copyFrom : MethodName := ⟨RX2, "copyFrom", "(LSharedComparers$Chip;)V"⟩
abbrev cX2_hasRoomFor : ByteArray := prog_4_method_3_code
def yX2_hasRoomFor : MethodName := ⟨RX2, "hasRoomFor", "(I)Z"⟩
abbrev cX2_placeOf : ByteArray := prog_4_method_4_code
def yX2_placeOf : MethodName := ⟨RX2, "placeOf", "(I)I"⟩
abbrev cX2_hasRungSince : ByteArray := prog_4_method_5_code
def yX2_hasRungSince : MethodName := ⟨RX2, "hasRungSince", "(II)Z"⟩
abbrev cX2_addAlarm : ByteArray := prog_4_method_6_code
def yX2_addAlarm : MethodName := ⟨RX2, "addAlarm", "(III)I"⟩
abbrev cX2_cancelAlarm : ByteArray := prog_4_method_7_code
def yX2_cancelAlarm : MethodName := ⟨RX2, "cancelAlarm", "(I)V"⟩
abbrev cX2_moveAlarm : ByteArray := prog_4_method_8_code
def yX2_moveAlarm : MethodName := ⟨RX2, "moveAlarm", "(II)V"⟩
abbrev cX2_sortAlarms : ByteArray := prog_4_method_9_code
def yX2_sortAlarms : MethodName := ⟨RX2, "sortAlarms", "()V"⟩
abbrev cX2_removeAlarm : ByteArray := prog_4_method_10_code
def yX2_removeAlarm : MethodName := ⟨RX2, "removeAlarm", "(I)V"⟩
abbrev cX2_alarmsWithoutComparer : ByteArray := prog_4_method_11_code
def yX2_alarmsWithoutComparer : MethodName := ⟨RX2, "alarmsWithoutComparer", "()I"⟩
abbrev cX2_tick : ByteArray := prog_4_method_12_code
def yX2_tick : MethodName := ⟨RX2, "tick", "()V"⟩
abbrev cX2_growth : ByteArray := prog_4_method_13_code
def yX2_growth : MethodName := ⟨RX2, "growth", "()I"⟩
abbrev cX2_ringComparer : ByteArray := prog_4_method_14_code
def yX2_ringComparer : MethodName := ⟨RX2, "ringComparer", "(I)V"⟩
abbrev cX2_ringAlarm : ByteArray := prog_4_method_15_code
def yX2_ringAlarm : MethodName := ⟨RX2, "ringAlarm", "(LSharedComparers$Alarm;I)V"⟩
abbrev cX2_changeComparers : ByteArray := prog_4_method_16_code
def yX2_changeComparers : MethodName := ⟨RX2, "changeComparers", "(I)V"⟩
abbrev cX2_sendOffSharers : ByteArray := prog_4_method_17_code
def yX2_sendOffSharers : MethodName := ⟨RX2, "sendOffSharers", "(I)V"⟩
abbrev cX2_takeOff : ByteArray := prog_4_method_18_code
def yX2_takeOff : MethodName := ⟨RX2, "takeOff", "(LSharedComparers$Alarm;)V"⟩
abbrev cX2_freeComparers : ByteArray := prog_4_method_19_code
def yX2_freeComparers : MethodName := ⟨RX2, "freeComparers", "()I"⟩
abbrev cX2_firstSharerOf : ByteArray := prog_4_method_20_code
def yX2_firstSharerOf : MethodName := ⟨RX2, "firstSharerOf", "(I)I"⟩
abbrev cX2_shareOut : ByteArray := prog_4_method_21_code
def yX2_shareOut : MethodName := ⟨RX2, "shareOut", "()V"⟩
abbrev cX2_firstWithoutComparer : ByteArray := prog_4_method_22_code
def yX2_firstWithoutComparer : MethodName := ⟨RX2, "firstWithoutComparer", "()I"⟩
abbrev cX2_findComparerFor : ByteArray := prog_4_method_23_code
def yX2_findComparerFor : MethodName := ⟨RX2, "findComparerFor", "(LSharedComparers$Alarm;)Z"⟩
abbrev cX2_firstThatCanTake : ByteArray := prog_4_method_24_code
def yX2_firstThatCanTake : MethodName := ⟨RX2, "firstThatCanTake", "(I)I"⟩
abbrev cX2_firstFree : ByteArray := prog_4_method_25_code
def yX2_firstFree : MethodName := ⟨RX2, "firstFree", "()I"⟩
abbrev cX2_firstOfGreatestCount : ByteArray := prog_4_method_26_code
def yX2_firstOfGreatestCount : MethodName := ⟨RX2, "firstOfGreatestCount", "()I"⟩
abbrev cX2_loadFor : ByteArray := prog_4_method_27_code
def yX2_loadFor : MethodName := ⟨RX2, "loadFor", "(LSharedComparers$Alarm;I)V"⟩
def RX3 : String := "SharedComparers$Comparer"
def TX3 : u_T := fun k => match k with
  | 0 => ("SharedComparers$Comparer", "sharers", "I", false)
  | 1 => ("SharedComparers$Comparer", "least", "I", false)
  | 2 => ("SharedComparers$Comparer", "count", "I", false)
  | _ => ("SharedComparers$Comparer", "ticksToLoad", "I", false)
def tyX3 : Nat → FieldType := fun k => match k with
  | 0 => .int
  | 1 => .int
  | 2 => .int
  | _ => .int
abbrev wsX30 : List Cond := u_ws RX3 TX3 4
theorem nmX3 : ∀ a, a < 4 → ∀ b, b < 4 → a ≠ b → (TX3 a).2.1 ≠ (TX3 b).2.1 := by decide +kernel
theorem tyX3_ok : ∀ k, k < 4 → parseFieldDescriptor (TX3 k).2.2.1 = some (tyX3 k) := by decide +kernel
abbrev cX3_init : ByteArray := prog_5_method_1_code
def yX3_init : MethodName := ⟨RX3, "<init>", "()V"⟩
abbrev cX3_copyFrom : ByteArray := prog_5_method_2_code
def yX3_copyFrom : MethodName := ⟨RX3, "copyFrom", "(LSharedComparers$Comparer;)V"⟩
abbrev cX3_isFree : ByteArray := prog_5_method_3_code
def yX3_isFree : MethodName := ⟨RX3, "isFree", "()Z"⟩
abbrev cX3_isDue : ByteArray := prog_5_method_4_code
def yX3_isDue : MethodName := ⟨RX3, "isDue", "(I)Z"⟩
abbrev cX3_canTake : ByteArray := prog_5_method_5_code
def yX3_canTake : MethodName := ⟨RX3, "canTake", "(II)Z"⟩
abbrev cX3_release : ByteArray := prog_5_method_6_code
def yX3_release : MethodName := ⟨RX3, "release", "()V"⟩
abbrev cX3_load : ByteArray := prog_5_method_7_code
def yX3_load : MethodName := ⟨RX3, "load", "(II)V"⟩
abbrev cX3_join : ByteArray := prog_5_method_8_code
def yX3_join : MethodName := ⟨RX3, "join", "(I)V"⟩
abbrev cX3_loadOn : ByteArray := prog_5_method_9_code
def yX3_loadOn : MethodName := ⟨RX3, "loadOn", "()V"⟩
def RX4 : String := "SharedComparers$History"
def TX4 : u_T := fun k => match k with
  | 0 => ("SharedComparers$History", "kept", "[LSharedComparers$Chip;", true)
  | _ => ("SharedComparers$History", "states", "I", false)
def tyX4 : Nat → FieldType := fun k => match k with
  | 0 => .array (.object "SharedComparers$Chip")
  | _ => .int
abbrev wsX40 : List Cond := u_ws RX4 TX4 2
theorem nmX4 : ∀ a, a < 2 → ∀ b, b < 2 → a ≠ b → (TX4 a).2.1 ≠ (TX4 b).2.1 := by decide +kernel
theorem tyX4_ok : ∀ k, k < 2 → parseFieldDescriptor (TX4 k).2.2.1 = some (tyX4 k) := by decide +kernel
abbrev cX4_init : ByteArray := prog_6_method_1_code
def yX4_init : MethodName := ⟨RX4, "<init>", "()V"⟩
abbrev cX4_recordState : ByteArray := prog_6_method_2_code
def yX4_recordState : MethodName := ⟨RX4, "recordState", "(LSharedComparers$Chip;)V"⟩
abbrev cX4_dropOldest : ByteArray := prog_6_method_3_code
def yX4_dropOldest : MethodName := ⟨RX4, "dropOldest", "()V"⟩
abbrev cX4_takeBack : ByteArray := prog_6_method_4_code
def yX4_takeBack : MethodName := ⟨RX4, "takeBack", "(LSharedComparers$Chip;)V"⟩
def RX5 : String := "SharedComparers$RingLog"
def TX5 : u_T := fun k => match k with
  | 0 => ("SharedComparers$RingLog", "facts", "[I", true)
  | _ => ("SharedComparers$RingLog", "noted", "I", false)
def tyX5 : Nat → FieldType := fun k => match k with
  | 0 => .array .int
  | _ => .int
abbrev wsX50 : List Cond := u_ws RX5 TX5 2
theorem nmX5 : ∀ a, a < 2 → ∀ b, b < 2 → a ≠ b → (TX5 a).2.1 ≠ (TX5 b).2.1 := by decide +kernel
theorem tyX5_ok : ∀ k, k < 2 → parseFieldDescriptor (TX5 k).2.2.1 = some (tyX5 k) := by decide +kernel
abbrev cX5_init : ByteArray := prog_7_method_1_code
def yX5_init : MethodName := ⟨RX5, "<init>", "()V"⟩
abbrev cX5_copyFrom : ByteArray := prog_7_method_2_code
def yX5_copyFrom : MethodName := ⟨RX5, "copyFrom", "(LSharedComparers$RingLog;)V"⟩
abbrev cX5_note : ByteArray := prog_7_method_3_code
def yX5_note : MethodName := ⟨RX5, "note", "(IIII)V"⟩
abbrev cX5_tell : ByteArray := prog_7_method_4_code
def yX5_tell : MethodName := ⟨RX5, "tell", "(II)I"⟩
def RX6 : String := "SharedComparers$Totals"
def TX6 : u_T := fun k => match k with
  | 0 => ("SharedComparers$Totals", "rings", "I", false)
  | 1 => ("SharedComparers$Totals", "slips", "I", false)
  | 2 => ("SharedComparers$Totals", "greatestSlip", "I", false)
  | 3 => ("SharedComparers$Totals", "missed", "I", false)
  | 4 => ("SharedComparers$Totals", "loaded", "I", false)
  | _ => ("SharedComparers$Totals", "takenOver", "I", false)
def tyX6 : Nat → FieldType := fun k => match k with
  | 0 => .int
  | 1 => .int
  | 2 => .int
  | 3 => .int
  | 4 => .int
  | _ => .int
abbrev wsX60 : List Cond := u_ws RX6 TX6 6
theorem nmX6 : ∀ a, a < 6 → ∀ b, b < 6 → a ≠ b → (TX6 a).2.1 ≠ (TX6 b).2.1 := by decide +kernel
theorem tyX6_ok : ∀ k, k < 6 → parseFieldDescriptor (TX6 k).2.2.1 = some (tyX6 k) := by decide +kernel
abbrev cX6_init : ByteArray := prog_8_method_1_code
def yX6_init : MethodName := ⟨RX6, "<init>", "()V"⟩
abbrev cX6_clear : ByteArray := prog_8_method_2_code
def yX6_clear : MethodName := ⟨RX6, "clear", "()V"⟩
abbrev cX6_copyFrom : ByteArray := prog_8_method_3_code
def yX6_copyFrom : MethodName := ⟨RX6, "copyFrom", "(LSharedComparers$Totals;)V"⟩
abbrev cX6_noteRing : ByteArray := prog_8_method_4_code
def yX6_noteRing : MethodName := ⟨RX6, "noteRing", "(I)V"⟩
def RX7 : String := "SharedComparers"
def TX7 : u_T := fun k => match k with
  | 0 => ("SharedComparers", "chip", "LSharedComparers$Chip;", true)
  | 1 => ("SharedComparers", "trial", "LSharedComparers$Chip;", true)
  | 2 => ("SharedComparers", "snapshot", "LSharedComparers$Chip;", true)
  | 3 => ("SharedComparers", "history", "LSharedComparers$History;", true)
  | 4 => ("SharedComparers", "text", "LSharedComparers$AlarmText;", true)
  | _ => ("SharedComparers", "isKept", "Z", false)
def tyX7 : Nat → FieldType := fun k => match k with
  | 0 => .object "SharedComparers$Chip"
  | 1 => .object "SharedComparers$Chip"
  | 2 => .object "SharedComparers$Chip"
  | 3 => .object "SharedComparers$History"
  | 4 => .object "SharedComparers$AlarmText"
  | _ => .boolean
abbrev wsX70 : List Cond := u_ws RX7 TX7 6
theorem nmX7 : ∀ a, a < 6 → ∀ b, b < 6 → a ≠ b → (TX7 a).2.1 ≠ (TX7 b).2.1 := by decide +kernel
theorem tyX7_ok : ∀ k, k < 6 → parseFieldDescriptor (TX7 k).2.2.1 = some (tyX7 k) := by decide +kernel
abbrev cX7_init : ByteArray := prog_1_method_1_code
def yX7_init : MethodName := ⟨RX7, "<init>", "()V"⟩
abbrev cX7_set : ByteArray := prog_1_method_2_code
def yX7_set : MethodName := ⟨RX7, "set", "(III)I"⟩
abbrev cX7_setAll : ByteArray := prog_1_method_3_code
def yX7_setAll : MethodName := ⟨RX7, "setAll", "()I"⟩
abbrev cX7_cancel : ByteArray := prog_1_method_4_code
def yX7_cancel : MethodName := ⟨RX7, "cancel", "(I)I"⟩
abbrev cX7_move : ByteArray := prog_1_method_5_code
def yX7_move : MethodName := ⟨RX7, "move", "(II)I"⟩
abbrev cX7_setComparers : ByteArray := prog_1_method_6_code
def yX7_setComparers : MethodName := ⟨RX7, "setComparers", "(I)I"⟩
abbrev cX7_setWindow : ByteArray := prog_1_method_7_code
def yX7_setWindow : MethodName := ⟨RX7, "setWindow", "(I)I"⟩
abbrev cX7_setLoading : ByteArray := prog_1_method_8_code
def yX7_setLoading : MethodName := ⟨RX7, "setLoading", "(I)I"⟩
abbrev cX7_setDrift : ByteArray := prog_1_method_9_code
def yX7_setDrift : MethodName := ⟨RX7, "setDrift", "(I)I"⟩
abbrev cX7_correct : ByteArray := prog_1_method_10_code
def yX7_correct : MethodName := ⟨RX7, "correct", "(I)I"⟩
abbrev cX7_run : ByteArray := prog_1_method_11_code
def yX7_run : MethodName := ⟨RX7, "run", "(I)I"⟩
abbrev cX7_type : ByteArray := prog_1_method_12_code
def yX7_type : MethodName := ⟨RX7, "type", "(C)I"⟩
abbrev cX7_clearText : ByteArray := prog_1_method_13_code
def yX7_clearText : MethodName := ⟨RX7, "clearText", "()I"⟩
abbrev cX7_undo : ByteArray := prog_1_method_14_code
def yX7_undo : MethodName := ⟨RX7, "undo", "()I"⟩
abbrev cX7_keep : ByteArray := prog_1_method_15_code
def yX7_keep : MethodName := ⟨RX7, "keep", "()I"⟩
abbrev cX7_restore : ByteArray := prog_1_method_16_code
def yX7_restore : MethodName := ⟨RX7, "restore", "()I"⟩
abbrev cX7_alarm : ByteArray := prog_1_method_17_code
def yX7_alarm : MethodName := ⟨RX7, "alarm", "(II)I"⟩
abbrev cX7_comparer : ByteArray := prog_1_method_18_code
def yX7_comparer : MethodName := ⟨RX7, "comparer", "(II)I"⟩
abbrev cX7_at : ByteArray := prog_1_method_19_code
def yX7_at : MethodName := ⟨RX7, "at", "(I)I"⟩
abbrev cX7_ringsIn : ByteArray := prog_1_method_20_code
def yX7_ringsIn : MethodName := ⟨RX7, "ringsIn", "(I)I"⟩
abbrev cX7_ifComparers : ByteArray := prog_1_method_21_code
def yX7_ifComparers : MethodName := ⟨RX7, "ifComparers", "(III)I"⟩
abbrev cX7_fewest : ByteArray := prog_1_method_22_code
def yX7_fewest : MethodName := ⟨RX7, "fewest", "(I)I"⟩
abbrev cX7_ring : ByteArray := prog_1_method_23_code
def yX7_ring : MethodName := ⟨RX7, "ring", "(II)I"⟩
abbrev cX7_count : ByteArray := prog_1_method_24_code
def yX7_count : MethodName := ⟨RX7, "count", "(I)I"⟩
abbrev cX7_isWithin : ByteArray := prog_1_method_25_code
def yX7_isWithin : MethodName := ⟨RX7, "isWithin", "(III)Z"⟩
abbrev cX7_tryComparers : ByteArray := prog_1_method_26_code
def yX7_tryComparers : MethodName := ⟨RX7, "tryComparers", "(II)V"⟩
def RX8 : String := "SharedComparersModel"
def TX8 : u_T := fun k => match k with
  | 0 => ("SharedComparersModel", "now", "[I", true)
  | 1 => ("SharedComparersModel", "then", "[I", true)
  | 2 => ("SharedComparersModel", "past", "[I", true)
  | 3 => ("SharedComparersModel", "states", "I", false)
  | 4 => ("SharedComparersModel", "snapshot", "[I", true)
  | 5 => ("SharedComparersModel", "isKept", "Z", false)
  | 6 => ("SharedComparersModel", "text", "[C", true)
  | 7 => ("SharedComparersModel", "length", "I", false)
  | 8 => ("SharedComparersModel", "spot", "I", false)
  | 9 => ("SharedComparersModel", "told", "[I", true)
  | _ => ("SharedComparersModel", "toldMany", "I", false)
def tyX8 : Nat → FieldType := fun k => match k with
  | 0 => .array .int
  | 1 => .array .int
  | 2 => .array .int
  | 3 => .int
  | 4 => .array .int
  | 5 => .boolean
  | 6 => .array .char
  | 7 => .int
  | 8 => .int
  | 9 => .array .int
  | _ => .int
abbrev wsX80 : List Cond := u_ws RX8 TX8 11
theorem nmX8 : ∀ a, a < 11 → ∀ b, b < 11 → a ≠ b → (TX8 a).2.1 ≠ (TX8 b).2.1 := by decide +kernel
theorem tyX8_ok : ∀ k, k < 11 → parseFieldDescriptor (TX8 k).2.2.1 = some (tyX8 k) := by decide +kernel
abbrev cX8_init : ByteArray := prog_10_method_1_code
def yX8_init : MethodName := ⟨RX8, "<init>", "()V"⟩
abbrev cX8_in : ByteArray := prog_10_method_3_code
def yX8_in : MethodName := ⟨RX8, "in", "(III)Z"⟩
abbrev cX8_lays : ByteArray := prog_10_method_4_code
def yX8_lays : MethodName := ⟨RX8, "lays", "([II[II)V"⟩
abbrev cX8_records : ByteArray := prog_10_method_5_code
def yX8_records : MethodName := ⟨RX8, "records", "()V"⟩
abbrev cX8_of : ByteArray := prog_10_method_6_code
def yX8_of : MethodName := ⟨RX8, "of", "([III)I"⟩
abbrev cX8_put : ByteArray := prog_10_method_7_code
def yX8_put : MethodName := ⟨RX8, "put", "([IIII)V"⟩
abbrev cX8_find : ByteArray := prog_10_method_8_code
def yX8_find : MethodName := ⟨RX8, "find", "([II)I"⟩
abbrev cX8_isAhead : ByteArray := prog_10_method_9_code
def yX8_isAhead : MethodName := ⟨RX8, "isAhead", "([III)Z"⟩
abbrev cX8_firstOf : ByteArray := prog_10_method_10_code
def yX8_firstOf : MethodName := ⟨RX8, "firstOf", "([II)I"⟩
abbrev cX8_placeOf : ByteArray := prog_10_method_11_code
def yX8_placeOf : MethodName := ⟨RX8, "placeOf", "([II)I"⟩
abbrev cX8_countOf : ByteArray := prog_10_method_12_code
def yX8_countOf : MethodName := ⟨RX8, "countOf", "([II)I"⟩
abbrev cX8_sharing : ByteArray := prog_10_method_13_code
def yX8_sharing : MethodName := ⟨RX8, "sharing", "([II)I"⟩
abbrev cX8_extreme : ByteArray := prog_10_method_14_code
def yX8_extreme : MethodName := ⟨RX8, "extreme", "([IIIZ)I"⟩
abbrev cX8_fits : ByteArray := prog_10_method_15_code
def yX8_fits : MethodName := ⟨RX8, "fits", "([III)Z"⟩
abbrev cX8_joinable : ByteArray := prog_10_method_16_code
def yX8_joinable : MethodName := ⟨RX8, "joinable", "([II)I"⟩
abbrev cX8_freeOne : ByteArray := prog_10_method_17_code
def yX8_freeOne : MethodName := ⟨RX8, "freeOne", "([I)I"⟩
abbrev cX8_latest : ByteArray := prog_10_method_18_code
def yX8_latest : MethodName := ⟨RX8, "latest", "([I)I"⟩
abbrev cX8_frees : ByteArray := prog_10_method_19_code
def yX8_frees : MethodName := ⟨RX8, "frees", "([II)V"⟩
abbrev cX8_loads : ByteArray := prog_10_method_20_code
def yX8_loads : MethodName := ⟨RX8, "loads", "([III)V"⟩
abbrev cX8_isShared : ByteArray := prog_10_method_21_code
def yX8_isShared : MethodName := ⟨RX8, "isShared", "([II)Z"⟩
abbrev cX8_shares : ByteArray := prog_10_method_22_code
def yX8_shares : MethodName := ⟨RX8, "shares", "([I)V"⟩
abbrev cX8_takesOff : ByteArray := prog_10_method_23_code
def yX8_takesOff : MethodName := ⟨RX8, "takesOff", "([II)V"⟩
abbrev cX8_removes : ByteArray := prog_10_method_24_code
def yX8_removes : MethodName := ⟨RX8, "removes", "([II)V"⟩
abbrev cX8_logs : ByteArray := prog_10_method_25_code
def yX8_logs : MethodName := ⟨RX8, "logs", "([IIII)V"⟩
abbrev cX8_rings : ByteArray := prog_10_method_26_code
def yX8_rings : MethodName := ⟨RX8, "rings", "([II)V"⟩
abbrev cX8_ringsAll : ByteArray := prog_10_method_27_code
def yX8_ringsAll : MethodName := ⟨RX8, "ringsAll", "([II)I"⟩
abbrev cX8_tick : ByteArray := prog_10_method_28_code
def yX8_tick : MethodName := ⟨RX8, "tick", "([I)I"⟩
abbrev cX8_ticks : ByteArray := prog_10_method_29_code
def yX8_ticks : MethodName := ⟨RX8, "ticks", "([II)I"⟩
abbrev cX8_sets : ByteArray := prog_10_method_30_code
def yX8_sets : MethodName := ⟨RX8, "sets", "([IIII)V"⟩
abbrev cX8_set : ByteArray := prog_10_method_31_code
def yX8_set : MethodName := ⟨RX8, "set", "(III)I"⟩
abbrev cX8_setAll : ByteArray := prog_10_method_32_code
def yX8_setAll : MethodName := ⟨RX8, "setAll", "()I"⟩
abbrev cX8_cancel : ByteArray := prog_10_method_33_code
def yX8_cancel : MethodName := ⟨RX8, "cancel", "(I)I"⟩
abbrev cX8_move : ByteArray := prog_10_method_34_code
def yX8_move : MethodName := ⟨RX8, "move", "(II)I"⟩
abbrev cX8_setsComparers : ByteArray := prog_10_method_35_code
def yX8_setsComparers : MethodName := ⟨RX8, "setsComparers", "([II)V"⟩
abbrev cX8_setComparers : ByteArray := prog_10_method_36_code
def yX8_setComparers : MethodName := ⟨RX8, "setComparers", "(I)I"⟩
abbrev cX8_becomes : ByteArray := prog_10_method_37_code
def yX8_becomes : MethodName := ⟨RX8, "becomes", "(II)I"⟩
abbrev cX8_setWindow : ByteArray := prog_10_method_38_code
def yX8_setWindow : MethodName := ⟨RX8, "setWindow", "(I)I"⟩
abbrev cX8_setLoading : ByteArray := prog_10_method_39_code
def yX8_setLoading : MethodName := ⟨RX8, "setLoading", "(I)I"⟩
abbrev cX8_setDrift : ByteArray := prog_10_method_40_code
def yX8_setDrift : MethodName := ⟨RX8, "setDrift", "(I)I"⟩
abbrev cX8_correct : ByteArray := prog_10_method_41_code
def yX8_correct : MethodName := ⟨RX8, "correct", "(I)I"⟩
abbrev cX8_run : ByteArray := prog_10_method_42_code
def yX8_run : MethodName := ⟨RX8, "run", "(I)I"⟩
abbrev cX8_type : ByteArray := prog_10_method_43_code
def yX8_type : MethodName := ⟨RX8, "type", "(C)I"⟩
abbrev cX8_clearText : ByteArray := prog_10_method_44_code
def yX8_clearText : MethodName := ⟨RX8, "clearText", "()I"⟩
abbrev cX8_sees : ByteArray := prog_10_method_45_code
def yX8_sees : MethodName := ⟨RX8, "sees", "(II)Z"⟩
abbrev cX8_takes : ByteArray := prog_10_method_46_code
def yX8_takes : MethodName := ⟨RX8, "takes", "(I)Z"⟩
abbrev cX8_isNumber : ByteArray := prog_10_method_47_code
def yX8_isNumber : MethodName := ⟨RX8, "isNumber", "(III)Z"⟩
abbrev cX8_isAlarmTold : ByteArray := prog_10_method_48_code
def yX8_isAlarmTold : MethodName := ⟨RX8, "isAlarmTold", "()Z"⟩
abbrev cX8_fault : ByteArray := prog_10_method_49_code
def yX8_fault : MethodName := ⟨RX8, "fault", "()I"⟩
abbrev cX8_undo : ByteArray := prog_10_method_50_code
def yX8_undo : MethodName := ⟨RX8, "undo", "()I"⟩
abbrev cX8_keep : ByteArray := prog_10_method_51_code
def yX8_keep : MethodName := ⟨RX8, "keep", "()I"⟩
abbrev cX8_restore : ByteArray := prog_10_method_52_code
def yX8_restore : MethodName := ⟨RX8, "restore", "()I"⟩
abbrev cX8_alarm : ByteArray := prog_10_method_53_code
def yX8_alarm : MethodName := ⟨RX8, "alarm", "(II)I"⟩
abbrev cX8_comparer : ByteArray := prog_10_method_54_code
def yX8_comparer : MethodName := ⟨RX8, "comparer", "(II)I"⟩
abbrev cX8_at : ByteArray := prog_10_method_55_code
def yX8_at : MethodName := ⟨RX8, "at", "(I)I"⟩
abbrev cX8_ringsIn : ByteArray := prog_10_method_56_code
def yX8_ringsIn : MethodName := ⟨RX8, "ringsIn", "(I)I"⟩
abbrev cX8_would : ByteArray := prog_10_method_57_code
def yX8_would : MethodName := ⟨RX8, "would", "(II)I"⟩
abbrev cX8_ifComparers : ByteArray := prog_10_method_58_code
def yX8_ifComparers : MethodName := ⟨RX8, "ifComparers", "(III)I"⟩
abbrev cX8_fewest : ByteArray := prog_10_method_59_code
def yX8_fewest : MethodName := ⟨RX8, "fewest", "(I)I"⟩
abbrev cX8_ring : ByteArray := prog_10_method_60_code
def yX8_ring : MethodName := ⟨RX8, "ring", "(II)I"⟩
abbrev cX8_free : ByteArray := prog_10_method_61_code
def yX8_free : MethodName := ⟨RX8, "free", "()I"⟩
abbrev cX8_count : ByteArray := prog_10_method_62_code
def yX8_count : MethodName := ⟨RX8, "count", "(I)I"⟩
def RJ9 : String := "java/lang/Math"
def TJ9 : u_T := fun k => match k with
  | _ => ("", "", "", false)
def tyJ9 : Nat → FieldType := fun k => match k with
  | _ => .int
abbrev wsJ90 : List Cond := u_ws RJ9 TJ9 0
theorem nmJ9 : ∀ a, a < 0 → ∀ b, b < 0 → a ≠ b → (TJ9 a).2.1 ≠ (TJ9 b).2.1 := by decide +kernel
theorem tyJ9_ok : ∀ k, k < 0 → parseFieldDescriptor (TJ9 k).2.2.1 = some (tyJ9 k) := by decide +kernel
abbrev cJ9_max_7cf53 : ByteArray := prog_11_method_65_code
def yJ9_max_7cf53 : MethodName := ⟨RJ9, "max", "(II)I"⟩
abbrev cJ9_min_7cf53 : ByteArray := prog_11_method_69_code
def yJ9_min_7cf53 : MethodName := ⟨RJ9, "min", "(II)I"⟩
def RJ10 : String := "java/lang/System"
def TJ10 : u_T := fun k => match k with
  | _ => ("", "", "", false)
def tyJ10 : Nat → FieldType := fun k => match k with
  | _ => .int
abbrev wsJ100 : List Cond := u_ws RJ10 TJ10 0
theorem nmJ10 : ∀ a, a < 0 → ∀ b, b < 0 → a ≠ b → (TJ10 a).2.1 ≠ (TJ10 b).2.1 := by decide +kernel
theorem tyJ10_ok : ∀ k, k < 0 → parseFieldDescriptor (TJ10 k).2.2.1 = some (tyJ10 k) := by decide +kernel
def RL : String := "SharedComparersLaw"
abbrev cL_law : ByteArray := code
def yL_law : MethodName := ⟨RL, "law", "([I)Z"⟩
abbrev vwCl : List vw_C := [(RX0, TX0, 8), (RX1, TX1, 7), (RX2, TX2, 12), (RX3, TX3, 4), (RX4, TX4, 2), (RX5, TX5, 2), (RX6, TX6, 6), (RX7, TX7, 6), (RX8, TX8, 11)]
theorem dp_in0 : ∀ w ∈ wsX00, w ∈ lw_tbl.filter goodWord := by decide +kernel
theorem dp_in1 : ∀ w ∈ wsX10, w ∈ lw_tbl.filter goodWord := by decide +kernel
theorem dp_in2 : ∀ w ∈ wsX20, w ∈ lw_tbl.filter goodWord := by decide +kernel
theorem dp_in3 : ∀ w ∈ wsX30, w ∈ lw_tbl.filter goodWord := by decide +kernel
theorem dp_in4 : ∀ w ∈ wsX40, w ∈ lw_tbl.filter goodWord := by decide +kernel
theorem dp_in5 : ∀ w ∈ wsX50, w ∈ lw_tbl.filter goodWord := by decide +kernel
theorem dp_in6 : ∀ w ∈ wsX60, w ∈ lw_tbl.filter goodWord := by decide +kernel
theorem dp_in7 : ∀ w ∈ wsX70, w ∈ lw_tbl.filter goodWord := by decide +kernel
theorem dp_in8 : ∀ w ∈ wsX80, w ∈ lw_tbl.filter goodWord := by decide +kernel
end
section
theorem dX0_init_0 : decode cX0_init 0 = .ok (.aload_n 0, 1) := by decide +kernel
theorem dX0_init_1 : decode cX0_init 1 = .ok (.invokespecial 3, 3) := by decide +kernel
theorem dX0_init_4 : decode cX0_init 4 = .ok (.return_, 1) := by decide +kernel
theorem dX0_begin_0 : decode cX0_begin 0 = .ok (.aload_n 0, 1) := by decide +kernel
theorem dX0_begin_1 : decode cX0_begin 1 = .ok (.iload_n 1, 1) := by decide +kernel
theorem dX0_begin_2 : decode cX0_begin 2 = .ok (.putfield 9, 3) := by decide +kernel
theorem dX0_begin_5 : decode cX0_begin 5 = .ok (.aload_n 0, 1) := by decide +kernel
theorem dX0_begin_6 : decode cX0_begin 6 = .ok (.iload_n 2, 1) := by decide +kernel
theorem dX0_begin_7 : decode cX0_begin 7 = .ok (.putfield 15, 3) := by decide +kernel
theorem dX0_begin_10 : decode cX0_begin 10 = .ok (.aload_n 0, 1) := by decide +kernel
theorem dX0_begin_11 : decode cX0_begin 11 = .ok (.iload_n 3, 1) := by decide +kernel
theorem dX0_begin_12 : decode cX0_begin 12 = .ok (.putfield 18, 3) := by decide +kernel
theorem dX0_begin_15 : decode cX0_begin 15 = .ok (.aload_n 0, 1) := by decide +kernel
theorem dX0_begin_16 : decode cX0_begin 16 = .ok (.iload 4, 2) := by decide +kernel
theorem dX0_begin_18 : decode cX0_begin 18 = .ok (.putfield 21, 3) := by decide +kernel
theorem dX0_begin_21 : decode cX0_begin 21 = .ok (.aload_n 0, 1) := by decide +kernel
theorem dX0_begin_22 : decode cX0_begin 22 = .ok (.sipush (-1005), 3) := by decide +kernel
theorem dX0_begin_25 : decode cX0_begin 25 = .ok (.putfield 24, 3) := by decide +kernel
theorem dX0_begin_28 : decode cX0_begin 28 = .ok (.aload_n 0, 1) := by decide +kernel
theorem dX0_begin_29 : decode cX0_begin 29 = .ok (.iconst 0, 1) := by decide +kernel
theorem dX0_begin_30 : decode cX0_begin 30 = .ok (.putfield 27, 3) := by decide +kernel
theorem dX0_begin_33 : decode cX0_begin 33 = .ok (.aload_n 0, 1) := by decide +kernel
theorem dX0_begin_34 : decode cX0_begin 34 = .ok (.sipush (-1005), 3) := by decide +kernel
theorem dX0_begin_37 : decode cX0_begin 37 = .ok (.putfield 30, 3) := by decide +kernel
theorem dX0_begin_40 : decode cX0_begin 40 = .ok (.aload_n 0, 1) := by decide +kernel
theorem dX0_begin_41 : decode cX0_begin 41 = .ok (.iconst 0, 1) := by decide +kernel
theorem dX0_begin_42 : decode cX0_begin 42 = .ok (.putfield 33, 3) := by decide +kernel
theorem dX0_begin_45 : decode cX0_begin 45 = .ok (.return_, 1) := by decide +kernel
theorem dX0_copyFrom_0 : decode cX0_copyFrom 0 = .ok (.aload_n 0, 1) := by decide +kernel
theorem dX0_copyFrom_1 : decode cX0_copyFrom 1 = .ok (.aload_n 1, 1) := by decide +kernel
theorem dX0_copyFrom_2 : decode cX0_copyFrom 2 = .ok (.getfield 9, 3) := by decide +kernel
theorem dX0_copyFrom_5 : decode cX0_copyFrom 5 = .ok (.putfield 9, 3) := by decide +kernel
theorem dX0_copyFrom_8 : decode cX0_copyFrom 8 = .ok (.aload_n 0, 1) := by decide +kernel
theorem dX0_copyFrom_9 : decode cX0_copyFrom 9 = .ok (.aload_n 1, 1) := by decide +kernel
theorem dX0_copyFrom_10 : decode cX0_copyFrom 10 = .ok (.getfield 15, 3) := by decide +kernel
theorem dX0_copyFrom_13 : decode cX0_copyFrom 13 = .ok (.putfield 15, 3) := by decide +kernel
theorem dX0_copyFrom_16 : decode cX0_copyFrom 16 = .ok (.aload_n 0, 1) := by decide +kernel
theorem dX0_copyFrom_17 : decode cX0_copyFrom 17 = .ok (.aload_n 1, 1) := by decide +kernel
theorem dX0_copyFrom_18 : decode cX0_copyFrom 18 = .ok (.getfield 18, 3) := by decide +kernel
theorem dX0_copyFrom_21 : decode cX0_copyFrom 21 = .ok (.putfield 18, 3) := by decide +kernel
theorem dX0_copyFrom_24 : decode cX0_copyFrom 24 = .ok (.aload_n 0, 1) := by decide +kernel
theorem dX0_copyFrom_25 : decode cX0_copyFrom 25 = .ok (.aload_n 1, 1) := by decide +kernel
theorem dX0_copyFrom_26 : decode cX0_copyFrom 26 = .ok (.getfield 21, 3) := by decide +kernel
theorem dX0_copyFrom_29 : decode cX0_copyFrom 29 = .ok (.putfield 21, 3) := by decide +kernel
theorem dX0_copyFrom_32 : decode cX0_copyFrom 32 = .ok (.aload_n 0, 1) := by decide +kernel
theorem dX0_copyFrom_33 : decode cX0_copyFrom 33 = .ok (.aload_n 1, 1) := by decide +kernel
theorem dX0_copyFrom_34 : decode cX0_copyFrom 34 = .ok (.getfield 24, 3) := by decide +kernel
theorem dX0_copyFrom_37 : decode cX0_copyFrom 37 = .ok (.putfield 24, 3) := by decide +kernel
theorem dX0_copyFrom_40 : decode cX0_copyFrom 40 = .ok (.aload_n 0, 1) := by decide +kernel
theorem dX0_copyFrom_41 : decode cX0_copyFrom 41 = .ok (.aload_n 1, 1) := by decide +kernel
theorem dX0_copyFrom_42 : decode cX0_copyFrom 42 = .ok (.getfield 27, 3) := by decide +kernel
theorem dX0_copyFrom_45 : decode cX0_copyFrom 45 = .ok (.putfield 27, 3) := by decide +kernel
theorem dX0_copyFrom_48 : decode cX0_copyFrom 48 = .ok (.aload_n 0, 1) := by decide +kernel
theorem dX0_copyFrom_49 : decode cX0_copyFrom 49 = .ok (.aload_n 1, 1) := by decide +kernel
theorem dX0_copyFrom_50 : decode cX0_copyFrom 50 = .ok (.getfield 30, 3) := by decide +kernel
theorem dX0_copyFrom_53 : decode cX0_copyFrom 53 = .ok (.putfield 30, 3) := by decide +kernel
theorem dX0_copyFrom_56 : decode cX0_copyFrom 56 = .ok (.aload_n 0, 1) := by decide +kernel
theorem dX0_copyFrom_57 : decode cX0_copyFrom 57 = .ok (.aload_n 1, 1) := by decide +kernel
theorem dX0_copyFrom_58 : decode cX0_copyFrom 58 = .ok (.getfield 33, 3) := by decide +kernel
theorem dX0_copyFrom_61 : decode cX0_copyFrom 61 = .ok (.putfield 33, 3) := by decide +kernel
theorem dX0_copyFrom_64 : decode cX0_copyFrom 64 = .ok (.return_, 1) := by decide +kernel
theorem dX0_isBefore_0 : decode cX0_isBefore 0 = .ok (.aload_n 0, 1) := by decide +kernel
theorem dX0_isBefore_1 : decode cX0_isBefore 1 = .ok (.getfield 15, 3) := by decide +kernel
theorem dX0_isBefore_4 : decode cX0_isBefore 4 = .ok (.aload_n 1, 1) := by decide +kernel
theorem dX0_isBefore_5 : decode cX0_isBefore 5 = .ok (.getfield 15, 3) := by decide +kernel
theorem dX0_isBefore_8 : decode cX0_isBefore 8 = .ok (.if_icmp .eq 20, 3) := by decide +kernel
theorem dX0_isBefore_11 : decode cX0_isBefore 11 = .ok (.aload_n 0, 1) := by decide +kernel
theorem dX0_isBefore_12 : decode cX0_isBefore 12 = .ok (.getfield 15, 3) := by decide +kernel
theorem dX0_isBefore_15 : decode cX0_isBefore 15 = .ok (.aload_n 1, 1) := by decide +kernel
theorem dX0_isBefore_16 : decode cX0_isBefore 16 = .ok (.getfield 15, 3) := by decide +kernel
theorem dX0_isBefore_19 : decode cX0_isBefore 19 = .ok (.if_icmp .ge 7, 3) := by decide +kernel
theorem dX0_isBefore_22 : decode cX0_isBefore 22 = .ok (.iconst 1, 1) := by decide +kernel
theorem dX0_isBefore_23 : decode cX0_isBefore 23 = .ok (.goto 4, 3) := by decide +kernel
theorem dX0_isBefore_26 : decode cX0_isBefore 26 = .ok (.iconst 0, 1) := by decide +kernel
theorem dX0_isBefore_27 : decode cX0_isBefore 27 = .ok (.ireturn, 1) := by decide +kernel
theorem dX0_isBefore_28 : decode cX0_isBefore 28 = .ok (.aload_n 0, 1) := by decide +kernel
theorem dX0_isBefore_29 : decode cX0_isBefore 29 = .ok (.getfield 21, 3) := by decide +kernel
theorem dX0_isBefore_32 : decode cX0_isBefore 32 = .ok (.aload_n 1, 1) := by decide +kernel
theorem dX0_isBefore_33 : decode cX0_isBefore 33 = .ok (.getfield 21, 3) := by decide +kernel
theorem dX0_isBefore_36 : decode cX0_isBefore 36 = .ok (.if_icmp .eq 20, 3) := by decide +kernel
theorem dX0_isBefore_39 : decode cX0_isBefore 39 = .ok (.aload_n 0, 1) := by decide +kernel
theorem dX0_isBefore_40 : decode cX0_isBefore 40 = .ok (.getfield 21, 3) := by decide +kernel
theorem dX0_isBefore_43 : decode cX0_isBefore 43 = .ok (.aload_n 1, 1) := by decide +kernel
theorem dX0_isBefore_44 : decode cX0_isBefore 44 = .ok (.getfield 21, 3) := by decide +kernel
theorem dX0_isBefore_47 : decode cX0_isBefore 47 = .ok (.if_icmp .le 7, 3) := by decide +kernel
theorem dX0_isBefore_50 : decode cX0_isBefore 50 = .ok (.iconst 1, 1) := by decide +kernel
theorem dX0_isBefore_51 : decode cX0_isBefore 51 = .ok (.goto 4, 3) := by decide +kernel
theorem dX0_isBefore_54 : decode cX0_isBefore 54 = .ok (.iconst 0, 1) := by decide +kernel
theorem dX0_isBefore_55 : decode cX0_isBefore 55 = .ok (.ireturn, 1) := by decide +kernel
theorem dX0_isBefore_56 : decode cX0_isBefore 56 = .ok (.aload_n 0, 1) := by decide +kernel
theorem dX0_isBefore_57 : decode cX0_isBefore 57 = .ok (.getfield 9, 3) := by decide +kernel
theorem dX0_isBefore_60 : decode cX0_isBefore 60 = .ok (.aload_n 1, 1) := by decide +kernel
theorem dX0_isBefore_61 : decode cX0_isBefore 61 = .ok (.getfield 9, 3) := by decide +kernel
theorem dX0_isBefore_64 : decode cX0_isBefore 64 = .ok (.if_icmp .ge 7, 3) := by decide +kernel
theorem dX0_isBefore_67 : decode cX0_isBefore 67 = .ok (.iconst 1, 1) := by decide +kernel
theorem dX0_isBefore_68 : decode cX0_isBefore 68 = .ok (.goto 4, 3) := by decide +kernel
theorem dX0_isBefore_71 : decode cX0_isBefore 71 = .ok (.iconst 0, 1) := by decide +kernel
theorem dX0_isBefore_72 : decode cX0_isBefore 72 = .ok (.ireturn, 1) := by decide +kernel
theorem dX0_noteRing_0 : decode cX0_noteRing 0 = .ok (.aload_n 0, 1) := by decide +kernel
theorem dX0_noteRing_1 : decode cX0_noteRing 1 = .ok (.dup, 1) := by decide +kernel
theorem dX0_noteRing_2 : decode cX0_noteRing 2 = .ok (.getfield 27, 3) := by decide +kernel
theorem dX0_noteRing_5 : decode cX0_noteRing 5 = .ok (.iconst 1, 1) := by decide +kernel
theorem dX0_noteRing_6 : decode cX0_noteRing 6 = .ok (.iadd, 1) := by decide +kernel
theorem dX0_noteRing_7 : decode cX0_noteRing 7 = .ok (.putfield 27, 3) := by decide +kernel
theorem dX0_noteRing_10 : decode cX0_noteRing 10 = .ok (.aload_n 0, 1) := by decide +kernel
theorem dX0_noteRing_11 : decode cX0_noteRing 11 = .ok (.aload_n 0, 1) := by decide +kernel
theorem dX0_noteRing_12 : decode cX0_noteRing 12 = .ok (.getfield 30, 3) := by decide +kernel
theorem dX0_noteRing_15 : decode cX0_noteRing 15 = .ok (.iload_n 1, 1) := by decide +kernel
theorem dX0_noteRing_16 : decode cX0_noteRing 16 = .ok (.invokestatic 37, 3) := by decide +kernel
theorem dX0_noteRing_19 : decode cX0_noteRing 19 = .ok (.putfield 30, 3) := by decide +kernel
theorem dX0_noteRing_22 : decode cX0_noteRing 22 = .ok (.aload_n 0, 1) := by decide +kernel
theorem dX0_noteRing_23 : decode cX0_noteRing 23 = .ok (.sipush (-1005), 3) := by decide +kernel
theorem dX0_noteRing_26 : decode cX0_noteRing 26 = .ok (.putfield 24, 3) := by decide +kernel
theorem dX0_noteRing_29 : decode cX0_noteRing 29 = .ok (.return_, 1) := by decide +kernel
theorem dX0_goOn_0 : decode cX0_goOn 0 = .ok (.aload_n 0, 1) := by decide +kernel
theorem dX0_goOn_1 : decode cX0_goOn 1 = .ok (.getfield 18, 3) := by decide +kernel
theorem dX0_goOn_4 : decode cX0_goOn 4 = .ok (.ifCond .gt 10, 3) := by decide +kernel
theorem dX0_goOn_7 : decode cX0_goOn 7 = .ok (.aload_n 0, 1) := by decide +kernel
theorem dX0_goOn_8 : decode cX0_goOn 8 = .ok (.iconst 1, 1) := by decide +kernel
theorem dX0_goOn_9 : decode cX0_goOn 9 = .ok (.putfield 33, 3) := by decide +kernel
theorem dX0_goOn_12 : decode cX0_goOn 12 = .ok (.iconst 0, 1) := by decide +kernel
theorem dX0_goOn_13 : decode cX0_goOn 13 = .ok (.ireturn, 1) := by decide +kernel
theorem dX0_goOn_14 : decode cX0_goOn 14 = .ok (.iload_n 1, 1) := by decide +kernel
theorem dX0_goOn_15 : decode cX0_goOn 15 = .ok (.aload_n 0, 1) := by decide +kernel
theorem dX0_goOn_16 : decode cX0_goOn 16 = .ok (.getfield 18, 3) := by decide +kernel
theorem dX0_goOn_19 : decode cX0_goOn 19 = .ok (.idiv, 1) := by decide +kernel
theorem dX0_goOn_20 : decode cX0_goOn 20 = .ok (.istore_n 2, 1) := by decide +kernel
theorem dX0_goOn_21 : decode cX0_goOn 21 = .ok (.aload_n 0, 1) := by decide +kernel
theorem dX0_goOn_22 : decode cX0_goOn 22 = .ok (.dup, 1) := by decide +kernel
theorem dX0_goOn_23 : decode cX0_goOn 23 = .ok (.getfield 15, 3) := by decide +kernel
theorem dX0_goOn_26 : decode cX0_goOn 26 = .ok (.iload_n 2, 1) := by decide +kernel
theorem dX0_goOn_27 : decode cX0_goOn 27 = .ok (.iconst 1, 1) := by decide +kernel
theorem dX0_goOn_28 : decode cX0_goOn 28 = .ok (.iadd, 1) := by decide +kernel
theorem dX0_goOn_29 : decode cX0_goOn 29 = .ok (.aload_n 0, 1) := by decide +kernel
theorem dX0_goOn_30 : decode cX0_goOn 30 = .ok (.getfield 18, 3) := by decide +kernel
theorem dX0_goOn_33 : decode cX0_goOn 33 = .ok (.imul, 1) := by decide +kernel
theorem dX0_goOn_34 : decode cX0_goOn 34 = .ok (.iadd, 1) := by decide +kernel
theorem dX0_goOn_35 : decode cX0_goOn 35 = .ok (.putfield 15, 3) := by decide +kernel
theorem dX0_goOn_38 : decode cX0_goOn 38 = .ok (.iload_n 2, 1) := by decide +kernel
theorem dX0_goOn_39 : decode cX0_goOn 39 = .ok (.ireturn, 1) := by decide +kernel
theorem dX1_init_0 : decode cX1_init 0 = .ok (.aload_n 0, 1) := by decide +kernel
theorem dX1_init_1 : decode cX1_init 1 = .ok (.invokespecial 3, 3) := by decide +kernel
theorem dX1_init_4 : decode cX1_init 4 = .ok (.aload_n 0, 1) := by decide +kernel
theorem dX1_init_5 : decode cX1_init 5 = .ok (.bipush 60, 2) := by decide +kernel
theorem dX1_init_7 : decode cX1_init 7 = .ok (.newarray .char, 2) := by decide +kernel
theorem dX1_init_9 : decode cX1_init 9 = .ok (.putfield 9, 3) := by decide +kernel
theorem dX1_init_12 : decode cX1_init 12 = .ok (.aload_n 0, 1) := by decide +kernel
theorem dX1_init_13 : decode cX1_init 13 = .ok (.bipush 30, 2) := by decide +kernel
theorem dX1_init_15 : decode cX1_init 15 = .ok (.newarray .int, 2) := by decide +kernel
theorem dX1_init_17 : decode cX1_init 17 = .ok (.putfield 15, 3) := by decide +kernel
theorem dX1_init_20 : decode cX1_init 20 = .ok (.aload_n 0, 1) := by decide +kernel
theorem dX1_init_21 : decode cX1_init 21 = .ok (.bipush 30, 2) := by decide +kernel
theorem dX1_init_23 : decode cX1_init 23 = .ok (.newarray .int, 2) := by decide +kernel
theorem dX1_init_25 : decode cX1_init 25 = .ok (.putfield 19, 3) := by decide +kernel
theorem dX1_init_28 : decode cX1_init 28 = .ok (.aload_n 0, 1) := by decide +kernel
theorem dX1_init_29 : decode cX1_init 29 = .ok (.bipush 30, 2) := by decide +kernel
theorem dX1_init_31 : decode cX1_init 31 = .ok (.newarray .int, 2) := by decide +kernel
theorem dX1_init_33 : decode cX1_init 33 = .ok (.putfield 22, 3) := by decide +kernel
theorem dX1_init_36 : decode cX1_init 36 = .ok (.return_, 1) := by decide +kernel
theorem dX1_append_0 : decode cX1_append 0 = .ok (.aload_n 0, 1) := by decide +kernel
theorem dX1_append_1 : decode cX1_append 1 = .ok (.getfield 25, 3) := by decide +kernel
theorem dX1_append_4 : decode cX1_append 4 = .ok (.bipush 60, 2) := by decide +kernel
theorem dX1_append_6 : decode cX1_append 6 = .ok (.if_icmp .lt 5, 3) := by decide +kernel
theorem dX1_append_9 : decode cX1_append 9 = .ok (.iconst 0, 1) := by decide +kernel
theorem dX1_append_10 : decode cX1_append 10 = .ok (.ireturn, 1) := by decide +kernel
theorem dX1_append_11 : decode cX1_append 11 = .ok (.aload_n 0, 1) := by decide +kernel
theorem dX1_append_12 : decode cX1_append 12 = .ok (.getfield 9, 3) := by decide +kernel
theorem dX1_append_15 : decode cX1_append 15 = .ok (.aload_n 0, 1) := by decide +kernel
theorem dX1_append_16 : decode cX1_append 16 = .ok (.getfield 25, 3) := by decide +kernel
theorem dX1_append_19 : decode cX1_append 19 = .ok (.iload_n 1, 1) := by decide +kernel
theorem dX1_append_20 : decode cX1_append 20 = .ok (.castore, 1) := by decide +kernel
theorem dX1_append_21 : decode cX1_append 21 = .ok (.aload_n 0, 1) := by decide +kernel
theorem dX1_append_22 : decode cX1_append 22 = .ok (.dup, 1) := by decide +kernel
theorem dX1_append_23 : decode cX1_append 23 = .ok (.getfield 25, 3) := by decide +kernel
theorem dX1_append_26 : decode cX1_append 26 = .ok (.iconst 1, 1) := by decide +kernel
theorem dX1_append_27 : decode cX1_append 27 = .ok (.iadd, 1) := by decide +kernel
theorem dX1_append_28 : decode cX1_append 28 = .ok (.putfield 25, 3) := by decide +kernel
theorem dX1_append_31 : decode cX1_append 31 = .ok (.iconst 1, 1) := by decide +kernel
theorem dX1_append_32 : decode cX1_append 32 = .ok (.ireturn, 1) := by decide +kernel
theorem dX1_readList_0 : decode cX1_readList 0 = .ok (.aload_n 0, 1) := by decide +kernel
theorem dX1_readList_1 : decode cX1_readList 1 = .ok (.iconst 0, 1) := by decide +kernel
theorem dX1_readList_2 : decode cX1_readList 2 = .ok (.putfield 29, 3) := by decide +kernel
theorem dX1_readList_5 : decode cX1_readList 5 = .ok (.aload_n 0, 1) := by decide +kernel
theorem dX1_readList_6 : decode cX1_readList 6 = .ok (.iconst 0, 1) := by decide +kernel
theorem dX1_readList_7 : decode cX1_readList 7 = .ok (.putfield 32, 3) := by decide +kernel
theorem dX1_readList_10 : decode cX1_readList 10 = .ok (.iconst 0, 1) := by decide +kernel
theorem dX1_readList_11 : decode cX1_readList 11 = .ok (.istore_n 1, 1) := by decide +kernel
theorem dX1_readList_12 : decode cX1_readList 12 = .ok (.iload_n 1, 1) := by decide +kernel
theorem dX1_readList_13 : decode cX1_readList 13 = .ok (.bipush 30, 2) := by decide +kernel
theorem dX1_readList_15 : decode cX1_readList 15 = .ok (.if_icmp .gt 50, 3) := by decide +kernel
theorem dX1_readList_18 : decode cX1_readList 18 = .ok (.aload_n 0, 1) := by decide +kernel
theorem dX1_readList_19 : decode cX1_readList 19 = .ok (.invokevirtual 35, 3) := by decide +kernel
theorem dX1_readList_22 : decode cX1_readList 22 = .ok (.ifCond .ne 8, 3) := by decide +kernel
theorem dX1_readList_25 : decode cX1_readList 25 = .ok (.aload_n 0, 1) := by decide +kernel
theorem dX1_readList_26 : decode cX1_readList 26 = .ok (.getfield 32, 3) := by decide +kernel
theorem dX1_readList_29 : decode cX1_readList 29 = .ok (.ireturn, 1) := by decide +kernel
theorem dX1_readList_30 : decode cX1_readList 30 = .ok (.aload_n 0, 1) := by decide +kernel
theorem dX1_readList_31 : decode cX1_readList 31 = .ok (.bipush 59, 2) := by decide +kernel
theorem dX1_readList_33 : decode cX1_readList 33 = .ok (.invokevirtual 39, 3) := by decide +kernel
theorem dX1_readList_36 : decode cX1_readList 36 = .ok (.ifCond .ne 23, 3) := by decide +kernel
theorem dX1_readList_39 : decode cX1_readList 39 = .ok (.aload_n 0, 1) := by decide +kernel
theorem dX1_readList_40 : decode cX1_readList 40 = .ok (.getfield 32, 3) := by decide +kernel
theorem dX1_readList_43 : decode cX1_readList 43 = .ok (.aload_n 0, 1) := by decide +kernel
theorem dX1_readList_44 : decode cX1_readList 44 = .ok (.getfield 25, 3) := by decide +kernel
theorem dX1_readList_47 : decode cX1_readList 47 = .ok (.if_icmp .ne 7, 3) := by decide +kernel
theorem dX1_readList_50 : decode cX1_readList 50 = .ok (.iconst (-1), 1) := by decide +kernel
theorem dX1_readList_51 : decode cX1_readList 51 = .ok (.goto 7, 3) := by decide +kernel
theorem dX1_readList_54 : decode cX1_readList 54 = .ok (.aload_n 0, 1) := by decide +kernel
theorem dX1_readList_55 : decode cX1_readList 55 = .ok (.getfield 32, 3) := by decide +kernel
theorem dX1_readList_58 : decode cX1_readList 58 = .ok (.ireturn, 1) := by decide +kernel
theorem dX1_readList_59 : decode cX1_readList 59 = .ok (.iinc 1 1, 3) := by decide +kernel
theorem dX1_readList_62 : decode cX1_readList 62 = .ok (.goto (-50), 3) := by decide +kernel
theorem dX1_readList_65 : decode cX1_readList 65 = .ok (.aload_n 0, 1) := by decide +kernel
theorem dX1_readList_66 : decode cX1_readList 66 = .ok (.getfield 32, 3) := by decide +kernel
theorem dX1_readList_69 : decode cX1_readList 69 = .ok (.ireturn, 1) := by decide +kernel
theorem dX1_readAlarm_0 : decode cX1_readAlarm 0 = .ok (.aload_n 0, 1) := by decide +kernel
theorem dX1_readAlarm_1 : decode cX1_readAlarm 1 = .ok (.iconst 0, 1) := by decide +kernel
theorem dX1_readAlarm_2 : decode cX1_readAlarm 2 = .ok (.ldc 43, 2) := by decide +kernel
theorem dX1_readAlarm_4 : decode cX1_readAlarm 4 = .ok (.invokevirtual 44, 3) := by decide +kernel
theorem dX1_readAlarm_7 : decode cX1_readAlarm 7 = .ok (.istore_n 1, 1) := by decide +kernel
theorem dX1_readAlarm_8 : decode cX1_readAlarm 8 = .ok (.iconst 0, 1) := by decide +kernel
theorem dX1_readAlarm_9 : decode cX1_readAlarm 9 = .ok (.istore_n 2, 1) := by decide +kernel
theorem dX1_readAlarm_10 : decode cX1_readAlarm 10 = .ok (.iconst 0, 1) := by decide +kernel
theorem dX1_readAlarm_11 : decode cX1_readAlarm 11 = .ok (.istore_n 3, 1) := by decide +kernel
theorem dX1_readAlarm_12 : decode cX1_readAlarm 12 = .ok (.iload_n 1, 1) := by decide +kernel
theorem dX1_readAlarm_13 : decode cX1_readAlarm 13 = .ok (.iconst (-1), 1) := by decide +kernel
theorem dX1_readAlarm_14 : decode cX1_readAlarm 14 = .ok (.if_icmp .eq 21, 3) := by decide +kernel
theorem dX1_readAlarm_17 : decode cX1_readAlarm 17 = .ok (.aload_n 0, 1) := by decide +kernel
theorem dX1_readAlarm_18 : decode cX1_readAlarm 18 = .ok (.bipush 47, 2) := by decide +kernel
theorem dX1_readAlarm_20 : decode cX1_readAlarm 20 = .ok (.invokevirtual 39, 3) := by decide +kernel
theorem dX1_readAlarm_23 : decode cX1_readAlarm 23 = .ok (.ifCond .eq 12, 3) := by decide +kernel
theorem dX1_readAlarm_26 : decode cX1_readAlarm 26 = .ok (.aload_n 0, 1) := by decide +kernel
theorem dX1_readAlarm_27 : decode cX1_readAlarm 27 = .ok (.iconst 1, 1) := by decide +kernel
theorem dX1_readAlarm_28 : decode cX1_readAlarm 28 = .ok (.sipush 9999, 3) := by decide +kernel
theorem dX1_readAlarm_31 : decode cX1_readAlarm 31 = .ok (.invokevirtual 44, 3) := by decide +kernel
theorem dX1_readAlarm_34 : decode cX1_readAlarm 34 = .ok (.istore_n 2, 1) := by decide +kernel
theorem dX1_readAlarm_35 : decode cX1_readAlarm 35 = .ok (.iload_n 1, 1) := by decide +kernel
theorem dX1_readAlarm_36 : decode cX1_readAlarm 36 = .ok (.iconst (-1), 1) := by decide +kernel
theorem dX1_readAlarm_37 : decode cX1_readAlarm 37 = .ok (.if_icmp .eq 24, 3) := by decide +kernel
theorem dX1_readAlarm_40 : decode cX1_readAlarm 40 = .ok (.iload_n 2, 1) := by decide +kernel
theorem dX1_readAlarm_41 : decode cX1_readAlarm 41 = .ok (.iconst (-1), 1) := by decide +kernel
theorem dX1_readAlarm_42 : decode cX1_readAlarm 42 = .ok (.if_icmp .eq 19, 3) := by decide +kernel
theorem dX1_readAlarm_45 : decode cX1_readAlarm 45 = .ok (.aload_n 0, 1) := by decide +kernel
theorem dX1_readAlarm_46 : decode cX1_readAlarm 46 = .ok (.bipush 33, 2) := by decide +kernel
theorem dX1_readAlarm_48 : decode cX1_readAlarm 48 = .ok (.invokevirtual 39, 3) := by decide +kernel
theorem dX1_readAlarm_51 : decode cX1_readAlarm 51 = .ok (.ifCond .eq 10, 3) := by decide +kernel
theorem dX1_readAlarm_54 : decode cX1_readAlarm 54 = .ok (.aload_n 0, 1) := by decide +kernel
theorem dX1_readAlarm_55 : decode cX1_readAlarm 55 = .ok (.iconst 1, 1) := by decide +kernel
theorem dX1_readAlarm_56 : decode cX1_readAlarm 56 = .ok (.iconst 3, 1) := by decide +kernel
theorem dX1_readAlarm_57 : decode cX1_readAlarm 57 = .ok (.invokevirtual 44, 3) := by decide +kernel
theorem dX1_readAlarm_60 : decode cX1_readAlarm 60 = .ok (.istore_n 3, 1) := by decide +kernel
theorem dX1_readAlarm_61 : decode cX1_readAlarm 61 = .ok (.iload_n 1, 1) := by decide +kernel
theorem dX1_readAlarm_62 : decode cX1_readAlarm 62 = .ok (.iconst (-1), 1) := by decide +kernel
theorem dX1_readAlarm_63 : decode cX1_readAlarm 63 = .ok (.if_icmp .eq 22, 3) := by decide +kernel
theorem dX1_readAlarm_66 : decode cX1_readAlarm 66 = .ok (.iload_n 2, 1) := by decide +kernel
theorem dX1_readAlarm_67 : decode cX1_readAlarm 67 = .ok (.iconst (-1), 1) := by decide +kernel
theorem dX1_readAlarm_68 : decode cX1_readAlarm 68 = .ok (.if_icmp .eq 17, 3) := by decide +kernel
theorem dX1_readAlarm_71 : decode cX1_readAlarm 71 = .ok (.iload_n 3, 1) := by decide +kernel
theorem dX1_readAlarm_72 : decode cX1_readAlarm 72 = .ok (.iconst (-1), 1) := by decide +kernel
theorem dX1_readAlarm_73 : decode cX1_readAlarm 73 = .ok (.if_icmp .eq 12, 3) := by decide +kernel
theorem dX1_readAlarm_76 : decode cX1_readAlarm 76 = .ok (.aload_n 0, 1) := by decide +kernel
theorem dX1_readAlarm_77 : decode cX1_readAlarm 77 = .ok (.getfield 29, 3) := by decide +kernel
theorem dX1_readAlarm_80 : decode cX1_readAlarm 80 = .ok (.bipush 30, 2) := by decide +kernel
theorem dX1_readAlarm_82 : decode cX1_readAlarm 82 = .ok (.if_icmp .lt 5, 3) := by decide +kernel
theorem dX1_readAlarm_85 : decode cX1_readAlarm 85 = .ok (.iconst 0, 1) := by decide +kernel
theorem dX1_readAlarm_86 : decode cX1_readAlarm 86 = .ok (.ireturn, 1) := by decide +kernel
theorem dX1_readAlarm_87 : decode cX1_readAlarm 87 = .ok (.aload_n 0, 1) := by decide +kernel
theorem dX1_readAlarm_88 : decode cX1_readAlarm 88 = .ok (.getfield 15, 3) := by decide +kernel
theorem dX1_readAlarm_91 : decode cX1_readAlarm 91 = .ok (.aload_n 0, 1) := by decide +kernel
theorem dX1_readAlarm_92 : decode cX1_readAlarm 92 = .ok (.getfield 29, 3) := by decide +kernel
theorem dX1_readAlarm_95 : decode cX1_readAlarm 95 = .ok (.iload_n 1, 1) := by decide +kernel
theorem dX1_readAlarm_96 : decode cX1_readAlarm 96 = .ok (.iastore, 1) := by decide +kernel
theorem dX1_readAlarm_97 : decode cX1_readAlarm 97 = .ok (.aload_n 0, 1) := by decide +kernel
theorem dX1_readAlarm_98 : decode cX1_readAlarm 98 = .ok (.getfield 19, 3) := by decide +kernel
theorem dX1_readAlarm_101 : decode cX1_readAlarm 101 = .ok (.aload_n 0, 1) := by decide +kernel
theorem dX1_readAlarm_102 : decode cX1_readAlarm 102 = .ok (.getfield 29, 3) := by decide +kernel
theorem dX1_readAlarm_105 : decode cX1_readAlarm 105 = .ok (.iload_n 2, 1) := by decide +kernel
theorem dX1_readAlarm_106 : decode cX1_readAlarm 106 = .ok (.iastore, 1) := by decide +kernel
theorem dX1_readAlarm_107 : decode cX1_readAlarm 107 = .ok (.aload_n 0, 1) := by decide +kernel
theorem dX1_readAlarm_108 : decode cX1_readAlarm 108 = .ok (.getfield 22, 3) := by decide +kernel
theorem dX1_readAlarm_111 : decode cX1_readAlarm 111 = .ok (.aload_n 0, 1) := by decide +kernel
theorem dX1_readAlarm_112 : decode cX1_readAlarm 112 = .ok (.getfield 29, 3) := by decide +kernel
theorem dX1_readAlarm_115 : decode cX1_readAlarm 115 = .ok (.iload_n 3, 1) := by decide +kernel
theorem dX1_readAlarm_116 : decode cX1_readAlarm 116 = .ok (.iastore, 1) := by decide +kernel
theorem dX1_readAlarm_117 : decode cX1_readAlarm 117 = .ok (.aload_n 0, 1) := by decide +kernel
theorem dX1_readAlarm_118 : decode cX1_readAlarm 118 = .ok (.dup, 1) := by decide +kernel
theorem dX1_readAlarm_119 : decode cX1_readAlarm 119 = .ok (.getfield 29, 3) := by decide +kernel
theorem dX1_readAlarm_122 : decode cX1_readAlarm 122 = .ok (.iconst 1, 1) := by decide +kernel
theorem dX1_readAlarm_123 : decode cX1_readAlarm 123 = .ok (.iadd, 1) := by decide +kernel
theorem dX1_readAlarm_124 : decode cX1_readAlarm 124 = .ok (.putfield 29, 3) := by decide +kernel
theorem dX1_readAlarm_127 : decode cX1_readAlarm 127 = .ok (.iconst 1, 1) := by decide +kernel
theorem dX1_readAlarm_128 : decode cX1_readAlarm 128 = .ok (.ireturn, 1) := by decide +kernel
theorem dX1_readSign_0 : decode cX1_readSign 0 = .ok (.aload_n 0, 1) := by decide +kernel
theorem dX1_readSign_1 : decode cX1_readSign 1 = .ok (.getfield 32, 3) := by decide +kernel
theorem dX1_readSign_4 : decode cX1_readSign 4 = .ok (.aload_n 0, 1) := by decide +kernel
theorem dX1_readSign_5 : decode cX1_readSign 5 = .ok (.getfield 25, 3) := by decide +kernel
theorem dX1_readSign_8 : decode cX1_readSign 8 = .ok (.if_icmp .ge 25, 3) := by decide +kernel
theorem dX1_readSign_11 : decode cX1_readSign 11 = .ok (.aload_n 0, 1) := by decide +kernel
theorem dX1_readSign_12 : decode cX1_readSign 12 = .ok (.getfield 32, 3) := by decide +kernel
theorem dX1_readSign_15 : decode cX1_readSign 15 = .ok (.bipush 60, 2) := by decide +kernel
theorem dX1_readSign_17 : decode cX1_readSign 17 = .ok (.if_icmp .ge 16, 3) := by decide +kernel
theorem dX1_readSign_20 : decode cX1_readSign 20 = .ok (.aload_n 0, 1) := by decide +kernel
theorem dX1_readSign_21 : decode cX1_readSign 21 = .ok (.getfield 9, 3) := by decide +kernel
theorem dX1_readSign_24 : decode cX1_readSign 24 = .ok (.aload_n 0, 1) := by decide +kernel
theorem dX1_readSign_25 : decode cX1_readSign 25 = .ok (.getfield 32, 3) := by decide +kernel
theorem dX1_readSign_28 : decode cX1_readSign 28 = .ok (.caload, 1) := by decide +kernel
theorem dX1_readSign_29 : decode cX1_readSign 29 = .ok (.iload_n 1, 1) := by decide +kernel
theorem dX1_readSign_30 : decode cX1_readSign 30 = .ok (.if_icmp .eq 5, 3) := by decide +kernel
theorem dX1_readSign_33 : decode cX1_readSign 33 = .ok (.iconst 0, 1) := by decide +kernel
theorem dX1_readSign_34 : decode cX1_readSign 34 = .ok (.ireturn, 1) := by decide +kernel
theorem dX1_readSign_35 : decode cX1_readSign 35 = .ok (.aload_n 0, 1) := by decide +kernel
theorem dX1_readSign_36 : decode cX1_readSign 36 = .ok (.dup, 1) := by decide +kernel
theorem dX1_readSign_37 : decode cX1_readSign 37 = .ok (.getfield 32, 3) := by decide +kernel
theorem dX1_readSign_40 : decode cX1_readSign 40 = .ok (.iconst 1, 1) := by decide +kernel
theorem dX1_readSign_41 : decode cX1_readSign 41 = .ok (.iadd, 1) := by decide +kernel
theorem dX1_readSign_42 : decode cX1_readSign 42 = .ok (.putfield 32, 3) := by decide +kernel
theorem dX1_readSign_45 : decode cX1_readSign 45 = .ok (.iconst 1, 1) := by decide +kernel
theorem dX1_readSign_46 : decode cX1_readSign 46 = .ok (.ireturn, 1) := by decide +kernel
theorem dX1_readNumber_0 : decode cX1_readNumber 0 = .ok (.aload_n 0, 1) := by decide +kernel
theorem dX1_readNumber_1 : decode cX1_readNumber 1 = .ok (.invokevirtual 48, 3) := by decide +kernel
theorem dX1_readNumber_4 : decode cX1_readNumber 4 = .ok (.istore_n 3, 1) := by decide +kernel
theorem dX1_readNumber_5 : decode cX1_readNumber 5 = .ok (.iload_n 3, 1) := by decide +kernel
theorem dX1_readNumber_6 : decode cX1_readNumber 6 = .ok (.iconst (-1), 1) := by decide +kernel
theorem dX1_readNumber_7 : decode cX1_readNumber 7 = .ok (.if_icmp .eq 13, 3) := by decide +kernel
theorem dX1_readNumber_10 : decode cX1_readNumber 10 = .ok (.iload_n 3, 1) := by decide +kernel
theorem dX1_readNumber_11 : decode cX1_readNumber 11 = .ok (.iload_n 1, 1) := by decide +kernel
theorem dX1_readNumber_12 : decode cX1_readNumber 12 = .ok (.if_icmp .lt 8, 3) := by decide +kernel
theorem dX1_readNumber_15 : decode cX1_readNumber 15 = .ok (.iload_n 3, 1) := by decide +kernel
theorem dX1_readNumber_16 : decode cX1_readNumber 16 = .ok (.iload_n 2, 1) := by decide +kernel
theorem dX1_readNumber_17 : decode cX1_readNumber 17 = .ok (.if_icmp .le 5, 3) := by decide +kernel
theorem dX1_readNumber_20 : decode cX1_readNumber 20 = .ok (.iconst (-1), 1) := by decide +kernel
theorem dX1_readNumber_21 : decode cX1_readNumber 21 = .ok (.ireturn, 1) := by decide +kernel
theorem dX1_readNumber_22 : decode cX1_readNumber 22 = .ok (.aload_n 0, 1) := by decide +kernel
theorem dX1_readNumber_23 : decode cX1_readNumber 23 = .ok (.dup, 1) := by decide +kernel
theorem dX1_readNumber_24 : decode cX1_readNumber 24 = .ok (.getfield 32, 3) := by decide +kernel
theorem dX1_readNumber_27 : decode cX1_readNumber 27 = .ok (.iconst 1, 1) := by decide +kernel
theorem dX1_readNumber_28 : decode cX1_readNumber 28 = .ok (.iadd, 1) := by decide +kernel
theorem dX1_readNumber_29 : decode cX1_readNumber 29 = .ok (.putfield 32, 3) := by decide +kernel
theorem dX1_readNumber_32 : decode cX1_readNumber 32 = .ok (.iload_n 3, 1) := by decide +kernel
theorem dX1_readNumber_33 : decode cX1_readNumber 33 = .ok (.ifCond .le 60, 3) := by decide +kernel
theorem dX1_readNumber_36 : decode cX1_readNumber 36 = .ok (.aload_n 0, 1) := by decide +kernel
theorem dX1_readNumber_37 : decode cX1_readNumber 37 = .ok (.getfield 32, 3) := by decide +kernel
theorem dX1_readNumber_40 : decode cX1_readNumber 40 = .ok (.aload_n 0, 1) := by decide +kernel
theorem dX1_readNumber_41 : decode cX1_readNumber 41 = .ok (.getfield 25, 3) := by decide +kernel
theorem dX1_readNumber_44 : decode cX1_readNumber 44 = .ok (.if_icmp .ge 49, 3) := by decide +kernel
theorem dX1_readNumber_47 : decode cX1_readNumber 47 = .ok (.aload_n 0, 1) := by decide +kernel
theorem dX1_readNumber_48 : decode cX1_readNumber 48 = .ok (.invokevirtual 48, 3) := by decide +kernel
theorem dX1_readNumber_51 : decode cX1_readNumber 51 = .ok (.istore 4, 2) := by decide +kernel
theorem dX1_readNumber_53 : decode cX1_readNumber 53 = .ok (.iload 4, 2) := by decide +kernel
theorem dX1_readNumber_55 : decode cX1_readNumber 55 = .ok (.iconst (-1), 1) := by decide +kernel
theorem dX1_readNumber_56 : decode cX1_readNumber 56 = .ok (.if_icmp .eq 14, 3) := by decide +kernel
theorem dX1_readNumber_59 : decode cX1_readNumber 59 = .ok (.iload_n 3, 1) := by decide +kernel
theorem dX1_readNumber_60 : decode cX1_readNumber 60 = .ok (.bipush 10, 2) := by decide +kernel
theorem dX1_readNumber_62 : decode cX1_readNumber 62 = .ok (.imul, 1) := by decide +kernel
theorem dX1_readNumber_63 : decode cX1_readNumber 63 = .ok (.iload 4, 2) := by decide +kernel
theorem dX1_readNumber_65 : decode cX1_readNumber 65 = .ok (.iadd, 1) := by decide +kernel
theorem dX1_readNumber_66 : decode cX1_readNumber 66 = .ok (.iload_n 2, 1) := by decide +kernel
theorem dX1_readNumber_67 : decode cX1_readNumber 67 = .ok (.if_icmp .le 5, 3) := by decide +kernel
theorem dX1_readNumber_70 : decode cX1_readNumber 70 = .ok (.iload_n 3, 1) := by decide +kernel
theorem dX1_readNumber_71 : decode cX1_readNumber 71 = .ok (.ireturn, 1) := by decide +kernel
theorem dX1_readNumber_72 : decode cX1_readNumber 72 = .ok (.iload_n 3, 1) := by decide +kernel
theorem dX1_readNumber_73 : decode cX1_readNumber 73 = .ok (.bipush 10, 2) := by decide +kernel
theorem dX1_readNumber_75 : decode cX1_readNumber 75 = .ok (.imul, 1) := by decide +kernel
theorem dX1_readNumber_76 : decode cX1_readNumber 76 = .ok (.iload 4, 2) := by decide +kernel
theorem dX1_readNumber_78 : decode cX1_readNumber 78 = .ok (.iadd, 1) := by decide +kernel
theorem dX1_readNumber_79 : decode cX1_readNumber 79 = .ok (.istore_n 3, 1) := by decide +kernel
theorem dX1_readNumber_80 : decode cX1_readNumber 80 = .ok (.aload_n 0, 1) := by decide +kernel
theorem dX1_readNumber_81 : decode cX1_readNumber 81 = .ok (.dup, 1) := by decide +kernel
theorem dX1_readNumber_82 : decode cX1_readNumber 82 = .ok (.getfield 32, 3) := by decide +kernel
theorem dX1_readNumber_85 : decode cX1_readNumber 85 = .ok (.iconst 1, 1) := by decide +kernel
theorem dX1_readNumber_86 : decode cX1_readNumber 86 = .ok (.iadd, 1) := by decide +kernel
theorem dX1_readNumber_87 : decode cX1_readNumber 87 = .ok (.putfield 32, 3) := by decide +kernel
theorem dX1_readNumber_90 : decode cX1_readNumber 90 = .ok (.goto (-58), 3) := by decide +kernel
theorem dX1_readNumber_93 : decode cX1_readNumber 93 = .ok (.iload_n 3, 1) := by decide +kernel
theorem dX1_readNumber_94 : decode cX1_readNumber 94 = .ok (.ireturn, 1) := by decide +kernel
theorem dX1_digitHere_0 : decode cX1_digitHere 0 = .ok (.aload_n 0, 1) := by decide +kernel
theorem dX1_digitHere_1 : decode cX1_digitHere 1 = .ok (.getfield 32, 3) := by decide +kernel
theorem dX1_digitHere_4 : decode cX1_digitHere 4 = .ok (.aload_n 0, 1) := by decide +kernel
theorem dX1_digitHere_5 : decode cX1_digitHere 5 = .ok (.getfield 25, 3) := by decide +kernel
theorem dX1_digitHere_8 : decode cX1_digitHere 8 = .ok (.if_icmp .ge 12, 3) := by decide +kernel
theorem dX1_digitHere_11 : decode cX1_digitHere 11 = .ok (.aload_n 0, 1) := by decide +kernel
theorem dX1_digitHere_12 : decode cX1_digitHere 12 = .ok (.getfield 32, 3) := by decide +kernel
theorem dX1_digitHere_15 : decode cX1_digitHere 15 = .ok (.bipush 60, 2) := by decide +kernel
theorem dX1_digitHere_17 : decode cX1_digitHere 17 = .ok (.if_icmp .lt 5, 3) := by decide +kernel
theorem dX1_digitHere_20 : decode cX1_digitHere 20 = .ok (.iconst (-1), 1) := by decide +kernel
theorem dX1_digitHere_21 : decode cX1_digitHere 21 = .ok (.ireturn, 1) := by decide +kernel
theorem dX1_digitHere_22 : decode cX1_digitHere 22 = .ok (.aload_n 0, 1) := by decide +kernel
theorem dX1_digitHere_23 : decode cX1_digitHere 23 = .ok (.getfield 9, 3) := by decide +kernel
theorem dX1_digitHere_26 : decode cX1_digitHere 26 = .ok (.aload_n 0, 1) := by decide +kernel
theorem dX1_digitHere_27 : decode cX1_digitHere 27 = .ok (.getfield 32, 3) := by decide +kernel
theorem dX1_digitHere_30 : decode cX1_digitHere 30 = .ok (.caload, 1) := by decide +kernel
theorem dX1_digitHere_31 : decode cX1_digitHere 31 = .ok (.istore_n 1, 1) := by decide +kernel
theorem dX1_digitHere_32 : decode cX1_digitHere 32 = .ok (.iload_n 1, 1) := by decide +kernel
theorem dX1_digitHere_33 : decode cX1_digitHere 33 = .ok (.bipush 48, 2) := by decide +kernel
theorem dX1_digitHere_35 : decode cX1_digitHere 35 = .ok (.if_icmp .lt 16, 3) := by decide +kernel
theorem dX1_digitHere_38 : decode cX1_digitHere 38 = .ok (.iload_n 1, 1) := by decide +kernel
theorem dX1_digitHere_39 : decode cX1_digitHere 39 = .ok (.bipush 57, 2) := by decide +kernel
theorem dX1_digitHere_41 : decode cX1_digitHere 41 = .ok (.if_icmp .gt 10, 3) := by decide +kernel
theorem dX1_digitHere_44 : decode cX1_digitHere 44 = .ok (.iload_n 1, 1) := by decide +kernel
theorem dX1_digitHere_45 : decode cX1_digitHere 45 = .ok (.bipush 48, 2) := by decide +kernel
theorem dX1_digitHere_47 : decode cX1_digitHere 47 = .ok (.isub, 1) := by decide +kernel
theorem dX1_digitHere_48 : decode cX1_digitHere 48 = .ok (.goto 4, 3) := by decide +kernel
theorem dX1_digitHere_51 : decode cX1_digitHere 51 = .ok (.iconst (-1), 1) := by decide +kernel
theorem dX1_digitHere_52 : decode cX1_digitHere 52 = .ok (.ireturn, 1) := by decide +kernel
theorem dX1_leastTime_0 : decode cX1_leastTime 0 = .ok (.ldc 43, 2) := by decide +kernel
theorem dX1_leastTime_2 : decode cX1_leastTime 2 = .ok (.istore_n 1, 1) := by decide +kernel
theorem dX1_leastTime_3 : decode cX1_leastTime 3 = .ok (.iconst 0, 1) := by decide +kernel
theorem dX1_leastTime_4 : decode cX1_leastTime 4 = .ok (.istore_n 2, 1) := by decide +kernel
theorem dX1_leastTime_5 : decode cX1_leastTime 5 = .ok (.iload_n 2, 1) := by decide +kernel
theorem dX1_leastTime_6 : decode cX1_leastTime 6 = .ok (.aload_n 0, 1) := by decide +kernel
theorem dX1_leastTime_7 : decode cX1_leastTime 7 = .ok (.getfield 29, 3) := by decide +kernel
theorem dX1_leastTime_10 : decode cX1_leastTime 10 = .ok (.if_icmp .ge 20, 3) := by decide +kernel
theorem dX1_leastTime_13 : decode cX1_leastTime 13 = .ok (.iload_n 1, 1) := by decide +kernel
theorem dX1_leastTime_14 : decode cX1_leastTime 14 = .ok (.aload_n 0, 1) := by decide +kernel
theorem dX1_leastTime_15 : decode cX1_leastTime 15 = .ok (.getfield 15, 3) := by decide +kernel
theorem dX1_leastTime_18 : decode cX1_leastTime 18 = .ok (.iload_n 2, 1) := by decide +kernel
theorem dX1_leastTime_19 : decode cX1_leastTime 19 = .ok (.iaload, 1) := by decide +kernel
theorem dX1_leastTime_20 : decode cX1_leastTime 20 = .ok (.invokestatic 52, 3) := by decide +kernel
theorem dX1_leastTime_23 : decode cX1_leastTime 23 = .ok (.istore_n 1, 1) := by decide +kernel
theorem dX1_leastTime_24 : decode cX1_leastTime 24 = .ok (.iinc 2 1, 3) := by decide +kernel
theorem dX1_leastTime_27 : decode cX1_leastTime 27 = .ok (.goto (-22), 3) := by decide +kernel
theorem dX1_leastTime_30 : decode cX1_leastTime 30 = .ok (.iload_n 1, 1) := by decide +kernel
theorem dX1_leastTime_31 : decode cX1_leastTime 31 = .ok (.ireturn, 1) := by decide +kernel
theorem dX3_init_0 : decode cX3_init 0 = .ok (.aload_n 0, 1) := by decide +kernel
theorem dX3_init_1 : decode cX3_init 1 = .ok (.invokespecial 1, 3) := by decide +kernel
theorem dX3_init_4 : decode cX3_init 4 = .ok (.return_, 1) := by decide +kernel
theorem dX3_copyFrom_0 : decode cX3_copyFrom 0 = .ok (.aload_n 0, 1) := by decide +kernel
theorem dX3_copyFrom_1 : decode cX3_copyFrom 1 = .ok (.aload_n 1, 1) := by decide +kernel
theorem dX3_copyFrom_2 : decode cX3_copyFrom 2 = .ok (.getfield 7, 3) := by decide +kernel
theorem dX3_copyFrom_5 : decode cX3_copyFrom 5 = .ok (.putfield 7, 3) := by decide +kernel
theorem dX3_copyFrom_8 : decode cX3_copyFrom 8 = .ok (.aload_n 0, 1) := by decide +kernel
theorem dX3_copyFrom_9 : decode cX3_copyFrom 9 = .ok (.aload_n 1, 1) := by decide +kernel
theorem dX3_copyFrom_10 : decode cX3_copyFrom 10 = .ok (.getfield 13, 3) := by decide +kernel
theorem dX3_copyFrom_13 : decode cX3_copyFrom 13 = .ok (.putfield 13, 3) := by decide +kernel
theorem dX3_copyFrom_16 : decode cX3_copyFrom 16 = .ok (.aload_n 0, 1) := by decide +kernel
theorem dX3_copyFrom_17 : decode cX3_copyFrom 17 = .ok (.aload_n 1, 1) := by decide +kernel
theorem dX3_copyFrom_18 : decode cX3_copyFrom 18 = .ok (.getfield 16, 3) := by decide +kernel
theorem dX3_copyFrom_21 : decode cX3_copyFrom 21 = .ok (.putfield 16, 3) := by decide +kernel
theorem dX3_copyFrom_24 : decode cX3_copyFrom 24 = .ok (.aload_n 0, 1) := by decide +kernel
theorem dX3_copyFrom_25 : decode cX3_copyFrom 25 = .ok (.aload_n 1, 1) := by decide +kernel
theorem dX3_copyFrom_26 : decode cX3_copyFrom 26 = .ok (.getfield 19, 3) := by decide +kernel
theorem dX3_copyFrom_29 : decode cX3_copyFrom 29 = .ok (.putfield 19, 3) := by decide +kernel
theorem dX3_copyFrom_32 : decode cX3_copyFrom 32 = .ok (.return_, 1) := by decide +kernel
theorem dX3_isFree_0 : decode cX3_isFree 0 = .ok (.aload_n 0, 1) := by decide +kernel
theorem dX3_isFree_1 : decode cX3_isFree 1 = .ok (.getfield 7, 3) := by decide +kernel
theorem dX3_isFree_4 : decode cX3_isFree 4 = .ok (.ifCond .ne 7, 3) := by decide +kernel
theorem dX3_isFree_7 : decode cX3_isFree 7 = .ok (.iconst 1, 1) := by decide +kernel
theorem dX3_isFree_8 : decode cX3_isFree 8 = .ok (.goto 4, 3) := by decide +kernel
theorem dX3_isFree_11 : decode cX3_isFree 11 = .ok (.iconst 0, 1) := by decide +kernel
theorem dX3_isFree_12 : decode cX3_isFree 12 = .ok (.ireturn, 1) := by decide +kernel
theorem dX3_isDue_0 : decode cX3_isDue 0 = .ok (.aload_n 0, 1) := by decide +kernel
theorem dX3_isDue_1 : decode cX3_isDue 1 = .ok (.getfield 7, 3) := by decide +kernel
theorem dX3_isDue_4 : decode cX3_isDue 4 = .ok (.ifCond .le 22, 3) := by decide +kernel
theorem dX3_isDue_7 : decode cX3_isDue 7 = .ok (.aload_n 0, 1) := by decide +kernel
theorem dX3_isDue_8 : decode cX3_isDue 8 = .ok (.getfield 19, 3) := by decide +kernel
theorem dX3_isDue_11 : decode cX3_isDue 11 = .ok (.ifCond .ne 15, 3) := by decide +kernel
theorem dX3_isDue_14 : decode cX3_isDue 14 = .ok (.aload_n 0, 1) := by decide +kernel
theorem dX3_isDue_15 : decode cX3_isDue 15 = .ok (.getfield 16, 3) := by decide +kernel
theorem dX3_isDue_18 : decode cX3_isDue 18 = .ok (.iload_n 1, 1) := by decide +kernel
theorem dX3_isDue_19 : decode cX3_isDue 19 = .ok (.if_icmp .gt 7, 3) := by decide +kernel
theorem dX3_isDue_22 : decode cX3_isDue 22 = .ok (.iconst 1, 1) := by decide +kernel
theorem dX3_isDue_23 : decode cX3_isDue 23 = .ok (.goto 4, 3) := by decide +kernel
theorem dX3_isDue_26 : decode cX3_isDue 26 = .ok (.iconst 0, 1) := by decide +kernel
theorem dX3_isDue_27 : decode cX3_isDue 27 = .ok (.ireturn, 1) := by decide +kernel
theorem dX3_canTake_0 : decode cX3_canTake 0 = .ok (.aload_n 0, 1) := by decide +kernel
theorem dX3_canTake_1 : decode cX3_canTake 1 = .ok (.getfield 7, 3) := by decide +kernel
theorem dX3_canTake_4 : decode cX3_canTake 4 = .ok (.ifCond .le 40, 3) := by decide +kernel
theorem dX3_canTake_7 : decode cX3_canTake 7 = .ok (.aload_n 0, 1) := by decide +kernel
theorem dX3_canTake_8 : decode cX3_canTake 8 = .ok (.getfield 16, 3) := by decide +kernel
theorem dX3_canTake_11 : decode cX3_canTake 11 = .ok (.aload_n 0, 1) := by decide +kernel
theorem dX3_canTake_12 : decode cX3_canTake 12 = .ok (.getfield 13, 3) := by decide +kernel
theorem dX3_canTake_15 : decode cX3_canTake 15 = .ok (.isub, 1) := by decide +kernel
theorem dX3_canTake_16 : decode cX3_canTake 16 = .ok (.iload_n 2, 1) := by decide +kernel
theorem dX3_canTake_17 : decode cX3_canTake 17 = .ok (.if_icmp .gt 27, 3) := by decide +kernel
theorem dX3_canTake_20 : decode cX3_canTake 20 = .ok (.aload_n 0, 1) := by decide +kernel
theorem dX3_canTake_21 : decode cX3_canTake 21 = .ok (.getfield 16, 3) := by decide +kernel
theorem dX3_canTake_24 : decode cX3_canTake 24 = .ok (.iload_n 1, 1) := by decide +kernel
theorem dX3_canTake_25 : decode cX3_canTake 25 = .ok (.isub, 1) := by decide +kernel
theorem dX3_canTake_26 : decode cX3_canTake 26 = .ok (.iload_n 2, 1) := by decide +kernel
theorem dX3_canTake_27 : decode cX3_canTake 27 = .ok (.if_icmp .gt 17, 3) := by decide +kernel
theorem dX3_canTake_30 : decode cX3_canTake 30 = .ok (.iload_n 1, 1) := by decide +kernel
theorem dX3_canTake_31 : decode cX3_canTake 31 = .ok (.aload_n 0, 1) := by decide +kernel
theorem dX3_canTake_32 : decode cX3_canTake 32 = .ok (.getfield 13, 3) := by decide +kernel
theorem dX3_canTake_35 : decode cX3_canTake 35 = .ok (.isub, 1) := by decide +kernel
theorem dX3_canTake_36 : decode cX3_canTake 36 = .ok (.iload_n 2, 1) := by decide +kernel
theorem dX3_canTake_37 : decode cX3_canTake 37 = .ok (.if_icmp .gt 7, 3) := by decide +kernel
theorem dX3_canTake_40 : decode cX3_canTake 40 = .ok (.iconst 1, 1) := by decide +kernel
theorem dX3_canTake_41 : decode cX3_canTake 41 = .ok (.goto 4, 3) := by decide +kernel
theorem dX3_canTake_44 : decode cX3_canTake 44 = .ok (.iconst 0, 1) := by decide +kernel
theorem dX3_canTake_45 : decode cX3_canTake 45 = .ok (.ireturn, 1) := by decide +kernel
theorem dX3_release_0 : decode cX3_release 0 = .ok (.aload_n 0, 1) := by decide +kernel
theorem dX3_release_1 : decode cX3_release 1 = .ok (.iconst 0, 1) := by decide +kernel
theorem dX3_release_2 : decode cX3_release 2 = .ok (.putfield 7, 3) := by decide +kernel
theorem dX3_release_5 : decode cX3_release 5 = .ok (.aload_n 0, 1) := by decide +kernel
theorem dX3_release_6 : decode cX3_release 6 = .ok (.iconst 0, 1) := by decide +kernel
theorem dX3_release_7 : decode cX3_release 7 = .ok (.putfield 13, 3) := by decide +kernel
theorem dX3_release_10 : decode cX3_release 10 = .ok (.aload_n 0, 1) := by decide +kernel
theorem dX3_release_11 : decode cX3_release 11 = .ok (.iconst 0, 1) := by decide +kernel
theorem dX3_release_12 : decode cX3_release 12 = .ok (.putfield 16, 3) := by decide +kernel
theorem dX3_release_15 : decode cX3_release 15 = .ok (.aload_n 0, 1) := by decide +kernel
theorem dX3_release_16 : decode cX3_release 16 = .ok (.iconst 0, 1) := by decide +kernel
theorem dX3_release_17 : decode cX3_release 17 = .ok (.putfield 19, 3) := by decide +kernel
theorem dX3_release_20 : decode cX3_release 20 = .ok (.return_, 1) := by decide +kernel
theorem dX3_load_0 : decode cX3_load 0 = .ok (.aload_n 0, 1) := by decide +kernel
theorem dX3_load_1 : decode cX3_load 1 = .ok (.iconst 1, 1) := by decide +kernel
theorem dX3_load_2 : decode cX3_load 2 = .ok (.putfield 7, 3) := by decide +kernel
theorem dX3_load_5 : decode cX3_load 5 = .ok (.aload_n 0, 1) := by decide +kernel
theorem dX3_load_6 : decode cX3_load 6 = .ok (.iload_n 1, 1) := by decide +kernel
theorem dX3_load_7 : decode cX3_load 7 = .ok (.putfield 13, 3) := by decide +kernel
theorem dX3_load_10 : decode cX3_load 10 = .ok (.aload_n 0, 1) := by decide +kernel
theorem dX3_load_11 : decode cX3_load 11 = .ok (.iload_n 1, 1) := by decide +kernel
theorem dX3_load_12 : decode cX3_load 12 = .ok (.putfield 16, 3) := by decide +kernel
theorem dX3_load_15 : decode cX3_load 15 = .ok (.aload_n 0, 1) := by decide +kernel
theorem dX3_load_16 : decode cX3_load 16 = .ok (.iload_n 2, 1) := by decide +kernel
theorem dX3_load_17 : decode cX3_load 17 = .ok (.putfield 19, 3) := by decide +kernel
theorem dX3_load_20 : decode cX3_load 20 = .ok (.return_, 1) := by decide +kernel
theorem dX3_join_0 : decode cX3_join 0 = .ok (.aload_n 0, 1) := by decide +kernel
theorem dX3_join_1 : decode cX3_join 1 = .ok (.aload_n 0, 1) := by decide +kernel
theorem dX3_join_2 : decode cX3_join 2 = .ok (.getfield 7, 3) := by decide +kernel
theorem dX3_join_5 : decode cX3_join 5 = .ok (.ifCond .ne 7, 3) := by decide +kernel
theorem dX3_join_8 : decode cX3_join 8 = .ok (.iload_n 1, 1) := by decide +kernel
theorem dX3_join_9 : decode cX3_join 9 = .ok (.goto 11, 3) := by decide +kernel
theorem dX3_join_12 : decode cX3_join 12 = .ok (.aload_n 0, 1) := by decide +kernel
theorem dX3_join_13 : decode cX3_join 13 = .ok (.getfield 13, 3) := by decide +kernel
theorem dX3_join_16 : decode cX3_join 16 = .ok (.iload_n 1, 1) := by decide +kernel
theorem dX3_join_17 : decode cX3_join 17 = .ok (.invokestatic 22, 3) := by decide +kernel
theorem dX3_join_20 : decode cX3_join 20 = .ok (.putfield 13, 3) := by decide +kernel
theorem dX3_join_23 : decode cX3_join 23 = .ok (.aload_n 0, 1) := by decide +kernel
theorem dX3_join_24 : decode cX3_join 24 = .ok (.aload_n 0, 1) := by decide +kernel
theorem dX3_join_25 : decode cX3_join 25 = .ok (.getfield 7, 3) := by decide +kernel
theorem dX3_join_28 : decode cX3_join 28 = .ok (.ifCond .ne 7, 3) := by decide +kernel
theorem dX3_join_31 : decode cX3_join 31 = .ok (.iload_n 1, 1) := by decide +kernel
theorem dX3_join_32 : decode cX3_join 32 = .ok (.goto 11, 3) := by decide +kernel
theorem dX3_join_35 : decode cX3_join 35 = .ok (.aload_n 0, 1) := by decide +kernel
theorem dX3_join_36 : decode cX3_join 36 = .ok (.getfield 16, 3) := by decide +kernel
theorem dX3_join_39 : decode cX3_join 39 = .ok (.iload_n 1, 1) := by decide +kernel
theorem dX3_join_40 : decode cX3_join 40 = .ok (.invokestatic 28, 3) := by decide +kernel
theorem dX3_join_43 : decode cX3_join 43 = .ok (.putfield 16, 3) := by decide +kernel
theorem dX3_join_46 : decode cX3_join 46 = .ok (.aload_n 0, 1) := by decide +kernel
theorem dX3_join_47 : decode cX3_join 47 = .ok (.dup, 1) := by decide +kernel
theorem dX3_join_48 : decode cX3_join 48 = .ok (.getfield 7, 3) := by decide +kernel
theorem dX3_join_51 : decode cX3_join 51 = .ok (.iconst 1, 1) := by decide +kernel
theorem dX3_join_52 : decode cX3_join 52 = .ok (.iadd, 1) := by decide +kernel
theorem dX3_join_53 : decode cX3_join 53 = .ok (.putfield 7, 3) := by decide +kernel
theorem dX3_join_56 : decode cX3_join 56 = .ok (.return_, 1) := by decide +kernel
theorem dX3_loadOn_0 : decode cX3_loadOn 0 = .ok (.aload_n 0, 1) := by decide +kernel
theorem dX3_loadOn_1 : decode cX3_loadOn 1 = .ok (.getfield 19, 3) := by decide +kernel
theorem dX3_loadOn_4 : decode cX3_loadOn 4 = .ok (.ifCond .le 13, 3) := by decide +kernel
theorem dX3_loadOn_7 : decode cX3_loadOn 7 = .ok (.aload_n 0, 1) := by decide +kernel
theorem dX3_loadOn_8 : decode cX3_loadOn 8 = .ok (.dup, 1) := by decide +kernel
theorem dX3_loadOn_9 : decode cX3_loadOn 9 = .ok (.getfield 19, 3) := by decide +kernel
theorem dX3_loadOn_12 : decode cX3_loadOn 12 = .ok (.iconst 1, 1) := by decide +kernel
theorem dX3_loadOn_13 : decode cX3_loadOn 13 = .ok (.isub, 1) := by decide +kernel
theorem dX3_loadOn_14 : decode cX3_loadOn 14 = .ok (.putfield 19, 3) := by decide +kernel
theorem dX3_loadOn_17 : decode cX3_loadOn 17 = .ok (.return_, 1) := by decide +kernel
theorem dX4_init_0 : decode cX4_init 0 = .ok (.aload_n 0, 1) := by decide +kernel
theorem dX4_init_1 : decode cX4_init 1 = .ok (.invokespecial 3, 3) := by decide +kernel
theorem dX4_init_4 : decode cX4_init 4 = .ok (.aload_n 0, 1) := by decide +kernel
theorem dX4_init_5 : decode cX4_init 5 = .ok (.iconst 4, 1) := by decide +kernel
theorem dX4_init_6 : decode cX4_init 6 = .ok (.anewarray 9, 3) := by decide +kernel
theorem dX4_init_9 : decode cX4_init 9 = .ok (.putfield 11, 3) := by decide +kernel
theorem dX4_init_12 : decode cX4_init 12 = .ok (.iconst 0, 1) := by decide +kernel
theorem dX4_init_13 : decode cX4_init 13 = .ok (.istore_n 1, 1) := by decide +kernel
theorem dX4_init_14 : decode cX4_init 14 = .ok (.iload_n 1, 1) := by decide +kernel
theorem dX4_init_15 : decode cX4_init 15 = .ok (.iconst 4, 1) := by decide +kernel
theorem dX4_init_16 : decode cX4_init 16 = .ok (.if_icmp .ge 22, 3) := by decide +kernel
theorem dX4_init_19 : decode cX4_init 19 = .ok (.aload_n 0, 1) := by decide +kernel
theorem dX4_init_20 : decode cX4_init 20 = .ok (.getfield 11, 3) := by decide +kernel
theorem dX4_init_23 : decode cX4_init 23 = .ok (.iload_n 1, 1) := by decide +kernel
theorem dX4_init_24 : decode cX4_init 24 = .ok (.new 9, 3) := by decide +kernel
theorem dX4_init_27 : decode cX4_init 27 = .ok (.dup, 1) := by decide +kernel
theorem dX4_init_28 : decode cX4_init 28 = .ok (.invokespecial 17, 3) := by decide +kernel
theorem dX4_init_31 : decode cX4_init 31 = .ok (.aastore, 1) := by decide +kernel
theorem dX4_init_32 : decode cX4_init 32 = .ok (.iinc 1 1, 3) := by decide +kernel
theorem dX4_init_35 : decode cX4_init 35 = .ok (.goto (-21), 3) := by decide +kernel
theorem dX4_init_38 : decode cX4_init 38 = .ok (.return_, 1) := by decide +kernel
theorem dX4_recordState_0 : decode cX4_recordState 0 = .ok (.aload_n 0, 1) := by decide +kernel
theorem dX4_recordState_1 : decode cX4_recordState 1 = .ok (.getfield 18, 3) := by decide +kernel
theorem dX4_recordState_4 : decode cX4_recordState 4 = .ok (.iconst 4, 1) := by decide +kernel
theorem dX4_recordState_5 : decode cX4_recordState 5 = .ok (.if_icmp .ne 7, 3) := by decide +kernel
theorem dX4_recordState_8 : decode cX4_recordState 8 = .ok (.aload_n 0, 1) := by decide +kernel
theorem dX4_recordState_9 : decode cX4_recordState 9 = .ok (.invokevirtual 22, 3) := by decide +kernel
theorem dX4_recordState_12 : decode cX4_recordState 12 = .ok (.aload_n 0, 1) := by decide +kernel
theorem dX4_recordState_13 : decode cX4_recordState 13 = .ok (.getfield 11, 3) := by decide +kernel
theorem dX4_recordState_16 : decode cX4_recordState 16 = .ok (.aload_n 0, 1) := by decide +kernel
theorem dX4_recordState_17 : decode cX4_recordState 17 = .ok (.getfield 18, 3) := by decide +kernel
theorem dX4_recordState_20 : decode cX4_recordState 20 = .ok (.aaload, 1) := by decide +kernel
theorem dX4_recordState_21 : decode cX4_recordState 21 = .ok (.aload_n 1, 1) := by decide +kernel
theorem dX4_recordState_22 : decode cX4_recordState 22 = .ok (.invokevirtual 25, 3) := by decide +kernel
theorem dX4_recordState_25 : decode cX4_recordState 25 = .ok (.aload_n 0, 1) := by decide +kernel
theorem dX4_recordState_26 : decode cX4_recordState 26 = .ok (.dup, 1) := by decide +kernel
theorem dX4_recordState_27 : decode cX4_recordState 27 = .ok (.getfield 18, 3) := by decide +kernel
theorem dX4_recordState_30 : decode cX4_recordState 30 = .ok (.iconst 1, 1) := by decide +kernel
theorem dX4_recordState_31 : decode cX4_recordState 31 = .ok (.iadd, 1) := by decide +kernel
theorem dX4_recordState_32 : decode cX4_recordState 32 = .ok (.putfield 18, 3) := by decide +kernel
theorem dX4_recordState_35 : decode cX4_recordState 35 = .ok (.return_, 1) := by decide +kernel
theorem dX4_dropOldest_0 : decode cX4_dropOldest 0 = .ok (.aload_n 0, 1) := by decide +kernel
theorem dX4_dropOldest_1 : decode cX4_dropOldest 1 = .ok (.getfield 11, 3) := by decide +kernel
theorem dX4_dropOldest_4 : decode cX4_dropOldest 4 = .ok (.iconst 0, 1) := by decide +kernel
theorem dX4_dropOldest_5 : decode cX4_dropOldest 5 = .ok (.aaload, 1) := by decide +kernel
theorem dX4_dropOldest_6 : decode cX4_dropOldest 6 = .ok (.astore_n 1, 1) := by decide +kernel
theorem dX4_dropOldest_7 : decode cX4_dropOldest 7 = .ok (.iconst 0, 1) := by decide +kernel
theorem dX4_dropOldest_8 : decode cX4_dropOldest 8 = .ok (.istore_n 2, 1) := by decide +kernel
theorem dX4_dropOldest_9 : decode cX4_dropOldest 9 = .ok (.iload_n 2, 1) := by decide +kernel
theorem dX4_dropOldest_10 : decode cX4_dropOldest 10 = .ok (.iconst 1, 1) := by decide +kernel
theorem dX4_dropOldest_11 : decode cX4_dropOldest 11 = .ok (.iadd, 1) := by decide +kernel
theorem dX4_dropOldest_12 : decode cX4_dropOldest 12 = .ok (.iconst 4, 1) := by decide +kernel
theorem dX4_dropOldest_13 : decode cX4_dropOldest 13 = .ok (.if_icmp .ge 23, 3) := by decide +kernel
theorem dX4_dropOldest_16 : decode cX4_dropOldest 16 = .ok (.aload_n 0, 1) := by decide +kernel
theorem dX4_dropOldest_17 : decode cX4_dropOldest 17 = .ok (.getfield 11, 3) := by decide +kernel
theorem dX4_dropOldest_20 : decode cX4_dropOldest 20 = .ok (.iload_n 2, 1) := by decide +kernel
theorem dX4_dropOldest_21 : decode cX4_dropOldest 21 = .ok (.aload_n 0, 1) := by decide +kernel
theorem dX4_dropOldest_22 : decode cX4_dropOldest 22 = .ok (.getfield 11, 3) := by decide +kernel
theorem dX4_dropOldest_25 : decode cX4_dropOldest 25 = .ok (.iload_n 2, 1) := by decide +kernel
theorem dX4_dropOldest_26 : decode cX4_dropOldest 26 = .ok (.iconst 1, 1) := by decide +kernel
theorem dX4_dropOldest_27 : decode cX4_dropOldest 27 = .ok (.iadd, 1) := by decide +kernel
theorem dX4_dropOldest_28 : decode cX4_dropOldest 28 = .ok (.aaload, 1) := by decide +kernel
theorem dX4_dropOldest_29 : decode cX4_dropOldest 29 = .ok (.aastore, 1) := by decide +kernel
theorem dX4_dropOldest_30 : decode cX4_dropOldest 30 = .ok (.iinc 2 1, 3) := by decide +kernel
theorem dX4_dropOldest_33 : decode cX4_dropOldest 33 = .ok (.goto (-24), 3) := by decide +kernel
theorem dX4_dropOldest_36 : decode cX4_dropOldest 36 = .ok (.aload_n 0, 1) := by decide +kernel
theorem dX4_dropOldest_37 : decode cX4_dropOldest 37 = .ok (.getfield 11, 3) := by decide +kernel
theorem dX4_dropOldest_40 : decode cX4_dropOldest 40 = .ok (.iconst 3, 1) := by decide +kernel
theorem dX4_dropOldest_41 : decode cX4_dropOldest 41 = .ok (.aload_n 1, 1) := by decide +kernel
theorem dX4_dropOldest_42 : decode cX4_dropOldest 42 = .ok (.aastore, 1) := by decide +kernel
theorem dX4_dropOldest_43 : decode cX4_dropOldest 43 = .ok (.aload_n 0, 1) := by decide +kernel
theorem dX4_dropOldest_44 : decode cX4_dropOldest 44 = .ok (.dup, 1) := by decide +kernel
theorem dX4_dropOldest_45 : decode cX4_dropOldest 45 = .ok (.getfield 18, 3) := by decide +kernel
theorem dX4_dropOldest_48 : decode cX4_dropOldest 48 = .ok (.iconst 1, 1) := by decide +kernel
theorem dX4_dropOldest_49 : decode cX4_dropOldest 49 = .ok (.isub, 1) := by decide +kernel
theorem dX4_dropOldest_50 : decode cX4_dropOldest 50 = .ok (.putfield 18, 3) := by decide +kernel
theorem dX4_dropOldest_53 : decode cX4_dropOldest 53 = .ok (.return_, 1) := by decide +kernel
theorem dX4_takeBack_0 : decode cX4_takeBack 0 = .ok (.aload_n 0, 1) := by decide +kernel
theorem dX4_takeBack_1 : decode cX4_takeBack 1 = .ok (.getfield 18, 3) := by decide +kernel
theorem dX4_takeBack_4 : decode cX4_takeBack 4 = .ok (.ifCond .le 26, 3) := by decide +kernel
theorem dX4_takeBack_7 : decode cX4_takeBack 7 = .ok (.aload_n 0, 1) := by decide +kernel
theorem dX4_takeBack_8 : decode cX4_takeBack 8 = .ok (.dup, 1) := by decide +kernel
theorem dX4_takeBack_9 : decode cX4_takeBack 9 = .ok (.getfield 18, 3) := by decide +kernel
theorem dX4_takeBack_12 : decode cX4_takeBack 12 = .ok (.iconst 1, 1) := by decide +kernel
theorem dX4_takeBack_13 : decode cX4_takeBack 13 = .ok (.isub, 1) := by decide +kernel
theorem dX4_takeBack_14 : decode cX4_takeBack 14 = .ok (.putfield 18, 3) := by decide +kernel
theorem dX4_takeBack_17 : decode cX4_takeBack 17 = .ok (.aload_n 1, 1) := by decide +kernel
theorem dX4_takeBack_18 : decode cX4_takeBack 18 = .ok (.aload_n 0, 1) := by decide +kernel
theorem dX4_takeBack_19 : decode cX4_takeBack 19 = .ok (.getfield 11, 3) := by decide +kernel
theorem dX4_takeBack_22 : decode cX4_takeBack 22 = .ok (.aload_n 0, 1) := by decide +kernel
theorem dX4_takeBack_23 : decode cX4_takeBack 23 = .ok (.getfield 18, 3) := by decide +kernel
theorem dX4_takeBack_26 : decode cX4_takeBack 26 = .ok (.aaload, 1) := by decide +kernel
theorem dX4_takeBack_27 : decode cX4_takeBack 27 = .ok (.invokevirtual 25, 3) := by decide +kernel
theorem dX4_takeBack_30 : decode cX4_takeBack 30 = .ok (.return_, 1) := by decide +kernel
theorem dX5_init_0 : decode cX5_init 0 = .ok (.aload_n 0, 1) := by decide +kernel
theorem dX5_init_1 : decode cX5_init 1 = .ok (.invokespecial 3, 3) := by decide +kernel
theorem dX5_init_4 : decode cX5_init 4 = .ok (.aload_n 0, 1) := by decide +kernel
theorem dX5_init_5 : decode cX5_init 5 = .ok (.bipush 32, 2) := by decide +kernel
theorem dX5_init_7 : decode cX5_init 7 = .ok (.newarray .int, 2) := by decide +kernel
theorem dX5_init_9 : decode cX5_init 9 = .ok (.putfield 9, 3) := by decide +kernel
theorem dX5_init_12 : decode cX5_init 12 = .ok (.return_, 1) := by decide +kernel
theorem dX5_copyFrom_0 : decode cX5_copyFrom 0 = .ok (.aload_n 1, 1) := by decide +kernel
theorem dX5_copyFrom_1 : decode cX5_copyFrom 1 = .ok (.getfield 9, 3) := by decide +kernel
theorem dX5_copyFrom_4 : decode cX5_copyFrom 4 = .ok (.iconst 0, 1) := by decide +kernel
theorem dX5_copyFrom_5 : decode cX5_copyFrom 5 = .ok (.aload_n 0, 1) := by decide +kernel
theorem dX5_copyFrom_6 : decode cX5_copyFrom 6 = .ok (.getfield 9, 3) := by decide +kernel
theorem dX5_copyFrom_9 : decode cX5_copyFrom 9 = .ok (.iconst 0, 1) := by decide +kernel
theorem dX5_copyFrom_10 : decode cX5_copyFrom 10 = .ok (.bipush 32, 2) := by decide +kernel
theorem dX5_copyFrom_12 : decode cX5_copyFrom 12 = .ok (.invokestatic 15, 3) := by decide +kernel
theorem dX5_copyFrom_15 : decode cX5_copyFrom 15 = .ok (.aload_n 0, 1) := by decide +kernel
theorem dX5_copyFrom_16 : decode cX5_copyFrom 16 = .ok (.aload_n 1, 1) := by decide +kernel
theorem dX5_copyFrom_17 : decode cX5_copyFrom 17 = .ok (.getfield 21, 3) := by decide +kernel
theorem dX5_copyFrom_20 : decode cX5_copyFrom 20 = .ok (.putfield 21, 3) := by decide +kernel
theorem dX5_copyFrom_23 : decode cX5_copyFrom 23 = .ok (.return_, 1) := by decide +kernel
theorem dX5_note_0 : decode cX5_note 0 = .ok (.aload_n 0, 1) := by decide +kernel
theorem dX5_note_1 : decode cX5_note 1 = .ok (.getfield 21, 3) := by decide +kernel
theorem dX5_note_4 : decode cX5_note 4 = .ok (.bipush 8, 2) := by decide +kernel
theorem dX5_note_6 : decode cX5_note 6 = .ok (.irem, 1) := by decide +kernel
theorem dX5_note_7 : decode cX5_note 7 = .ok (.iconst 4, 1) := by decide +kernel
theorem dX5_note_8 : decode cX5_note 8 = .ok (.imul, 1) := by decide +kernel
theorem dX5_note_9 : decode cX5_note 9 = .ok (.istore 5, 2) := by decide +kernel
theorem dX5_note_11 : decode cX5_note 11 = .ok (.aload_n 0, 1) := by decide +kernel
theorem dX5_note_12 : decode cX5_note 12 = .ok (.getfield 9, 3) := by decide +kernel
theorem dX5_note_15 : decode cX5_note 15 = .ok (.iload 5, 2) := by decide +kernel
theorem dX5_note_17 : decode cX5_note 17 = .ok (.iload_n 1, 1) := by decide +kernel
theorem dX5_note_18 : decode cX5_note 18 = .ok (.iastore, 1) := by decide +kernel
theorem dX5_note_19 : decode cX5_note 19 = .ok (.aload_n 0, 1) := by decide +kernel
theorem dX5_note_20 : decode cX5_note 20 = .ok (.getfield 9, 3) := by decide +kernel
theorem dX5_note_23 : decode cX5_note 23 = .ok (.iload 5, 2) := by decide +kernel
theorem dX5_note_25 : decode cX5_note 25 = .ok (.iconst 1, 1) := by decide +kernel
theorem dX5_note_26 : decode cX5_note 26 = .ok (.iadd, 1) := by decide +kernel
theorem dX5_note_27 : decode cX5_note 27 = .ok (.iload_n 2, 1) := by decide +kernel
theorem dX5_note_28 : decode cX5_note 28 = .ok (.iastore, 1) := by decide +kernel
theorem dX5_note_29 : decode cX5_note 29 = .ok (.aload_n 0, 1) := by decide +kernel
theorem dX5_note_30 : decode cX5_note 30 = .ok (.getfield 9, 3) := by decide +kernel
theorem dX5_note_33 : decode cX5_note 33 = .ok (.iload 5, 2) := by decide +kernel
theorem dX5_note_35 : decode cX5_note 35 = .ok (.iconst 2, 1) := by decide +kernel
theorem dX5_note_36 : decode cX5_note 36 = .ok (.iadd, 1) := by decide +kernel
theorem dX5_note_37 : decode cX5_note 37 = .ok (.iload_n 3, 1) := by decide +kernel
theorem dX5_note_38 : decode cX5_note 38 = .ok (.iastore, 1) := by decide +kernel
theorem dX5_note_39 : decode cX5_note 39 = .ok (.aload_n 0, 1) := by decide +kernel
theorem dX5_note_40 : decode cX5_note 40 = .ok (.getfield 9, 3) := by decide +kernel
theorem dX5_note_43 : decode cX5_note 43 = .ok (.iload 5, 2) := by decide +kernel
theorem dX5_note_45 : decode cX5_note 45 = .ok (.iconst 3, 1) := by decide +kernel
theorem dX5_note_46 : decode cX5_note 46 = .ok (.iadd, 1) := by decide +kernel
theorem dX5_note_47 : decode cX5_note 47 = .ok (.iload 4, 2) := by decide +kernel
theorem dX5_note_49 : decode cX5_note 49 = .ok (.iastore, 1) := by decide +kernel
theorem dX5_note_50 : decode cX5_note 50 = .ok (.aload_n 0, 1) := by decide +kernel
theorem dX5_note_51 : decode cX5_note 51 = .ok (.dup, 1) := by decide +kernel
theorem dX5_note_52 : decode cX5_note 52 = .ok (.getfield 21, 3) := by decide +kernel
theorem dX5_note_55 : decode cX5_note 55 = .ok (.iconst 1, 1) := by decide +kernel
theorem dX5_note_56 : decode cX5_note 56 = .ok (.iadd, 1) := by decide +kernel
theorem dX5_note_57 : decode cX5_note 57 = .ok (.putfield 21, 3) := by decide +kernel
theorem dX5_note_60 : decode cX5_note 60 = .ok (.return_, 1) := by decide +kernel
theorem dX5_tell_0 : decode cX5_tell 0 = .ok (.iload_n 1, 1) := by decide +kernel
theorem dX5_tell_1 : decode cX5_tell 1 = .ok (.ifCond .lt 12, 3) := by decide +kernel
theorem dX5_tell_4 : decode cX5_tell 4 = .ok (.iload_n 2, 1) := by decide +kernel
theorem dX5_tell_5 : decode cX5_tell 5 = .ok (.ifCond .lt 8, 3) := by decide +kernel
theorem dX5_tell_8 : decode cX5_tell 8 = .ok (.iload_n 2, 1) := by decide +kernel
theorem dX5_tell_9 : decode cX5_tell 9 = .ok (.iconst 4, 1) := by decide +kernel
theorem dX5_tell_10 : decode cX5_tell 10 = .ok (.if_icmp .lt 7, 3) := by decide +kernel
theorem dX5_tell_13 : decode cX5_tell 13 = .ok (.sipush (-1002), 3) := by decide +kernel
theorem dX5_tell_16 : decode cX5_tell 16 = .ok (.ireturn, 1) := by decide +kernel
theorem dX5_tell_17 : decode cX5_tell 17 = .ok (.iload_n 1, 1) := by decide +kernel
theorem dX5_tell_18 : decode cX5_tell 18 = .ok (.bipush 8, 2) := by decide +kernel
theorem dX5_tell_20 : decode cX5_tell 20 = .ok (.if_icmp .ge 11, 3) := by decide +kernel
theorem dX5_tell_23 : decode cX5_tell 23 = .ok (.iload_n 1, 1) := by decide +kernel
theorem dX5_tell_24 : decode cX5_tell 24 = .ok (.aload_n 0, 1) := by decide +kernel
theorem dX5_tell_25 : decode cX5_tell 25 = .ok (.getfield 21, 3) := by decide +kernel
theorem dX5_tell_28 : decode cX5_tell 28 = .ok (.if_icmp .lt 7, 3) := by decide +kernel
theorem dX5_tell_31 : decode cX5_tell 31 = .ok (.sipush (-1005), 3) := by decide +kernel
theorem dX5_tell_34 : decode cX5_tell 34 = .ok (.ireturn, 1) := by decide +kernel
theorem dX5_tell_35 : decode cX5_tell 35 = .ok (.aload_n 0, 1) := by decide +kernel
theorem dX5_tell_36 : decode cX5_tell 36 = .ok (.getfield 9, 3) := by decide +kernel
theorem dX5_tell_39 : decode cX5_tell 39 = .ok (.aload_n 0, 1) := by decide +kernel
theorem dX5_tell_40 : decode cX5_tell 40 = .ok (.getfield 21, 3) := by decide +kernel
theorem dX5_tell_43 : decode cX5_tell 43 = .ok (.iconst 1, 1) := by decide +kernel
theorem dX5_tell_44 : decode cX5_tell 44 = .ok (.isub, 1) := by decide +kernel
theorem dX5_tell_45 : decode cX5_tell 45 = .ok (.iload_n 1, 1) := by decide +kernel
theorem dX5_tell_46 : decode cX5_tell 46 = .ok (.isub, 1) := by decide +kernel
theorem dX5_tell_47 : decode cX5_tell 47 = .ok (.bipush 8, 2) := by decide +kernel
theorem dX5_tell_49 : decode cX5_tell 49 = .ok (.irem, 1) := by decide +kernel
theorem dX5_tell_50 : decode cX5_tell 50 = .ok (.iconst 4, 1) := by decide +kernel
theorem dX5_tell_51 : decode cX5_tell 51 = .ok (.imul, 1) := by decide +kernel
theorem dX5_tell_52 : decode cX5_tell 52 = .ok (.iload_n 2, 1) := by decide +kernel
theorem dX5_tell_53 : decode cX5_tell 53 = .ok (.iadd, 1) := by decide +kernel
theorem dX5_tell_54 : decode cX5_tell 54 = .ok (.iaload, 1) := by decide +kernel
theorem dX5_tell_55 : decode cX5_tell 55 = .ok (.ireturn, 1) := by decide +kernel
theorem dX6_init_0 : decode cX6_init 0 = .ok (.aload_n 0, 1) := by decide +kernel
theorem dX6_init_1 : decode cX6_init 1 = .ok (.invokespecial 1, 3) := by decide +kernel
theorem dX6_init_4 : decode cX6_init 4 = .ok (.return_, 1) := by decide +kernel
theorem dX6_clear_0 : decode cX6_clear 0 = .ok (.aload_n 0, 1) := by decide +kernel
theorem dX6_clear_1 : decode cX6_clear 1 = .ok (.iconst 0, 1) := by decide +kernel
theorem dX6_clear_2 : decode cX6_clear 2 = .ok (.putfield 7, 3) := by decide +kernel
theorem dX6_clear_5 : decode cX6_clear 5 = .ok (.aload_n 0, 1) := by decide +kernel
theorem dX6_clear_6 : decode cX6_clear 6 = .ok (.iconst 0, 1) := by decide +kernel
theorem dX6_clear_7 : decode cX6_clear 7 = .ok (.putfield 13, 3) := by decide +kernel
theorem dX6_clear_10 : decode cX6_clear 10 = .ok (.aload_n 0, 1) := by decide +kernel
theorem dX6_clear_11 : decode cX6_clear 11 = .ok (.iconst 0, 1) := by decide +kernel
theorem dX6_clear_12 : decode cX6_clear 12 = .ok (.putfield 16, 3) := by decide +kernel
theorem dX6_clear_15 : decode cX6_clear 15 = .ok (.aload_n 0, 1) := by decide +kernel
theorem dX6_clear_16 : decode cX6_clear 16 = .ok (.iconst 0, 1) := by decide +kernel
theorem dX6_clear_17 : decode cX6_clear 17 = .ok (.putfield 19, 3) := by decide +kernel
theorem dX6_clear_20 : decode cX6_clear 20 = .ok (.aload_n 0, 1) := by decide +kernel
theorem dX6_clear_21 : decode cX6_clear 21 = .ok (.iconst 0, 1) := by decide +kernel
theorem dX6_clear_22 : decode cX6_clear 22 = .ok (.putfield 22, 3) := by decide +kernel
theorem dX6_clear_25 : decode cX6_clear 25 = .ok (.aload_n 0, 1) := by decide +kernel
theorem dX6_clear_26 : decode cX6_clear 26 = .ok (.iconst 0, 1) := by decide +kernel
theorem dX6_clear_27 : decode cX6_clear 27 = .ok (.putfield 25, 3) := by decide +kernel
theorem dX6_clear_30 : decode cX6_clear 30 = .ok (.return_, 1) := by decide +kernel
theorem dX6_copyFrom_0 : decode cX6_copyFrom 0 = .ok (.aload_n 0, 1) := by decide +kernel
theorem dX6_copyFrom_1 : decode cX6_copyFrom 1 = .ok (.aload_n 1, 1) := by decide +kernel
theorem dX6_copyFrom_2 : decode cX6_copyFrom 2 = .ok (.getfield 7, 3) := by decide +kernel
theorem dX6_copyFrom_5 : decode cX6_copyFrom 5 = .ok (.putfield 7, 3) := by decide +kernel
theorem dX6_copyFrom_8 : decode cX6_copyFrom 8 = .ok (.aload_n 0, 1) := by decide +kernel
theorem dX6_copyFrom_9 : decode cX6_copyFrom 9 = .ok (.aload_n 1, 1) := by decide +kernel
theorem dX6_copyFrom_10 : decode cX6_copyFrom 10 = .ok (.getfield 13, 3) := by decide +kernel
theorem dX6_copyFrom_13 : decode cX6_copyFrom 13 = .ok (.putfield 13, 3) := by decide +kernel
theorem dX6_copyFrom_16 : decode cX6_copyFrom 16 = .ok (.aload_n 0, 1) := by decide +kernel
theorem dX6_copyFrom_17 : decode cX6_copyFrom 17 = .ok (.aload_n 1, 1) := by decide +kernel
theorem dX6_copyFrom_18 : decode cX6_copyFrom 18 = .ok (.getfield 16, 3) := by decide +kernel
theorem dX6_copyFrom_21 : decode cX6_copyFrom 21 = .ok (.putfield 16, 3) := by decide +kernel
theorem dX6_copyFrom_24 : decode cX6_copyFrom 24 = .ok (.aload_n 0, 1) := by decide +kernel
theorem dX6_copyFrom_25 : decode cX6_copyFrom 25 = .ok (.aload_n 1, 1) := by decide +kernel
theorem dX6_copyFrom_26 : decode cX6_copyFrom 26 = .ok (.getfield 19, 3) := by decide +kernel
theorem dX6_copyFrom_29 : decode cX6_copyFrom 29 = .ok (.putfield 19, 3) := by decide +kernel
theorem dX6_copyFrom_32 : decode cX6_copyFrom 32 = .ok (.aload_n 0, 1) := by decide +kernel
theorem dX6_copyFrom_33 : decode cX6_copyFrom 33 = .ok (.aload_n 1, 1) := by decide +kernel
theorem dX6_copyFrom_34 : decode cX6_copyFrom 34 = .ok (.getfield 22, 3) := by decide +kernel
theorem dX6_copyFrom_37 : decode cX6_copyFrom 37 = .ok (.putfield 22, 3) := by decide +kernel
theorem dX6_copyFrom_40 : decode cX6_copyFrom 40 = .ok (.aload_n 0, 1) := by decide +kernel
theorem dX6_copyFrom_41 : decode cX6_copyFrom 41 = .ok (.aload_n 1, 1) := by decide +kernel
theorem dX6_copyFrom_42 : decode cX6_copyFrom 42 = .ok (.getfield 25, 3) := by decide +kernel
theorem dX6_copyFrom_45 : decode cX6_copyFrom 45 = .ok (.putfield 25, 3) := by decide +kernel
theorem dX6_copyFrom_48 : decode cX6_copyFrom 48 = .ok (.return_, 1) := by decide +kernel
theorem dX6_noteRing_0 : decode cX6_noteRing 0 = .ok (.aload_n 0, 1) := by decide +kernel
theorem dX6_noteRing_1 : decode cX6_noteRing 1 = .ok (.dup, 1) := by decide +kernel
theorem dX6_noteRing_2 : decode cX6_noteRing 2 = .ok (.getfield 7, 3) := by decide +kernel
theorem dX6_noteRing_5 : decode cX6_noteRing 5 = .ok (.iconst 1, 1) := by decide +kernel
theorem dX6_noteRing_6 : decode cX6_noteRing 6 = .ok (.iadd, 1) := by decide +kernel
theorem dX6_noteRing_7 : decode cX6_noteRing 7 = .ok (.putfield 7, 3) := by decide +kernel
theorem dX6_noteRing_10 : decode cX6_noteRing 10 = .ok (.aload_n 0, 1) := by decide +kernel
theorem dX6_noteRing_11 : decode cX6_noteRing 11 = .ok (.dup, 1) := by decide +kernel
theorem dX6_noteRing_12 : decode cX6_noteRing 12 = .ok (.getfield 13, 3) := by decide +kernel
theorem dX6_noteRing_15 : decode cX6_noteRing 15 = .ok (.iload_n 1, 1) := by decide +kernel
theorem dX6_noteRing_16 : decode cX6_noteRing 16 = .ok (.iadd, 1) := by decide +kernel
theorem dX6_noteRing_17 : decode cX6_noteRing 17 = .ok (.putfield 13, 3) := by decide +kernel
theorem dX6_noteRing_20 : decode cX6_noteRing 20 = .ok (.aload_n 0, 1) := by decide +kernel
theorem dX6_noteRing_21 : decode cX6_noteRing 21 = .ok (.aload_n 0, 1) := by decide +kernel
theorem dX6_noteRing_22 : decode cX6_noteRing 22 = .ok (.getfield 16, 3) := by decide +kernel
theorem dX6_noteRing_25 : decode cX6_noteRing 25 = .ok (.iload_n 1, 1) := by decide +kernel
theorem dX6_noteRing_26 : decode cX6_noteRing 26 = .ok (.invokestatic 28, 3) := by decide +kernel
theorem dX6_noteRing_29 : decode cX6_noteRing 29 = .ok (.putfield 16, 3) := by decide +kernel
theorem dX6_noteRing_32 : decode cX6_noteRing 32 = .ok (.return_, 1) := by decide +kernel
end
section
theorem dX2_init_0 : decode cX2_init 0 = .ok (.aload_n 0, 1) := by decide +kernel
theorem dX2_init_1 : decode cX2_init 1 = .ok (.invokespecial 3, 3) := by decide +kernel
theorem dX2_init_4 : decode cX2_init 4 = .ok (.aload_n 0, 1) := by decide +kernel
theorem dX2_init_5 : decode cX2_init 5 = .ok (.iconst 2, 1) := by decide +kernel
theorem dX2_init_6 : decode cX2_init 6 = .ok (.putfield 9, 3) := by decide +kernel
theorem dX2_init_9 : decode cX2_init 9 = .ok (.aload_n 0, 1) := by decide +kernel
theorem dX2_init_10 : decode cX2_init 10 = .ok (.bipush 20, 2) := by decide +kernel
theorem dX2_init_12 : decode cX2_init 12 = .ok (.anewarray 15, 3) := by decide +kernel
theorem dX2_init_15 : decode cX2_init 15 = .ok (.putfield 17, 3) := by decide +kernel
theorem dX2_init_18 : decode cX2_init 18 = .ok (.iconst 0, 1) := by decide +kernel
theorem dX2_init_19 : decode cX2_init 19 = .ok (.istore_n 1, 1) := by decide +kernel
theorem dX2_init_20 : decode cX2_init 20 = .ok (.iload_n 1, 1) := by decide +kernel
theorem dX2_init_21 : decode cX2_init 21 = .ok (.bipush 20, 2) := by decide +kernel
theorem dX2_init_23 : decode cX2_init 23 = .ok (.if_icmp .ge 22, 3) := by decide +kernel
theorem dX2_init_26 : decode cX2_init 26 = .ok (.aload_n 0, 1) := by decide +kernel
theorem dX2_init_27 : decode cX2_init 27 = .ok (.getfield 17, 3) := by decide +kernel
theorem dX2_init_30 : decode cX2_init 30 = .ok (.iload_n 1, 1) := by decide +kernel
theorem dX2_init_31 : decode cX2_init 31 = .ok (.new 15, 3) := by decide +kernel
theorem dX2_init_34 : decode cX2_init 34 = .ok (.dup, 1) := by decide +kernel
theorem dX2_init_35 : decode cX2_init 35 = .ok (.invokespecial 21, 3) := by decide +kernel
theorem dX2_init_38 : decode cX2_init 38 = .ok (.aastore, 1) := by decide +kernel
theorem dX2_init_39 : decode cX2_init 39 = .ok (.iinc 1 1, 3) := by decide +kernel
theorem dX2_init_42 : decode cX2_init 42 = .ok (.goto (-22), 3) := by decide +kernel
theorem dX2_init_45 : decode cX2_init 45 = .ok (.aload_n 0, 1) := by decide +kernel
theorem dX2_init_46 : decode cX2_init 46 = .ok (.iconst 4, 1) := by decide +kernel
theorem dX2_init_47 : decode cX2_init 47 = .ok (.anewarray 22, 3) := by decide +kernel
theorem dX2_init_50 : decode cX2_init 50 = .ok (.putfield 24, 3) := by decide +kernel
theorem dX2_init_53 : decode cX2_init 53 = .ok (.iconst 0, 1) := by decide +kernel
theorem dX2_init_54 : decode cX2_init 54 = .ok (.istore_n 1, 1) := by decide +kernel
theorem dX2_init_55 : decode cX2_init 55 = .ok (.iload_n 1, 1) := by decide +kernel
theorem dX2_init_56 : decode cX2_init 56 = .ok (.iconst 4, 1) := by decide +kernel
theorem dX2_init_57 : decode cX2_init 57 = .ok (.if_icmp .ge 22, 3) := by decide +kernel
theorem dX2_init_60 : decode cX2_init 60 = .ok (.aload_n 0, 1) := by decide +kernel
theorem dX2_init_61 : decode cX2_init 61 = .ok (.getfield 24, 3) := by decide +kernel
theorem dX2_init_64 : decode cX2_init 64 = .ok (.iload_n 1, 1) := by decide +kernel
theorem dX2_init_65 : decode cX2_init 65 = .ok (.new 22, 3) := by decide +kernel
theorem dX2_init_68 : decode cX2_init 68 = .ok (.dup, 1) := by decide +kernel
theorem dX2_init_69 : decode cX2_init 69 = .ok (.invokespecial 28, 3) := by decide +kernel
theorem dX2_init_72 : decode cX2_init 72 = .ok (.aastore, 1) := by decide +kernel
theorem dX2_init_73 : decode cX2_init 73 = .ok (.iinc 1 1, 3) := by decide +kernel
theorem dX2_init_76 : decode cX2_init 76 = .ok (.goto (-21), 3) := by decide +kernel
theorem dX2_init_79 : decode cX2_init 79 = .ok (.aload_n 0, 1) := by decide +kernel
theorem dX2_init_80 : decode cX2_init 80 = .ok (.new 29, 3) := by decide +kernel
theorem dX2_init_83 : decode cX2_init 83 = .ok (.dup, 1) := by decide +kernel
theorem dX2_init_84 : decode cX2_init 84 = .ok (.invokespecial 31, 3) := by decide +kernel
theorem dX2_init_87 : decode cX2_init 87 = .ok (.putfield 32, 3) := by decide +kernel
theorem dX2_init_90 : decode cX2_init 90 = .ok (.aload_n 0, 1) := by decide +kernel
theorem dX2_init_91 : decode cX2_init 91 = .ok (.new 36, 3) := by decide +kernel
theorem dX2_init_94 : decode cX2_init 94 = .ok (.dup, 1) := by decide +kernel
theorem dX2_init_95 : decode cX2_init 95 = .ok (.invokespecial 38, 3) := by decide +kernel
theorem dX2_init_98 : decode cX2_init 98 = .ok (.putfield 39, 3) := by decide +kernel
theorem dX2_init_101 : decode cX2_init 101 = .ok (.return_, 1) := by decide +kernel
theorem dX2_copyFrom_0 : decode cX2_copyFrom 0 = .ok (.aload_n 0, 1) := by decide +kernel
theorem dX2_copyFrom_1 : decode cX2_copyFrom 1 = .ok (.aload_n 1, 1) := by decide +kernel
theorem dX2_copyFrom_2 : decode cX2_copyFrom 2 = .ok (.getfield 43, 3) := by decide +kernel
theorem dX2_copyFrom_5 : decode cX2_copyFrom 5 = .ok (.putfield 43, 3) := by decide +kernel
theorem dX2_copyFrom_8 : decode cX2_copyFrom 8 = .ok (.aload_n 0, 1) := by decide +kernel
theorem dX2_copyFrom_9 : decode cX2_copyFrom 9 = .ok (.aload_n 1, 1) := by decide +kernel
theorem dX2_copyFrom_10 : decode cX2_copyFrom 10 = .ok (.getfield 46, 3) := by decide +kernel
theorem dX2_copyFrom_13 : decode cX2_copyFrom 13 = .ok (.putfield 46, 3) := by decide +kernel
theorem dX2_copyFrom_16 : decode cX2_copyFrom 16 = .ok (.aload_n 0, 1) := by decide +kernel
theorem dX2_copyFrom_17 : decode cX2_copyFrom 17 = .ok (.aload_n 1, 1) := by decide +kernel
theorem dX2_copyFrom_18 : decode cX2_copyFrom 18 = .ok (.getfield 49, 3) := by decide +kernel
theorem dX2_copyFrom_21 : decode cX2_copyFrom 21 = .ok (.putfield 49, 3) := by decide +kernel
theorem dX2_copyFrom_24 : decode cX2_copyFrom 24 = .ok (.aload_n 0, 1) := by decide +kernel
theorem dX2_copyFrom_25 : decode cX2_copyFrom 25 = .ok (.aload_n 1, 1) := by decide +kernel
theorem dX2_copyFrom_26 : decode cX2_copyFrom 26 = .ok (.getfield 52, 3) := by decide +kernel
theorem dX2_copyFrom_29 : decode cX2_copyFrom 29 = .ok (.putfield 52, 3) := by decide +kernel
theorem dX2_copyFrom_32 : decode cX2_copyFrom 32 = .ok (.aload_n 0, 1) := by decide +kernel
theorem dX2_copyFrom_33 : decode cX2_copyFrom 33 = .ok (.aload_n 1, 1) := by decide +kernel
theorem dX2_copyFrom_34 : decode cX2_copyFrom 34 = .ok (.getfield 55, 3) := by decide +kernel
theorem dX2_copyFrom_37 : decode cX2_copyFrom 37 = .ok (.putfield 55, 3) := by decide +kernel
theorem dX2_copyFrom_40 : decode cX2_copyFrom 40 = .ok (.aload_n 0, 1) := by decide +kernel
theorem dX2_copyFrom_41 : decode cX2_copyFrom 41 = .ok (.aload_n 1, 1) := by decide +kernel
theorem dX2_copyFrom_42 : decode cX2_copyFrom 42 = .ok (.getfield 58, 3) := by decide +kernel
theorem dX2_copyFrom_45 : decode cX2_copyFrom 45 = .ok (.putfield 58, 3) := by decide +kernel
theorem dX2_copyFrom_48 : decode cX2_copyFrom 48 = .ok (.aload_n 0, 1) := by decide +kernel
theorem dX2_copyFrom_49 : decode cX2_copyFrom 49 = .ok (.aload_n 1, 1) := by decide +kernel
theorem dX2_copyFrom_50 : decode cX2_copyFrom 50 = .ok (.getfield 61, 3) := by decide +kernel
theorem dX2_copyFrom_53 : decode cX2_copyFrom 53 = .ok (.putfield 61, 3) := by decide +kernel
theorem dX2_copyFrom_56 : decode cX2_copyFrom 56 = .ok (.aload_n 0, 1) := by decide +kernel
theorem dX2_copyFrom_57 : decode cX2_copyFrom 57 = .ok (.aload_n 1, 1) := by decide +kernel
theorem dX2_copyFrom_58 : decode cX2_copyFrom 58 = .ok (.getfield 9, 3) := by decide +kernel
theorem dX2_copyFrom_61 : decode cX2_copyFrom 61 = .ok (.putfield 9, 3) := by decide +kernel
theorem dX2_copyFrom_64 : decode cX2_copyFrom 64 = .ok (.iconst 0, 1) := by decide +kernel
theorem dX2_copyFrom_65 : decode cX2_copyFrom 65 = .ok (.istore_n 2, 1) := by decide +kernel
theorem dX2_copyFrom_66 : decode cX2_copyFrom 66 = .ok (.iload_n 2, 1) := by decide +kernel
theorem dX2_copyFrom_67 : decode cX2_copyFrom 67 = .ok (.aload_n 0, 1) := by decide +kernel
theorem dX2_copyFrom_68 : decode cX2_copyFrom 68 = .ok (.getfield 58, 3) := by decide +kernel
theorem dX2_copyFrom_71 : decode cX2_copyFrom 71 = .ok (.if_icmp .ge 24, 3) := by decide +kernel
theorem dX2_copyFrom_74 : decode cX2_copyFrom 74 = .ok (.aload_n 0, 1) := by decide +kernel
theorem dX2_copyFrom_75 : decode cX2_copyFrom 75 = .ok (.getfield 17, 3) := by decide +kernel
theorem dX2_copyFrom_78 : decode cX2_copyFrom 78 = .ok (.iload_n 2, 1) := by decide +kernel
theorem dX2_copyFrom_79 : decode cX2_copyFrom 79 = .ok (.aaload, 1) := by decide +kernel
theorem dX2_copyFrom_80 : decode cX2_copyFrom 80 = .ok (.aload_n 1, 1) := by decide +kernel
theorem dX2_copyFrom_81 : decode cX2_copyFrom 81 = .ok (.getfield 17, 3) := by decide +kernel
theorem dX2_copyFrom_84 : decode cX2_copyFrom 84 = .ok (.iload_n 2, 1) := by decide +kernel
theorem dX2_copyFrom_85 : decode cX2_copyFrom 85 = .ok (.aaload, 1) := by decide +kernel
theorem dX2_copyFrom_86 : decode cX2_copyFrom 86 = .ok (.invokevirtual 64, 3) := by decide +kernel
theorem dX2_copyFrom_89 : decode cX2_copyFrom 89 = .ok (.iinc 2 1, 3) := by decide +kernel
theorem dX2_copyFrom_92 : decode cX2_copyFrom 92 = .ok (.goto (-26), 3) := by decide +kernel
theorem dX2_copyFrom_95 : decode cX2_copyFrom 95 = .ok (.iconst 0, 1) := by decide +kernel
theorem dX2_copyFrom_96 : decode cX2_copyFrom 96 = .ok (.istore_n 2, 1) := by decide +kernel
theorem dX2_copyFrom_97 : decode cX2_copyFrom 97 = .ok (.iload_n 2, 1) := by decide +kernel
theorem dX2_copyFrom_98 : decode cX2_copyFrom 98 = .ok (.iconst 4, 1) := by decide +kernel
theorem dX2_copyFrom_99 : decode cX2_copyFrom 99 = .ok (.if_icmp .ge 24, 3) := by decide +kernel
theorem dX2_copyFrom_102 : decode cX2_copyFrom 102 = .ok (.aload_n 0, 1) := by decide +kernel
theorem dX2_copyFrom_103 : decode cX2_copyFrom 103 = .ok (.getfield 24, 3) := by decide +kernel
theorem dX2_copyFrom_106 : decode cX2_copyFrom 106 = .ok (.iload_n 2, 1) := by decide +kernel
theorem dX2_copyFrom_107 : decode cX2_copyFrom 107 = .ok (.aaload, 1) := by decide +kernel
theorem dX2_copyFrom_108 : decode cX2_copyFrom 108 = .ok (.aload_n 1, 1) := by decide +kernel
theorem dX2_copyFrom_109 : decode cX2_copyFrom 109 = .ok (.getfield 24, 3) := by decide +kernel
theorem dX2_copyFrom_112 : decode cX2_copyFrom 112 = .ok (.iload_n 2, 1) := by decide +kernel
theorem dX2_copyFrom_113 : decode cX2_copyFrom 113 = .ok (.aaload, 1) := by decide +kernel
theorem dX2_copyFrom_114 : decode cX2_copyFrom 114 = .ok (.invokevirtual 68, 3) := by decide +kernel
theorem dX2_copyFrom_117 : decode cX2_copyFrom 117 = .ok (.iinc 2 1, 3) := by decide +kernel
theorem dX2_copyFrom_120 : decode cX2_copyFrom 120 = .ok (.goto (-23), 3) := by decide +kernel
theorem dX2_copyFrom_123 : decode cX2_copyFrom 123 = .ok (.aload_n 0, 1) := by decide +kernel
theorem dX2_copyFrom_124 : decode cX2_copyFrom 124 = .ok (.getfield 32, 3) := by decide +kernel
theorem dX2_copyFrom_127 : decode cX2_copyFrom 127 = .ok (.aload_n 1, 1) := by decide +kernel
theorem dX2_copyFrom_128 : decode cX2_copyFrom 128 = .ok (.getfield 32, 3) := by decide +kernel
theorem dX2_copyFrom_131 : decode cX2_copyFrom 131 = .ok (.invokevirtual 71, 3) := by decide +kernel
theorem dX2_copyFrom_134 : decode cX2_copyFrom 134 = .ok (.aload_n 0, 1) := by decide +kernel
theorem dX2_copyFrom_135 : decode cX2_copyFrom 135 = .ok (.getfield 39, 3) := by decide +kernel
theorem dX2_copyFrom_138 : decode cX2_copyFrom 138 = .ok (.aload_n 1, 1) := by decide +kernel
theorem dX2_copyFrom_139 : decode cX2_copyFrom 139 = .ok (.getfield 39, 3) := by decide +kernel
theorem dX2_copyFrom_142 : decode cX2_copyFrom 142 = .ok (.invokevirtual 74, 3) := by decide +kernel
theorem dX2_copyFrom_145 : decode cX2_copyFrom 145 = .ok (.return_, 1) := by decide +kernel
theorem dX2_hasRoomFor_0 : decode cX2_hasRoomFor 0 = .ok (.aload_n 0, 1) := by decide +kernel
theorem dX2_hasRoomFor_1 : decode cX2_hasRoomFor 1 = .ok (.getfield 58, 3) := by decide +kernel
theorem dX2_hasRoomFor_4 : decode cX2_hasRoomFor 4 = .ok (.iload_n 1, 1) := by decide +kernel
theorem dX2_hasRoomFor_5 : decode cX2_hasRoomFor 5 = .ok (.iadd, 1) := by decide +kernel
theorem dX2_hasRoomFor_6 : decode cX2_hasRoomFor 6 = .ok (.bipush 20, 2) := by decide +kernel
theorem dX2_hasRoomFor_8 : decode cX2_hasRoomFor 8 = .ok (.if_icmp .gt 19, 3) := by decide +kernel
theorem dX2_hasRoomFor_11 : decode cX2_hasRoomFor 11 = .ok (.aload_n 0, 1) := by decide +kernel
theorem dX2_hasRoomFor_12 : decode cX2_hasRoomFor 12 = .ok (.getfield 61, 3) := by decide +kernel
theorem dX2_hasRoomFor_15 : decode cX2_hasRoomFor 15 = .ok (.iload_n 1, 1) := by decide +kernel
theorem dX2_hasRoomFor_16 : decode cX2_hasRoomFor 16 = .ok (.iadd, 1) := by decide +kernel
theorem dX2_hasRoomFor_17 : decode cX2_hasRoomFor 17 = .ok (.sipush 500, 3) := by decide +kernel
theorem dX2_hasRoomFor_20 : decode cX2_hasRoomFor 20 = .ok (.if_icmp .gt 7, 3) := by decide +kernel
theorem dX2_hasRoomFor_23 : decode cX2_hasRoomFor 23 = .ok (.iconst 1, 1) := by decide +kernel
theorem dX2_hasRoomFor_24 : decode cX2_hasRoomFor 24 = .ok (.goto 4, 3) := by decide +kernel
theorem dX2_hasRoomFor_27 : decode cX2_hasRoomFor 27 = .ok (.iconst 0, 1) := by decide +kernel
theorem dX2_hasRoomFor_28 : decode cX2_hasRoomFor 28 = .ok (.ireturn, 1) := by decide +kernel
theorem dX2_placeOf_0 : decode cX2_placeOf 0 = .ok (.iconst 0, 1) := by decide +kernel
theorem dX2_placeOf_1 : decode cX2_placeOf 1 = .ok (.istore_n 2, 1) := by decide +kernel
theorem dX2_placeOf_2 : decode cX2_placeOf 2 = .ok (.iload_n 2, 1) := by decide +kernel
theorem dX2_placeOf_3 : decode cX2_placeOf 3 = .ok (.aload_n 0, 1) := by decide +kernel
theorem dX2_placeOf_4 : decode cX2_placeOf 4 = .ok (.getfield 58, 3) := by decide +kernel
theorem dX2_placeOf_7 : decode cX2_placeOf 7 = .ok (.if_icmp .ge 24, 3) := by decide +kernel
theorem dX2_placeOf_10 : decode cX2_placeOf 10 = .ok (.aload_n 0, 1) := by decide +kernel
theorem dX2_placeOf_11 : decode cX2_placeOf 11 = .ok (.getfield 17, 3) := by decide +kernel
theorem dX2_placeOf_14 : decode cX2_placeOf 14 = .ok (.iload_n 2, 1) := by decide +kernel
theorem dX2_placeOf_15 : decode cX2_placeOf 15 = .ok (.aaload, 1) := by decide +kernel
theorem dX2_placeOf_16 : decode cX2_placeOf 16 = .ok (.getfield 77, 3) := by decide +kernel
theorem dX2_placeOf_19 : decode cX2_placeOf 19 = .ok (.iload_n 1, 1) := by decide +kernel
theorem dX2_placeOf_20 : decode cX2_placeOf 20 = .ok (.if_icmp .ne 5, 3) := by decide +kernel
theorem dX2_placeOf_23 : decode cX2_placeOf 23 = .ok (.iload_n 2, 1) := by decide +kernel
theorem dX2_placeOf_24 : decode cX2_placeOf 24 = .ok (.ireturn, 1) := by decide +kernel
theorem dX2_placeOf_25 : decode cX2_placeOf 25 = .ok (.iinc 2 1, 3) := by decide +kernel
theorem dX2_placeOf_28 : decode cX2_placeOf 28 = .ok (.goto (-26), 3) := by decide +kernel
theorem dX2_placeOf_31 : decode cX2_placeOf 31 = .ok (.iconst (-1), 1) := by decide +kernel
theorem dX2_placeOf_32 : decode cX2_placeOf 32 = .ok (.ireturn, 1) := by decide +kernel
theorem dX2_hasRungSince_0 : decode cX2_hasRungSince 0 = .ok (.aload_n 0, 1) := by decide +kernel
theorem dX2_hasRungSince_1 : decode cX2_hasRungSince 1 = .ok (.iload_n 1, 1) := by decide +kernel
theorem dX2_hasRungSince_2 : decode cX2_hasRungSince 2 = .ok (.invokevirtual 80, 3) := by decide +kernel
theorem dX2_hasRungSince_5 : decode cX2_hasRungSince 5 = .ok (.istore_n 3, 1) := by decide +kernel
theorem dX2_hasRungSince_6 : decode cX2_hasRungSince 6 = .ok (.iload_n 3, 1) := by decide +kernel
theorem dX2_hasRungSince_7 : decode cX2_hasRungSince 7 = .ok (.iconst (-1), 1) := by decide +kernel
theorem dX2_hasRungSince_8 : decode cX2_hasRungSince 8 = .ok (.if_icmp .eq 16, 3) := by decide +kernel
theorem dX2_hasRungSince_11 : decode cX2_hasRungSince 11 = .ok (.aload_n 0, 1) := by decide +kernel
theorem dX2_hasRungSince_12 : decode cX2_hasRungSince 12 = .ok (.getfield 17, 3) := by decide +kernel
theorem dX2_hasRungSince_15 : decode cX2_hasRungSince 15 = .ok (.iload_n 3, 1) := by decide +kernel
theorem dX2_hasRungSince_16 : decode cX2_hasRungSince 16 = .ok (.aaload, 1) := by decide +kernel
theorem dX2_hasRungSince_17 : decode cX2_hasRungSince 17 = .ok (.getfield 84, 3) := by decide +kernel
theorem dX2_hasRungSince_20 : decode cX2_hasRungSince 20 = .ok (.iload_n 2, 1) := by decide +kernel
theorem dX2_hasRungSince_21 : decode cX2_hasRungSince 21 = .ok (.if_icmp .le 7, 3) := by decide +kernel
theorem dX2_hasRungSince_24 : decode cX2_hasRungSince 24 = .ok (.iconst 1, 1) := by decide +kernel
theorem dX2_hasRungSince_25 : decode cX2_hasRungSince 25 = .ok (.goto 4, 3) := by decide +kernel
theorem dX2_hasRungSince_28 : decode cX2_hasRungSince 28 = .ok (.iconst 0, 1) := by decide +kernel
theorem dX2_hasRungSince_29 : decode cX2_hasRungSince 29 = .ok (.ireturn, 1) := by decide +kernel
theorem dX2_addAlarm_0 : decode cX2_addAlarm 0 = .ok (.aload_n 0, 1) := by decide +kernel
theorem dX2_addAlarm_1 : decode cX2_addAlarm 1 = .ok (.iconst 1, 1) := by decide +kernel
theorem dX2_addAlarm_2 : decode cX2_addAlarm 2 = .ok (.invokevirtual 87, 3) := by decide +kernel
theorem dX2_addAlarm_5 : decode cX2_addAlarm 5 = .ok (.ifCond .ne 7, 3) := by decide +kernel
theorem dX2_addAlarm_8 : decode cX2_addAlarm 8 = .ok (.sipush (-1003), 3) := by decide +kernel
theorem dX2_addAlarm_11 : decode cX2_addAlarm 11 = .ok (.ireturn, 1) := by decide +kernel
theorem dX2_addAlarm_12 : decode cX2_addAlarm 12 = .ok (.aload_n 0, 1) := by decide +kernel
theorem dX2_addAlarm_13 : decode cX2_addAlarm 13 = .ok (.getfield 61, 3) := by decide +kernel
theorem dX2_addAlarm_16 : decode cX2_addAlarm 16 = .ok (.istore 4, 2) := by decide +kernel
theorem dX2_addAlarm_18 : decode cX2_addAlarm 18 = .ok (.aload_n 0, 1) := by decide +kernel
theorem dX2_addAlarm_19 : decode cX2_addAlarm 19 = .ok (.getfield 17, 3) := by decide +kernel
theorem dX2_addAlarm_22 : decode cX2_addAlarm 22 = .ok (.aload_n 0, 1) := by decide +kernel
theorem dX2_addAlarm_23 : decode cX2_addAlarm 23 = .ok (.getfield 58, 3) := by decide +kernel
theorem dX2_addAlarm_26 : decode cX2_addAlarm 26 = .ok (.aaload, 1) := by decide +kernel
theorem dX2_addAlarm_27 : decode cX2_addAlarm 27 = .ok (.iload 4, 2) := by decide +kernel
theorem dX2_addAlarm_29 : decode cX2_addAlarm 29 = .ok (.iload_n 1, 1) := by decide +kernel
theorem dX2_addAlarm_30 : decode cX2_addAlarm 30 = .ok (.iload_n 2, 1) := by decide +kernel
theorem dX2_addAlarm_31 : decode cX2_addAlarm 31 = .ok (.iload_n 3, 1) := by decide +kernel
theorem dX2_addAlarm_32 : decode cX2_addAlarm 32 = .ok (.invokevirtual 91, 3) := by decide +kernel
theorem dX2_addAlarm_35 : decode cX2_addAlarm 35 = .ok (.aload_n 0, 1) := by decide +kernel
theorem dX2_addAlarm_36 : decode cX2_addAlarm 36 = .ok (.dup, 1) := by decide +kernel
theorem dX2_addAlarm_37 : decode cX2_addAlarm 37 = .ok (.getfield 58, 3) := by decide +kernel
theorem dX2_addAlarm_40 : decode cX2_addAlarm 40 = .ok (.iconst 1, 1) := by decide +kernel
theorem dX2_addAlarm_41 : decode cX2_addAlarm 41 = .ok (.iadd, 1) := by decide +kernel
theorem dX2_addAlarm_42 : decode cX2_addAlarm 42 = .ok (.putfield 58, 3) := by decide +kernel
theorem dX2_addAlarm_45 : decode cX2_addAlarm 45 = .ok (.aload_n 0, 1) := by decide +kernel
theorem dX2_addAlarm_46 : decode cX2_addAlarm 46 = .ok (.dup, 1) := by decide +kernel
theorem dX2_addAlarm_47 : decode cX2_addAlarm 47 = .ok (.getfield 61, 3) := by decide +kernel
theorem dX2_addAlarm_50 : decode cX2_addAlarm 50 = .ok (.iconst 1, 1) := by decide +kernel
theorem dX2_addAlarm_51 : decode cX2_addAlarm 51 = .ok (.iadd, 1) := by decide +kernel
theorem dX2_addAlarm_52 : decode cX2_addAlarm 52 = .ok (.putfield 61, 3) := by decide +kernel
theorem dX2_addAlarm_55 : decode cX2_addAlarm 55 = .ok (.aload_n 0, 1) := by decide +kernel
theorem dX2_addAlarm_56 : decode cX2_addAlarm 56 = .ok (.invokevirtual 95, 3) := by decide +kernel
theorem dX2_addAlarm_59 : decode cX2_addAlarm 59 = .ok (.aload_n 0, 1) := by decide +kernel
theorem dX2_addAlarm_60 : decode cX2_addAlarm 60 = .ok (.invokevirtual 98, 3) := by decide +kernel
theorem dX2_addAlarm_63 : decode cX2_addAlarm 63 = .ok (.iload 4, 2) := by decide +kernel
theorem dX2_addAlarm_65 : decode cX2_addAlarm 65 = .ok (.ireturn, 1) := by decide +kernel
theorem dX2_cancelAlarm_0 : decode cX2_cancelAlarm 0 = .ok (.aload_n 0, 1) := by decide +kernel
theorem dX2_cancelAlarm_1 : decode cX2_cancelAlarm 1 = .ok (.aload_n 0, 1) := by decide +kernel
theorem dX2_cancelAlarm_2 : decode cX2_cancelAlarm 2 = .ok (.getfield 17, 3) := by decide +kernel
theorem dX2_cancelAlarm_5 : decode cX2_cancelAlarm 5 = .ok (.iload_n 1, 1) := by decide +kernel
theorem dX2_cancelAlarm_6 : decode cX2_cancelAlarm 6 = .ok (.aaload, 1) := by decide +kernel
theorem dX2_cancelAlarm_7 : decode cX2_cancelAlarm 7 = .ok (.invokevirtual 101, 3) := by decide +kernel
theorem dX2_cancelAlarm_10 : decode cX2_cancelAlarm 10 = .ok (.aload_n 0, 1) := by decide +kernel
theorem dX2_cancelAlarm_11 : decode cX2_cancelAlarm 11 = .ok (.iload_n 1, 1) := by decide +kernel
theorem dX2_cancelAlarm_12 : decode cX2_cancelAlarm 12 = .ok (.invokevirtual 104, 3) := by decide +kernel
theorem dX2_cancelAlarm_15 : decode cX2_cancelAlarm 15 = .ok (.aload_n 0, 1) := by decide +kernel
theorem dX2_cancelAlarm_16 : decode cX2_cancelAlarm 16 = .ok (.invokevirtual 98, 3) := by decide +kernel
theorem dX2_cancelAlarm_19 : decode cX2_cancelAlarm 19 = .ok (.return_, 1) := by decide +kernel
theorem dX2_moveAlarm_0 : decode cX2_moveAlarm 0 = .ok (.aload_n 0, 1) := by decide +kernel
theorem dX2_moveAlarm_1 : decode cX2_moveAlarm 1 = .ok (.getfield 17, 3) := by decide +kernel
theorem dX2_moveAlarm_4 : decode cX2_moveAlarm 4 = .ok (.iload_n 1, 1) := by decide +kernel
theorem dX2_moveAlarm_5 : decode cX2_moveAlarm 5 = .ok (.aaload, 1) := by decide +kernel
theorem dX2_moveAlarm_6 : decode cX2_moveAlarm 6 = .ok (.astore_n 3, 1) := by decide +kernel
theorem dX2_moveAlarm_7 : decode cX2_moveAlarm 7 = .ok (.aload_n 0, 1) := by decide +kernel
theorem dX2_moveAlarm_8 : decode cX2_moveAlarm 8 = .ok (.aload_n 3, 1) := by decide +kernel
theorem dX2_moveAlarm_9 : decode cX2_moveAlarm 9 = .ok (.invokevirtual 101, 3) := by decide +kernel
theorem dX2_moveAlarm_12 : decode cX2_moveAlarm 12 = .ok (.aload_n 3, 1) := by decide +kernel
theorem dX2_moveAlarm_13 : decode cX2_moveAlarm 13 = .ok (.iload_n 2, 1) := by decide +kernel
theorem dX2_moveAlarm_14 : decode cX2_moveAlarm 14 = .ok (.putfield 108, 3) := by decide +kernel
theorem dX2_moveAlarm_17 : decode cX2_moveAlarm 17 = .ok (.aload_n 0, 1) := by decide +kernel
theorem dX2_moveAlarm_18 : decode cX2_moveAlarm 18 = .ok (.invokevirtual 95, 3) := by decide +kernel
theorem dX2_moveAlarm_21 : decode cX2_moveAlarm 21 = .ok (.aload_n 0, 1) := by decide +kernel
theorem dX2_moveAlarm_22 : decode cX2_moveAlarm 22 = .ok (.invokevirtual 98, 3) := by decide +kernel
theorem dX2_moveAlarm_25 : decode cX2_moveAlarm 25 = .ok (.return_, 1) := by decide +kernel
theorem dX2_sortAlarms_0 : decode cX2_sortAlarms 0 = .ok (.iconst 1, 1) := by decide +kernel
theorem dX2_sortAlarms_1 : decode cX2_sortAlarms 1 = .ok (.istore_n 1, 1) := by decide +kernel
theorem dX2_sortAlarms_2 : decode cX2_sortAlarms 2 = .ok (.iload_n 1, 1) := by decide +kernel
theorem dX2_sortAlarms_3 : decode cX2_sortAlarms 3 = .ok (.aload_n 0, 1) := by decide +kernel
theorem dX2_sortAlarms_4 : decode cX2_sortAlarms 4 = .ok (.getfield 58, 3) := by decide +kernel
theorem dX2_sortAlarms_7 : decode cX2_sortAlarms 7 = .ok (.if_icmp .ge 71, 3) := by decide +kernel
theorem dX2_sortAlarms_10 : decode cX2_sortAlarms 10 = .ok (.iload_n 1, 1) := by decide +kernel
theorem dX2_sortAlarms_11 : decode cX2_sortAlarms 11 = .ok (.istore_n 2, 1) := by decide +kernel
theorem dX2_sortAlarms_12 : decode cX2_sortAlarms 12 = .ok (.iload_n 2, 1) := by decide +kernel
theorem dX2_sortAlarms_13 : decode cX2_sortAlarms 13 = .ok (.ifCond .le 59, 3) := by decide +kernel
theorem dX2_sortAlarms_16 : decode cX2_sortAlarms 16 = .ok (.aload_n 0, 1) := by decide +kernel
theorem dX2_sortAlarms_17 : decode cX2_sortAlarms 17 = .ok (.getfield 17, 3) := by decide +kernel
theorem dX2_sortAlarms_20 : decode cX2_sortAlarms 20 = .ok (.iload_n 2, 1) := by decide +kernel
theorem dX2_sortAlarms_21 : decode cX2_sortAlarms 21 = .ok (.aaload, 1) := by decide +kernel
theorem dX2_sortAlarms_22 : decode cX2_sortAlarms 22 = .ok (.aload_n 0, 1) := by decide +kernel
theorem dX2_sortAlarms_23 : decode cX2_sortAlarms 23 = .ok (.getfield 17, 3) := by decide +kernel
theorem dX2_sortAlarms_26 : decode cX2_sortAlarms 26 = .ok (.iload_n 2, 1) := by decide +kernel
theorem dX2_sortAlarms_27 : decode cX2_sortAlarms 27 = .ok (.iconst 1, 1) := by decide +kernel
theorem dX2_sortAlarms_28 : decode cX2_sortAlarms 28 = .ok (.isub, 1) := by decide +kernel
theorem dX2_sortAlarms_29 : decode cX2_sortAlarms 29 = .ok (.aaload, 1) := by decide +kernel
theorem dX2_sortAlarms_30 : decode cX2_sortAlarms 30 = .ok (.invokevirtual 111, 3) := by decide +kernel
theorem dX2_sortAlarms_33 : decode cX2_sortAlarms 33 = .ok (.ifCond .eq 39, 3) := by decide +kernel
theorem dX2_sortAlarms_36 : decode cX2_sortAlarms 36 = .ok (.aload_n 0, 1) := by decide +kernel
theorem dX2_sortAlarms_37 : decode cX2_sortAlarms 37 = .ok (.getfield 17, 3) := by decide +kernel
theorem dX2_sortAlarms_40 : decode cX2_sortAlarms 40 = .ok (.iload_n 2, 1) := by decide +kernel
theorem dX2_sortAlarms_41 : decode cX2_sortAlarms 41 = .ok (.aaload, 1) := by decide +kernel
theorem dX2_sortAlarms_42 : decode cX2_sortAlarms 42 = .ok (.astore_n 3, 1) := by decide +kernel
theorem dX2_sortAlarms_43 : decode cX2_sortAlarms 43 = .ok (.aload_n 0, 1) := by decide +kernel
theorem dX2_sortAlarms_44 : decode cX2_sortAlarms 44 = .ok (.getfield 17, 3) := by decide +kernel
theorem dX2_sortAlarms_47 : decode cX2_sortAlarms 47 = .ok (.iload_n 2, 1) := by decide +kernel
theorem dX2_sortAlarms_48 : decode cX2_sortAlarms 48 = .ok (.aload_n 0, 1) := by decide +kernel
theorem dX2_sortAlarms_49 : decode cX2_sortAlarms 49 = .ok (.getfield 17, 3) := by decide +kernel
theorem dX2_sortAlarms_52 : decode cX2_sortAlarms 52 = .ok (.iload_n 2, 1) := by decide +kernel
theorem dX2_sortAlarms_53 : decode cX2_sortAlarms 53 = .ok (.iconst 1, 1) := by decide +kernel
theorem dX2_sortAlarms_54 : decode cX2_sortAlarms 54 = .ok (.isub, 1) := by decide +kernel
theorem dX2_sortAlarms_55 : decode cX2_sortAlarms 55 = .ok (.aaload, 1) := by decide +kernel
theorem dX2_sortAlarms_56 : decode cX2_sortAlarms 56 = .ok (.aastore, 1) := by decide +kernel
theorem dX2_sortAlarms_57 : decode cX2_sortAlarms 57 = .ok (.aload_n 0, 1) := by decide +kernel
theorem dX2_sortAlarms_58 : decode cX2_sortAlarms 58 = .ok (.getfield 17, 3) := by decide +kernel
theorem dX2_sortAlarms_61 : decode cX2_sortAlarms 61 = .ok (.iload_n 2, 1) := by decide +kernel
theorem dX2_sortAlarms_62 : decode cX2_sortAlarms 62 = .ok (.iconst 1, 1) := by decide +kernel
theorem dX2_sortAlarms_63 : decode cX2_sortAlarms 63 = .ok (.isub, 1) := by decide +kernel
theorem dX2_sortAlarms_64 : decode cX2_sortAlarms 64 = .ok (.aload_n 3, 1) := by decide +kernel
theorem dX2_sortAlarms_65 : decode cX2_sortAlarms 65 = .ok (.aastore, 1) := by decide +kernel
theorem dX2_sortAlarms_66 : decode cX2_sortAlarms 66 = .ok (.iinc 2 (-1), 3) := by decide +kernel
theorem dX2_sortAlarms_69 : decode cX2_sortAlarms 69 = .ok (.goto (-57), 3) := by decide +kernel
theorem dX2_sortAlarms_72 : decode cX2_sortAlarms 72 = .ok (.iinc 1 1, 3) := by decide +kernel
theorem dX2_sortAlarms_75 : decode cX2_sortAlarms 75 = .ok (.goto (-73), 3) := by decide +kernel
theorem dX2_sortAlarms_78 : decode cX2_sortAlarms 78 = .ok (.return_, 1) := by decide +kernel
theorem dX2_removeAlarm_0 : decode cX2_removeAlarm 0 = .ok (.aload_n 0, 1) := by decide +kernel
theorem dX2_removeAlarm_1 : decode cX2_removeAlarm 1 = .ok (.getfield 17, 3) := by decide +kernel
theorem dX2_removeAlarm_4 : decode cX2_removeAlarm 4 = .ok (.iload_n 1, 1) := by decide +kernel
theorem dX2_removeAlarm_5 : decode cX2_removeAlarm 5 = .ok (.aaload, 1) := by decide +kernel
theorem dX2_removeAlarm_6 : decode cX2_removeAlarm 6 = .ok (.astore_n 2, 1) := by decide +kernel
theorem dX2_removeAlarm_7 : decode cX2_removeAlarm 7 = .ok (.iload_n 1, 1) := by decide +kernel
theorem dX2_removeAlarm_8 : decode cX2_removeAlarm 8 = .ok (.istore_n 3, 1) := by decide +kernel
theorem dX2_removeAlarm_9 : decode cX2_removeAlarm 9 = .ok (.iload_n 3, 1) := by decide +kernel
theorem dX2_removeAlarm_10 : decode cX2_removeAlarm 10 = .ok (.iconst 1, 1) := by decide +kernel
theorem dX2_removeAlarm_11 : decode cX2_removeAlarm 11 = .ok (.iadd, 1) := by decide +kernel
theorem dX2_removeAlarm_12 : decode cX2_removeAlarm 12 = .ok (.aload_n 0, 1) := by decide +kernel
theorem dX2_removeAlarm_13 : decode cX2_removeAlarm 13 = .ok (.getfield 58, 3) := by decide +kernel
theorem dX2_removeAlarm_16 : decode cX2_removeAlarm 16 = .ok (.if_icmp .ge 23, 3) := by decide +kernel
theorem dX2_removeAlarm_19 : decode cX2_removeAlarm 19 = .ok (.aload_n 0, 1) := by decide +kernel
theorem dX2_removeAlarm_20 : decode cX2_removeAlarm 20 = .ok (.getfield 17, 3) := by decide +kernel
theorem dX2_removeAlarm_23 : decode cX2_removeAlarm 23 = .ok (.iload_n 3, 1) := by decide +kernel
theorem dX2_removeAlarm_24 : decode cX2_removeAlarm 24 = .ok (.aload_n 0, 1) := by decide +kernel
theorem dX2_removeAlarm_25 : decode cX2_removeAlarm 25 = .ok (.getfield 17, 3) := by decide +kernel
theorem dX2_removeAlarm_28 : decode cX2_removeAlarm 28 = .ok (.iload_n 3, 1) := by decide +kernel
theorem dX2_removeAlarm_29 : decode cX2_removeAlarm 29 = .ok (.iconst 1, 1) := by decide +kernel
theorem dX2_removeAlarm_30 : decode cX2_removeAlarm 30 = .ok (.iadd, 1) := by decide +kernel
theorem dX2_removeAlarm_31 : decode cX2_removeAlarm 31 = .ok (.aaload, 1) := by decide +kernel
theorem dX2_removeAlarm_32 : decode cX2_removeAlarm 32 = .ok (.aastore, 1) := by decide +kernel
theorem dX2_removeAlarm_33 : decode cX2_removeAlarm 33 = .ok (.iinc 3 1, 3) := by decide +kernel
theorem dX2_removeAlarm_36 : decode cX2_removeAlarm 36 = .ok (.goto (-27), 3) := by decide +kernel
theorem dX2_removeAlarm_39 : decode cX2_removeAlarm 39 = .ok (.aload_n 0, 1) := by decide +kernel
theorem dX2_removeAlarm_40 : decode cX2_removeAlarm 40 = .ok (.dup, 1) := by decide +kernel
theorem dX2_removeAlarm_41 : decode cX2_removeAlarm 41 = .ok (.getfield 58, 3) := by decide +kernel
theorem dX2_removeAlarm_44 : decode cX2_removeAlarm 44 = .ok (.iconst 1, 1) := by decide +kernel
theorem dX2_removeAlarm_45 : decode cX2_removeAlarm 45 = .ok (.isub, 1) := by decide +kernel
theorem dX2_removeAlarm_46 : decode cX2_removeAlarm 46 = .ok (.putfield 58, 3) := by decide +kernel
theorem dX2_removeAlarm_49 : decode cX2_removeAlarm 49 = .ok (.aload_n 0, 1) := by decide +kernel
theorem dX2_removeAlarm_50 : decode cX2_removeAlarm 50 = .ok (.getfield 17, 3) := by decide +kernel
theorem dX2_removeAlarm_53 : decode cX2_removeAlarm 53 = .ok (.aload_n 0, 1) := by decide +kernel
theorem dX2_removeAlarm_54 : decode cX2_removeAlarm 54 = .ok (.getfield 58, 3) := by decide +kernel
theorem dX2_removeAlarm_57 : decode cX2_removeAlarm 57 = .ok (.aload_n 2, 1) := by decide +kernel
theorem dX2_removeAlarm_58 : decode cX2_removeAlarm 58 = .ok (.aastore, 1) := by decide +kernel
theorem dX2_removeAlarm_59 : decode cX2_removeAlarm 59 = .ok (.return_, 1) := by decide +kernel
theorem dX2_alarmsWithoutComparer_0 : decode cX2_alarmsWithoutComparer 0 = .ok (.iconst 0, 1) := by decide +kernel
theorem dX2_alarmsWithoutComparer_1 : decode cX2_alarmsWithoutComparer 1 = .ok (.istore_n 1, 1) := by decide +kernel
theorem dX2_alarmsWithoutComparer_2 : decode cX2_alarmsWithoutComparer 2 = .ok (.iconst 0, 1) := by decide +kernel
theorem dX2_alarmsWithoutComparer_3 : decode cX2_alarmsWithoutComparer 3 = .ok (.istore_n 2, 1) := by decide +kernel
theorem dX2_alarmsWithoutComparer_4 : decode cX2_alarmsWithoutComparer 4 = .ok (.iload_n 2, 1) := by decide +kernel
theorem dX2_alarmsWithoutComparer_5 : decode cX2_alarmsWithoutComparer 5 = .ok (.aload_n 0, 1) := by decide +kernel
theorem dX2_alarmsWithoutComparer_6 : decode cX2_alarmsWithoutComparer 6 = .ok (.getfield 58, 3) := by decide +kernel
theorem dX2_alarmsWithoutComparer_9 : decode cX2_alarmsWithoutComparer 9 = .ok (.if_icmp .ge 27, 3) := by decide +kernel
theorem dX2_alarmsWithoutComparer_12 : decode cX2_alarmsWithoutComparer 12 = .ok (.aload_n 0, 1) := by decide +kernel
theorem dX2_alarmsWithoutComparer_13 : decode cX2_alarmsWithoutComparer 13 = .ok (.getfield 17, 3) := by decide +kernel
theorem dX2_alarmsWithoutComparer_16 : decode cX2_alarmsWithoutComparer 16 = .ok (.iload_n 2, 1) := by decide +kernel
theorem dX2_alarmsWithoutComparer_17 : decode cX2_alarmsWithoutComparer 17 = .ok (.aaload, 1) := by decide +kernel
theorem dX2_alarmsWithoutComparer_18 : decode cX2_alarmsWithoutComparer 18 = .ok (.getfield 115, 3) := by decide +kernel
theorem dX2_alarmsWithoutComparer_21 : decode cX2_alarmsWithoutComparer 21 = .ok (.sipush (-1005), 3) := by decide +kernel
theorem dX2_alarmsWithoutComparer_24 : decode cX2_alarmsWithoutComparer 24 = .ok (.if_icmp .ne 6, 3) := by decide +kernel
theorem dX2_alarmsWithoutComparer_27 : decode cX2_alarmsWithoutComparer 27 = .ok (.iinc 1 1, 3) := by decide +kernel
theorem dX2_alarmsWithoutComparer_30 : decode cX2_alarmsWithoutComparer 30 = .ok (.iinc 2 1, 3) := by decide +kernel
theorem dX2_alarmsWithoutComparer_33 : decode cX2_alarmsWithoutComparer 33 = .ok (.goto (-29), 3) := by decide +kernel
theorem dX2_alarmsWithoutComparer_36 : decode cX2_alarmsWithoutComparer 36 = .ok (.iload_n 1, 1) := by decide +kernel
theorem dX2_alarmsWithoutComparer_37 : decode cX2_alarmsWithoutComparer 37 = .ok (.ireturn, 1) := by decide +kernel
theorem dX2_tick_0 : decode cX2_tick 0 = .ok (.aload_n 0, 1) := by decide +kernel
theorem dX2_tick_1 : decode cX2_tick 1 = .ok (.dup, 1) := by decide +kernel
theorem dX2_tick_2 : decode cX2_tick 2 = .ok (.getfield 46, 3) := by decide +kernel
theorem dX2_tick_5 : decode cX2_tick 5 = .ok (.iconst 1, 1) := by decide +kernel
theorem dX2_tick_6 : decode cX2_tick 6 = .ok (.iadd, 1) := by decide +kernel
theorem dX2_tick_7 : decode cX2_tick 7 = .ok (.putfield 46, 3) := by decide +kernel
theorem dX2_tick_10 : decode cX2_tick 10 = .ok (.aload_n 0, 1) := by decide +kernel
theorem dX2_tick_11 : decode cX2_tick 11 = .ok (.dup, 1) := by decide +kernel
theorem dX2_tick_12 : decode cX2_tick 12 = .ok (.getfield 43, 3) := by decide +kernel
theorem dX2_tick_15 : decode cX2_tick 15 = .ok (.aload_n 0, 1) := by decide +kernel
theorem dX2_tick_16 : decode cX2_tick 16 = .ok (.invokevirtual 118, 3) := by decide +kernel
theorem dX2_tick_19 : decode cX2_tick 19 = .ok (.iadd, 1) := by decide +kernel
theorem dX2_tick_20 : decode cX2_tick 20 = .ok (.putfield 43, 3) := by decide +kernel
theorem dX2_tick_23 : decode cX2_tick 23 = .ok (.iconst 0, 1) := by decide +kernel
theorem dX2_tick_24 : decode cX2_tick 24 = .ok (.istore_n 1, 1) := by decide +kernel
theorem dX2_tick_25 : decode cX2_tick 25 = .ok (.iload_n 1, 1) := by decide +kernel
theorem dX2_tick_26 : decode cX2_tick 26 = .ok (.aload_n 0, 1) := by decide +kernel
theorem dX2_tick_27 : decode cX2_tick 27 = .ok (.getfield 9, 3) := by decide +kernel
theorem dX2_tick_30 : decode cX2_tick 30 = .ok (.if_icmp .ge 18, 3) := by decide +kernel
theorem dX2_tick_33 : decode cX2_tick 33 = .ok (.aload_n 0, 1) := by decide +kernel
theorem dX2_tick_34 : decode cX2_tick 34 = .ok (.getfield 24, 3) := by decide +kernel
theorem dX2_tick_37 : decode cX2_tick 37 = .ok (.iload_n 1, 1) := by decide +kernel
theorem dX2_tick_38 : decode cX2_tick 38 = .ok (.aaload, 1) := by decide +kernel
theorem dX2_tick_39 : decode cX2_tick 39 = .ok (.invokevirtual 122, 3) := by decide +kernel
theorem dX2_tick_42 : decode cX2_tick 42 = .ok (.iinc 1 1, 3) := by decide +kernel
theorem dX2_tick_45 : decode cX2_tick 45 = .ok (.goto (-20), 3) := by decide +kernel
theorem dX2_tick_48 : decode cX2_tick 48 = .ok (.iconst 0, 1) := by decide +kernel
theorem dX2_tick_49 : decode cX2_tick 49 = .ok (.istore_n 1, 1) := by decide +kernel
theorem dX2_tick_50 : decode cX2_tick 50 = .ok (.iconst 0, 1) := by decide +kernel
theorem dX2_tick_51 : decode cX2_tick 51 = .ok (.istore_n 2, 1) := by decide +kernel
theorem dX2_tick_52 : decode cX2_tick 52 = .ok (.iload_n 2, 1) := by decide +kernel
theorem dX2_tick_53 : decode cX2_tick 53 = .ok (.aload_n 0, 1) := by decide +kernel
theorem dX2_tick_54 : decode cX2_tick 54 = .ok (.getfield 9, 3) := by decide +kernel
theorem dX2_tick_57 : decode cX2_tick 57 = .ok (.if_icmp .ge 32, 3) := by decide +kernel
theorem dX2_tick_60 : decode cX2_tick 60 = .ok (.aload_n 0, 1) := by decide +kernel
theorem dX2_tick_61 : decode cX2_tick 61 = .ok (.getfield 24, 3) := by decide +kernel
theorem dX2_tick_64 : decode cX2_tick 64 = .ok (.iload_n 2, 1) := by decide +kernel
theorem dX2_tick_65 : decode cX2_tick 65 = .ok (.aaload, 1) := by decide +kernel
theorem dX2_tick_66 : decode cX2_tick 66 = .ok (.aload_n 0, 1) := by decide +kernel
theorem dX2_tick_67 : decode cX2_tick 67 = .ok (.getfield 43, 3) := by decide +kernel
theorem dX2_tick_70 : decode cX2_tick 70 = .ok (.invokevirtual 125, 3) := by decide +kernel
theorem dX2_tick_73 : decode cX2_tick 73 = .ok (.ifCond .eq 10, 3) := by decide +kernel
theorem dX2_tick_76 : decode cX2_tick 76 = .ok (.aload_n 0, 1) := by decide +kernel
theorem dX2_tick_77 : decode cX2_tick 77 = .ok (.iload_n 2, 1) := by decide +kernel
theorem dX2_tick_78 : decode cX2_tick 78 = .ok (.invokevirtual 128, 3) := by decide +kernel
theorem dX2_tick_81 : decode cX2_tick 81 = .ok (.iconst 1, 1) := by decide +kernel
theorem dX2_tick_82 : decode cX2_tick 82 = .ok (.istore_n 1, 1) := by decide +kernel
theorem dX2_tick_83 : decode cX2_tick 83 = .ok (.iinc 2 1, 3) := by decide +kernel
theorem dX2_tick_86 : decode cX2_tick 86 = .ok (.goto (-34), 3) := by decide +kernel
theorem dX2_tick_89 : decode cX2_tick 89 = .ok (.iload_n 1, 1) := by decide +kernel
theorem dX2_tick_90 : decode cX2_tick 90 = .ok (.ifCond .eq 7, 3) := by decide +kernel
theorem dX2_tick_93 : decode cX2_tick 93 = .ok (.aload_n 0, 1) := by decide +kernel
theorem dX2_tick_94 : decode cX2_tick 94 = .ok (.invokevirtual 98, 3) := by decide +kernel
theorem dX2_tick_97 : decode cX2_tick 97 = .ok (.return_, 1) := by decide +kernel
theorem dX2_growth_0 : decode cX2_growth 0 = .ok (.aload_n 0, 1) := by decide +kernel
theorem dX2_growth_1 : decode cX2_growth 1 = .ok (.getfield 49, 3) := by decide +kernel
theorem dX2_growth_4 : decode cX2_growth 4 = .ok (.ifCond .eq 15, 3) := by decide +kernel
theorem dX2_growth_7 : decode cX2_growth 7 = .ok (.aload_n 0, 1) := by decide +kernel
theorem dX2_growth_8 : decode cX2_growth 8 = .ok (.getfield 46, 3) := by decide +kernel
theorem dX2_growth_11 : decode cX2_growth 11 = .ok (.aload_n 0, 1) := by decide +kernel
theorem dX2_growth_12 : decode cX2_growth 12 = .ok (.getfield 49, 3) := by decide +kernel
theorem dX2_growth_15 : decode cX2_growth 15 = .ok (.irem, 1) := by decide +kernel
theorem dX2_growth_16 : decode cX2_growth 16 = .ok (.ifCond .eq 5, 3) := by decide +kernel
theorem dX2_growth_19 : decode cX2_growth 19 = .ok (.iconst 1, 1) := by decide +kernel
theorem dX2_growth_20 : decode cX2_growth 20 = .ok (.ireturn, 1) := by decide +kernel
theorem dX2_growth_21 : decode cX2_growth 21 = .ok (.aload_n 0, 1) := by decide +kernel
theorem dX2_growth_22 : decode cX2_growth 22 = .ok (.getfield 49, 3) := by decide +kernel
theorem dX2_growth_25 : decode cX2_growth 25 = .ok (.ifCond .le 7, 3) := by decide +kernel
theorem dX2_growth_28 : decode cX2_growth 28 = .ok (.iconst 2, 1) := by decide +kernel
theorem dX2_growth_29 : decode cX2_growth 29 = .ok (.goto 4, 3) := by decide +kernel
theorem dX2_growth_32 : decode cX2_growth 32 = .ok (.iconst 0, 1) := by decide +kernel
theorem dX2_growth_33 : decode cX2_growth 33 = .ok (.ireturn, 1) := by decide +kernel
theorem dX2_ringComparer_0 : decode cX2_ringComparer 0 = .ok (.iconst 0, 1) := by decide +kernel
theorem dX2_ringComparer_1 : decode cX2_ringComparer 1 = .ok (.istore_n 2, 1) := by decide +kernel
theorem dX2_ringComparer_2 : decode cX2_ringComparer 2 = .ok (.iload_n 2, 1) := by decide +kernel
theorem dX2_ringComparer_3 : decode cX2_ringComparer 3 = .ok (.aload_n 0, 1) := by decide +kernel
theorem dX2_ringComparer_4 : decode cX2_ringComparer 4 = .ok (.getfield 58, 3) := by decide +kernel
theorem dX2_ringComparer_7 : decode cX2_ringComparer 7 = .ok (.if_icmp .ge 33, 3) := by decide +kernel
theorem dX2_ringComparer_10 : decode cX2_ringComparer 10 = .ok (.aload_n 0, 1) := by decide +kernel
theorem dX2_ringComparer_11 : decode cX2_ringComparer 11 = .ok (.getfield 17, 3) := by decide +kernel
theorem dX2_ringComparer_14 : decode cX2_ringComparer 14 = .ok (.iload_n 2, 1) := by decide +kernel
theorem dX2_ringComparer_15 : decode cX2_ringComparer 15 = .ok (.aaload, 1) := by decide +kernel
theorem dX2_ringComparer_16 : decode cX2_ringComparer 16 = .ok (.getfield 115, 3) := by decide +kernel
theorem dX2_ringComparer_19 : decode cX2_ringComparer 19 = .ok (.iload_n 1, 1) := by decide +kernel
theorem dX2_ringComparer_20 : decode cX2_ringComparer 20 = .ok (.if_icmp .ne 14, 3) := by decide +kernel
theorem dX2_ringComparer_23 : decode cX2_ringComparer 23 = .ok (.aload_n 0, 1) := by decide +kernel
theorem dX2_ringComparer_24 : decode cX2_ringComparer 24 = .ok (.aload_n 0, 1) := by decide +kernel
theorem dX2_ringComparer_25 : decode cX2_ringComparer 25 = .ok (.getfield 17, 3) := by decide +kernel
theorem dX2_ringComparer_28 : decode cX2_ringComparer 28 = .ok (.iload_n 2, 1) := by decide +kernel
theorem dX2_ringComparer_29 : decode cX2_ringComparer 29 = .ok (.aaload, 1) := by decide +kernel
theorem dX2_ringComparer_30 : decode cX2_ringComparer 30 = .ok (.iload_n 1, 1) := by decide +kernel
theorem dX2_ringComparer_31 : decode cX2_ringComparer 31 = .ok (.invokevirtual 131, 3) := by decide +kernel
theorem dX2_ringComparer_34 : decode cX2_ringComparer 34 = .ok (.iinc 2 1, 3) := by decide +kernel
theorem dX2_ringComparer_37 : decode cX2_ringComparer 37 = .ok (.goto (-35), 3) := by decide +kernel
theorem dX2_ringComparer_40 : decode cX2_ringComparer 40 = .ok (.aload_n 0, 1) := by decide +kernel
theorem dX2_ringComparer_41 : decode cX2_ringComparer 41 = .ok (.getfield 24, 3) := by decide +kernel
theorem dX2_ringComparer_44 : decode cX2_ringComparer 44 = .ok (.iload_n 1, 1) := by decide +kernel
theorem dX2_ringComparer_45 : decode cX2_ringComparer 45 = .ok (.aaload, 1) := by decide +kernel
theorem dX2_ringComparer_46 : decode cX2_ringComparer 46 = .ok (.invokevirtual 135, 3) := by decide +kernel
theorem dX2_ringComparer_49 : decode cX2_ringComparer 49 = .ok (.aload_n 0, 1) := by decide +kernel
theorem dX2_ringComparer_50 : decode cX2_ringComparer 50 = .ok (.getfield 58, 3) := by decide +kernel
theorem dX2_ringComparer_53 : decode cX2_ringComparer 53 = .ok (.iconst 1, 1) := by decide +kernel
theorem dX2_ringComparer_54 : decode cX2_ringComparer 54 = .ok (.isub, 1) := by decide +kernel
theorem dX2_ringComparer_55 : decode cX2_ringComparer 55 = .ok (.istore_n 2, 1) := by decide +kernel
theorem dX2_ringComparer_56 : decode cX2_ringComparer 56 = .ok (.iload_n 2, 1) := by decide +kernel
theorem dX2_ringComparer_57 : decode cX2_ringComparer 57 = .ok (.ifCond .lt 26, 3) := by decide +kernel
theorem dX2_ringComparer_60 : decode cX2_ringComparer 60 = .ok (.aload_n 0, 1) := by decide +kernel
theorem dX2_ringComparer_61 : decode cX2_ringComparer 61 = .ok (.getfield 17, 3) := by decide +kernel
theorem dX2_ringComparer_64 : decode cX2_ringComparer 64 = .ok (.iload_n 2, 1) := by decide +kernel
theorem dX2_ringComparer_65 : decode cX2_ringComparer 65 = .ok (.aaload, 1) := by decide +kernel
theorem dX2_ringComparer_66 : decode cX2_ringComparer 66 = .ok (.getfield 138, 3) := by decide +kernel
theorem dX2_ringComparer_69 : decode cX2_ringComparer 69 = .ok (.ifCond .eq 8, 3) := by decide +kernel
theorem dX2_ringComparer_72 : decode cX2_ringComparer 72 = .ok (.aload_n 0, 1) := by decide +kernel
theorem dX2_ringComparer_73 : decode cX2_ringComparer 73 = .ok (.iload_n 2, 1) := by decide +kernel
theorem dX2_ringComparer_74 : decode cX2_ringComparer 74 = .ok (.invokevirtual 104, 3) := by decide +kernel
theorem dX2_ringComparer_77 : decode cX2_ringComparer 77 = .ok (.iinc 2 (-1), 3) := by decide +kernel
theorem dX2_ringComparer_80 : decode cX2_ringComparer 80 = .ok (.goto (-24), 3) := by decide +kernel
theorem dX2_ringComparer_83 : decode cX2_ringComparer 83 = .ok (.aload_n 0, 1) := by decide +kernel
theorem dX2_ringComparer_84 : decode cX2_ringComparer 84 = .ok (.invokevirtual 95, 3) := by decide +kernel
theorem dX2_ringComparer_87 : decode cX2_ringComparer 87 = .ok (.return_, 1) := by decide +kernel
theorem dX2_ringAlarm_0 : decode cX2_ringAlarm 0 = .ok (.aload_n 0, 1) := by decide +kernel
theorem dX2_ringAlarm_1 : decode cX2_ringAlarm 1 = .ok (.getfield 43, 3) := by decide +kernel
theorem dX2_ringAlarm_4 : decode cX2_ringAlarm 4 = .ok (.aload_n 1, 1) := by decide +kernel
theorem dX2_ringAlarm_5 : decode cX2_ringAlarm 5 = .ok (.getfield 108, 3) := by decide +kernel
theorem dX2_ringAlarm_8 : decode cX2_ringAlarm 8 = .ok (.isub, 1) := by decide +kernel
theorem dX2_ringAlarm_9 : decode cX2_ringAlarm 9 = .ok (.istore_n 3, 1) := by decide +kernel
theorem dX2_ringAlarm_10 : decode cX2_ringAlarm 10 = .ok (.aload_n 0, 1) := by decide +kernel
theorem dX2_ringAlarm_11 : decode cX2_ringAlarm 11 = .ok (.getfield 39, 3) := by decide +kernel
theorem dX2_ringAlarm_14 : decode cX2_ringAlarm 14 = .ok (.aload_n 1, 1) := by decide +kernel
theorem dX2_ringAlarm_15 : decode cX2_ringAlarm 15 = .ok (.getfield 77, 3) := by decide +kernel
theorem dX2_ringAlarm_18 : decode cX2_ringAlarm 18 = .ok (.aload_n 0, 1) := by decide +kernel
theorem dX2_ringAlarm_19 : decode cX2_ringAlarm 19 = .ok (.getfield 43, 3) := by decide +kernel
theorem dX2_ringAlarm_22 : decode cX2_ringAlarm 22 = .ok (.iload_n 3, 1) := by decide +kernel
theorem dX2_ringAlarm_23 : decode cX2_ringAlarm 23 = .ok (.iload_n 2, 1) := by decide +kernel
theorem dX2_ringAlarm_24 : decode cX2_ringAlarm 24 = .ok (.invokevirtual 142, 3) := by decide +kernel
theorem dX2_ringAlarm_27 : decode cX2_ringAlarm 27 = .ok (.aload_n 0, 1) := by decide +kernel
theorem dX2_ringAlarm_28 : decode cX2_ringAlarm 28 = .ok (.getfield 32, 3) := by decide +kernel
theorem dX2_ringAlarm_31 : decode cX2_ringAlarm 31 = .ok (.iload_n 3, 1) := by decide +kernel
theorem dX2_ringAlarm_32 : decode cX2_ringAlarm 32 = .ok (.invokevirtual 145, 3) := by decide +kernel
theorem dX2_ringAlarm_35 : decode cX2_ringAlarm 35 = .ok (.aload_n 1, 1) := by decide +kernel
theorem dX2_ringAlarm_36 : decode cX2_ringAlarm 36 = .ok (.iload_n 3, 1) := by decide +kernel
theorem dX2_ringAlarm_37 : decode cX2_ringAlarm 37 = .ok (.invokevirtual 148, 3) := by decide +kernel
theorem dX2_ringAlarm_40 : decode cX2_ringAlarm 40 = .ok (.aload_n 0, 1) := by decide +kernel
theorem dX2_ringAlarm_41 : decode cX2_ringAlarm 41 = .ok (.getfield 32, 3) := by decide +kernel
theorem dX2_ringAlarm_44 : decode cX2_ringAlarm 44 = .ok (.dup, 1) := by decide +kernel
theorem dX2_ringAlarm_45 : decode cX2_ringAlarm 45 = .ok (.getfield 149, 3) := by decide +kernel
theorem dX2_ringAlarm_48 : decode cX2_ringAlarm 48 = .ok (.aload_n 1, 1) := by decide +kernel
theorem dX2_ringAlarm_49 : decode cX2_ringAlarm 49 = .ok (.iload_n 3, 1) := by decide +kernel
theorem dX2_ringAlarm_50 : decode cX2_ringAlarm 50 = .ok (.invokevirtual 152, 3) := by decide +kernel
theorem dX2_ringAlarm_53 : decode cX2_ringAlarm 53 = .ok (.iadd, 1) := by decide +kernel
theorem dX2_ringAlarm_54 : decode cX2_ringAlarm 54 = .ok (.putfield 149, 3) := by decide +kernel
theorem dX2_ringAlarm_57 : decode cX2_ringAlarm 57 = .ok (.return_, 1) := by decide +kernel
theorem dX2_changeComparers_0 : decode cX2_changeComparers 0 = .ok (.iload_n 1, 1) := by decide +kernel
theorem dX2_changeComparers_1 : decode cX2_changeComparers 1 = .ok (.istore_n 2, 1) := by decide +kernel
theorem dX2_changeComparers_2 : decode cX2_changeComparers 2 = .ok (.iload_n 2, 1) := by decide +kernel
theorem dX2_changeComparers_3 : decode cX2_changeComparers 3 = .ok (.aload_n 0, 1) := by decide +kernel
theorem dX2_changeComparers_4 : decode cX2_changeComparers 4 = .ok (.getfield 9, 3) := by decide +kernel
theorem dX2_changeComparers_7 : decode cX2_changeComparers 7 = .ok (.if_icmp .ge 14, 3) := by decide +kernel
theorem dX2_changeComparers_10 : decode cX2_changeComparers 10 = .ok (.aload_n 0, 1) := by decide +kernel
theorem dX2_changeComparers_11 : decode cX2_changeComparers 11 = .ok (.iload_n 2, 1) := by decide +kernel
theorem dX2_changeComparers_12 : decode cX2_changeComparers 12 = .ok (.invokevirtual 155, 3) := by decide +kernel
theorem dX2_changeComparers_15 : decode cX2_changeComparers 15 = .ok (.iinc 2 1, 3) := by decide +kernel
theorem dX2_changeComparers_18 : decode cX2_changeComparers 18 = .ok (.goto (-16), 3) := by decide +kernel
theorem dX2_changeComparers_21 : decode cX2_changeComparers 21 = .ok (.aload_n 0, 1) := by decide +kernel
theorem dX2_changeComparers_22 : decode cX2_changeComparers 22 = .ok (.iload_n 1, 1) := by decide +kernel
theorem dX2_changeComparers_23 : decode cX2_changeComparers 23 = .ok (.putfield 9, 3) := by decide +kernel
theorem dX2_changeComparers_26 : decode cX2_changeComparers 26 = .ok (.aload_n 0, 1) := by decide +kernel
theorem dX2_changeComparers_27 : decode cX2_changeComparers 27 = .ok (.invokevirtual 98, 3) := by decide +kernel
theorem dX2_changeComparers_30 : decode cX2_changeComparers 30 = .ok (.return_, 1) := by decide +kernel
theorem dX2_sendOffSharers_0 : decode cX2_sendOffSharers 0 = .ok (.iconst 0, 1) := by decide +kernel
theorem dX2_sendOffSharers_1 : decode cX2_sendOffSharers 1 = .ok (.istore_n 2, 1) := by decide +kernel
theorem dX2_sendOffSharers_2 : decode cX2_sendOffSharers 2 = .ok (.iload_n 2, 1) := by decide +kernel
theorem dX2_sendOffSharers_3 : decode cX2_sendOffSharers 3 = .ok (.aload_n 0, 1) := by decide +kernel
theorem dX2_sendOffSharers_4 : decode cX2_sendOffSharers 4 = .ok (.getfield 58, 3) := by decide +kernel
theorem dX2_sendOffSharers_7 : decode cX2_sendOffSharers 7 = .ok (.if_icmp .ge 34, 3) := by decide +kernel
theorem dX2_sendOffSharers_10 : decode cX2_sendOffSharers 10 = .ok (.aload_n 0, 1) := by decide +kernel
theorem dX2_sendOffSharers_11 : decode cX2_sendOffSharers 11 = .ok (.getfield 17, 3) := by decide +kernel
theorem dX2_sendOffSharers_14 : decode cX2_sendOffSharers 14 = .ok (.iload_n 2, 1) := by decide +kernel
theorem dX2_sendOffSharers_15 : decode cX2_sendOffSharers 15 = .ok (.aaload, 1) := by decide +kernel
theorem dX2_sendOffSharers_16 : decode cX2_sendOffSharers 16 = .ok (.getfield 115, 3) := by decide +kernel
theorem dX2_sendOffSharers_19 : decode cX2_sendOffSharers 19 = .ok (.iload_n 1, 1) := by decide +kernel
theorem dX2_sendOffSharers_20 : decode cX2_sendOffSharers 20 = .ok (.if_icmp .ne 15, 3) := by decide +kernel
theorem dX2_sendOffSharers_23 : decode cX2_sendOffSharers 23 = .ok (.aload_n 0, 1) := by decide +kernel
theorem dX2_sendOffSharers_24 : decode cX2_sendOffSharers 24 = .ok (.getfield 17, 3) := by decide +kernel
theorem dX2_sendOffSharers_27 : decode cX2_sendOffSharers 27 = .ok (.iload_n 2, 1) := by decide +kernel
theorem dX2_sendOffSharers_28 : decode cX2_sendOffSharers 28 = .ok (.aaload, 1) := by decide +kernel
theorem dX2_sendOffSharers_29 : decode cX2_sendOffSharers 29 = .ok (.sipush (-1005), 3) := by decide +kernel
theorem dX2_sendOffSharers_32 : decode cX2_sendOffSharers 32 = .ok (.putfield 115, 3) := by decide +kernel
theorem dX2_sendOffSharers_35 : decode cX2_sendOffSharers 35 = .ok (.iinc 2 1, 3) := by decide +kernel
theorem dX2_sendOffSharers_38 : decode cX2_sendOffSharers 38 = .ok (.goto (-36), 3) := by decide +kernel
theorem dX2_sendOffSharers_41 : decode cX2_sendOffSharers 41 = .ok (.aload_n 0, 1) := by decide +kernel
theorem dX2_sendOffSharers_42 : decode cX2_sendOffSharers 42 = .ok (.getfield 24, 3) := by decide +kernel
theorem dX2_sendOffSharers_45 : decode cX2_sendOffSharers 45 = .ok (.iload_n 1, 1) := by decide +kernel
theorem dX2_sendOffSharers_46 : decode cX2_sendOffSharers 46 = .ok (.aaload, 1) := by decide +kernel
theorem dX2_sendOffSharers_47 : decode cX2_sendOffSharers 47 = .ok (.invokevirtual 135, 3) := by decide +kernel
theorem dX2_sendOffSharers_50 : decode cX2_sendOffSharers 50 = .ok (.return_, 1) := by decide +kernel
theorem dX2_takeOff_0 : decode cX2_takeOff 0 = .ok (.aload_n 1, 1) := by decide +kernel
theorem dX2_takeOff_1 : decode cX2_takeOff 1 = .ok (.getfield 115, 3) := by decide +kernel
theorem dX2_takeOff_4 : decode cX2_takeOff 4 = .ok (.istore_n 2, 1) := by decide +kernel
theorem dX2_takeOff_5 : decode cX2_takeOff 5 = .ok (.iload_n 2, 1) := by decide +kernel
theorem dX2_takeOff_6 : decode cX2_takeOff 6 = .ok (.ifCond .lt 8, 3) := by decide +kernel
theorem dX2_takeOff_9 : decode cX2_takeOff 9 = .ok (.iload_n 2, 1) := by decide +kernel
theorem dX2_takeOff_10 : decode cX2_takeOff 10 = .ok (.iconst 4, 1) := by decide +kernel
theorem dX2_takeOff_11 : decode cX2_takeOff 11 = .ok (.if_icmp .lt 4, 3) := by decide +kernel
theorem dX2_takeOff_14 : decode cX2_takeOff 14 = .ok (.return_, 1) := by decide +kernel
theorem dX2_takeOff_15 : decode cX2_takeOff 15 = .ok (.aload_n 1, 1) := by decide +kernel
theorem dX2_takeOff_16 : decode cX2_takeOff 16 = .ok (.sipush (-1005), 3) := by decide +kernel
theorem dX2_takeOff_19 : decode cX2_takeOff 19 = .ok (.putfield 115, 3) := by decide +kernel
theorem dX2_takeOff_22 : decode cX2_takeOff 22 = .ok (.aload_n 0, 1) := by decide +kernel
theorem dX2_takeOff_23 : decode cX2_takeOff 23 = .ok (.getfield 24, 3) := by decide +kernel
theorem dX2_takeOff_26 : decode cX2_takeOff 26 = .ok (.iload_n 2, 1) := by decide +kernel
theorem dX2_takeOff_27 : decode cX2_takeOff 27 = .ok (.aaload, 1) := by decide +kernel
theorem dX2_takeOff_28 : decode cX2_takeOff 28 = .ok (.getfield 158, 3) := by decide +kernel
theorem dX2_takeOff_31 : decode cX2_takeOff 31 = .ok (.istore_n 3, 1) := by decide +kernel
theorem dX2_takeOff_32 : decode cX2_takeOff 32 = .ok (.aload_n 0, 1) := by decide +kernel
theorem dX2_takeOff_33 : decode cX2_takeOff 33 = .ok (.getfield 24, 3) := by decide +kernel
theorem dX2_takeOff_36 : decode cX2_takeOff 36 = .ok (.iload_n 2, 1) := by decide +kernel
theorem dX2_takeOff_37 : decode cX2_takeOff 37 = .ok (.aaload, 1) := by decide +kernel
theorem dX2_takeOff_38 : decode cX2_takeOff 38 = .ok (.invokevirtual 135, 3) := by decide +kernel
theorem dX2_takeOff_41 : decode cX2_takeOff 41 = .ok (.iconst 0, 1) := by decide +kernel
theorem dX2_takeOff_42 : decode cX2_takeOff 42 = .ok (.istore 4, 2) := by decide +kernel
theorem dX2_takeOff_44 : decode cX2_takeOff 44 = .ok (.iload 4, 2) := by decide +kernel
theorem dX2_takeOff_46 : decode cX2_takeOff 46 = .ok (.aload_n 0, 1) := by decide +kernel
theorem dX2_takeOff_47 : decode cX2_takeOff 47 = .ok (.getfield 58, 3) := by decide +kernel
theorem dX2_takeOff_50 : decode cX2_takeOff 50 = .ok (.if_icmp .ge 52, 3) := by decide +kernel
theorem dX2_takeOff_53 : decode cX2_takeOff 53 = .ok (.aload_n 0, 1) := by decide +kernel
theorem dX2_takeOff_54 : decode cX2_takeOff 54 = .ok (.getfield 17, 3) := by decide +kernel
theorem dX2_takeOff_57 : decode cX2_takeOff 57 = .ok (.iload 4, 2) := by decide +kernel
theorem dX2_takeOff_59 : decode cX2_takeOff 59 = .ok (.aaload, 1) := by decide +kernel
theorem dX2_takeOff_60 : decode cX2_takeOff 60 = .ok (.getfield 115, 3) := by decide +kernel
theorem dX2_takeOff_63 : decode cX2_takeOff 63 = .ok (.iload_n 2, 1) := by decide +kernel
theorem dX2_takeOff_64 : decode cX2_takeOff 64 = .ok (.if_icmp .ne 32, 3) := by decide +kernel
theorem dX2_takeOff_67 : decode cX2_takeOff 67 = .ok (.aload_n 0, 1) := by decide +kernel
theorem dX2_takeOff_68 : decode cX2_takeOff 68 = .ok (.getfield 24, 3) := by decide +kernel
theorem dX2_takeOff_71 : decode cX2_takeOff 71 = .ok (.iload_n 2, 1) := by decide +kernel
theorem dX2_takeOff_72 : decode cX2_takeOff 72 = .ok (.aaload, 1) := by decide +kernel
theorem dX2_takeOff_73 : decode cX2_takeOff 73 = .ok (.aload_n 0, 1) := by decide +kernel
theorem dX2_takeOff_74 : decode cX2_takeOff 74 = .ok (.getfield 17, 3) := by decide +kernel
theorem dX2_takeOff_77 : decode cX2_takeOff 77 = .ok (.iload 4, 2) := by decide +kernel
theorem dX2_takeOff_79 : decode cX2_takeOff 79 = .ok (.aaload, 1) := by decide +kernel
theorem dX2_takeOff_80 : decode cX2_takeOff 80 = .ok (.getfield 108, 3) := by decide +kernel
theorem dX2_takeOff_83 : decode cX2_takeOff 83 = .ok (.invokevirtual 161, 3) := by decide +kernel
theorem dX2_takeOff_86 : decode cX2_takeOff 86 = .ok (.aload_n 0, 1) := by decide +kernel
theorem dX2_takeOff_87 : decode cX2_takeOff 87 = .ok (.getfield 24, 3) := by decide +kernel
theorem dX2_takeOff_90 : decode cX2_takeOff 90 = .ok (.iload_n 2, 1) := by decide +kernel
theorem dX2_takeOff_91 : decode cX2_takeOff 91 = .ok (.aaload, 1) := by decide +kernel
theorem dX2_takeOff_92 : decode cX2_takeOff 92 = .ok (.iload_n 3, 1) := by decide +kernel
theorem dX2_takeOff_93 : decode cX2_takeOff 93 = .ok (.putfield 158, 3) := by decide +kernel
theorem dX2_takeOff_96 : decode cX2_takeOff 96 = .ok (.iinc 4 1, 3) := by decide +kernel
theorem dX2_takeOff_99 : decode cX2_takeOff 99 = .ok (.goto (-55), 3) := by decide +kernel
theorem dX2_takeOff_102 : decode cX2_takeOff 102 = .ok (.return_, 1) := by decide +kernel
theorem dX2_freeComparers_0 : decode cX2_freeComparers 0 = .ok (.iconst 0, 1) := by decide +kernel
theorem dX2_freeComparers_1 : decode cX2_freeComparers 1 = .ok (.istore_n 1, 1) := by decide +kernel
theorem dX2_freeComparers_2 : decode cX2_freeComparers 2 = .ok (.iconst 0, 1) := by decide +kernel
theorem dX2_freeComparers_3 : decode cX2_freeComparers 3 = .ok (.istore_n 2, 1) := by decide +kernel
theorem dX2_freeComparers_4 : decode cX2_freeComparers 4 = .ok (.iload_n 2, 1) := by decide +kernel
theorem dX2_freeComparers_5 : decode cX2_freeComparers 5 = .ok (.aload_n 0, 1) := by decide +kernel
theorem dX2_freeComparers_6 : decode cX2_freeComparers 6 = .ok (.getfield 9, 3) := by decide +kernel
theorem dX2_freeComparers_9 : decode cX2_freeComparers 9 = .ok (.if_icmp .ge 24, 3) := by decide +kernel
theorem dX2_freeComparers_12 : decode cX2_freeComparers 12 = .ok (.aload_n 0, 1) := by decide +kernel
theorem dX2_freeComparers_13 : decode cX2_freeComparers 13 = .ok (.getfield 24, 3) := by decide +kernel
theorem dX2_freeComparers_16 : decode cX2_freeComparers 16 = .ok (.iload_n 2, 1) := by decide +kernel
theorem dX2_freeComparers_17 : decode cX2_freeComparers 17 = .ok (.aaload, 1) := by decide +kernel
theorem dX2_freeComparers_18 : decode cX2_freeComparers 18 = .ok (.invokevirtual 164, 3) := by decide +kernel
theorem dX2_freeComparers_21 : decode cX2_freeComparers 21 = .ok (.ifCond .eq 6, 3) := by decide +kernel
theorem dX2_freeComparers_24 : decode cX2_freeComparers 24 = .ok (.iinc 1 1, 3) := by decide +kernel
theorem dX2_freeComparers_27 : decode cX2_freeComparers 27 = .ok (.iinc 2 1, 3) := by decide +kernel
theorem dX2_freeComparers_30 : decode cX2_freeComparers 30 = .ok (.goto (-26), 3) := by decide +kernel
theorem dX2_freeComparers_33 : decode cX2_freeComparers 33 = .ok (.iload_n 1, 1) := by decide +kernel
theorem dX2_freeComparers_34 : decode cX2_freeComparers 34 = .ok (.ireturn, 1) := by decide +kernel
theorem dX2_firstSharerOf_0 : decode cX2_firstSharerOf 0 = .ok (.iconst 0, 1) := by decide +kernel
theorem dX2_firstSharerOf_1 : decode cX2_firstSharerOf 1 = .ok (.istore_n 2, 1) := by decide +kernel
theorem dX2_firstSharerOf_2 : decode cX2_firstSharerOf 2 = .ok (.iload_n 2, 1) := by decide +kernel
theorem dX2_firstSharerOf_3 : decode cX2_firstSharerOf 3 = .ok (.aload_n 0, 1) := by decide +kernel
theorem dX2_firstSharerOf_4 : decode cX2_firstSharerOf 4 = .ok (.getfield 58, 3) := by decide +kernel
theorem dX2_firstSharerOf_7 : decode cX2_firstSharerOf 7 = .ok (.if_icmp .ge 32, 3) := by decide +kernel
theorem dX2_firstSharerOf_10 : decode cX2_firstSharerOf 10 = .ok (.aload_n 0, 1) := by decide +kernel
theorem dX2_firstSharerOf_11 : decode cX2_firstSharerOf 11 = .ok (.getfield 17, 3) := by decide +kernel
theorem dX2_firstSharerOf_14 : decode cX2_firstSharerOf 14 = .ok (.iload_n 2, 1) := by decide +kernel
theorem dX2_firstSharerOf_15 : decode cX2_firstSharerOf 15 = .ok (.aaload, 1) := by decide +kernel
theorem dX2_firstSharerOf_16 : decode cX2_firstSharerOf 16 = .ok (.getfield 115, 3) := by decide +kernel
theorem dX2_firstSharerOf_19 : decode cX2_firstSharerOf 19 = .ok (.iload_n 1, 1) := by decide +kernel
theorem dX2_firstSharerOf_20 : decode cX2_firstSharerOf 20 = .ok (.if_icmp .ne 13, 3) := by decide +kernel
theorem dX2_firstSharerOf_23 : decode cX2_firstSharerOf 23 = .ok (.aload_n 0, 1) := by decide +kernel
theorem dX2_firstSharerOf_24 : decode cX2_firstSharerOf 24 = .ok (.getfield 17, 3) := by decide +kernel
theorem dX2_firstSharerOf_27 : decode cX2_firstSharerOf 27 = .ok (.iload_n 2, 1) := by decide +kernel
theorem dX2_firstSharerOf_28 : decode cX2_firstSharerOf 28 = .ok (.aaload, 1) := by decide +kernel
theorem dX2_firstSharerOf_29 : decode cX2_firstSharerOf 29 = .ok (.getfield 77, 3) := by decide +kernel
theorem dX2_firstSharerOf_32 : decode cX2_firstSharerOf 32 = .ok (.ireturn, 1) := by decide +kernel
theorem dX2_firstSharerOf_33 : decode cX2_firstSharerOf 33 = .ok (.iinc 2 1, 3) := by decide +kernel
theorem dX2_firstSharerOf_36 : decode cX2_firstSharerOf 36 = .ok (.goto (-34), 3) := by decide +kernel
theorem dX2_firstSharerOf_39 : decode cX2_firstSharerOf 39 = .ok (.sipush (-1005), 3) := by decide +kernel
theorem dX2_firstSharerOf_42 : decode cX2_firstSharerOf 42 = .ok (.ireturn, 1) := by decide +kernel
theorem dX2_shareOut_0 : decode cX2_shareOut 0 = .ok (.iconst 0, 1) := by decide +kernel
theorem dX2_shareOut_1 : decode cX2_shareOut 1 = .ok (.istore_n 1, 1) := by decide +kernel
theorem dX2_shareOut_2 : decode cX2_shareOut 2 = .ok (.iload_n 1, 1) := by decide +kernel
theorem dX2_shareOut_3 : decode cX2_shareOut 3 = .ok (.ldc 168, 2) := by decide +kernel
theorem dX2_shareOut_5 : decode cX2_shareOut 5 = .ok (.if_icmp .ge 33, 3) := by decide +kernel
theorem dX2_shareOut_8 : decode cX2_shareOut 8 = .ok (.aload_n 0, 1) := by decide +kernel
theorem dX2_shareOut_9 : decode cX2_shareOut 9 = .ok (.invokevirtual 169, 3) := by decide +kernel
theorem dX2_shareOut_12 : decode cX2_shareOut 12 = .ok (.istore_n 2, 1) := by decide +kernel
theorem dX2_shareOut_13 : decode cX2_shareOut 13 = .ok (.iload_n 2, 1) := by decide +kernel
theorem dX2_shareOut_14 : decode cX2_shareOut 14 = .ok (.iconst (-1), 1) := by decide +kernel
theorem dX2_shareOut_15 : decode cX2_shareOut 15 = .ok (.if_icmp .eq 16, 3) := by decide +kernel
theorem dX2_shareOut_18 : decode cX2_shareOut 18 = .ok (.aload_n 0, 1) := by decide +kernel
theorem dX2_shareOut_19 : decode cX2_shareOut 19 = .ok (.aload_n 0, 1) := by decide +kernel
theorem dX2_shareOut_20 : decode cX2_shareOut 20 = .ok (.getfield 17, 3) := by decide +kernel
theorem dX2_shareOut_23 : decode cX2_shareOut 23 = .ok (.iload_n 2, 1) := by decide +kernel
theorem dX2_shareOut_24 : decode cX2_shareOut 24 = .ok (.aaload, 1) := by decide +kernel
theorem dX2_shareOut_25 : decode cX2_shareOut 25 = .ok (.invokevirtual 172, 3) := by decide +kernel
theorem dX2_shareOut_28 : decode cX2_shareOut 28 = .ok (.ifCond .ne 4, 3) := by decide +kernel
theorem dX2_shareOut_31 : decode cX2_shareOut 31 = .ok (.return_, 1) := by decide +kernel
theorem dX2_shareOut_32 : decode cX2_shareOut 32 = .ok (.iinc 1 1, 3) := by decide +kernel
theorem dX2_shareOut_35 : decode cX2_shareOut 35 = .ok (.goto (-33), 3) := by decide +kernel
theorem dX2_shareOut_38 : decode cX2_shareOut 38 = .ok (.return_, 1) := by decide +kernel
theorem dX2_firstWithoutComparer_0 : decode cX2_firstWithoutComparer 0 = .ok (.iconst 0, 1) := by decide +kernel
theorem dX2_firstWithoutComparer_1 : decode cX2_firstWithoutComparer 1 = .ok (.istore_n 1, 1) := by decide +kernel
theorem dX2_firstWithoutComparer_2 : decode cX2_firstWithoutComparer 2 = .ok (.iload_n 1, 1) := by decide +kernel
theorem dX2_firstWithoutComparer_3 : decode cX2_firstWithoutComparer 3 = .ok (.aload_n 0, 1) := by decide +kernel
theorem dX2_firstWithoutComparer_4 : decode cX2_firstWithoutComparer 4 = .ok (.getfield 58, 3) := by decide +kernel
theorem dX2_firstWithoutComparer_7 : decode cX2_firstWithoutComparer 7 = .ok (.if_icmp .ge 26, 3) := by decide +kernel
theorem dX2_firstWithoutComparer_10 : decode cX2_firstWithoutComparer 10 = .ok (.aload_n 0, 1) := by decide +kernel
theorem dX2_firstWithoutComparer_11 : decode cX2_firstWithoutComparer 11 = .ok (.getfield 17, 3) := by decide +kernel
theorem dX2_firstWithoutComparer_14 : decode cX2_firstWithoutComparer 14 = .ok (.iload_n 1, 1) := by decide +kernel
theorem dX2_firstWithoutComparer_15 : decode cX2_firstWithoutComparer 15 = .ok (.aaload, 1) := by decide +kernel
theorem dX2_firstWithoutComparer_16 : decode cX2_firstWithoutComparer 16 = .ok (.getfield 115, 3) := by decide +kernel
theorem dX2_firstWithoutComparer_19 : decode cX2_firstWithoutComparer 19 = .ok (.sipush (-1005), 3) := by decide +kernel
theorem dX2_firstWithoutComparer_22 : decode cX2_firstWithoutComparer 22 = .ok (.if_icmp .ne 5, 3) := by decide +kernel
theorem dX2_firstWithoutComparer_25 : decode cX2_firstWithoutComparer 25 = .ok (.iload_n 1, 1) := by decide +kernel
theorem dX2_firstWithoutComparer_26 : decode cX2_firstWithoutComparer 26 = .ok (.ireturn, 1) := by decide +kernel
theorem dX2_firstWithoutComparer_27 : decode cX2_firstWithoutComparer 27 = .ok (.iinc 1 1, 3) := by decide +kernel
theorem dX2_firstWithoutComparer_30 : decode cX2_firstWithoutComparer 30 = .ok (.goto (-28), 3) := by decide +kernel
theorem dX2_firstWithoutComparer_33 : decode cX2_firstWithoutComparer 33 = .ok (.iconst (-1), 1) := by decide +kernel
theorem dX2_firstWithoutComparer_34 : decode cX2_firstWithoutComparer 34 = .ok (.ireturn, 1) := by decide +kernel
theorem dX2_findComparerFor_0 : decode cX2_findComparerFor 0 = .ok (.aload_n 0, 1) := by decide +kernel
theorem dX2_findComparerFor_1 : decode cX2_findComparerFor 1 = .ok (.aload_n 1, 1) := by decide +kernel
theorem dX2_findComparerFor_2 : decode cX2_findComparerFor 2 = .ok (.getfield 108, 3) := by decide +kernel
theorem dX2_findComparerFor_5 : decode cX2_findComparerFor 5 = .ok (.invokevirtual 175, 3) := by decide +kernel
theorem dX2_findComparerFor_8 : decode cX2_findComparerFor 8 = .ok (.istore_n 2, 1) := by decide +kernel
theorem dX2_findComparerFor_9 : decode cX2_findComparerFor 9 = .ok (.iload_n 2, 1) := by decide +kernel
theorem dX2_findComparerFor_10 : decode cX2_findComparerFor 10 = .ok (.iconst (-1), 1) := by decide +kernel
theorem dX2_findComparerFor_11 : decode cX2_findComparerFor 11 = .ok (.if_icmp .eq 23, 3) := by decide +kernel
theorem dX2_findComparerFor_14 : decode cX2_findComparerFor 14 = .ok (.aload_n 0, 1) := by decide +kernel
theorem dX2_findComparerFor_15 : decode cX2_findComparerFor 15 = .ok (.getfield 24, 3) := by decide +kernel
theorem dX2_findComparerFor_18 : decode cX2_findComparerFor 18 = .ok (.iload_n 2, 1) := by decide +kernel
theorem dX2_findComparerFor_19 : decode cX2_findComparerFor 19 = .ok (.aaload, 1) := by decide +kernel
theorem dX2_findComparerFor_20 : decode cX2_findComparerFor 20 = .ok (.aload_n 1, 1) := by decide +kernel
theorem dX2_findComparerFor_21 : decode cX2_findComparerFor 21 = .ok (.getfield 108, 3) := by decide +kernel
theorem dX2_findComparerFor_24 : decode cX2_findComparerFor 24 = .ok (.invokevirtual 161, 3) := by decide +kernel
theorem dX2_findComparerFor_27 : decode cX2_findComparerFor 27 = .ok (.aload_n 1, 1) := by decide +kernel
theorem dX2_findComparerFor_28 : decode cX2_findComparerFor 28 = .ok (.iload_n 2, 1) := by decide +kernel
theorem dX2_findComparerFor_29 : decode cX2_findComparerFor 29 = .ok (.putfield 115, 3) := by decide +kernel
theorem dX2_findComparerFor_32 : decode cX2_findComparerFor 32 = .ok (.iconst 1, 1) := by decide +kernel
theorem dX2_findComparerFor_33 : decode cX2_findComparerFor 33 = .ok (.ireturn, 1) := by decide +kernel
theorem dX2_findComparerFor_34 : decode cX2_findComparerFor 34 = .ok (.aload_n 0, 1) := by decide +kernel
theorem dX2_findComparerFor_35 : decode cX2_findComparerFor 35 = .ok (.invokevirtual 178, 3) := by decide +kernel
theorem dX2_findComparerFor_38 : decode cX2_findComparerFor 38 = .ok (.istore_n 3, 1) := by decide +kernel
theorem dX2_findComparerFor_39 : decode cX2_findComparerFor 39 = .ok (.iload_n 3, 1) := by decide +kernel
theorem dX2_findComparerFor_40 : decode cX2_findComparerFor 40 = .ok (.iconst (-1), 1) := by decide +kernel
theorem dX2_findComparerFor_41 : decode cX2_findComparerFor 41 = .ok (.if_icmp .eq 11, 3) := by decide +kernel
theorem dX2_findComparerFor_44 : decode cX2_findComparerFor 44 = .ok (.aload_n 0, 1) := by decide +kernel
theorem dX2_findComparerFor_45 : decode cX2_findComparerFor 45 = .ok (.aload_n 1, 1) := by decide +kernel
theorem dX2_findComparerFor_46 : decode cX2_findComparerFor 46 = .ok (.iload_n 3, 1) := by decide +kernel
theorem dX2_findComparerFor_47 : decode cX2_findComparerFor 47 = .ok (.invokevirtual 181, 3) := by decide +kernel
theorem dX2_findComparerFor_50 : decode cX2_findComparerFor 50 = .ok (.iconst 1, 1) := by decide +kernel
theorem dX2_findComparerFor_51 : decode cX2_findComparerFor 51 = .ok (.ireturn, 1) := by decide +kernel
theorem dX2_findComparerFor_52 : decode cX2_findComparerFor 52 = .ok (.aload_n 0, 1) := by decide +kernel
theorem dX2_findComparerFor_53 : decode cX2_findComparerFor 53 = .ok (.invokevirtual 184, 3) := by decide +kernel
theorem dX2_findComparerFor_56 : decode cX2_findComparerFor 56 = .ok (.istore 4, 2) := by decide +kernel
theorem dX2_findComparerFor_58 : decode cX2_findComparerFor 58 = .ok (.aload_n 0, 1) := by decide +kernel
theorem dX2_findComparerFor_59 : decode cX2_findComparerFor 59 = .ok (.getfield 24, 3) := by decide +kernel
theorem dX2_findComparerFor_62 : decode cX2_findComparerFor 62 = .ok (.iload 4, 2) := by decide +kernel
theorem dX2_findComparerFor_64 : decode cX2_findComparerFor 64 = .ok (.aaload, 1) := by decide +kernel
theorem dX2_findComparerFor_65 : decode cX2_findComparerFor 65 = .ok (.getfield 187, 3) := by decide +kernel
theorem dX2_findComparerFor_68 : decode cX2_findComparerFor 68 = .ok (.aload_n 1, 1) := by decide +kernel
theorem dX2_findComparerFor_69 : decode cX2_findComparerFor 69 = .ok (.getfield 108, 3) := by decide +kernel
theorem dX2_findComparerFor_72 : decode cX2_findComparerFor 72 = .ok (.if_icmp .gt 5, 3) := by decide +kernel
theorem dX2_findComparerFor_75 : decode cX2_findComparerFor 75 = .ok (.iconst 0, 1) := by decide +kernel
theorem dX2_findComparerFor_76 : decode cX2_findComparerFor 76 = .ok (.ireturn, 1) := by decide +kernel
theorem dX2_findComparerFor_77 : decode cX2_findComparerFor 77 = .ok (.aload_n 0, 1) := by decide +kernel
theorem dX2_findComparerFor_78 : decode cX2_findComparerFor 78 = .ok (.iload 4, 2) := by decide +kernel
theorem dX2_findComparerFor_80 : decode cX2_findComparerFor 80 = .ok (.invokevirtual 155, 3) := by decide +kernel
theorem dX2_findComparerFor_83 : decode cX2_findComparerFor 83 = .ok (.aload_n 0, 1) := by decide +kernel
theorem dX2_findComparerFor_84 : decode cX2_findComparerFor 84 = .ok (.getfield 32, 3) := by decide +kernel
theorem dX2_findComparerFor_87 : decode cX2_findComparerFor 87 = .ok (.dup, 1) := by decide +kernel
theorem dX2_findComparerFor_88 : decode cX2_findComparerFor 88 = .ok (.getfield 190, 3) := by decide +kernel
theorem dX2_findComparerFor_91 : decode cX2_findComparerFor 91 = .ok (.iconst 1, 1) := by decide +kernel
theorem dX2_findComparerFor_92 : decode cX2_findComparerFor 92 = .ok (.iadd, 1) := by decide +kernel
theorem dX2_findComparerFor_93 : decode cX2_findComparerFor 93 = .ok (.putfield 190, 3) := by decide +kernel
theorem dX2_findComparerFor_96 : decode cX2_findComparerFor 96 = .ok (.aload_n 0, 1) := by decide +kernel
theorem dX2_findComparerFor_97 : decode cX2_findComparerFor 97 = .ok (.aload_n 1, 1) := by decide +kernel
theorem dX2_findComparerFor_98 : decode cX2_findComparerFor 98 = .ok (.iload 4, 2) := by decide +kernel
theorem dX2_findComparerFor_100 : decode cX2_findComparerFor 100 = .ok (.invokevirtual 181, 3) := by decide +kernel
theorem dX2_findComparerFor_103 : decode cX2_findComparerFor 103 = .ok (.iconst 1, 1) := by decide +kernel
theorem dX2_findComparerFor_104 : decode cX2_findComparerFor 104 = .ok (.ireturn, 1) := by decide +kernel
theorem dX2_firstThatCanTake_0 : decode cX2_firstThatCanTake 0 = .ok (.iconst 0, 1) := by decide +kernel
theorem dX2_firstThatCanTake_1 : decode cX2_firstThatCanTake 1 = .ok (.istore_n 2, 1) := by decide +kernel
theorem dX2_firstThatCanTake_2 : decode cX2_firstThatCanTake 2 = .ok (.iload_n 2, 1) := by decide +kernel
theorem dX2_firstThatCanTake_3 : decode cX2_firstThatCanTake 3 = .ok (.aload_n 0, 1) := by decide +kernel
theorem dX2_firstThatCanTake_4 : decode cX2_firstThatCanTake 4 = .ok (.getfield 9, 3) := by decide +kernel
theorem dX2_firstThatCanTake_7 : decode cX2_firstThatCanTake 7 = .ok (.if_icmp .ge 28, 3) := by decide +kernel
theorem dX2_firstThatCanTake_10 : decode cX2_firstThatCanTake 10 = .ok (.aload_n 0, 1) := by decide +kernel
theorem dX2_firstThatCanTake_11 : decode cX2_firstThatCanTake 11 = .ok (.getfield 24, 3) := by decide +kernel
theorem dX2_firstThatCanTake_14 : decode cX2_firstThatCanTake 14 = .ok (.iload_n 2, 1) := by decide +kernel
theorem dX2_firstThatCanTake_15 : decode cX2_firstThatCanTake 15 = .ok (.aaload, 1) := by decide +kernel
theorem dX2_firstThatCanTake_16 : decode cX2_firstThatCanTake 16 = .ok (.iload_n 1, 1) := by decide +kernel
theorem dX2_firstThatCanTake_17 : decode cX2_firstThatCanTake 17 = .ok (.aload_n 0, 1) := by decide +kernel
theorem dX2_firstThatCanTake_18 : decode cX2_firstThatCanTake 18 = .ok (.getfield 52, 3) := by decide +kernel
theorem dX2_firstThatCanTake_21 : decode cX2_firstThatCanTake 21 = .ok (.invokevirtual 193, 3) := by decide +kernel
theorem dX2_firstThatCanTake_24 : decode cX2_firstThatCanTake 24 = .ok (.ifCond .eq 5, 3) := by decide +kernel
theorem dX2_firstThatCanTake_27 : decode cX2_firstThatCanTake 27 = .ok (.iload_n 2, 1) := by decide +kernel
theorem dX2_firstThatCanTake_28 : decode cX2_firstThatCanTake 28 = .ok (.ireturn, 1) := by decide +kernel
theorem dX2_firstThatCanTake_29 : decode cX2_firstThatCanTake 29 = .ok (.iinc 2 1, 3) := by decide +kernel
theorem dX2_firstThatCanTake_32 : decode cX2_firstThatCanTake 32 = .ok (.goto (-30), 3) := by decide +kernel
theorem dX2_firstThatCanTake_35 : decode cX2_firstThatCanTake 35 = .ok (.iconst (-1), 1) := by decide +kernel
theorem dX2_firstThatCanTake_36 : decode cX2_firstThatCanTake 36 = .ok (.ireturn, 1) := by decide +kernel
theorem dX2_firstFree_0 : decode cX2_firstFree 0 = .ok (.iconst 0, 1) := by decide +kernel
theorem dX2_firstFree_1 : decode cX2_firstFree 1 = .ok (.istore_n 1, 1) := by decide +kernel
theorem dX2_firstFree_2 : decode cX2_firstFree 2 = .ok (.iload_n 1, 1) := by decide +kernel
theorem dX2_firstFree_3 : decode cX2_firstFree 3 = .ok (.aload_n 0, 1) := by decide +kernel
theorem dX2_firstFree_4 : decode cX2_firstFree 4 = .ok (.getfield 9, 3) := by decide +kernel
theorem dX2_firstFree_7 : decode cX2_firstFree 7 = .ok (.if_icmp .ge 23, 3) := by decide +kernel
theorem dX2_firstFree_10 : decode cX2_firstFree 10 = .ok (.aload_n 0, 1) := by decide +kernel
theorem dX2_firstFree_11 : decode cX2_firstFree 11 = .ok (.getfield 24, 3) := by decide +kernel
theorem dX2_firstFree_14 : decode cX2_firstFree 14 = .ok (.iload_n 1, 1) := by decide +kernel
theorem dX2_firstFree_15 : decode cX2_firstFree 15 = .ok (.aaload, 1) := by decide +kernel
theorem dX2_firstFree_16 : decode cX2_firstFree 16 = .ok (.invokevirtual 164, 3) := by decide +kernel
theorem dX2_firstFree_19 : decode cX2_firstFree 19 = .ok (.ifCond .eq 5, 3) := by decide +kernel
theorem dX2_firstFree_22 : decode cX2_firstFree 22 = .ok (.iload_n 1, 1) := by decide +kernel
theorem dX2_firstFree_23 : decode cX2_firstFree 23 = .ok (.ireturn, 1) := by decide +kernel
theorem dX2_firstFree_24 : decode cX2_firstFree 24 = .ok (.iinc 1 1, 3) := by decide +kernel
theorem dX2_firstFree_27 : decode cX2_firstFree 27 = .ok (.goto (-25), 3) := by decide +kernel
theorem dX2_firstFree_30 : decode cX2_firstFree 30 = .ok (.iconst (-1), 1) := by decide +kernel
theorem dX2_firstFree_31 : decode cX2_firstFree 31 = .ok (.ireturn, 1) := by decide +kernel
theorem dX2_firstOfGreatestCount_0 : decode cX2_firstOfGreatestCount 0 = .ok (.iconst 0, 1) := by decide +kernel
theorem dX2_firstOfGreatestCount_1 : decode cX2_firstOfGreatestCount 1 = .ok (.istore_n 1, 1) := by decide +kernel
theorem dX2_firstOfGreatestCount_2 : decode cX2_firstOfGreatestCount 2 = .ok (.iconst 1, 1) := by decide +kernel
theorem dX2_firstOfGreatestCount_3 : decode cX2_firstOfGreatestCount 3 = .ok (.istore_n 2, 1) := by decide +kernel
theorem dX2_firstOfGreatestCount_4 : decode cX2_firstOfGreatestCount 4 = .ok (.iload_n 2, 1) := by decide +kernel
theorem dX2_firstOfGreatestCount_5 : decode cX2_firstOfGreatestCount 5 = .ok (.aload_n 0, 1) := by decide +kernel
theorem dX2_firstOfGreatestCount_6 : decode cX2_firstOfGreatestCount 6 = .ok (.getfield 9, 3) := by decide +kernel
theorem dX2_firstOfGreatestCount_9 : decode cX2_firstOfGreatestCount 9 = .ok (.if_icmp .ge 32, 3) := by decide +kernel
theorem dX2_firstOfGreatestCount_12 : decode cX2_firstOfGreatestCount 12 = .ok (.aload_n 0, 1) := by decide +kernel
theorem dX2_firstOfGreatestCount_13 : decode cX2_firstOfGreatestCount 13 = .ok (.getfield 24, 3) := by decide +kernel
theorem dX2_firstOfGreatestCount_16 : decode cX2_firstOfGreatestCount 16 = .ok (.iload_n 2, 1) := by decide +kernel
theorem dX2_firstOfGreatestCount_17 : decode cX2_firstOfGreatestCount 17 = .ok (.aaload, 1) := by decide +kernel
theorem dX2_firstOfGreatestCount_18 : decode cX2_firstOfGreatestCount 18 = .ok (.getfield 187, 3) := by decide +kernel
theorem dX2_firstOfGreatestCount_21 : decode cX2_firstOfGreatestCount 21 = .ok (.aload_n 0, 1) := by decide +kernel
theorem dX2_firstOfGreatestCount_22 : decode cX2_firstOfGreatestCount 22 = .ok (.getfield 24, 3) := by decide +kernel
theorem dX2_firstOfGreatestCount_25 : decode cX2_firstOfGreatestCount 25 = .ok (.iload_n 1, 1) := by decide +kernel
theorem dX2_firstOfGreatestCount_26 : decode cX2_firstOfGreatestCount 26 = .ok (.aaload, 1) := by decide +kernel
theorem dX2_firstOfGreatestCount_27 : decode cX2_firstOfGreatestCount 27 = .ok (.getfield 187, 3) := by decide +kernel
theorem dX2_firstOfGreatestCount_30 : decode cX2_firstOfGreatestCount 30 = .ok (.if_icmp .le 5, 3) := by decide +kernel
theorem dX2_firstOfGreatestCount_33 : decode cX2_firstOfGreatestCount 33 = .ok (.iload_n 2, 1) := by decide +kernel
theorem dX2_firstOfGreatestCount_34 : decode cX2_firstOfGreatestCount 34 = .ok (.istore_n 1, 1) := by decide +kernel
theorem dX2_firstOfGreatestCount_35 : decode cX2_firstOfGreatestCount 35 = .ok (.iinc 2 1, 3) := by decide +kernel
theorem dX2_firstOfGreatestCount_38 : decode cX2_firstOfGreatestCount 38 = .ok (.goto (-34), 3) := by decide +kernel
theorem dX2_firstOfGreatestCount_41 : decode cX2_firstOfGreatestCount 41 = .ok (.iload_n 1, 1) := by decide +kernel
theorem dX2_firstOfGreatestCount_42 : decode cX2_firstOfGreatestCount 42 = .ok (.ireturn, 1) := by decide +kernel
theorem dX2_loadFor_0 : decode cX2_loadFor 0 = .ok (.aload_n 0, 1) := by decide +kernel
theorem dX2_loadFor_1 : decode cX2_loadFor 1 = .ok (.getfield 24, 3) := by decide +kernel
theorem dX2_loadFor_4 : decode cX2_loadFor 4 = .ok (.iload_n 2, 1) := by decide +kernel
theorem dX2_loadFor_5 : decode cX2_loadFor 5 = .ok (.aaload, 1) := by decide +kernel
theorem dX2_loadFor_6 : decode cX2_loadFor 6 = .ok (.aload_n 1, 1) := by decide +kernel
theorem dX2_loadFor_7 : decode cX2_loadFor 7 = .ok (.getfield 108, 3) := by decide +kernel
theorem dX2_loadFor_10 : decode cX2_loadFor 10 = .ok (.aload_n 0, 1) := by decide +kernel
theorem dX2_loadFor_11 : decode cX2_loadFor 11 = .ok (.getfield 55, 3) := by decide +kernel
theorem dX2_loadFor_14 : decode cX2_loadFor 14 = .ok (.invokevirtual 197, 3) := by decide +kernel
theorem dX2_loadFor_17 : decode cX2_loadFor 17 = .ok (.aload_n 1, 1) := by decide +kernel
theorem dX2_loadFor_18 : decode cX2_loadFor 18 = .ok (.iload_n 2, 1) := by decide +kernel
theorem dX2_loadFor_19 : decode cX2_loadFor 19 = .ok (.putfield 115, 3) := by decide +kernel
theorem dX2_loadFor_22 : decode cX2_loadFor 22 = .ok (.aload_n 0, 1) := by decide +kernel
theorem dX2_loadFor_23 : decode cX2_loadFor 23 = .ok (.getfield 32, 3) := by decide +kernel
theorem dX2_loadFor_26 : decode cX2_loadFor 26 = .ok (.dup, 1) := by decide +kernel
theorem dX2_loadFor_27 : decode cX2_loadFor 27 = .ok (.getfield 201, 3) := by decide +kernel
theorem dX2_loadFor_30 : decode cX2_loadFor 30 = .ok (.iconst 1, 1) := by decide +kernel
theorem dX2_loadFor_31 : decode cX2_loadFor 31 = .ok (.iadd, 1) := by decide +kernel
theorem dX2_loadFor_32 : decode cX2_loadFor 32 = .ok (.putfield 201, 3) := by decide +kernel
theorem dX2_loadFor_35 : decode cX2_loadFor 35 = .ok (.return_, 1) := by decide +kernel
end
section
theorem dX7_init_0 : decode cX7_init 0 = .ok (.aload_n 0, 1) := by decide +kernel
theorem dX7_init_1 : decode cX7_init 1 = .ok (.invokespecial 1, 3) := by decide +kernel
theorem dX7_init_4 : decode cX7_init 4 = .ok (.aload_n 0, 1) := by decide +kernel
theorem dX7_init_5 : decode cX7_init 5 = .ok (.new 7, 3) := by decide +kernel
theorem dX7_init_8 : decode cX7_init 8 = .ok (.dup, 1) := by decide +kernel
theorem dX7_init_9 : decode cX7_init 9 = .ok (.invokespecial 9, 3) := by decide +kernel
theorem dX7_init_12 : decode cX7_init 12 = .ok (.putfield 10, 3) := by decide +kernel
theorem dX7_init_15 : decode cX7_init 15 = .ok (.aload_n 0, 1) := by decide +kernel
theorem dX7_init_16 : decode cX7_init 16 = .ok (.new 7, 3) := by decide +kernel
theorem dX7_init_19 : decode cX7_init 19 = .ok (.dup, 1) := by decide +kernel
theorem dX7_init_20 : decode cX7_init 20 = .ok (.invokespecial 9, 3) := by decide +kernel
theorem dX7_init_23 : decode cX7_init 23 = .ok (.putfield 16, 3) := by decide +kernel
theorem dX7_init_26 : decode cX7_init 26 = .ok (.aload_n 0, 1) := by decide +kernel
theorem dX7_init_27 : decode cX7_init 27 = .ok (.new 7, 3) := by decide +kernel
theorem dX7_init_30 : decode cX7_init 30 = .ok (.dup, 1) := by decide +kernel
theorem dX7_init_31 : decode cX7_init 31 = .ok (.invokespecial 9, 3) := by decide +kernel
theorem dX7_init_34 : decode cX7_init 34 = .ok (.putfield 19, 3) := by decide +kernel
theorem dX7_init_37 : decode cX7_init 37 = .ok (.aload_n 0, 1) := by decide +kernel
theorem dX7_init_38 : decode cX7_init 38 = .ok (.new 22, 3) := by decide +kernel
theorem dX7_init_41 : decode cX7_init 41 = .ok (.dup, 1) := by decide +kernel
theorem dX7_init_42 : decode cX7_init 42 = .ok (.invokespecial 24, 3) := by decide +kernel
theorem dX7_init_45 : decode cX7_init 45 = .ok (.putfield 25, 3) := by decide +kernel
theorem dX7_init_48 : decode cX7_init 48 = .ok (.aload_n 0, 1) := by decide +kernel
theorem dX7_init_49 : decode cX7_init 49 = .ok (.new 29, 3) := by decide +kernel
theorem dX7_init_52 : decode cX7_init 52 = .ok (.dup, 1) := by decide +kernel
theorem dX7_init_53 : decode cX7_init 53 = .ok (.invokespecial 31, 3) := by decide +kernel
theorem dX7_init_56 : decode cX7_init 56 = .ok (.putfield 32, 3) := by decide +kernel
theorem dX7_init_59 : decode cX7_init 59 = .ok (.aload_n 0, 1) := by decide +kernel
theorem dX7_init_60 : decode cX7_init 60 = .ok (.iconst 0, 1) := by decide +kernel
theorem dX7_init_61 : decode cX7_init 61 = .ok (.putfield 36, 3) := by decide +kernel
theorem dX7_init_64 : decode cX7_init 64 = .ok (.return_, 1) := by decide +kernel
theorem dX7_set_0 : decode cX7_set 0 = .ok (.iload_n 1, 1) := by decide +kernel
theorem dX7_set_1 : decode cX7_set 1 = .ok (.iconst 0, 1) := by decide +kernel
theorem dX7_set_2 : decode cX7_set 2 = .ok (.ldc 40, 2) := by decide +kernel
theorem dX7_set_4 : decode cX7_set 4 = .ok (.invokestatic 41, 3) := by decide +kernel
theorem dX7_set_7 : decode cX7_set 7 = .ok (.ifCond .eq 23, 3) := by decide +kernel
theorem dX7_set_10 : decode cX7_set 10 = .ok (.iload_n 2, 1) := by decide +kernel
theorem dX7_set_11 : decode cX7_set 11 = .ok (.iconst 0, 1) := by decide +kernel
theorem dX7_set_12 : decode cX7_set 12 = .ok (.sipush 9999, 3) := by decide +kernel
theorem dX7_set_15 : decode cX7_set 15 = .ok (.invokestatic 41, 3) := by decide +kernel
theorem dX7_set_18 : decode cX7_set 18 = .ok (.ifCond .eq 12, 3) := by decide +kernel
theorem dX7_set_21 : decode cX7_set 21 = .ok (.iload_n 3, 1) := by decide +kernel
theorem dX7_set_22 : decode cX7_set 22 = .ok (.iconst 0, 1) := by decide +kernel
theorem dX7_set_23 : decode cX7_set 23 = .ok (.iconst 3, 1) := by decide +kernel
theorem dX7_set_24 : decode cX7_set 24 = .ok (.invokestatic 41, 3) := by decide +kernel
theorem dX7_set_27 : decode cX7_set 27 = .ok (.ifCond .ne 7, 3) := by decide +kernel
theorem dX7_set_30 : decode cX7_set 30 = .ok (.sipush (-1002), 3) := by decide +kernel
theorem dX7_set_33 : decode cX7_set 33 = .ok (.ireturn, 1) := by decide +kernel
theorem dX7_set_34 : decode cX7_set 34 = .ok (.iload_n 1, 1) := by decide +kernel
theorem dX7_set_35 : decode cX7_set 35 = .ok (.aload_n 0, 1) := by decide +kernel
theorem dX7_set_36 : decode cX7_set 36 = .ok (.getfield 10, 3) := by decide +kernel
theorem dX7_set_39 : decode cX7_set 39 = .ok (.getfield 45, 3) := by decide +kernel
theorem dX7_set_42 : decode cX7_set 42 = .ok (.if_icmp .ge 7, 3) := by decide +kernel
theorem dX7_set_45 : decode cX7_set 45 = .ok (.sipush (-1004), 3) := by decide +kernel
theorem dX7_set_48 : decode cX7_set 48 = .ok (.ireturn, 1) := by decide +kernel
theorem dX7_set_49 : decode cX7_set 49 = .ok (.aload_n 0, 1) := by decide +kernel
theorem dX7_set_50 : decode cX7_set 50 = .ok (.getfield 10, 3) := by decide +kernel
theorem dX7_set_53 : decode cX7_set 53 = .ok (.iconst 1, 1) := by decide +kernel
theorem dX7_set_54 : decode cX7_set 54 = .ok (.invokevirtual 49, 3) := by decide +kernel
theorem dX7_set_57 : decode cX7_set 57 = .ok (.ifCond .ne 7, 3) := by decide +kernel
theorem dX7_set_60 : decode cX7_set 60 = .ok (.sipush (-1003), 3) := by decide +kernel
theorem dX7_set_63 : decode cX7_set 63 = .ok (.ireturn, 1) := by decide +kernel
theorem dX7_set_64 : decode cX7_set 64 = .ok (.aload_n 0, 1) := by decide +kernel
theorem dX7_set_65 : decode cX7_set 65 = .ok (.getfield 25, 3) := by decide +kernel
theorem dX7_set_68 : decode cX7_set 68 = .ok (.aload_n 0, 1) := by decide +kernel
theorem dX7_set_69 : decode cX7_set 69 = .ok (.getfield 10, 3) := by decide +kernel
theorem dX7_set_72 : decode cX7_set 72 = .ok (.invokevirtual 53, 3) := by decide +kernel
theorem dX7_set_75 : decode cX7_set 75 = .ok (.aload_n 0, 1) := by decide +kernel
theorem dX7_set_76 : decode cX7_set 76 = .ok (.getfield 10, 3) := by decide +kernel
theorem dX7_set_79 : decode cX7_set 79 = .ok (.iload_n 1, 1) := by decide +kernel
theorem dX7_set_80 : decode cX7_set 80 = .ok (.iload_n 2, 1) := by decide +kernel
theorem dX7_set_81 : decode cX7_set 81 = .ok (.iload_n 3, 1) := by decide +kernel
theorem dX7_set_82 : decode cX7_set 82 = .ok (.invokevirtual 57, 3) := by decide +kernel
theorem dX7_set_85 : decode cX7_set 85 = .ok (.ireturn, 1) := by decide +kernel
theorem dX7_setAll_0 : decode cX7_setAll 0 = .ok (.aload_n 0, 1) := by decide +kernel
theorem dX7_setAll_1 : decode cX7_setAll 1 = .ok (.getfield 32, 3) := by decide +kernel
theorem dX7_setAll_4 : decode cX7_setAll 4 = .ok (.invokevirtual 61, 3) := by decide +kernel
theorem dX7_setAll_7 : decode cX7_setAll 7 = .ok (.istore_n 1, 1) := by decide +kernel
theorem dX7_setAll_8 : decode cX7_setAll 8 = .ok (.iload_n 1, 1) := by decide +kernel
theorem dX7_setAll_9 : decode cX7_setAll 9 = .ok (.iconst (-1), 1) := by decide +kernel
theorem dX7_setAll_10 : decode cX7_setAll 10 = .ok (.if_icmp .eq 9, 3) := by decide +kernel
theorem dX7_setAll_13 : decode cX7_setAll 13 = .ok (.sipush (-1100), 3) := by decide +kernel
theorem dX7_setAll_16 : decode cX7_setAll 16 = .ok (.iload_n 1, 1) := by decide +kernel
theorem dX7_setAll_17 : decode cX7_setAll 17 = .ok (.isub, 1) := by decide +kernel
theorem dX7_setAll_18 : decode cX7_setAll 18 = .ok (.ireturn, 1) := by decide +kernel
theorem dX7_setAll_19 : decode cX7_setAll 19 = .ok (.aload_n 0, 1) := by decide +kernel
theorem dX7_setAll_20 : decode cX7_setAll 20 = .ok (.getfield 32, 3) := by decide +kernel
theorem dX7_setAll_23 : decode cX7_setAll 23 = .ok (.invokevirtual 65, 3) := by decide +kernel
theorem dX7_setAll_26 : decode cX7_setAll 26 = .ok (.aload_n 0, 1) := by decide +kernel
theorem dX7_setAll_27 : decode cX7_setAll 27 = .ok (.getfield 10, 3) := by decide +kernel
theorem dX7_setAll_30 : decode cX7_setAll 30 = .ok (.getfield 45, 3) := by decide +kernel
theorem dX7_setAll_33 : decode cX7_setAll 33 = .ok (.if_icmp .ge 7, 3) := by decide +kernel
theorem dX7_setAll_36 : decode cX7_setAll 36 = .ok (.sipush (-1004), 3) := by decide +kernel
theorem dX7_setAll_39 : decode cX7_setAll 39 = .ok (.ireturn, 1) := by decide +kernel
theorem dX7_setAll_40 : decode cX7_setAll 40 = .ok (.aload_n 0, 1) := by decide +kernel
theorem dX7_setAll_41 : decode cX7_setAll 41 = .ok (.getfield 10, 3) := by decide +kernel
theorem dX7_setAll_44 : decode cX7_setAll 44 = .ok (.aload_n 0, 1) := by decide +kernel
theorem dX7_setAll_45 : decode cX7_setAll 45 = .ok (.getfield 32, 3) := by decide +kernel
theorem dX7_setAll_48 : decode cX7_setAll 48 = .ok (.getfield 68, 3) := by decide +kernel
theorem dX7_setAll_51 : decode cX7_setAll 51 = .ok (.invokevirtual 49, 3) := by decide +kernel
theorem dX7_setAll_54 : decode cX7_setAll 54 = .ok (.ifCond .ne 7, 3) := by decide +kernel
theorem dX7_setAll_57 : decode cX7_setAll 57 = .ok (.sipush (-1003), 3) := by decide +kernel
theorem dX7_setAll_60 : decode cX7_setAll 60 = .ok (.ireturn, 1) := by decide +kernel
theorem dX7_setAll_61 : decode cX7_setAll 61 = .ok (.aload_n 0, 1) := by decide +kernel
theorem dX7_setAll_62 : decode cX7_setAll 62 = .ok (.getfield 25, 3) := by decide +kernel
theorem dX7_setAll_65 : decode cX7_setAll 65 = .ok (.aload_n 0, 1) := by decide +kernel
theorem dX7_setAll_66 : decode cX7_setAll 66 = .ok (.getfield 10, 3) := by decide +kernel
theorem dX7_setAll_69 : decode cX7_setAll 69 = .ok (.invokevirtual 53, 3) := by decide +kernel
theorem dX7_setAll_72 : decode cX7_setAll 72 = .ok (.iconst 0, 1) := by decide +kernel
theorem dX7_setAll_73 : decode cX7_setAll 73 = .ok (.istore_n 2, 1) := by decide +kernel
theorem dX7_setAll_74 : decode cX7_setAll 74 = .ok (.iload_n 2, 1) := by decide +kernel
theorem dX7_setAll_75 : decode cX7_setAll 75 = .ok (.aload_n 0, 1) := by decide +kernel
theorem dX7_setAll_76 : decode cX7_setAll 76 = .ok (.getfield 32, 3) := by decide +kernel
theorem dX7_setAll_79 : decode cX7_setAll 79 = .ok (.getfield 68, 3) := by decide +kernel
theorem dX7_setAll_82 : decode cX7_setAll 82 = .ok (.if_icmp .ge 50, 3) := by decide +kernel
theorem dX7_setAll_85 : decode cX7_setAll 85 = .ok (.iload_n 2, 1) := by decide +kernel
theorem dX7_setAll_86 : decode cX7_setAll 86 = .ok (.bipush 30, 2) := by decide +kernel
theorem dX7_setAll_88 : decode cX7_setAll 88 = .ok (.if_icmp .ge 44, 3) := by decide +kernel
theorem dX7_setAll_91 : decode cX7_setAll 91 = .ok (.aload_n 0, 1) := by decide +kernel
theorem dX7_setAll_92 : decode cX7_setAll 92 = .ok (.getfield 10, 3) := by decide +kernel
theorem dX7_setAll_95 : decode cX7_setAll 95 = .ok (.aload_n 0, 1) := by decide +kernel
theorem dX7_setAll_96 : decode cX7_setAll 96 = .ok (.getfield 32, 3) := by decide +kernel
theorem dX7_setAll_99 : decode cX7_setAll 99 = .ok (.getfield 71, 3) := by decide +kernel
theorem dX7_setAll_102 : decode cX7_setAll 102 = .ok (.iload_n 2, 1) := by decide +kernel
theorem dX7_setAll_103 : decode cX7_setAll 103 = .ok (.iaload, 1) := by decide +kernel
theorem dX7_setAll_104 : decode cX7_setAll 104 = .ok (.aload_n 0, 1) := by decide +kernel
theorem dX7_setAll_105 : decode cX7_setAll 105 = .ok (.getfield 32, 3) := by decide +kernel
theorem dX7_setAll_108 : decode cX7_setAll 108 = .ok (.getfield 75, 3) := by decide +kernel
theorem dX7_setAll_111 : decode cX7_setAll 111 = .ok (.iload_n 2, 1) := by decide +kernel
theorem dX7_setAll_112 : decode cX7_setAll 112 = .ok (.iaload, 1) := by decide +kernel
theorem dX7_setAll_113 : decode cX7_setAll 113 = .ok (.aload_n 0, 1) := by decide +kernel
theorem dX7_setAll_114 : decode cX7_setAll 114 = .ok (.getfield 32, 3) := by decide +kernel
theorem dX7_setAll_117 : decode cX7_setAll 117 = .ok (.getfield 78, 3) := by decide +kernel
theorem dX7_setAll_120 : decode cX7_setAll 120 = .ok (.iload_n 2, 1) := by decide +kernel
theorem dX7_setAll_121 : decode cX7_setAll 121 = .ok (.iaload, 1) := by decide +kernel
theorem dX7_setAll_122 : decode cX7_setAll 122 = .ok (.invokevirtual 57, 3) := by decide +kernel
theorem dX7_setAll_125 : decode cX7_setAll 125 = .ok (.pop, 1) := by decide +kernel
theorem dX7_setAll_126 : decode cX7_setAll 126 = .ok (.iinc 2 1, 3) := by decide +kernel
theorem dX7_setAll_129 : decode cX7_setAll 129 = .ok (.goto (-55), 3) := by decide +kernel
theorem dX7_setAll_132 : decode cX7_setAll 132 = .ok (.aload_n 0, 1) := by decide +kernel
theorem dX7_setAll_133 : decode cX7_setAll 133 = .ok (.getfield 10, 3) := by decide +kernel
theorem dX7_setAll_136 : decode cX7_setAll 136 = .ok (.getfield 81, 3) := by decide +kernel
theorem dX7_setAll_139 : decode cX7_setAll 139 = .ok (.ireturn, 1) := by decide +kernel
theorem dX7_cancel_0 : decode cX7_cancel 0 = .ok (.aload_n 0, 1) := by decide +kernel
theorem dX7_cancel_1 : decode cX7_cancel 1 = .ok (.getfield 10, 3) := by decide +kernel
theorem dX7_cancel_4 : decode cX7_cancel 4 = .ok (.iload_n 1, 1) := by decide +kernel
theorem dX7_cancel_5 : decode cX7_cancel 5 = .ok (.invokevirtual 84, 3) := by decide +kernel
theorem dX7_cancel_8 : decode cX7_cancel 8 = .ok (.istore_n 2, 1) := by decide +kernel
theorem dX7_cancel_9 : decode cX7_cancel 9 = .ok (.iload_n 2, 1) := by decide +kernel
theorem dX7_cancel_10 : decode cX7_cancel 10 = .ok (.iconst (-1), 1) := by decide +kernel
theorem dX7_cancel_11 : decode cX7_cancel 11 = .ok (.if_icmp .ne 7, 3) := by decide +kernel
theorem dX7_cancel_14 : decode cX7_cancel 14 = .ok (.sipush (-1001), 3) := by decide +kernel
theorem dX7_cancel_17 : decode cX7_cancel 17 = .ok (.ireturn, 1) := by decide +kernel
theorem dX7_cancel_18 : decode cX7_cancel 18 = .ok (.aload_n 0, 1) := by decide +kernel
theorem dX7_cancel_19 : decode cX7_cancel 19 = .ok (.getfield 25, 3) := by decide +kernel
theorem dX7_cancel_22 : decode cX7_cancel 22 = .ok (.aload_n 0, 1) := by decide +kernel
theorem dX7_cancel_23 : decode cX7_cancel 23 = .ok (.getfield 10, 3) := by decide +kernel
theorem dX7_cancel_26 : decode cX7_cancel 26 = .ok (.invokevirtual 53, 3) := by decide +kernel
theorem dX7_cancel_29 : decode cX7_cancel 29 = .ok (.aload_n 0, 1) := by decide +kernel
theorem dX7_cancel_30 : decode cX7_cancel 30 = .ok (.getfield 10, 3) := by decide +kernel
theorem dX7_cancel_33 : decode cX7_cancel 33 = .ok (.iload_n 2, 1) := by decide +kernel
theorem dX7_cancel_34 : decode cX7_cancel 34 = .ok (.invokevirtual 88, 3) := by decide +kernel
theorem dX7_cancel_37 : decode cX7_cancel 37 = .ok (.aload_n 0, 1) := by decide +kernel
theorem dX7_cancel_38 : decode cX7_cancel 38 = .ok (.getfield 10, 3) := by decide +kernel
theorem dX7_cancel_41 : decode cX7_cancel 41 = .ok (.getfield 81, 3) := by decide +kernel
theorem dX7_cancel_44 : decode cX7_cancel 44 = .ok (.ireturn, 1) := by decide +kernel
theorem dX7_move_0 : decode cX7_move 0 = .ok (.aload_n 0, 1) := by decide +kernel
theorem dX7_move_1 : decode cX7_move 1 = .ok (.getfield 10, 3) := by decide +kernel
theorem dX7_move_4 : decode cX7_move 4 = .ok (.iload_n 1, 1) := by decide +kernel
theorem dX7_move_5 : decode cX7_move 5 = .ok (.invokevirtual 84, 3) := by decide +kernel
theorem dX7_move_8 : decode cX7_move 8 = .ok (.istore_n 3, 1) := by decide +kernel
theorem dX7_move_9 : decode cX7_move 9 = .ok (.iload_n 3, 1) := by decide +kernel
theorem dX7_move_10 : decode cX7_move 10 = .ok (.iconst (-1), 1) := by decide +kernel
theorem dX7_move_11 : decode cX7_move 11 = .ok (.if_icmp .ne 7, 3) := by decide +kernel
theorem dX7_move_14 : decode cX7_move 14 = .ok (.sipush (-1001), 3) := by decide +kernel
theorem dX7_move_17 : decode cX7_move 17 = .ok (.ireturn, 1) := by decide +kernel
theorem dX7_move_18 : decode cX7_move 18 = .ok (.iload_n 2, 1) := by decide +kernel
theorem dX7_move_19 : decode cX7_move 19 = .ok (.iconst 0, 1) := by decide +kernel
theorem dX7_move_20 : decode cX7_move 20 = .ok (.ldc 40, 2) := by decide +kernel
theorem dX7_move_22 : decode cX7_move 22 = .ok (.invokestatic 41, 3) := by decide +kernel
theorem dX7_move_25 : decode cX7_move 25 = .ok (.ifCond .ne 7, 3) := by decide +kernel
theorem dX7_move_28 : decode cX7_move 28 = .ok (.sipush (-1002), 3) := by decide +kernel
theorem dX7_move_31 : decode cX7_move 31 = .ok (.ireturn, 1) := by decide +kernel
theorem dX7_move_32 : decode cX7_move 32 = .ok (.iload_n 2, 1) := by decide +kernel
theorem dX7_move_33 : decode cX7_move 33 = .ok (.aload_n 0, 1) := by decide +kernel
theorem dX7_move_34 : decode cX7_move 34 = .ok (.getfield 10, 3) := by decide +kernel
theorem dX7_move_37 : decode cX7_move 37 = .ok (.getfield 45, 3) := by decide +kernel
theorem dX7_move_40 : decode cX7_move 40 = .ok (.if_icmp .ge 7, 3) := by decide +kernel
theorem dX7_move_43 : decode cX7_move 43 = .ok (.sipush (-1004), 3) := by decide +kernel
theorem dX7_move_46 : decode cX7_move 46 = .ok (.ireturn, 1) := by decide +kernel
theorem dX7_move_47 : decode cX7_move 47 = .ok (.aload_n 0, 1) := by decide +kernel
theorem dX7_move_48 : decode cX7_move 48 = .ok (.getfield 10, 3) := by decide +kernel
theorem dX7_move_51 : decode cX7_move 51 = .ok (.getfield 92, 3) := by decide +kernel
theorem dX7_move_54 : decode cX7_move 54 = .ok (.iload_n 3, 1) := by decide +kernel
theorem dX7_move_55 : decode cX7_move 55 = .ok (.aaload, 1) := by decide +kernel
theorem dX7_move_56 : decode cX7_move 56 = .ok (.getfield 96, 3) := by decide +kernel
theorem dX7_move_59 : decode cX7_move 59 = .ok (.istore 4, 2) := by decide +kernel
theorem dX7_move_61 : decode cX7_move 61 = .ok (.iload 4, 2) := by decide +kernel
theorem dX7_move_63 : decode cX7_move 63 = .ok (.iload_n 2, 1) := by decide +kernel
theorem dX7_move_64 : decode cX7_move 64 = .ok (.if_icmp .ne 7, 3) := by decide +kernel
theorem dX7_move_67 : decode cX7_move 67 = .ok (.sipush (-1005), 3) := by decide +kernel
theorem dX7_move_70 : decode cX7_move 70 = .ok (.ireturn, 1) := by decide +kernel
theorem dX7_move_71 : decode cX7_move 71 = .ok (.aload_n 0, 1) := by decide +kernel
theorem dX7_move_72 : decode cX7_move 72 = .ok (.getfield 25, 3) := by decide +kernel
theorem dX7_move_75 : decode cX7_move 75 = .ok (.aload_n 0, 1) := by decide +kernel
theorem dX7_move_76 : decode cX7_move 76 = .ok (.getfield 10, 3) := by decide +kernel
theorem dX7_move_79 : decode cX7_move 79 = .ok (.invokevirtual 53, 3) := by decide +kernel
theorem dX7_move_82 : decode cX7_move 82 = .ok (.aload_n 0, 1) := by decide +kernel
theorem dX7_move_83 : decode cX7_move 83 = .ok (.getfield 10, 3) := by decide +kernel
theorem dX7_move_86 : decode cX7_move 86 = .ok (.iload_n 3, 1) := by decide +kernel
theorem dX7_move_87 : decode cX7_move 87 = .ok (.iload_n 2, 1) := by decide +kernel
theorem dX7_move_88 : decode cX7_move 88 = .ok (.invokevirtual 101, 3) := by decide +kernel
theorem dX7_move_91 : decode cX7_move 91 = .ok (.iload 4, 2) := by decide +kernel
theorem dX7_move_93 : decode cX7_move 93 = .ok (.ireturn, 1) := by decide +kernel
theorem dX7_setComparers_0 : decode cX7_setComparers 0 = .ok (.iload_n 1, 1) := by decide +kernel
theorem dX7_setComparers_1 : decode cX7_setComparers 1 = .ok (.iconst 1, 1) := by decide +kernel
theorem dX7_setComparers_2 : decode cX7_setComparers 2 = .ok (.iconst 4, 1) := by decide +kernel
theorem dX7_setComparers_3 : decode cX7_setComparers 3 = .ok (.invokestatic 41, 3) := by decide +kernel
theorem dX7_setComparers_6 : decode cX7_setComparers 6 = .ok (.ifCond .ne 7, 3) := by decide +kernel
theorem dX7_setComparers_9 : decode cX7_setComparers 9 = .ok (.sipush (-1002), 3) := by decide +kernel
theorem dX7_setComparers_12 : decode cX7_setComparers 12 = .ok (.ireturn, 1) := by decide +kernel
theorem dX7_setComparers_13 : decode cX7_setComparers 13 = .ok (.aload_n 0, 1) := by decide +kernel
theorem dX7_setComparers_14 : decode cX7_setComparers 14 = .ok (.getfield 10, 3) := by decide +kernel
theorem dX7_setComparers_17 : decode cX7_setComparers 17 = .ok (.getfield 105, 3) := by decide +kernel
theorem dX7_setComparers_20 : decode cX7_setComparers 20 = .ok (.istore_n 2, 1) := by decide +kernel
theorem dX7_setComparers_21 : decode cX7_setComparers 21 = .ok (.iload_n 2, 1) := by decide +kernel
theorem dX7_setComparers_22 : decode cX7_setComparers 22 = .ok (.iload_n 1, 1) := by decide +kernel
theorem dX7_setComparers_23 : decode cX7_setComparers 23 = .ok (.if_icmp .ne 7, 3) := by decide +kernel
theorem dX7_setComparers_26 : decode cX7_setComparers 26 = .ok (.sipush (-1005), 3) := by decide +kernel
theorem dX7_setComparers_29 : decode cX7_setComparers 29 = .ok (.ireturn, 1) := by decide +kernel
theorem dX7_setComparers_30 : decode cX7_setComparers 30 = .ok (.aload_n 0, 1) := by decide +kernel
theorem dX7_setComparers_31 : decode cX7_setComparers 31 = .ok (.getfield 25, 3) := by decide +kernel
theorem dX7_setComparers_34 : decode cX7_setComparers 34 = .ok (.aload_n 0, 1) := by decide +kernel
theorem dX7_setComparers_35 : decode cX7_setComparers 35 = .ok (.getfield 10, 3) := by decide +kernel
theorem dX7_setComparers_38 : decode cX7_setComparers 38 = .ok (.invokevirtual 53, 3) := by decide +kernel
theorem dX7_setComparers_41 : decode cX7_setComparers 41 = .ok (.aload_n 0, 1) := by decide +kernel
theorem dX7_setComparers_42 : decode cX7_setComparers 42 = .ok (.getfield 10, 3) := by decide +kernel
theorem dX7_setComparers_45 : decode cX7_setComparers 45 = .ok (.iload_n 1, 1) := by decide +kernel
theorem dX7_setComparers_46 : decode cX7_setComparers 46 = .ok (.invokevirtual 108, 3) := by decide +kernel
theorem dX7_setComparers_49 : decode cX7_setComparers 49 = .ok (.iload_n 2, 1) := by decide +kernel
theorem dX7_setComparers_50 : decode cX7_setComparers 50 = .ok (.ireturn, 1) := by decide +kernel
theorem dX7_setWindow_0 : decode cX7_setWindow 0 = .ok (.iload_n 1, 1) := by decide +kernel
theorem dX7_setWindow_1 : decode cX7_setWindow 1 = .ok (.iconst 0, 1) := by decide +kernel
theorem dX7_setWindow_2 : decode cX7_setWindow 2 = .ok (.bipush 20, 2) := by decide +kernel
theorem dX7_setWindow_4 : decode cX7_setWindow 4 = .ok (.invokestatic 41, 3) := by decide +kernel
theorem dX7_setWindow_7 : decode cX7_setWindow 7 = .ok (.ifCond .ne 7, 3) := by decide +kernel
theorem dX7_setWindow_10 : decode cX7_setWindow 10 = .ok (.sipush (-1002), 3) := by decide +kernel
theorem dX7_setWindow_13 : decode cX7_setWindow 13 = .ok (.ireturn, 1) := by decide +kernel
theorem dX7_setWindow_14 : decode cX7_setWindow 14 = .ok (.aload_n 0, 1) := by decide +kernel
theorem dX7_setWindow_15 : decode cX7_setWindow 15 = .ok (.getfield 10, 3) := by decide +kernel
theorem dX7_setWindow_18 : decode cX7_setWindow 18 = .ok (.getfield 111, 3) := by decide +kernel
theorem dX7_setWindow_21 : decode cX7_setWindow 21 = .ok (.istore_n 2, 1) := by decide +kernel
theorem dX7_setWindow_22 : decode cX7_setWindow 22 = .ok (.iload_n 2, 1) := by decide +kernel
theorem dX7_setWindow_23 : decode cX7_setWindow 23 = .ok (.iload_n 1, 1) := by decide +kernel
theorem dX7_setWindow_24 : decode cX7_setWindow 24 = .ok (.if_icmp .ne 7, 3) := by decide +kernel
theorem dX7_setWindow_27 : decode cX7_setWindow 27 = .ok (.sipush (-1005), 3) := by decide +kernel
theorem dX7_setWindow_30 : decode cX7_setWindow 30 = .ok (.ireturn, 1) := by decide +kernel
theorem dX7_setWindow_31 : decode cX7_setWindow 31 = .ok (.aload_n 0, 1) := by decide +kernel
theorem dX7_setWindow_32 : decode cX7_setWindow 32 = .ok (.getfield 25, 3) := by decide +kernel
theorem dX7_setWindow_35 : decode cX7_setWindow 35 = .ok (.aload_n 0, 1) := by decide +kernel
theorem dX7_setWindow_36 : decode cX7_setWindow 36 = .ok (.getfield 10, 3) := by decide +kernel
theorem dX7_setWindow_39 : decode cX7_setWindow 39 = .ok (.invokevirtual 53, 3) := by decide +kernel
theorem dX7_setWindow_42 : decode cX7_setWindow 42 = .ok (.aload_n 0, 1) := by decide +kernel
theorem dX7_setWindow_43 : decode cX7_setWindow 43 = .ok (.getfield 10, 3) := by decide +kernel
theorem dX7_setWindow_46 : decode cX7_setWindow 46 = .ok (.iload_n 1, 1) := by decide +kernel
theorem dX7_setWindow_47 : decode cX7_setWindow 47 = .ok (.putfield 111, 3) := by decide +kernel
theorem dX7_setWindow_50 : decode cX7_setWindow 50 = .ok (.aload_n 0, 1) := by decide +kernel
theorem dX7_setWindow_51 : decode cX7_setWindow 51 = .ok (.getfield 10, 3) := by decide +kernel
theorem dX7_setWindow_54 : decode cX7_setWindow 54 = .ok (.invokevirtual 114, 3) := by decide +kernel
theorem dX7_setWindow_57 : decode cX7_setWindow 57 = .ok (.iload_n 2, 1) := by decide +kernel
theorem dX7_setWindow_58 : decode cX7_setWindow 58 = .ok (.ireturn, 1) := by decide +kernel
theorem dX7_setLoading_0 : decode cX7_setLoading 0 = .ok (.iload_n 1, 1) := by decide +kernel
theorem dX7_setLoading_1 : decode cX7_setLoading 1 = .ok (.iconst 0, 1) := by decide +kernel
theorem dX7_setLoading_2 : decode cX7_setLoading 2 = .ok (.bipush 9, 2) := by decide +kernel
theorem dX7_setLoading_4 : decode cX7_setLoading 4 = .ok (.invokestatic 41, 3) := by decide +kernel
theorem dX7_setLoading_7 : decode cX7_setLoading 7 = .ok (.ifCond .ne 7, 3) := by decide +kernel
theorem dX7_setLoading_10 : decode cX7_setLoading 10 = .ok (.sipush (-1002), 3) := by decide +kernel
theorem dX7_setLoading_13 : decode cX7_setLoading 13 = .ok (.ireturn, 1) := by decide +kernel
theorem dX7_setLoading_14 : decode cX7_setLoading 14 = .ok (.aload_n 0, 1) := by decide +kernel
theorem dX7_setLoading_15 : decode cX7_setLoading 15 = .ok (.getfield 10, 3) := by decide +kernel
theorem dX7_setLoading_18 : decode cX7_setLoading 18 = .ok (.getfield 117, 3) := by decide +kernel
theorem dX7_setLoading_21 : decode cX7_setLoading 21 = .ok (.istore_n 2, 1) := by decide +kernel
theorem dX7_setLoading_22 : decode cX7_setLoading 22 = .ok (.iload_n 2, 1) := by decide +kernel
theorem dX7_setLoading_23 : decode cX7_setLoading 23 = .ok (.iload_n 1, 1) := by decide +kernel
theorem dX7_setLoading_24 : decode cX7_setLoading 24 = .ok (.if_icmp .ne 7, 3) := by decide +kernel
theorem dX7_setLoading_27 : decode cX7_setLoading 27 = .ok (.sipush (-1005), 3) := by decide +kernel
theorem dX7_setLoading_30 : decode cX7_setLoading 30 = .ok (.ireturn, 1) := by decide +kernel
theorem dX7_setLoading_31 : decode cX7_setLoading 31 = .ok (.aload_n 0, 1) := by decide +kernel
theorem dX7_setLoading_32 : decode cX7_setLoading 32 = .ok (.getfield 25, 3) := by decide +kernel
theorem dX7_setLoading_35 : decode cX7_setLoading 35 = .ok (.aload_n 0, 1) := by decide +kernel
theorem dX7_setLoading_36 : decode cX7_setLoading 36 = .ok (.getfield 10, 3) := by decide +kernel
theorem dX7_setLoading_39 : decode cX7_setLoading 39 = .ok (.invokevirtual 53, 3) := by decide +kernel
theorem dX7_setLoading_42 : decode cX7_setLoading 42 = .ok (.aload_n 0, 1) := by decide +kernel
theorem dX7_setLoading_43 : decode cX7_setLoading 43 = .ok (.getfield 10, 3) := by decide +kernel
theorem dX7_setLoading_46 : decode cX7_setLoading 46 = .ok (.iload_n 1, 1) := by decide +kernel
theorem dX7_setLoading_47 : decode cX7_setLoading 47 = .ok (.putfield 117, 3) := by decide +kernel
theorem dX7_setLoading_50 : decode cX7_setLoading 50 = .ok (.iload_n 2, 1) := by decide +kernel
theorem dX7_setLoading_51 : decode cX7_setLoading 51 = .ok (.ireturn, 1) := by decide +kernel
theorem dX7_setDrift_0 : decode cX7_setDrift 0 = .ok (.iload_n 1, 1) := by decide +kernel
theorem dX7_setDrift_1 : decode cX7_setDrift 1 = .ok (.sipush (-999), 3) := by decide +kernel
theorem dX7_setDrift_4 : decode cX7_setDrift 4 = .ok (.sipush 999, 3) := by decide +kernel
theorem dX7_setDrift_7 : decode cX7_setDrift 7 = .ok (.invokestatic 41, 3) := by decide +kernel
theorem dX7_setDrift_10 : decode cX7_setDrift 10 = .ok (.ifCond .eq 13, 3) := by decide +kernel
theorem dX7_setDrift_13 : decode cX7_setDrift 13 = .ok (.iload_n 1, 1) := by decide +kernel
theorem dX7_setDrift_14 : decode cX7_setDrift 14 = .ok (.iconst 1, 1) := by decide +kernel
theorem dX7_setDrift_15 : decode cX7_setDrift 15 = .ok (.if_icmp .eq 8, 3) := by decide +kernel
theorem dX7_setDrift_18 : decode cX7_setDrift 18 = .ok (.iload_n 1, 1) := by decide +kernel
theorem dX7_setDrift_19 : decode cX7_setDrift 19 = .ok (.iconst (-1), 1) := by decide +kernel
theorem dX7_setDrift_20 : decode cX7_setDrift 20 = .ok (.if_icmp .ne 7, 3) := by decide +kernel
theorem dX7_setDrift_23 : decode cX7_setDrift 23 = .ok (.sipush (-1002), 3) := by decide +kernel
theorem dX7_setDrift_26 : decode cX7_setDrift 26 = .ok (.ireturn, 1) := by decide +kernel
theorem dX7_setDrift_27 : decode cX7_setDrift 27 = .ok (.aload_n 0, 1) := by decide +kernel
theorem dX7_setDrift_28 : decode cX7_setDrift 28 = .ok (.getfield 10, 3) := by decide +kernel
theorem dX7_setDrift_31 : decode cX7_setDrift 31 = .ok (.getfield 120, 3) := by decide +kernel
theorem dX7_setDrift_34 : decode cX7_setDrift 34 = .ok (.istore_n 2, 1) := by decide +kernel
theorem dX7_setDrift_35 : decode cX7_setDrift 35 = .ok (.iload_n 2, 1) := by decide +kernel
theorem dX7_setDrift_36 : decode cX7_setDrift 36 = .ok (.iload_n 1, 1) := by decide +kernel
theorem dX7_setDrift_37 : decode cX7_setDrift 37 = .ok (.if_icmp .ne 7, 3) := by decide +kernel
theorem dX7_setDrift_40 : decode cX7_setDrift 40 = .ok (.sipush (-1005), 3) := by decide +kernel
theorem dX7_setDrift_43 : decode cX7_setDrift 43 = .ok (.ireturn, 1) := by decide +kernel
theorem dX7_setDrift_44 : decode cX7_setDrift 44 = .ok (.aload_n 0, 1) := by decide +kernel
theorem dX7_setDrift_45 : decode cX7_setDrift 45 = .ok (.getfield 25, 3) := by decide +kernel
theorem dX7_setDrift_48 : decode cX7_setDrift 48 = .ok (.aload_n 0, 1) := by decide +kernel
theorem dX7_setDrift_49 : decode cX7_setDrift 49 = .ok (.getfield 10, 3) := by decide +kernel
theorem dX7_setDrift_52 : decode cX7_setDrift 52 = .ok (.invokevirtual 53, 3) := by decide +kernel
theorem dX7_setDrift_55 : decode cX7_setDrift 55 = .ok (.aload_n 0, 1) := by decide +kernel
theorem dX7_setDrift_56 : decode cX7_setDrift 56 = .ok (.getfield 10, 3) := by decide +kernel
theorem dX7_setDrift_59 : decode cX7_setDrift 59 = .ok (.iload_n 1, 1) := by decide +kernel
theorem dX7_setDrift_60 : decode cX7_setDrift 60 = .ok (.putfield 120, 3) := by decide +kernel
theorem dX7_setDrift_63 : decode cX7_setDrift 63 = .ok (.iload_n 2, 1) := by decide +kernel
theorem dX7_setDrift_64 : decode cX7_setDrift 64 = .ok (.ireturn, 1) := by decide +kernel
theorem dX7_correct_0 : decode cX7_correct 0 = .ok (.iload_n 1, 1) := by decide +kernel
theorem dX7_correct_1 : decode cX7_correct 1 = .ok (.sipush (-999), 3) := by decide +kernel
theorem dX7_correct_4 : decode cX7_correct 4 = .ok (.sipush 999, 3) := by decide +kernel
theorem dX7_correct_7 : decode cX7_correct 7 = .ok (.invokestatic 41, 3) := by decide +kernel
theorem dX7_correct_10 : decode cX7_correct 10 = .ok (.ifCond .ne 7, 3) := by decide +kernel
theorem dX7_correct_13 : decode cX7_correct 13 = .ok (.sipush (-1002), 3) := by decide +kernel
theorem dX7_correct_16 : decode cX7_correct 16 = .ok (.ireturn, 1) := by decide +kernel
theorem dX7_correct_17 : decode cX7_correct 17 = .ok (.aload_n 0, 1) := by decide +kernel
theorem dX7_correct_18 : decode cX7_correct 18 = .ok (.getfield 10, 3) := by decide +kernel
theorem dX7_correct_21 : decode cX7_correct 21 = .ok (.getfield 45, 3) := by decide +kernel
theorem dX7_correct_24 : decode cX7_correct 24 = .ok (.iload_n 1, 1) := by decide +kernel
theorem dX7_correct_25 : decode cX7_correct 25 = .ok (.iadd, 1) := by decide +kernel
theorem dX7_correct_26 : decode cX7_correct 26 = .ok (.istore_n 2, 1) := by decide +kernel
theorem dX7_correct_27 : decode cX7_correct 27 = .ok (.iload_n 2, 1) := by decide +kernel
theorem dX7_correct_28 : decode cX7_correct 28 = .ok (.iconst 0, 1) := by decide +kernel
theorem dX7_correct_29 : decode cX7_correct 29 = .ok (.ldc 40, 2) := by decide +kernel
theorem dX7_correct_31 : decode cX7_correct 31 = .ok (.invokestatic 41, 3) := by decide +kernel
theorem dX7_correct_34 : decode cX7_correct 34 = .ok (.ifCond .ne 7, 3) := by decide +kernel
theorem dX7_correct_37 : decode cX7_correct 37 = .ok (.sipush (-1004), 3) := by decide +kernel
theorem dX7_correct_40 : decode cX7_correct 40 = .ok (.ireturn, 1) := by decide +kernel
theorem dX7_correct_41 : decode cX7_correct 41 = .ok (.iload_n 1, 1) := by decide +kernel
theorem dX7_correct_42 : decode cX7_correct 42 = .ok (.ifCond .ne 7, 3) := by decide +kernel
theorem dX7_correct_45 : decode cX7_correct 45 = .ok (.sipush (-1005), 3) := by decide +kernel
theorem dX7_correct_48 : decode cX7_correct 48 = .ok (.ireturn, 1) := by decide +kernel
theorem dX7_correct_49 : decode cX7_correct 49 = .ok (.aload_n 0, 1) := by decide +kernel
theorem dX7_correct_50 : decode cX7_correct 50 = .ok (.getfield 25, 3) := by decide +kernel
theorem dX7_correct_53 : decode cX7_correct 53 = .ok (.aload_n 0, 1) := by decide +kernel
theorem dX7_correct_54 : decode cX7_correct 54 = .ok (.getfield 10, 3) := by decide +kernel
theorem dX7_correct_57 : decode cX7_correct 57 = .ok (.invokevirtual 53, 3) := by decide +kernel
theorem dX7_correct_60 : decode cX7_correct 60 = .ok (.aload_n 0, 1) := by decide +kernel
theorem dX7_correct_61 : decode cX7_correct 61 = .ok (.getfield 10, 3) := by decide +kernel
theorem dX7_correct_64 : decode cX7_correct 64 = .ok (.iload_n 2, 1) := by decide +kernel
theorem dX7_correct_65 : decode cX7_correct 65 = .ok (.putfield 45, 3) := by decide +kernel
theorem dX7_correct_68 : decode cX7_correct 68 = .ok (.aload_n 0, 1) := by decide +kernel
theorem dX7_correct_69 : decode cX7_correct 69 = .ok (.getfield 10, 3) := by decide +kernel
theorem dX7_correct_72 : decode cX7_correct 72 = .ok (.invokevirtual 114, 3) := by decide +kernel
theorem dX7_correct_75 : decode cX7_correct 75 = .ok (.iload_n 2, 1) := by decide +kernel
theorem dX7_correct_76 : decode cX7_correct 76 = .ok (.ireturn, 1) := by decide +kernel
theorem dX7_run_0 : decode cX7_run 0 = .ok (.iload_n 1, 1) := by decide +kernel
theorem dX7_run_1 : decode cX7_run 1 = .ok (.iconst 1, 1) := by decide +kernel
theorem dX7_run_2 : decode cX7_run 2 = .ok (.sipush 1000, 3) := by decide +kernel
theorem dX7_run_5 : decode cX7_run 5 = .ok (.invokestatic 41, 3) := by decide +kernel
theorem dX7_run_8 : decode cX7_run 8 = .ok (.ifCond .ne 7, 3) := by decide +kernel
theorem dX7_run_11 : decode cX7_run 11 = .ok (.sipush (-1002), 3) := by decide +kernel
theorem dX7_run_14 : decode cX7_run 14 = .ok (.ireturn, 1) := by decide +kernel
theorem dX7_run_15 : decode cX7_run 15 = .ok (.aload_n 0, 1) := by decide +kernel
theorem dX7_run_16 : decode cX7_run 16 = .ok (.getfield 10, 3) := by decide +kernel
theorem dX7_run_19 : decode cX7_run 19 = .ok (.getfield 45, 3) := by decide +kernel
theorem dX7_run_22 : decode cX7_run 22 = .ok (.iconst 2, 1) := by decide +kernel
theorem dX7_run_23 : decode cX7_run 23 = .ok (.iload_n 1, 1) := by decide +kernel
theorem dX7_run_24 : decode cX7_run 24 = .ok (.imul, 1) := by decide +kernel
theorem dX7_run_25 : decode cX7_run 25 = .ok (.iadd, 1) := by decide +kernel
theorem dX7_run_26 : decode cX7_run 26 = .ok (.ldc 40, 2) := by decide +kernel
theorem dX7_run_28 : decode cX7_run 28 = .ok (.if_icmp .le 7, 3) := by decide +kernel
theorem dX7_run_31 : decode cX7_run 31 = .ok (.sipush (-1003), 3) := by decide +kernel
theorem dX7_run_34 : decode cX7_run 34 = .ok (.ireturn, 1) := by decide +kernel
theorem dX7_run_35 : decode cX7_run 35 = .ok (.aload_n 0, 1) := by decide +kernel
theorem dX7_run_36 : decode cX7_run 36 = .ok (.getfield 25, 3) := by decide +kernel
theorem dX7_run_39 : decode cX7_run 39 = .ok (.aload_n 0, 1) := by decide +kernel
theorem dX7_run_40 : decode cX7_run 40 = .ok (.getfield 10, 3) := by decide +kernel
theorem dX7_run_43 : decode cX7_run 43 = .ok (.invokevirtual 53, 3) := by decide +kernel
theorem dX7_run_46 : decode cX7_run 46 = .ok (.aload_n 0, 1) := by decide +kernel
theorem dX7_run_47 : decode cX7_run 47 = .ok (.getfield 10, 3) := by decide +kernel
theorem dX7_run_50 : decode cX7_run 50 = .ok (.getfield 123, 3) := by decide +kernel
theorem dX7_run_53 : decode cX7_run 53 = .ok (.getfield 127, 3) := by decide +kernel
theorem dX7_run_56 : decode cX7_run 56 = .ok (.istore_n 2, 1) := by decide +kernel
theorem dX7_run_57 : decode cX7_run 57 = .ok (.iconst 0, 1) := by decide +kernel
theorem dX7_run_58 : decode cX7_run 58 = .ok (.istore_n 3, 1) := by decide +kernel
theorem dX7_run_59 : decode cX7_run 59 = .ok (.iload_n 3, 1) := by decide +kernel
theorem dX7_run_60 : decode cX7_run 60 = .ok (.iload_n 1, 1) := by decide +kernel
theorem dX7_run_61 : decode cX7_run 61 = .ok (.if_icmp .ge 16, 3) := by decide +kernel
theorem dX7_run_64 : decode cX7_run 64 = .ok (.aload_n 0, 1) := by decide +kernel
theorem dX7_run_65 : decode cX7_run 65 = .ok (.getfield 10, 3) := by decide +kernel
theorem dX7_run_68 : decode cX7_run 68 = .ok (.invokevirtual 132, 3) := by decide +kernel
theorem dX7_run_71 : decode cX7_run 71 = .ok (.iinc 3 1, 3) := by decide +kernel
theorem dX7_run_74 : decode cX7_run 74 = .ok (.goto (-15), 3) := by decide +kernel
theorem dX7_run_77 : decode cX7_run 77 = .ok (.aload_n 0, 1) := by decide +kernel
theorem dX7_run_78 : decode cX7_run 78 = .ok (.getfield 10, 3) := by decide +kernel
theorem dX7_run_81 : decode cX7_run 81 = .ok (.getfield 123, 3) := by decide +kernel
theorem dX7_run_84 : decode cX7_run 84 = .ok (.getfield 127, 3) := by decide +kernel
theorem dX7_run_87 : decode cX7_run 87 = .ok (.iload_n 2, 1) := by decide +kernel
theorem dX7_run_88 : decode cX7_run 88 = .ok (.isub, 1) := by decide +kernel
theorem dX7_run_89 : decode cX7_run 89 = .ok (.ireturn, 1) := by decide +kernel
theorem dX7_type_0 : decode cX7_type 0 = .ok (.aload_n 0, 1) := by decide +kernel
theorem dX7_type_1 : decode cX7_type 1 = .ok (.getfield 32, 3) := by decide +kernel
theorem dX7_type_4 : decode cX7_type 4 = .ok (.iload_n 1, 1) := by decide +kernel
theorem dX7_type_5 : decode cX7_type 5 = .ok (.invokevirtual 135, 3) := by decide +kernel
theorem dX7_type_8 : decode cX7_type 8 = .ok (.ifCond .eq 13, 3) := by decide +kernel
theorem dX7_type_11 : decode cX7_type 11 = .ok (.aload_n 0, 1) := by decide +kernel
theorem dX7_type_12 : decode cX7_type 12 = .ok (.getfield 32, 3) := by decide +kernel
theorem dX7_type_15 : decode cX7_type 15 = .ok (.getfield 139, 3) := by decide +kernel
theorem dX7_type_18 : decode cX7_type 18 = .ok (.goto 6, 3) := by decide +kernel
theorem dX7_type_21 : decode cX7_type 21 = .ok (.sipush (-1003), 3) := by decide +kernel
theorem dX7_type_24 : decode cX7_type 24 = .ok (.ireturn, 1) := by decide +kernel
theorem dX7_clearText_0 : decode cX7_clearText 0 = .ok (.aload_n 0, 1) := by decide +kernel
theorem dX7_clearText_1 : decode cX7_clearText 1 = .ok (.getfield 32, 3) := by decide +kernel
theorem dX7_clearText_4 : decode cX7_clearText 4 = .ok (.getfield 139, 3) := by decide +kernel
theorem dX7_clearText_7 : decode cX7_clearText 7 = .ok (.istore_n 1, 1) := by decide +kernel
theorem dX7_clearText_8 : decode cX7_clearText 8 = .ok (.aload_n 0, 1) := by decide +kernel
theorem dX7_clearText_9 : decode cX7_clearText 9 = .ok (.getfield 32, 3) := by decide +kernel
theorem dX7_clearText_12 : decode cX7_clearText 12 = .ok (.iconst 0, 1) := by decide +kernel
theorem dX7_clearText_13 : decode cX7_clearText 13 = .ok (.putfield 139, 3) := by decide +kernel
theorem dX7_clearText_16 : decode cX7_clearText 16 = .ok (.iload_n 1, 1) := by decide +kernel
theorem dX7_clearText_17 : decode cX7_clearText 17 = .ok (.ireturn, 1) := by decide +kernel
theorem dX7_undo_0 : decode cX7_undo 0 = .ok (.aload_n 0, 1) := by decide +kernel
theorem dX7_undo_1 : decode cX7_undo 1 = .ok (.getfield 25, 3) := by decide +kernel
theorem dX7_undo_4 : decode cX7_undo 4 = .ok (.getfield 142, 3) := by decide +kernel
theorem dX7_undo_7 : decode cX7_undo 7 = .ok (.ifCond .ne 7, 3) := by decide +kernel
theorem dX7_undo_10 : decode cX7_undo 10 = .ok (.sipush (-1005), 3) := by decide +kernel
theorem dX7_undo_13 : decode cX7_undo 13 = .ok (.ireturn, 1) := by decide +kernel
theorem dX7_undo_14 : decode cX7_undo 14 = .ok (.aload_n 0, 1) := by decide +kernel
theorem dX7_undo_15 : decode cX7_undo 15 = .ok (.getfield 25, 3) := by decide +kernel
theorem dX7_undo_18 : decode cX7_undo 18 = .ok (.aload_n 0, 1) := by decide +kernel
theorem dX7_undo_19 : decode cX7_undo 19 = .ok (.getfield 10, 3) := by decide +kernel
theorem dX7_undo_22 : decode cX7_undo 22 = .ok (.invokevirtual 145, 3) := by decide +kernel
theorem dX7_undo_25 : decode cX7_undo 25 = .ok (.aload_n 0, 1) := by decide +kernel
theorem dX7_undo_26 : decode cX7_undo 26 = .ok (.getfield 25, 3) := by decide +kernel
theorem dX7_undo_29 : decode cX7_undo 29 = .ok (.getfield 142, 3) := by decide +kernel
theorem dX7_undo_32 : decode cX7_undo 32 = .ok (.ireturn, 1) := by decide +kernel
theorem dX7_keep_0 : decode cX7_keep 0 = .ok (.aload_n 0, 1) := by decide +kernel
theorem dX7_keep_1 : decode cX7_keep 1 = .ok (.getfield 19, 3) := by decide +kernel
theorem dX7_keep_4 : decode cX7_keep 4 = .ok (.aload_n 0, 1) := by decide +kernel
theorem dX7_keep_5 : decode cX7_keep 5 = .ok (.getfield 10, 3) := by decide +kernel
theorem dX7_keep_8 : decode cX7_keep 8 = .ok (.invokevirtual 148, 3) := by decide +kernel
theorem dX7_keep_11 : decode cX7_keep 11 = .ok (.aload_n 0, 1) := by decide +kernel
theorem dX7_keep_12 : decode cX7_keep 12 = .ok (.iconst 1, 1) := by decide +kernel
theorem dX7_keep_13 : decode cX7_keep 13 = .ok (.putfield 36, 3) := by decide +kernel
theorem dX7_keep_16 : decode cX7_keep 16 = .ok (.aload_n 0, 1) := by decide +kernel
theorem dX7_keep_17 : decode cX7_keep 17 = .ok (.getfield 10, 3) := by decide +kernel
theorem dX7_keep_20 : decode cX7_keep 20 = .ok (.getfield 45, 3) := by decide +kernel
theorem dX7_keep_23 : decode cX7_keep 23 = .ok (.ireturn, 1) := by decide +kernel
theorem dX7_restore_0 : decode cX7_restore 0 = .ok (.aload_n 0, 1) := by decide +kernel
theorem dX7_restore_1 : decode cX7_restore 1 = .ok (.getfield 36, 3) := by decide +kernel
theorem dX7_restore_4 : decode cX7_restore 4 = .ok (.ifCond .ne 7, 3) := by decide +kernel
theorem dX7_restore_7 : decode cX7_restore 7 = .ok (.sipush (-1005), 3) := by decide +kernel
theorem dX7_restore_10 : decode cX7_restore 10 = .ok (.ireturn, 1) := by decide +kernel
theorem dX7_restore_11 : decode cX7_restore 11 = .ok (.aload_n 0, 1) := by decide +kernel
theorem dX7_restore_12 : decode cX7_restore 12 = .ok (.getfield 25, 3) := by decide +kernel
theorem dX7_restore_15 : decode cX7_restore 15 = .ok (.aload_n 0, 1) := by decide +kernel
theorem dX7_restore_16 : decode cX7_restore 16 = .ok (.getfield 10, 3) := by decide +kernel
theorem dX7_restore_19 : decode cX7_restore 19 = .ok (.invokevirtual 53, 3) := by decide +kernel
theorem dX7_restore_22 : decode cX7_restore 22 = .ok (.aload_n 0, 1) := by decide +kernel
theorem dX7_restore_23 : decode cX7_restore 23 = .ok (.getfield 10, 3) := by decide +kernel
theorem dX7_restore_26 : decode cX7_restore 26 = .ok (.aload_n 0, 1) := by decide +kernel
theorem dX7_restore_27 : decode cX7_restore 27 = .ok (.getfield 19, 3) := by decide +kernel
theorem dX7_restore_30 : decode cX7_restore 30 = .ok (.invokevirtual 148, 3) := by decide +kernel
theorem dX7_restore_33 : decode cX7_restore 33 = .ok (.aload_n 0, 1) := by decide +kernel
theorem dX7_restore_34 : decode cX7_restore 34 = .ok (.getfield 10, 3) := by decide +kernel
theorem dX7_restore_37 : decode cX7_restore 37 = .ok (.getfield 45, 3) := by decide +kernel
theorem dX7_restore_40 : decode cX7_restore 40 = .ok (.ireturn, 1) := by decide +kernel
theorem dX7_alarm_0 : decode cX7_alarm 0 = .ok (.aload_n 0, 1) := by decide +kernel
theorem dX7_alarm_1 : decode cX7_alarm 1 = .ok (.getfield 10, 3) := by decide +kernel
theorem dX7_alarm_4 : decode cX7_alarm 4 = .ok (.iload_n 1, 1) := by decide +kernel
theorem dX7_alarm_5 : decode cX7_alarm 5 = .ok (.invokevirtual 84, 3) := by decide +kernel
theorem dX7_alarm_8 : decode cX7_alarm 8 = .ok (.istore_n 3, 1) := by decide +kernel
theorem dX7_alarm_9 : decode cX7_alarm 9 = .ok (.iload_n 3, 1) := by decide +kernel
theorem dX7_alarm_10 : decode cX7_alarm 10 = .ok (.iconst (-1), 1) := by decide +kernel
theorem dX7_alarm_11 : decode cX7_alarm 11 = .ok (.if_icmp .ne 7, 3) := by decide +kernel
theorem dX7_alarm_14 : decode cX7_alarm 14 = .ok (.sipush (-1001), 3) := by decide +kernel
theorem dX7_alarm_17 : decode cX7_alarm 17 = .ok (.ireturn, 1) := by decide +kernel
theorem dX7_alarm_18 : decode cX7_alarm 18 = .ok (.aload_n 0, 1) := by decide +kernel
theorem dX7_alarm_19 : decode cX7_alarm 19 = .ok (.getfield 10, 3) := by decide +kernel
theorem dX7_alarm_22 : decode cX7_alarm 22 = .ok (.getfield 92, 3) := by decide +kernel
theorem dX7_alarm_25 : decode cX7_alarm 25 = .ok (.iload_n 3, 1) := by decide +kernel
theorem dX7_alarm_26 : decode cX7_alarm 26 = .ok (.aaload, 1) := by decide +kernel
theorem dX7_alarm_27 : decode cX7_alarm 27 = .ok (.astore 4, 2) := by decide +kernel
theorem dX7_alarm_29 : decode cX7_alarm 29 = .ok (.iload_n 2, 1) := by decide +kernel
theorem dX7_alarm_30 : decode cX7_alarm 30 = .ok (.tableswitch 80 0 6 #[42, 48, 54, 60, 66, 68, 74], 42) := by decide +kernel
theorem dX7_alarm_72 : decode cX7_alarm 72 = .ok (.aload 4, 2) := by decide +kernel
theorem dX7_alarm_74 : decode cX7_alarm 74 = .ok (.getfield 96, 3) := by decide +kernel
theorem dX7_alarm_77 : decode cX7_alarm 77 = .ok (.ireturn, 1) := by decide +kernel
theorem dX7_alarm_78 : decode cX7_alarm 78 = .ok (.aload 4, 2) := by decide +kernel
theorem dX7_alarm_80 : decode cX7_alarm 80 = .ok (.getfield 151, 3) := by decide +kernel
theorem dX7_alarm_83 : decode cX7_alarm 83 = .ok (.ireturn, 1) := by decide +kernel
theorem dX7_alarm_84 : decode cX7_alarm 84 = .ok (.aload 4, 2) := by decide +kernel
theorem dX7_alarm_86 : decode cX7_alarm 86 = .ok (.getfield 154, 3) := by decide +kernel
theorem dX7_alarm_89 : decode cX7_alarm 89 = .ok (.ireturn, 1) := by decide +kernel
theorem dX7_alarm_90 : decode cX7_alarm 90 = .ok (.aload 4, 2) := by decide +kernel
theorem dX7_alarm_92 : decode cX7_alarm 92 = .ok (.getfield 157, 3) := by decide +kernel
theorem dX7_alarm_95 : decode cX7_alarm 95 = .ok (.ireturn, 1) := by decide +kernel
theorem dX7_alarm_96 : decode cX7_alarm 96 = .ok (.iload_n 3, 1) := by decide +kernel
theorem dX7_alarm_97 : decode cX7_alarm 97 = .ok (.ireturn, 1) := by decide +kernel
theorem dX7_alarm_98 : decode cX7_alarm 98 = .ok (.aload 4, 2) := by decide +kernel
theorem dX7_alarm_100 : decode cX7_alarm 100 = .ok (.getfield 160, 3) := by decide +kernel
theorem dX7_alarm_103 : decode cX7_alarm 103 = .ok (.ireturn, 1) := by decide +kernel
theorem dX7_alarm_104 : decode cX7_alarm 104 = .ok (.aload 4, 2) := by decide +kernel
theorem dX7_alarm_106 : decode cX7_alarm 106 = .ok (.getfield 161, 3) := by decide +kernel
theorem dX7_alarm_109 : decode cX7_alarm 109 = .ok (.ireturn, 1) := by decide +kernel
theorem dX7_alarm_110 : decode cX7_alarm 110 = .ok (.sipush (-1002), 3) := by decide +kernel
theorem dX7_alarm_113 : decode cX7_alarm 113 = .ok (.ireturn, 1) := by decide +kernel
theorem dX7_comparer_0 : decode cX7_comparer 0 = .ok (.iload_n 1, 1) := by decide +kernel
theorem dX7_comparer_1 : decode cX7_comparer 1 = .ok (.iconst 0, 1) := by decide +kernel
theorem dX7_comparer_2 : decode cX7_comparer 2 = .ok (.aload_n 0, 1) := by decide +kernel
theorem dX7_comparer_3 : decode cX7_comparer 3 = .ok (.getfield 10, 3) := by decide +kernel
theorem dX7_comparer_6 : decode cX7_comparer 6 = .ok (.getfield 105, 3) := by decide +kernel
theorem dX7_comparer_9 : decode cX7_comparer 9 = .ok (.iconst 1, 1) := by decide +kernel
theorem dX7_comparer_10 : decode cX7_comparer 10 = .ok (.isub, 1) := by decide +kernel
theorem dX7_comparer_11 : decode cX7_comparer 11 = .ok (.invokestatic 41, 3) := by decide +kernel
theorem dX7_comparer_14 : decode cX7_comparer 14 = .ok (.ifCond .ne 7, 3) := by decide +kernel
theorem dX7_comparer_17 : decode cX7_comparer 17 = .ok (.sipush (-1001), 3) := by decide +kernel
theorem dX7_comparer_20 : decode cX7_comparer 20 = .ok (.ireturn, 1) := by decide +kernel
theorem dX7_comparer_21 : decode cX7_comparer 21 = .ok (.aload_n 0, 1) := by decide +kernel
theorem dX7_comparer_22 : decode cX7_comparer 22 = .ok (.getfield 10, 3) := by decide +kernel
theorem dX7_comparer_25 : decode cX7_comparer 25 = .ok (.getfield 164, 3) := by decide +kernel
theorem dX7_comparer_28 : decode cX7_comparer 28 = .ok (.iload_n 1, 1) := by decide +kernel
theorem dX7_comparer_29 : decode cX7_comparer 29 = .ok (.aaload, 1) := by decide +kernel
theorem dX7_comparer_30 : decode cX7_comparer 30 = .ok (.astore_n 3, 1) := by decide +kernel
theorem dX7_comparer_31 : decode cX7_comparer 31 = .ok (.iload_n 2, 1) := by decide +kernel
theorem dX7_comparer_32 : decode cX7_comparer 32 = .ok (.tableswitch 69 0 3 #[32, 50, 55, 60], 32) := by decide +kernel
theorem dX7_comparer_64 : decode cX7_comparer 64 = .ok (.aload_n 3, 1) := by decide +kernel
theorem dX7_comparer_65 : decode cX7_comparer 65 = .ok (.invokevirtual 168, 3) := by decide +kernel
theorem dX7_comparer_68 : decode cX7_comparer 68 = .ok (.ifCond .eq 9, 3) := by decide +kernel
theorem dX7_comparer_71 : decode cX7_comparer 71 = .ok (.sipush (-1005), 3) := by decide +kernel
theorem dX7_comparer_74 : decode cX7_comparer 74 = .ok (.goto 7, 3) := by decide +kernel
theorem dX7_comparer_77 : decode cX7_comparer 77 = .ok (.aload_n 3, 1) := by decide +kernel
theorem dX7_comparer_78 : decode cX7_comparer 78 = .ok (.getfield 174, 3) := by decide +kernel
theorem dX7_comparer_81 : decode cX7_comparer 81 = .ok (.ireturn, 1) := by decide +kernel
theorem dX7_comparer_82 : decode cX7_comparer 82 = .ok (.aload_n 3, 1) := by decide +kernel
theorem dX7_comparer_83 : decode cX7_comparer 83 = .ok (.getfield 177, 3) := by decide +kernel
theorem dX7_comparer_86 : decode cX7_comparer 86 = .ok (.ireturn, 1) := by decide +kernel
theorem dX7_comparer_87 : decode cX7_comparer 87 = .ok (.aload_n 3, 1) := by decide +kernel
theorem dX7_comparer_88 : decode cX7_comparer 88 = .ok (.getfield 180, 3) := by decide +kernel
theorem dX7_comparer_91 : decode cX7_comparer 91 = .ok (.ireturn, 1) := by decide +kernel
theorem dX7_comparer_92 : decode cX7_comparer 92 = .ok (.aload_n 0, 1) := by decide +kernel
theorem dX7_comparer_93 : decode cX7_comparer 93 = .ok (.getfield 10, 3) := by decide +kernel
theorem dX7_comparer_96 : decode cX7_comparer 96 = .ok (.iload_n 1, 1) := by decide +kernel
theorem dX7_comparer_97 : decode cX7_comparer 97 = .ok (.invokevirtual 183, 3) := by decide +kernel
theorem dX7_comparer_100 : decode cX7_comparer 100 = .ok (.ireturn, 1) := by decide +kernel
theorem dX7_comparer_101 : decode cX7_comparer 101 = .ok (.sipush (-1002), 3) := by decide +kernel
theorem dX7_comparer_104 : decode cX7_comparer 104 = .ok (.ireturn, 1) := by decide +kernel
theorem dX7_at_0 : decode cX7_at 0 = .ok (.iload_n 1, 1) := by decide +kernel
theorem dX7_at_1 : decode cX7_at 1 = .ok (.ifCond .ge 7, 3) := by decide +kernel
theorem dX7_at_4 : decode cX7_at 4 = .ok (.sipush (-1002), 3) := by decide +kernel
theorem dX7_at_7 : decode cX7_at 7 = .ok (.ireturn, 1) := by decide +kernel
theorem dX7_at_8 : decode cX7_at 8 = .ok (.iload_n 1, 1) := by decide +kernel
theorem dX7_at_9 : decode cX7_at 9 = .ok (.aload_n 0, 1) := by decide +kernel
theorem dX7_at_10 : decode cX7_at 10 = .ok (.getfield 10, 3) := by decide +kernel
theorem dX7_at_13 : decode cX7_at 13 = .ok (.getfield 81, 3) := by decide +kernel
theorem dX7_at_16 : decode cX7_at 16 = .ok (.if_icmp .ge 18, 3) := by decide +kernel
theorem dX7_at_19 : decode cX7_at 19 = .ok (.aload_n 0, 1) := by decide +kernel
theorem dX7_at_20 : decode cX7_at 20 = .ok (.getfield 10, 3) := by decide +kernel
theorem dX7_at_23 : decode cX7_at 23 = .ok (.getfield 92, 3) := by decide +kernel
theorem dX7_at_26 : decode cX7_at 26 = .ok (.iload_n 1, 1) := by decide +kernel
theorem dX7_at_27 : decode cX7_at 27 = .ok (.aaload, 1) := by decide +kernel
theorem dX7_at_28 : decode cX7_at 28 = .ok (.getfield 186, 3) := by decide +kernel
theorem dX7_at_31 : decode cX7_at 31 = .ok (.goto 6, 3) := by decide +kernel
theorem dX7_at_34 : decode cX7_at 34 = .ok (.sipush (-1005), 3) := by decide +kernel
theorem dX7_at_37 : decode cX7_at 37 = .ok (.ireturn, 1) := by decide +kernel
theorem dX7_ringsIn_0 : decode cX7_ringsIn 0 = .ok (.aload_n 0, 1) := by decide +kernel
theorem dX7_ringsIn_1 : decode cX7_ringsIn 1 = .ok (.getfield 10, 3) := by decide +kernel
theorem dX7_ringsIn_4 : decode cX7_ringsIn 4 = .ok (.iload_n 1, 1) := by decide +kernel
theorem dX7_ringsIn_5 : decode cX7_ringsIn 5 = .ok (.invokevirtual 84, 3) := by decide +kernel
theorem dX7_ringsIn_8 : decode cX7_ringsIn 8 = .ok (.istore_n 2, 1) := by decide +kernel
theorem dX7_ringsIn_9 : decode cX7_ringsIn 9 = .ok (.iload_n 2, 1) := by decide +kernel
theorem dX7_ringsIn_10 : decode cX7_ringsIn 10 = .ok (.iconst (-1), 1) := by decide +kernel
theorem dX7_ringsIn_11 : decode cX7_ringsIn 11 = .ok (.if_icmp .ne 7, 3) := by decide +kernel
theorem dX7_ringsIn_14 : decode cX7_ringsIn 14 = .ok (.sipush (-1001), 3) := by decide +kernel
theorem dX7_ringsIn_17 : decode cX7_ringsIn 17 = .ok (.ireturn, 1) := by decide +kernel
theorem dX7_ringsIn_18 : decode cX7_ringsIn 18 = .ok (.aload_n 0, 1) := by decide +kernel
theorem dX7_ringsIn_19 : decode cX7_ringsIn 19 = .ok (.getfield 10, 3) := by decide +kernel
theorem dX7_ringsIn_22 : decode cX7_ringsIn 22 = .ok (.getfield 92, 3) := by decide +kernel
theorem dX7_ringsIn_25 : decode cX7_ringsIn 25 = .ok (.iload_n 2, 1) := by decide +kernel
theorem dX7_ringsIn_26 : decode cX7_ringsIn 26 = .ok (.aaload, 1) := by decide +kernel
theorem dX7_ringsIn_27 : decode cX7_ringsIn 27 = .ok (.getfield 160, 3) := by decide +kernel
theorem dX7_ringsIn_30 : decode cX7_ringsIn 30 = .ok (.istore_n 3, 1) := by decide +kernel
theorem dX7_ringsIn_31 : decode cX7_ringsIn 31 = .ok (.aload_n 0, 1) := by decide +kernel
theorem dX7_ringsIn_32 : decode cX7_ringsIn 32 = .ok (.getfield 16, 3) := by decide +kernel
theorem dX7_ringsIn_35 : decode cX7_ringsIn 35 = .ok (.aload_n 0, 1) := by decide +kernel
theorem dX7_ringsIn_36 : decode cX7_ringsIn 36 = .ok (.getfield 10, 3) := by decide +kernel
theorem dX7_ringsIn_39 : decode cX7_ringsIn 39 = .ok (.invokevirtual 148, 3) := by decide +kernel
theorem dX7_ringsIn_42 : decode cX7_ringsIn 42 = .ok (.iconst 1, 1) := by decide +kernel
theorem dX7_ringsIn_43 : decode cX7_ringsIn 43 = .ok (.istore 4, 2) := by decide +kernel
theorem dX7_ringsIn_45 : decode cX7_ringsIn 45 = .ok (.iload 4, 2) := by decide +kernel
theorem dX7_ringsIn_47 : decode cX7_ringsIn 47 = .ok (.sipush 1000, 3) := by decide +kernel
theorem dX7_ringsIn_50 : decode cX7_ringsIn 50 = .ok (.if_icmp .gt 31, 3) := by decide +kernel
theorem dX7_ringsIn_53 : decode cX7_ringsIn 53 = .ok (.aload_n 0, 1) := by decide +kernel
theorem dX7_ringsIn_54 : decode cX7_ringsIn 54 = .ok (.getfield 16, 3) := by decide +kernel
theorem dX7_ringsIn_57 : decode cX7_ringsIn 57 = .ok (.invokevirtual 132, 3) := by decide +kernel
theorem dX7_ringsIn_60 : decode cX7_ringsIn 60 = .ok (.aload_n 0, 1) := by decide +kernel
theorem dX7_ringsIn_61 : decode cX7_ringsIn 61 = .ok (.getfield 16, 3) := by decide +kernel
theorem dX7_ringsIn_64 : decode cX7_ringsIn 64 = .ok (.iload_n 1, 1) := by decide +kernel
theorem dX7_ringsIn_65 : decode cX7_ringsIn 65 = .ok (.iload_n 3, 1) := by decide +kernel
theorem dX7_ringsIn_66 : decode cX7_ringsIn 66 = .ok (.invokevirtual 189, 3) := by decide +kernel
theorem dX7_ringsIn_69 : decode cX7_ringsIn 69 = .ok (.ifCond .eq 6, 3) := by decide +kernel
theorem dX7_ringsIn_72 : decode cX7_ringsIn 72 = .ok (.iload 4, 2) := by decide +kernel
theorem dX7_ringsIn_74 : decode cX7_ringsIn 74 = .ok (.ireturn, 1) := by decide +kernel
theorem dX7_ringsIn_75 : decode cX7_ringsIn 75 = .ok (.iinc 4 1, 3) := by decide +kernel
theorem dX7_ringsIn_78 : decode cX7_ringsIn 78 = .ok (.goto (-33), 3) := by decide +kernel
theorem dX7_ringsIn_81 : decode cX7_ringsIn 81 = .ok (.sipush (-1005), 3) := by decide +kernel
theorem dX7_ringsIn_84 : decode cX7_ringsIn 84 = .ok (.ireturn, 1) := by decide +kernel
theorem dX7_ifComparers_0 : decode cX7_ifComparers 0 = .ok (.iload_n 1, 1) := by decide +kernel
theorem dX7_ifComparers_1 : decode cX7_ifComparers 1 = .ok (.iconst 1, 1) := by decide +kernel
theorem dX7_ifComparers_2 : decode cX7_ifComparers 2 = .ok (.iconst 4, 1) := by decide +kernel
theorem dX7_ifComparers_3 : decode cX7_ifComparers 3 = .ok (.invokestatic 41, 3) := by decide +kernel
theorem dX7_ifComparers_6 : decode cX7_ifComparers 6 = .ok (.ifCond .eq 23, 3) := by decide +kernel
theorem dX7_ifComparers_9 : decode cX7_ifComparers 9 = .ok (.iload_n 2, 1) := by decide +kernel
theorem dX7_ifComparers_10 : decode cX7_ifComparers 10 = .ok (.iconst 1, 1) := by decide +kernel
theorem dX7_ifComparers_11 : decode cX7_ifComparers 11 = .ok (.sipush 500, 3) := by decide +kernel
theorem dX7_ifComparers_14 : decode cX7_ifComparers 14 = .ok (.invokestatic 41, 3) := by decide +kernel
theorem dX7_ifComparers_17 : decode cX7_ifComparers 17 = .ok (.ifCond .eq 12, 3) := by decide +kernel
theorem dX7_ifComparers_20 : decode cX7_ifComparers 20 = .ok (.iload_n 3, 1) := by decide +kernel
theorem dX7_ifComparers_21 : decode cX7_ifComparers 21 = .ok (.iconst 0, 1) := by decide +kernel
theorem dX7_ifComparers_22 : decode cX7_ifComparers 22 = .ok (.iconst 3, 1) := by decide +kernel
theorem dX7_ifComparers_23 : decode cX7_ifComparers 23 = .ok (.invokestatic 41, 3) := by decide +kernel
theorem dX7_ifComparers_26 : decode cX7_ifComparers 26 = .ok (.ifCond .ne 7, 3) := by decide +kernel
theorem dX7_ifComparers_29 : decode cX7_ifComparers 29 = .ok (.sipush (-1002), 3) := by decide +kernel
theorem dX7_ifComparers_32 : decode cX7_ifComparers 32 = .ok (.ireturn, 1) := by decide +kernel
theorem dX7_ifComparers_33 : decode cX7_ifComparers 33 = .ok (.aload_n 0, 1) := by decide +kernel
theorem dX7_ifComparers_34 : decode cX7_ifComparers 34 = .ok (.iload_n 1, 1) := by decide +kernel
theorem dX7_ifComparers_35 : decode cX7_ifComparers 35 = .ok (.iload_n 2, 1) := by decide +kernel
theorem dX7_ifComparers_36 : decode cX7_ifComparers 36 = .ok (.invokevirtual 193, 3) := by decide +kernel
theorem dX7_ifComparers_39 : decode cX7_ifComparers 39 = .ok (.iload_n 3, 1) := by decide +kernel
theorem dX7_ifComparers_40 : decode cX7_ifComparers 40 = .ok (.tableswitch 61 0 2 #[28, 39, 50], 28) := by decide +kernel
theorem dX7_ifComparers_68 : decode cX7_ifComparers 68 = .ok (.aload_n 0, 1) := by decide +kernel
theorem dX7_ifComparers_69 : decode cX7_ifComparers 69 = .ok (.getfield 16, 3) := by decide +kernel
theorem dX7_ifComparers_72 : decode cX7_ifComparers 72 = .ok (.getfield 123, 3) := by decide +kernel
theorem dX7_ifComparers_75 : decode cX7_ifComparers 75 = .ok (.getfield 127, 3) := by decide +kernel
theorem dX7_ifComparers_78 : decode cX7_ifComparers 78 = .ok (.ireturn, 1) := by decide +kernel
theorem dX7_ifComparers_79 : decode cX7_ifComparers 79 = .ok (.aload_n 0, 1) := by decide +kernel
theorem dX7_ifComparers_80 : decode cX7_ifComparers 80 = .ok (.getfield 16, 3) := by decide +kernel
theorem dX7_ifComparers_83 : decode cX7_ifComparers 83 = .ok (.getfield 123, 3) := by decide +kernel
theorem dX7_ifComparers_86 : decode cX7_ifComparers 86 = .ok (.getfield 196, 3) := by decide +kernel
theorem dX7_ifComparers_89 : decode cX7_ifComparers 89 = .ok (.ireturn, 1) := by decide +kernel
theorem dX7_ifComparers_90 : decode cX7_ifComparers 90 = .ok (.aload_n 0, 1) := by decide +kernel
theorem dX7_ifComparers_91 : decode cX7_ifComparers 91 = .ok (.getfield 16, 3) := by decide +kernel
theorem dX7_ifComparers_94 : decode cX7_ifComparers 94 = .ok (.getfield 123, 3) := by decide +kernel
theorem dX7_ifComparers_97 : decode cX7_ifComparers 97 = .ok (.getfield 199, 3) := by decide +kernel
theorem dX7_ifComparers_100 : decode cX7_ifComparers 100 = .ok (.ireturn, 1) := by decide +kernel
theorem dX7_ifComparers_101 : decode cX7_ifComparers 101 = .ok (.aload_n 0, 1) := by decide +kernel
theorem dX7_ifComparers_102 : decode cX7_ifComparers 102 = .ok (.getfield 16, 3) := by decide +kernel
theorem dX7_ifComparers_105 : decode cX7_ifComparers 105 = .ok (.getfield 123, 3) := by decide +kernel
theorem dX7_ifComparers_108 : decode cX7_ifComparers 108 = .ok (.getfield 200, 3) := by decide +kernel
theorem dX7_ifComparers_111 : decode cX7_ifComparers 111 = .ok (.ireturn, 1) := by decide +kernel
theorem dX7_fewest_0 : decode cX7_fewest 0 = .ok (.iload_n 1, 1) := by decide +kernel
theorem dX7_fewest_1 : decode cX7_fewest 1 = .ok (.iconst 1, 1) := by decide +kernel
theorem dX7_fewest_2 : decode cX7_fewest 2 = .ok (.sipush 500, 3) := by decide +kernel
theorem dX7_fewest_5 : decode cX7_fewest 5 = .ok (.invokestatic 41, 3) := by decide +kernel
theorem dX7_fewest_8 : decode cX7_fewest 8 = .ok (.ifCond .ne 7, 3) := by decide +kernel
theorem dX7_fewest_11 : decode cX7_fewest 11 = .ok (.sipush (-1002), 3) := by decide +kernel
theorem dX7_fewest_14 : decode cX7_fewest 14 = .ok (.ireturn, 1) := by decide +kernel
theorem dX7_fewest_15 : decode cX7_fewest 15 = .ok (.iconst 0, 1) := by decide +kernel
theorem dX7_fewest_16 : decode cX7_fewest 16 = .ok (.istore_n 2, 1) := by decide +kernel
theorem dX7_fewest_17 : decode cX7_fewest 17 = .ok (.iconst 0, 1) := by decide +kernel
theorem dX7_fewest_18 : decode cX7_fewest 18 = .ok (.istore_n 3, 1) := by decide +kernel
theorem dX7_fewest_19 : decode cX7_fewest 19 = .ok (.iconst 1, 1) := by decide +kernel
theorem dX7_fewest_20 : decode cX7_fewest 20 = .ok (.istore 4, 2) := by decide +kernel
theorem dX7_fewest_22 : decode cX7_fewest 22 = .ok (.iload 4, 2) := by decide +kernel
theorem dX7_fewest_24 : decode cX7_fewest 24 = .ok (.iconst 4, 1) := by decide +kernel
theorem dX7_fewest_25 : decode cX7_fewest 25 = .ok (.if_icmp .gt 48, 3) := by decide +kernel
theorem dX7_fewest_28 : decode cX7_fewest 28 = .ok (.aload_n 0, 1) := by decide +kernel
theorem dX7_fewest_29 : decode cX7_fewest 29 = .ok (.iload 4, 2) := by decide +kernel
theorem dX7_fewest_31 : decode cX7_fewest 31 = .ok (.iload_n 1, 1) := by decide +kernel
theorem dX7_fewest_32 : decode cX7_fewest 32 = .ok (.invokevirtual 193, 3) := by decide +kernel
theorem dX7_fewest_35 : decode cX7_fewest 35 = .ok (.iload_n 2, 1) := by decide +kernel
theorem dX7_fewest_36 : decode cX7_fewest 36 = .ok (.ifCond .eq 17, 3) := by decide +kernel
theorem dX7_fewest_39 : decode cX7_fewest 39 = .ok (.aload_n 0, 1) := by decide +kernel
theorem dX7_fewest_40 : decode cX7_fewest 40 = .ok (.getfield 16, 3) := by decide +kernel
theorem dX7_fewest_43 : decode cX7_fewest 43 = .ok (.getfield 123, 3) := by decide +kernel
theorem dX7_fewest_46 : decode cX7_fewest 46 = .ok (.getfield 196, 3) := by decide +kernel
theorem dX7_fewest_49 : decode cX7_fewest 49 = .ok (.iload_n 3, 1) := by decide +kernel
theorem dX7_fewest_50 : decode cX7_fewest 50 = .ok (.if_icmp .ge 17, 3) := by decide +kernel
theorem dX7_fewest_53 : decode cX7_fewest 53 = .ok (.iload 4, 2) := by decide +kernel
theorem dX7_fewest_55 : decode cX7_fewest 55 = .ok (.istore_n 2, 1) := by decide +kernel
theorem dX7_fewest_56 : decode cX7_fewest 56 = .ok (.aload_n 0, 1) := by decide +kernel
theorem dX7_fewest_57 : decode cX7_fewest 57 = .ok (.getfield 16, 3) := by decide +kernel
theorem dX7_fewest_60 : decode cX7_fewest 60 = .ok (.getfield 123, 3) := by decide +kernel
theorem dX7_fewest_63 : decode cX7_fewest 63 = .ok (.getfield 196, 3) := by decide +kernel
theorem dX7_fewest_66 : decode cX7_fewest 66 = .ok (.istore_n 3, 1) := by decide +kernel
theorem dX7_fewest_67 : decode cX7_fewest 67 = .ok (.iinc 4 1, 3) := by decide +kernel
theorem dX7_fewest_70 : decode cX7_fewest 70 = .ok (.goto (-48), 3) := by decide +kernel
theorem dX7_fewest_73 : decode cX7_fewest 73 = .ok (.iload_n 2, 1) := by decide +kernel
theorem dX7_fewest_74 : decode cX7_fewest 74 = .ok (.ireturn, 1) := by decide +kernel
theorem dX7_ring_0 : decode cX7_ring 0 = .ok (.aload_n 0, 1) := by decide +kernel
theorem dX7_ring_1 : decode cX7_ring 1 = .ok (.getfield 10, 3) := by decide +kernel
theorem dX7_ring_4 : decode cX7_ring 4 = .ok (.getfield 203, 3) := by decide +kernel
theorem dX7_ring_7 : decode cX7_ring 7 = .ok (.iload_n 1, 1) := by decide +kernel
theorem dX7_ring_8 : decode cX7_ring 8 = .ok (.iload_n 2, 1) := by decide +kernel
theorem dX7_ring_9 : decode cX7_ring 9 = .ok (.invokevirtual 207, 3) := by decide +kernel
theorem dX7_ring_12 : decode cX7_ring 12 = .ok (.ireturn, 1) := by decide +kernel
theorem dX7_count_0 : decode cX7_count 0 = .ok (.iload_n 1, 1) := by decide +kernel
theorem dX7_count_1 : decode cX7_count 1 = .ok (.tableswitch 249 0 17 #[87, 95, 103, 111, 119, 127, 135, 146, 157, 168, 179, 190, 201, 209, 217, 225, 233, 241], 87) := by decide +kernel
theorem dX7_count_88 : decode cX7_count 88 = .ok (.aload_n 0, 1) := by decide +kernel
theorem dX7_count_89 : decode cX7_count 89 = .ok (.getfield 10, 3) := by decide +kernel
theorem dX7_count_92 : decode cX7_count 92 = .ok (.getfield 45, 3) := by decide +kernel
theorem dX7_count_95 : decode cX7_count 95 = .ok (.ireturn, 1) := by decide +kernel
theorem dX7_count_96 : decode cX7_count 96 = .ok (.aload_n 0, 1) := by decide +kernel
theorem dX7_count_97 : decode cX7_count 97 = .ok (.getfield 10, 3) := by decide +kernel
theorem dX7_count_100 : decode cX7_count 100 = .ok (.getfield 213, 3) := by decide +kernel
theorem dX7_count_103 : decode cX7_count 103 = .ok (.ireturn, 1) := by decide +kernel
theorem dX7_count_104 : decode cX7_count 104 = .ok (.aload_n 0, 1) := by decide +kernel
theorem dX7_count_105 : decode cX7_count 105 = .ok (.getfield 10, 3) := by decide +kernel
theorem dX7_count_108 : decode cX7_count 108 = .ok (.getfield 81, 3) := by decide +kernel
theorem dX7_count_111 : decode cX7_count 111 = .ok (.ireturn, 1) := by decide +kernel
theorem dX7_count_112 : decode cX7_count 112 = .ok (.aload_n 0, 1) := by decide +kernel
theorem dX7_count_113 : decode cX7_count 113 = .ok (.getfield 10, 3) := by decide +kernel
theorem dX7_count_116 : decode cX7_count 116 = .ok (.getfield 216, 3) := by decide +kernel
theorem dX7_count_119 : decode cX7_count 119 = .ok (.ireturn, 1) := by decide +kernel
theorem dX7_count_120 : decode cX7_count 120 = .ok (.aload_n 0, 1) := by decide +kernel
theorem dX7_count_121 : decode cX7_count 121 = .ok (.getfield 10, 3) := by decide +kernel
theorem dX7_count_124 : decode cX7_count 124 = .ok (.invokevirtual 219, 3) := by decide +kernel
theorem dX7_count_127 : decode cX7_count 127 = .ok (.ireturn, 1) := by decide +kernel
theorem dX7_count_128 : decode cX7_count 128 = .ok (.aload_n 0, 1) := by decide +kernel
theorem dX7_count_129 : decode cX7_count 129 = .ok (.getfield 10, 3) := by decide +kernel
theorem dX7_count_132 : decode cX7_count 132 = .ok (.invokevirtual 222, 3) := by decide +kernel
theorem dX7_count_135 : decode cX7_count 135 = .ok (.ireturn, 1) := by decide +kernel
theorem dX7_count_136 : decode cX7_count 136 = .ok (.aload_n 0, 1) := by decide +kernel
theorem dX7_count_137 : decode cX7_count 137 = .ok (.getfield 10, 3) := by decide +kernel
theorem dX7_count_140 : decode cX7_count 140 = .ok (.getfield 123, 3) := by decide +kernel
theorem dX7_count_143 : decode cX7_count 143 = .ok (.getfield 127, 3) := by decide +kernel
theorem dX7_count_146 : decode cX7_count 146 = .ok (.ireturn, 1) := by decide +kernel
theorem dX7_count_147 : decode cX7_count 147 = .ok (.aload_n 0, 1) := by decide +kernel
theorem dX7_count_148 : decode cX7_count 148 = .ok (.getfield 10, 3) := by decide +kernel
theorem dX7_count_151 : decode cX7_count 151 = .ok (.getfield 123, 3) := by decide +kernel
theorem dX7_count_154 : decode cX7_count 154 = .ok (.getfield 196, 3) := by decide +kernel
theorem dX7_count_157 : decode cX7_count 157 = .ok (.ireturn, 1) := by decide +kernel
theorem dX7_count_158 : decode cX7_count 158 = .ok (.aload_n 0, 1) := by decide +kernel
theorem dX7_count_159 : decode cX7_count 159 = .ok (.getfield 10, 3) := by decide +kernel
theorem dX7_count_162 : decode cX7_count 162 = .ok (.getfield 123, 3) := by decide +kernel
theorem dX7_count_165 : decode cX7_count 165 = .ok (.getfield 199, 3) := by decide +kernel
theorem dX7_count_168 : decode cX7_count 168 = .ok (.ireturn, 1) := by decide +kernel
theorem dX7_count_169 : decode cX7_count 169 = .ok (.aload_n 0, 1) := by decide +kernel
theorem dX7_count_170 : decode cX7_count 170 = .ok (.getfield 10, 3) := by decide +kernel
theorem dX7_count_173 : decode cX7_count 173 = .ok (.getfield 123, 3) := by decide +kernel
theorem dX7_count_176 : decode cX7_count 176 = .ok (.getfield 200, 3) := by decide +kernel
theorem dX7_count_179 : decode cX7_count 179 = .ok (.ireturn, 1) := by decide +kernel
theorem dX7_count_180 : decode cX7_count 180 = .ok (.aload_n 0, 1) := by decide +kernel
theorem dX7_count_181 : decode cX7_count 181 = .ok (.getfield 10, 3) := by decide +kernel
theorem dX7_count_184 : decode cX7_count 184 = .ok (.getfield 123, 3) := by decide +kernel
theorem dX7_count_187 : decode cX7_count 187 = .ok (.getfield 225, 3) := by decide +kernel
theorem dX7_count_190 : decode cX7_count 190 = .ok (.ireturn, 1) := by decide +kernel
theorem dX7_count_191 : decode cX7_count 191 = .ok (.aload_n 0, 1) := by decide +kernel
theorem dX7_count_192 : decode cX7_count 192 = .ok (.getfield 10, 3) := by decide +kernel
theorem dX7_count_195 : decode cX7_count 195 = .ok (.getfield 123, 3) := by decide +kernel
theorem dX7_count_198 : decode cX7_count 198 = .ok (.getfield 228, 3) := by decide +kernel
theorem dX7_count_201 : decode cX7_count 201 = .ok (.ireturn, 1) := by decide +kernel
theorem dX7_count_202 : decode cX7_count 202 = .ok (.aload_n 0, 1) := by decide +kernel
theorem dX7_count_203 : decode cX7_count 203 = .ok (.getfield 10, 3) := by decide +kernel
theorem dX7_count_206 : decode cX7_count 206 = .ok (.getfield 105, 3) := by decide +kernel
theorem dX7_count_209 : decode cX7_count 209 = .ok (.ireturn, 1) := by decide +kernel
theorem dX7_count_210 : decode cX7_count 210 = .ok (.aload_n 0, 1) := by decide +kernel
theorem dX7_count_211 : decode cX7_count 211 = .ok (.getfield 10, 3) := by decide +kernel
theorem dX7_count_214 : decode cX7_count 214 = .ok (.getfield 111, 3) := by decide +kernel
theorem dX7_count_217 : decode cX7_count 217 = .ok (.ireturn, 1) := by decide +kernel
theorem dX7_count_218 : decode cX7_count 218 = .ok (.aload_n 0, 1) := by decide +kernel
theorem dX7_count_219 : decode cX7_count 219 = .ok (.getfield 10, 3) := by decide +kernel
theorem dX7_count_222 : decode cX7_count 222 = .ok (.getfield 117, 3) := by decide +kernel
theorem dX7_count_225 : decode cX7_count 225 = .ok (.ireturn, 1) := by decide +kernel
theorem dX7_count_226 : decode cX7_count 226 = .ok (.aload_n 0, 1) := by decide +kernel
theorem dX7_count_227 : decode cX7_count 227 = .ok (.getfield 10, 3) := by decide +kernel
theorem dX7_count_230 : decode cX7_count 230 = .ok (.getfield 120, 3) := by decide +kernel
theorem dX7_count_233 : decode cX7_count 233 = .ok (.ireturn, 1) := by decide +kernel
theorem dX7_count_234 : decode cX7_count 234 = .ok (.aload_n 0, 1) := by decide +kernel
theorem dX7_count_235 : decode cX7_count 235 = .ok (.getfield 25, 3) := by decide +kernel
theorem dX7_count_238 : decode cX7_count 238 = .ok (.getfield 142, 3) := by decide +kernel
theorem dX7_count_241 : decode cX7_count 241 = .ok (.ireturn, 1) := by decide +kernel
theorem dX7_count_242 : decode cX7_count 242 = .ok (.aload_n 0, 1) := by decide +kernel
theorem dX7_count_243 : decode cX7_count 243 = .ok (.getfield 32, 3) := by decide +kernel
theorem dX7_count_246 : decode cX7_count 246 = .ok (.getfield 139, 3) := by decide +kernel
theorem dX7_count_249 : decode cX7_count 249 = .ok (.ireturn, 1) := by decide +kernel
theorem dX7_count_250 : decode cX7_count 250 = .ok (.sipush (-1002), 3) := by decide +kernel
theorem dX7_count_253 : decode cX7_count 253 = .ok (.ireturn, 1) := by decide +kernel
theorem dX7_isWithin_0 : decode cX7_isWithin 0 = .ok (.iload_n 0, 1) := by decide +kernel
theorem dX7_isWithin_1 : decode cX7_isWithin 1 = .ok (.iload_n 1, 1) := by decide +kernel
theorem dX7_isWithin_2 : decode cX7_isWithin 2 = .ok (.if_icmp .lt 12, 3) := by decide +kernel
theorem dX7_isWithin_5 : decode cX7_isWithin 5 = .ok (.iload_n 0, 1) := by decide +kernel
theorem dX7_isWithin_6 : decode cX7_isWithin 6 = .ok (.iload_n 2, 1) := by decide +kernel
theorem dX7_isWithin_7 : decode cX7_isWithin 7 = .ok (.if_icmp .gt 7, 3) := by decide +kernel
theorem dX7_isWithin_10 : decode cX7_isWithin 10 = .ok (.iconst 1, 1) := by decide +kernel
theorem dX7_isWithin_11 : decode cX7_isWithin 11 = .ok (.goto 4, 3) := by decide +kernel
theorem dX7_isWithin_14 : decode cX7_isWithin 14 = .ok (.iconst 0, 1) := by decide +kernel
theorem dX7_isWithin_15 : decode cX7_isWithin 15 = .ok (.ireturn, 1) := by decide +kernel
theorem dX7_tryComparers_0 : decode cX7_tryComparers 0 = .ok (.aload_n 0, 1) := by decide +kernel
theorem dX7_tryComparers_1 : decode cX7_tryComparers 1 = .ok (.getfield 16, 3) := by decide +kernel
theorem dX7_tryComparers_4 : decode cX7_tryComparers 4 = .ok (.aload_n 0, 1) := by decide +kernel
theorem dX7_tryComparers_5 : decode cX7_tryComparers 5 = .ok (.getfield 10, 3) := by decide +kernel
theorem dX7_tryComparers_8 : decode cX7_tryComparers 8 = .ok (.invokevirtual 148, 3) := by decide +kernel
theorem dX7_tryComparers_11 : decode cX7_tryComparers 11 = .ok (.aload_n 0, 1) := by decide +kernel
theorem dX7_tryComparers_12 : decode cX7_tryComparers 12 = .ok (.getfield 16, 3) := by decide +kernel
theorem dX7_tryComparers_15 : decode cX7_tryComparers 15 = .ok (.iload_n 1, 1) := by decide +kernel
theorem dX7_tryComparers_16 : decode cX7_tryComparers 16 = .ok (.invokevirtual 108, 3) := by decide +kernel
theorem dX7_tryComparers_19 : decode cX7_tryComparers 19 = .ok (.aload_n 0, 1) := by decide +kernel
theorem dX7_tryComparers_20 : decode cX7_tryComparers 20 = .ok (.getfield 16, 3) := by decide +kernel
theorem dX7_tryComparers_23 : decode cX7_tryComparers 23 = .ok (.getfield 123, 3) := by decide +kernel
theorem dX7_tryComparers_26 : decode cX7_tryComparers 26 = .ok (.invokevirtual 231, 3) := by decide +kernel
theorem dX7_tryComparers_29 : decode cX7_tryComparers 29 = .ok (.iconst 0, 1) := by decide +kernel
theorem dX7_tryComparers_30 : decode cX7_tryComparers 30 = .ok (.istore_n 3, 1) := by decide +kernel
theorem dX7_tryComparers_31 : decode cX7_tryComparers 31 = .ok (.iload_n 3, 1) := by decide +kernel
theorem dX7_tryComparers_32 : decode cX7_tryComparers 32 = .ok (.iload_n 2, 1) := by decide +kernel
theorem dX7_tryComparers_33 : decode cX7_tryComparers 33 = .ok (.if_icmp .ge 16, 3) := by decide +kernel
theorem dX7_tryComparers_36 : decode cX7_tryComparers 36 = .ok (.aload_n 0, 1) := by decide +kernel
theorem dX7_tryComparers_37 : decode cX7_tryComparers 37 = .ok (.getfield 16, 3) := by decide +kernel
theorem dX7_tryComparers_40 : decode cX7_tryComparers 40 = .ok (.invokevirtual 132, 3) := by decide +kernel
theorem dX7_tryComparers_43 : decode cX7_tryComparers 43 = .ok (.iinc 3 1, 3) := by decide +kernel
theorem dX7_tryComparers_46 : decode cX7_tryComparers 46 = .ok (.goto (-15), 3) := by decide +kernel
theorem dX7_tryComparers_49 : decode cX7_tryComparers 49 = .ok (.return_, 1) := by decide +kernel
end
section
theorem dX8_init_0 : decode cX8_init 0 = .ok (.aload_n 0, 1) := by decide +kernel
theorem dX8_init_1 : decode cX8_init 1 = .ok (.invokespecial 1, 3) := by decide +kernel
theorem dX8_init_4 : decode cX8_init 4 = .ok (.aload_n 0, 1) := by decide +kernel
theorem dX8_init_5 : decode cX8_init 5 = .ok (.sipush 195, 3) := by decide +kernel
theorem dX8_init_8 : decode cX8_init 8 = .ok (.newarray .int, 2) := by decide +kernel
theorem dX8_init_10 : decode cX8_init 10 = .ok (.putfield 7, 3) := by decide +kernel
theorem dX8_init_13 : decode cX8_init 13 = .ok (.aload_n 0, 1) := by decide +kernel
theorem dX8_init_14 : decode cX8_init 14 = .ok (.sipush 195, 3) := by decide +kernel
theorem dX8_init_17 : decode cX8_init 17 = .ok (.newarray .int, 2) := by decide +kernel
theorem dX8_init_19 : decode cX8_init 19 = .ok (.putfield 13, 3) := by decide +kernel
theorem dX8_init_22 : decode cX8_init 22 = .ok (.aload_n 0, 1) := by decide +kernel
theorem dX8_init_23 : decode cX8_init 23 = .ok (.sipush 780, 3) := by decide +kernel
theorem dX8_init_26 : decode cX8_init 26 = .ok (.newarray .int, 2) := by decide +kernel
theorem dX8_init_28 : decode cX8_init 28 = .ok (.putfield 16, 3) := by decide +kernel
theorem dX8_init_31 : decode cX8_init 31 = .ok (.aload_n 0, 1) := by decide +kernel
theorem dX8_init_32 : decode cX8_init 32 = .ok (.sipush 195, 3) := by decide +kernel
theorem dX8_init_35 : decode cX8_init 35 = .ok (.newarray .int, 2) := by decide +kernel
theorem dX8_init_37 : decode cX8_init 37 = .ok (.putfield 19, 3) := by decide +kernel
theorem dX8_init_40 : decode cX8_init 40 = .ok (.aload_n 0, 1) := by decide +kernel
theorem dX8_init_41 : decode cX8_init 41 = .ok (.bipush 60, 2) := by decide +kernel
theorem dX8_init_43 : decode cX8_init 43 = .ok (.newarray .char, 2) := by decide +kernel
theorem dX8_init_45 : decode cX8_init 45 = .ok (.putfield 22, 3) := by decide +kernel
theorem dX8_init_48 : decode cX8_init 48 = .ok (.aload_n 0, 1) := by decide +kernel
theorem dX8_init_49 : decode cX8_init 49 = .ok (.bipush 96, 2) := by decide +kernel
theorem dX8_init_51 : decode cX8_init 51 = .ok (.newarray .int, 2) := by decide +kernel
theorem dX8_init_53 : decode cX8_init 53 = .ok (.putfield 26, 3) := by decide +kernel
theorem dX8_init_56 : decode cX8_init 56 = .ok (.aload_n 0, 1) := by decide +kernel
theorem dX8_init_57 : decode cX8_init 57 = .ok (.getfield 7, 3) := by decide +kernel
theorem dX8_init_60 : decode cX8_init 60 = .ok (.bipush 10, 2) := by decide +kernel
theorem dX8_init_62 : decode cX8_init 62 = .ok (.iconst 2, 1) := by decide +kernel
theorem dX8_init_63 : decode cX8_init 63 = .ok (.iastore, 1) := by decide +kernel
theorem dX8_init_64 : decode cX8_init 64 = .ok (.iconst 0, 1) := by decide +kernel
theorem dX8_init_65 : decode cX8_init 65 = .ok (.istore_n 1, 1) := by decide +kernel
theorem dX8_init_66 : decode cX8_init 66 = .ok (.iload_n 1, 1) := by decide +kernel
theorem dX8_init_67 : decode cX8_init 67 = .ok (.iconst 4, 1) := by decide +kernel
theorem dX8_init_68 : decode cX8_init 68 = .ok (.if_icmp .ge 24, 3) := by decide +kernel
theorem dX8_init_71 : decode cX8_init 71 = .ok (.aload_n 0, 1) := by decide +kernel
theorem dX8_init_72 : decode cX8_init 72 = .ok (.getfield 7, 3) := by decide +kernel
theorem dX8_init_75 : decode cX8_init 75 = .ok (.sipush 154, 3) := by decide +kernel
theorem dX8_init_78 : decode cX8_init 78 = .ok (.iconst 2, 1) := by decide +kernel
theorem dX8_init_79 : decode cX8_init 79 = .ok (.iload_n 1, 1) := by decide +kernel
theorem dX8_init_80 : decode cX8_init 80 = .ok (.imul, 1) := by decide +kernel
theorem dX8_init_81 : decode cX8_init 81 = .ok (.iadd, 1) := by decide +kernel
theorem dX8_init_82 : decode cX8_init 82 = .ok (.sipush (-1005), 3) := by decide +kernel
theorem dX8_init_85 : decode cX8_init 85 = .ok (.iastore, 1) := by decide +kernel
theorem dX8_init_86 : decode cX8_init 86 = .ok (.iinc 1 1, 3) := by decide +kernel
theorem dX8_init_89 : decode cX8_init 89 = .ok (.goto (-23), 3) := by decide +kernel
theorem dX8_init_92 : decode cX8_init 92 = .ok (.return_, 1) := by decide +kernel
theorem dX8_in_0 : decode cX8_in 0 = .ok (.iload_n 0, 1) := by decide +kernel
theorem dX8_in_1 : decode cX8_in 1 = .ok (.iload_n 1, 1) := by decide +kernel
theorem dX8_in_2 : decode cX8_in 2 = .ok (.if_icmp .lt 12, 3) := by decide +kernel
theorem dX8_in_5 : decode cX8_in 5 = .ok (.iload_n 0, 1) := by decide +kernel
theorem dX8_in_6 : decode cX8_in 6 = .ok (.iload_n 2, 1) := by decide +kernel
theorem dX8_in_7 : decode cX8_in 7 = .ok (.if_icmp .gt 7, 3) := by decide +kernel
theorem dX8_in_10 : decode cX8_in 10 = .ok (.iconst 1, 1) := by decide +kernel
theorem dX8_in_11 : decode cX8_in 11 = .ok (.goto 4, 3) := by decide +kernel
theorem dX8_in_14 : decode cX8_in 14 = .ok (.iconst 0, 1) := by decide +kernel
theorem dX8_in_15 : decode cX8_in 15 = .ok (.ireturn, 1) := by decide +kernel
theorem dX8_lays_0 : decode cX8_lays 0 = .ok (.iconst 0, 1) := by decide +kernel
theorem dX8_lays_1 : decode cX8_lays 1 = .ok (.istore 4, 2) := by decide +kernel
theorem dX8_lays_3 : decode cX8_lays 3 = .ok (.iload 4, 2) := by decide +kernel
theorem dX8_lays_5 : decode cX8_lays 5 = .ok (.sipush 195, 3) := by decide +kernel
theorem dX8_lays_8 : decode cX8_lays 8 = .ok (.if_icmp .ge 21, 3) := by decide +kernel
theorem dX8_lays_11 : decode cX8_lays 11 = .ok (.aload_n 2, 1) := by decide +kernel
theorem dX8_lays_12 : decode cX8_lays 12 = .ok (.iload_n 3, 1) := by decide +kernel
theorem dX8_lays_13 : decode cX8_lays 13 = .ok (.iload 4, 2) := by decide +kernel
theorem dX8_lays_15 : decode cX8_lays 15 = .ok (.iadd, 1) := by decide +kernel
theorem dX8_lays_16 : decode cX8_lays 16 = .ok (.aload_n 0, 1) := by decide +kernel
theorem dX8_lays_17 : decode cX8_lays 17 = .ok (.iload_n 1, 1) := by decide +kernel
theorem dX8_lays_18 : decode cX8_lays 18 = .ok (.iload 4, 2) := by decide +kernel
theorem dX8_lays_20 : decode cX8_lays 20 = .ok (.iadd, 1) := by decide +kernel
theorem dX8_lays_21 : decode cX8_lays 21 = .ok (.iaload, 1) := by decide +kernel
theorem dX8_lays_22 : decode cX8_lays 22 = .ok (.iastore, 1) := by decide +kernel
theorem dX8_lays_23 : decode cX8_lays 23 = .ok (.iinc 4 1, 3) := by decide +kernel
theorem dX8_lays_26 : decode cX8_lays 26 = .ok (.goto (-23), 3) := by decide +kernel
theorem dX8_lays_29 : decode cX8_lays 29 = .ok (.return_, 1) := by decide +kernel
theorem dX8_records_0 : decode cX8_records 0 = .ok (.aload_n 0, 1) := by decide +kernel
theorem dX8_records_1 : decode cX8_records 1 = .ok (.getfield 29, 3) := by decide +kernel
theorem dX8_records_4 : decode cX8_records 4 = .ok (.iconst 4, 1) := by decide +kernel
theorem dX8_records_5 : decode cX8_records 5 = .ok (.if_icmp .ne 44, 3) := by decide +kernel
theorem dX8_records_8 : decode cX8_records 8 = .ok (.iconst 0, 1) := by decide +kernel
theorem dX8_records_9 : decode cX8_records 9 = .ok (.istore_n 1, 1) := by decide +kernel
theorem dX8_records_10 : decode cX8_records 10 = .ok (.iload_n 1, 1) := by decide +kernel
theorem dX8_records_11 : decode cX8_records 11 = .ok (.sipush 585, 3) := by decide +kernel
theorem dX8_records_14 : decode cX8_records 14 = .ok (.if_icmp .ge 25, 3) := by decide +kernel
theorem dX8_records_17 : decode cX8_records 17 = .ok (.aload_n 0, 1) := by decide +kernel
theorem dX8_records_18 : decode cX8_records 18 = .ok (.getfield 16, 3) := by decide +kernel
theorem dX8_records_21 : decode cX8_records 21 = .ok (.iload_n 1, 1) := by decide +kernel
theorem dX8_records_22 : decode cX8_records 22 = .ok (.aload_n 0, 1) := by decide +kernel
theorem dX8_records_23 : decode cX8_records 23 = .ok (.getfield 16, 3) := by decide +kernel
theorem dX8_records_26 : decode cX8_records 26 = .ok (.iload_n 1, 1) := by decide +kernel
theorem dX8_records_27 : decode cX8_records 27 = .ok (.sipush 195, 3) := by decide +kernel
theorem dX8_records_30 : decode cX8_records 30 = .ok (.iadd, 1) := by decide +kernel
theorem dX8_records_31 : decode cX8_records 31 = .ok (.iaload, 1) := by decide +kernel
theorem dX8_records_32 : decode cX8_records 32 = .ok (.iastore, 1) := by decide +kernel
theorem dX8_records_33 : decode cX8_records 33 = .ok (.iinc 1 1, 3) := by decide +kernel
theorem dX8_records_36 : decode cX8_records 36 = .ok (.goto (-26), 3) := by decide +kernel
theorem dX8_records_39 : decode cX8_records 39 = .ok (.aload_n 0, 1) := by decide +kernel
theorem dX8_records_40 : decode cX8_records 40 = .ok (.dup, 1) := by decide +kernel
theorem dX8_records_41 : decode cX8_records 41 = .ok (.getfield 29, 3) := by decide +kernel
theorem dX8_records_44 : decode cX8_records 44 = .ok (.iconst 1, 1) := by decide +kernel
theorem dX8_records_45 : decode cX8_records 45 = .ok (.isub, 1) := by decide +kernel
theorem dX8_records_46 : decode cX8_records 46 = .ok (.putfield 29, 3) := by decide +kernel
theorem dX8_records_49 : decode cX8_records 49 = .ok (.aload_n 0, 1) := by decide +kernel
theorem dX8_records_50 : decode cX8_records 50 = .ok (.getfield 7, 3) := by decide +kernel
theorem dX8_records_53 : decode cX8_records 53 = .ok (.iconst 0, 1) := by decide +kernel
theorem dX8_records_54 : decode cX8_records 54 = .ok (.aload_n 0, 1) := by decide +kernel
theorem dX8_records_55 : decode cX8_records 55 = .ok (.getfield 16, 3) := by decide +kernel
theorem dX8_records_58 : decode cX8_records 58 = .ok (.sipush 195, 3) := by decide +kernel
theorem dX8_records_61 : decode cX8_records 61 = .ok (.aload_n 0, 1) := by decide +kernel
theorem dX8_records_62 : decode cX8_records 62 = .ok (.getfield 29, 3) := by decide +kernel
theorem dX8_records_65 : decode cX8_records 65 = .ok (.imul, 1) := by decide +kernel
theorem dX8_records_66 : decode cX8_records 66 = .ok (.invokestatic 33, 3) := by decide +kernel
theorem dX8_records_69 : decode cX8_records 69 = .ok (.aload_n 0, 1) := by decide +kernel
theorem dX8_records_70 : decode cX8_records 70 = .ok (.dup, 1) := by decide +kernel
theorem dX8_records_71 : decode cX8_records 71 = .ok (.getfield 29, 3) := by decide +kernel
theorem dX8_records_74 : decode cX8_records 74 = .ok (.iconst 1, 1) := by decide +kernel
theorem dX8_records_75 : decode cX8_records 75 = .ok (.iadd, 1) := by decide +kernel
theorem dX8_records_76 : decode cX8_records 76 = .ok (.putfield 29, 3) := by decide +kernel
theorem dX8_records_79 : decode cX8_records 79 = .ok (.return_, 1) := by decide +kernel
theorem dX8_of_0 : decode cX8_of 0 = .ok (.aload_n 0, 1) := by decide +kernel
theorem dX8_of_1 : decode cX8_of 1 = .ok (.bipush 14, 2) := by decide +kernel
theorem dX8_of_3 : decode cX8_of 3 = .ok (.bipush 7, 2) := by decide +kernel
theorem dX8_of_5 : decode cX8_of 5 = .ok (.iload_n 1, 1) := by decide +kernel
theorem dX8_of_6 : decode cX8_of 6 = .ok (.imul, 1) := by decide +kernel
theorem dX8_of_7 : decode cX8_of 7 = .ok (.iadd, 1) := by decide +kernel
theorem dX8_of_8 : decode cX8_of 8 = .ok (.iload_n 2, 1) := by decide +kernel
theorem dX8_of_9 : decode cX8_of 9 = .ok (.iadd, 1) := by decide +kernel
theorem dX8_of_10 : decode cX8_of 10 = .ok (.iaload, 1) := by decide +kernel
theorem dX8_of_11 : decode cX8_of 11 = .ok (.ireturn, 1) := by decide +kernel
theorem dX8_put_0 : decode cX8_put 0 = .ok (.aload_n 0, 1) := by decide +kernel
theorem dX8_put_1 : decode cX8_put 1 = .ok (.bipush 14, 2) := by decide +kernel
theorem dX8_put_3 : decode cX8_put 3 = .ok (.bipush 7, 2) := by decide +kernel
theorem dX8_put_5 : decode cX8_put 5 = .ok (.iload_n 1, 1) := by decide +kernel
theorem dX8_put_6 : decode cX8_put 6 = .ok (.imul, 1) := by decide +kernel
theorem dX8_put_7 : decode cX8_put 7 = .ok (.iadd, 1) := by decide +kernel
theorem dX8_put_8 : decode cX8_put 8 = .ok (.iload_n 2, 1) := by decide +kernel
theorem dX8_put_9 : decode cX8_put 9 = .ok (.iadd, 1) := by decide +kernel
theorem dX8_put_10 : decode cX8_put 10 = .ok (.iload_n 3, 1) := by decide +kernel
theorem dX8_put_11 : decode cX8_put 11 = .ok (.iastore, 1) := by decide +kernel
theorem dX8_put_12 : decode cX8_put 12 = .ok (.return_, 1) := by decide +kernel
theorem dX8_find_0 : decode cX8_find 0 = .ok (.iconst 0, 1) := by decide +kernel
theorem dX8_find_1 : decode cX8_find 1 = .ok (.istore_n 2, 1) := by decide +kernel
theorem dX8_find_2 : decode cX8_find 2 = .ok (.iload_n 2, 1) := by decide +kernel
theorem dX8_find_3 : decode cX8_find 3 = .ok (.aload_n 0, 1) := by decide +kernel
theorem dX8_find_4 : decode cX8_find 4 = .ok (.iconst 2, 1) := by decide +kernel
theorem dX8_find_5 : decode cX8_find 5 = .ok (.iaload, 1) := by decide +kernel
theorem dX8_find_6 : decode cX8_find 6 = .ok (.if_icmp .ge 21, 3) := by decide +kernel
theorem dX8_find_9 : decode cX8_find 9 = .ok (.aload_n 0, 1) := by decide +kernel
theorem dX8_find_10 : decode cX8_find 10 = .ok (.iload_n 2, 1) := by decide +kernel
theorem dX8_find_11 : decode cX8_find 11 = .ok (.iconst 0, 1) := by decide +kernel
theorem dX8_find_12 : decode cX8_find 12 = .ok (.invokestatic 37, 3) := by decide +kernel
theorem dX8_find_15 : decode cX8_find 15 = .ok (.iload_n 1, 1) := by decide +kernel
theorem dX8_find_16 : decode cX8_find 16 = .ok (.if_icmp .ne 5, 3) := by decide +kernel
theorem dX8_find_19 : decode cX8_find 19 = .ok (.iload_n 2, 1) := by decide +kernel
theorem dX8_find_20 : decode cX8_find 20 = .ok (.ireturn, 1) := by decide +kernel
theorem dX8_find_21 : decode cX8_find 21 = .ok (.iinc 2 1, 3) := by decide +kernel
theorem dX8_find_24 : decode cX8_find 24 = .ok (.goto (-22), 3) := by decide +kernel
theorem dX8_find_27 : decode cX8_find 27 = .ok (.sipush (-1005), 3) := by decide +kernel
theorem dX8_find_30 : decode cX8_find 30 = .ok (.ireturn, 1) := by decide +kernel
theorem dX8_isAhead_0 : decode cX8_isAhead 0 = .ok (.aload_n 0, 1) := by decide +kernel
theorem dX8_isAhead_1 : decode cX8_isAhead 1 = .ok (.iload_n 1, 1) := by decide +kernel
theorem dX8_isAhead_2 : decode cX8_isAhead 2 = .ok (.iconst 1, 1) := by decide +kernel
theorem dX8_isAhead_3 : decode cX8_isAhead 3 = .ok (.invokestatic 37, 3) := by decide +kernel
theorem dX8_isAhead_6 : decode cX8_isAhead 6 = .ok (.aload_n 0, 1) := by decide +kernel
theorem dX8_isAhead_7 : decode cX8_isAhead 7 = .ok (.iload_n 2, 1) := by decide +kernel
theorem dX8_isAhead_8 : decode cX8_isAhead 8 = .ok (.iconst 1, 1) := by decide +kernel
theorem dX8_isAhead_9 : decode cX8_isAhead 9 = .ok (.invokestatic 37, 3) := by decide +kernel
theorem dX8_isAhead_12 : decode cX8_isAhead 12 = .ok (.isub, 1) := by decide +kernel
theorem dX8_isAhead_13 : decode cX8_isAhead 13 = .ok (.istore_n 3, 1) := by decide +kernel
theorem dX8_isAhead_14 : decode cX8_isAhead 14 = .ok (.iload_n 3, 1) := by decide +kernel
theorem dX8_isAhead_15 : decode cX8_isAhead 15 = .ok (.ifCond .eq 7, 3) := by decide +kernel
theorem dX8_isAhead_18 : decode cX8_isAhead 18 = .ok (.iload_n 3, 1) := by decide +kernel
theorem dX8_isAhead_19 : decode cX8_isAhead 19 = .ok (.goto 16, 3) := by decide +kernel
theorem dX8_isAhead_22 : decode cX8_isAhead 22 = .ok (.aload_n 0, 1) := by decide +kernel
theorem dX8_isAhead_23 : decode cX8_isAhead 23 = .ok (.iload_n 2, 1) := by decide +kernel
theorem dX8_isAhead_24 : decode cX8_isAhead 24 = .ok (.iconst 3, 1) := by decide +kernel
theorem dX8_isAhead_25 : decode cX8_isAhead 25 = .ok (.invokestatic 37, 3) := by decide +kernel
theorem dX8_isAhead_28 : decode cX8_isAhead 28 = .ok (.aload_n 0, 1) := by decide +kernel
theorem dX8_isAhead_29 : decode cX8_isAhead 29 = .ok (.iload_n 1, 1) := by decide +kernel
theorem dX8_isAhead_30 : decode cX8_isAhead 30 = .ok (.iconst 3, 1) := by decide +kernel
theorem dX8_isAhead_31 : decode cX8_isAhead 31 = .ok (.invokestatic 37, 3) := by decide +kernel
theorem dX8_isAhead_34 : decode cX8_isAhead 34 = .ok (.isub, 1) := by decide +kernel
theorem dX8_isAhead_35 : decode cX8_isAhead 35 = .ok (.istore_n 3, 1) := by decide +kernel
theorem dX8_isAhead_36 : decode cX8_isAhead 36 = .ok (.iload_n 3, 1) := by decide +kernel
theorem dX8_isAhead_37 : decode cX8_isAhead 37 = .ok (.ifCond .eq 15, 3) := by decide +kernel
theorem dX8_isAhead_40 : decode cX8_isAhead 40 = .ok (.iload_n 3, 1) := by decide +kernel
theorem dX8_isAhead_41 : decode cX8_isAhead 41 = .ok (.ifCond .ge 7, 3) := by decide +kernel
theorem dX8_isAhead_44 : decode cX8_isAhead 44 = .ok (.iconst 1, 1) := by decide +kernel
theorem dX8_isAhead_45 : decode cX8_isAhead 45 = .ok (.goto 17, 3) := by decide +kernel
theorem dX8_isAhead_48 : decode cX8_isAhead 48 = .ok (.iconst 0, 1) := by decide +kernel
theorem dX8_isAhead_49 : decode cX8_isAhead 49 = .ok (.goto 13, 3) := by decide +kernel
theorem dX8_isAhead_52 : decode cX8_isAhead 52 = .ok (.iload_n 1, 1) := by decide +kernel
theorem dX8_isAhead_53 : decode cX8_isAhead 53 = .ok (.iload_n 2, 1) := by decide +kernel
theorem dX8_isAhead_54 : decode cX8_isAhead 54 = .ok (.if_icmp .ge 7, 3) := by decide +kernel
theorem dX8_isAhead_57 : decode cX8_isAhead 57 = .ok (.iconst 1, 1) := by decide +kernel
theorem dX8_isAhead_58 : decode cX8_isAhead 58 = .ok (.goto 4, 3) := by decide +kernel
theorem dX8_isAhead_61 : decode cX8_isAhead 61 = .ok (.iconst 0, 1) := by decide +kernel
theorem dX8_isAhead_62 : decode cX8_isAhead 62 = .ok (.ireturn, 1) := by decide +kernel
theorem dX8_firstOf_0 : decode cX8_firstOf 0 = .ok (.sipush (-1005), 3) := by decide +kernel
theorem dX8_firstOf_3 : decode cX8_firstOf 3 = .ok (.istore_n 2, 1) := by decide +kernel
theorem dX8_firstOf_4 : decode cX8_firstOf 4 = .ok (.iconst 0, 1) := by decide +kernel
theorem dX8_firstOf_5 : decode cX8_firstOf 5 = .ok (.istore_n 3, 1) := by decide +kernel
theorem dX8_firstOf_6 : decode cX8_firstOf 6 = .ok (.iload_n 3, 1) := by decide +kernel
theorem dX8_firstOf_7 : decode cX8_firstOf 7 = .ok (.aload_n 0, 1) := by decide +kernel
theorem dX8_firstOf_8 : decode cX8_firstOf 8 = .ok (.iconst 2, 1) := by decide +kernel
theorem dX8_firstOf_9 : decode cX8_firstOf 9 = .ok (.iaload, 1) := by decide +kernel
theorem dX8_firstOf_10 : decode cX8_firstOf 10 = .ok (.if_icmp .ge 41, 3) := by decide +kernel
theorem dX8_firstOf_13 : decode cX8_firstOf 13 = .ok (.aload_n 0, 1) := by decide +kernel
theorem dX8_firstOf_14 : decode cX8_firstOf 14 = .ok (.iload_n 3, 1) := by decide +kernel
theorem dX8_firstOf_15 : decode cX8_firstOf 15 = .ok (.iconst 4, 1) := by decide +kernel
theorem dX8_firstOf_16 : decode cX8_firstOf 16 = .ok (.invokestatic 37, 3) := by decide +kernel
theorem dX8_firstOf_19 : decode cX8_firstOf 19 = .ok (.iload_n 1, 1) := by decide +kernel
theorem dX8_firstOf_20 : decode cX8_firstOf 20 = .ok (.if_icmp .ne 23, 3) := by decide +kernel
theorem dX8_firstOf_23 : decode cX8_firstOf 23 = .ok (.iload_n 2, 1) := by decide +kernel
theorem dX8_firstOf_24 : decode cX8_firstOf 24 = .ok (.sipush (-1005), 3) := by decide +kernel
theorem dX8_firstOf_27 : decode cX8_firstOf 27 = .ok (.if_icmp .eq 12, 3) := by decide +kernel
theorem dX8_firstOf_30 : decode cX8_firstOf 30 = .ok (.aload_n 0, 1) := by decide +kernel
theorem dX8_firstOf_31 : decode cX8_firstOf 31 = .ok (.iload_n 3, 1) := by decide +kernel
theorem dX8_firstOf_32 : decode cX8_firstOf 32 = .ok (.iload_n 2, 1) := by decide +kernel
theorem dX8_firstOf_33 : decode cX8_firstOf 33 = .ok (.invokestatic 41, 3) := by decide +kernel
theorem dX8_firstOf_36 : decode cX8_firstOf 36 = .ok (.ifCond .eq 7, 3) := by decide +kernel
theorem dX8_firstOf_39 : decode cX8_firstOf 39 = .ok (.iload_n 3, 1) := by decide +kernel
theorem dX8_firstOf_40 : decode cX8_firstOf 40 = .ok (.goto 4, 3) := by decide +kernel
theorem dX8_firstOf_43 : decode cX8_firstOf 43 = .ok (.iload_n 2, 1) := by decide +kernel
theorem dX8_firstOf_44 : decode cX8_firstOf 44 = .ok (.istore_n 2, 1) := by decide +kernel
theorem dX8_firstOf_45 : decode cX8_firstOf 45 = .ok (.iinc 3 1, 3) := by decide +kernel
theorem dX8_firstOf_48 : decode cX8_firstOf 48 = .ok (.goto (-42), 3) := by decide +kernel
theorem dX8_firstOf_51 : decode cX8_firstOf 51 = .ok (.iload_n 2, 1) := by decide +kernel
theorem dX8_firstOf_52 : decode cX8_firstOf 52 = .ok (.ireturn, 1) := by decide +kernel
theorem dX8_placeOf_0 : decode cX8_placeOf 0 = .ok (.iconst 0, 1) := by decide +kernel
theorem dX8_placeOf_1 : decode cX8_placeOf 1 = .ok (.istore_n 2, 1) := by decide +kernel
theorem dX8_placeOf_2 : decode cX8_placeOf 2 = .ok (.iconst 0, 1) := by decide +kernel
theorem dX8_placeOf_3 : decode cX8_placeOf 3 = .ok (.istore_n 3, 1) := by decide +kernel
theorem dX8_placeOf_4 : decode cX8_placeOf 4 = .ok (.iload_n 3, 1) := by decide +kernel
theorem dX8_placeOf_5 : decode cX8_placeOf 5 = .ok (.aload_n 0, 1) := by decide +kernel
theorem dX8_placeOf_6 : decode cX8_placeOf 6 = .ok (.iconst 2, 1) := by decide +kernel
theorem dX8_placeOf_7 : decode cX8_placeOf 7 = .ok (.iaload, 1) := by decide +kernel
theorem dX8_placeOf_8 : decode cX8_placeOf 8 = .ok (.if_icmp .ge 31, 3) := by decide +kernel
theorem dX8_placeOf_11 : decode cX8_placeOf 11 = .ok (.iload_n 2, 1) := by decide +kernel
theorem dX8_placeOf_12 : decode cX8_placeOf 12 = .ok (.iload_n 3, 1) := by decide +kernel
theorem dX8_placeOf_13 : decode cX8_placeOf 13 = .ok (.iload_n 1, 1) := by decide +kernel
theorem dX8_placeOf_14 : decode cX8_placeOf 14 = .ok (.if_icmp .eq 16, 3) := by decide +kernel
theorem dX8_placeOf_17 : decode cX8_placeOf 17 = .ok (.aload_n 0, 1) := by decide +kernel
theorem dX8_placeOf_18 : decode cX8_placeOf 18 = .ok (.iload_n 3, 1) := by decide +kernel
theorem dX8_placeOf_19 : decode cX8_placeOf 19 = .ok (.iload_n 1, 1) := by decide +kernel
theorem dX8_placeOf_20 : decode cX8_placeOf 20 = .ok (.invokestatic 41, 3) := by decide +kernel
theorem dX8_placeOf_23 : decode cX8_placeOf 23 = .ok (.ifCond .eq 7, 3) := by decide +kernel
theorem dX8_placeOf_26 : decode cX8_placeOf 26 = .ok (.iconst 1, 1) := by decide +kernel
theorem dX8_placeOf_27 : decode cX8_placeOf 27 = .ok (.goto 4, 3) := by decide +kernel
theorem dX8_placeOf_30 : decode cX8_placeOf 30 = .ok (.iconst 0, 1) := by decide +kernel
theorem dX8_placeOf_31 : decode cX8_placeOf 31 = .ok (.iadd, 1) := by decide +kernel
theorem dX8_placeOf_32 : decode cX8_placeOf 32 = .ok (.istore_n 2, 1) := by decide +kernel
theorem dX8_placeOf_33 : decode cX8_placeOf 33 = .ok (.iinc 3 1, 3) := by decide +kernel
theorem dX8_placeOf_36 : decode cX8_placeOf 36 = .ok (.goto (-32), 3) := by decide +kernel
theorem dX8_placeOf_39 : decode cX8_placeOf 39 = .ok (.iload_n 2, 1) := by decide +kernel
theorem dX8_placeOf_40 : decode cX8_placeOf 40 = .ok (.ireturn, 1) := by decide +kernel
theorem dX8_countOf_0 : decode cX8_countOf 0 = .ok (.aload_n 0, 1) := by decide +kernel
theorem dX8_countOf_1 : decode cX8_countOf 1 = .ok (.sipush 154, 3) := by decide +kernel
theorem dX8_countOf_4 : decode cX8_countOf 4 = .ok (.iconst 2, 1) := by decide +kernel
theorem dX8_countOf_5 : decode cX8_countOf 5 = .ok (.iload_n 1, 1) := by decide +kernel
theorem dX8_countOf_6 : decode cX8_countOf 6 = .ok (.imul, 1) := by decide +kernel
theorem dX8_countOf_7 : decode cX8_countOf 7 = .ok (.iadd, 1) := by decide +kernel
theorem dX8_countOf_8 : decode cX8_countOf 8 = .ok (.iaload, 1) := by decide +kernel
theorem dX8_countOf_9 : decode cX8_countOf 9 = .ok (.ireturn, 1) := by decide +kernel
theorem dX8_sharing_0 : decode cX8_sharing 0 = .ok (.iconst 0, 1) := by decide +kernel
theorem dX8_sharing_1 : decode cX8_sharing 1 = .ok (.istore_n 2, 1) := by decide +kernel
theorem dX8_sharing_2 : decode cX8_sharing 2 = .ok (.iconst 0, 1) := by decide +kernel
theorem dX8_sharing_3 : decode cX8_sharing 3 = .ok (.istore_n 3, 1) := by decide +kernel
theorem dX8_sharing_4 : decode cX8_sharing 4 = .ok (.iload_n 3, 1) := by decide +kernel
theorem dX8_sharing_5 : decode cX8_sharing 5 = .ok (.aload_n 0, 1) := by decide +kernel
theorem dX8_sharing_6 : decode cX8_sharing 6 = .ok (.iconst 2, 1) := by decide +kernel
theorem dX8_sharing_7 : decode cX8_sharing 7 = .ok (.iaload, 1) := by decide +kernel
theorem dX8_sharing_8 : decode cX8_sharing 8 = .ok (.if_icmp .ge 27, 3) := by decide +kernel
theorem dX8_sharing_11 : decode cX8_sharing 11 = .ok (.iload_n 2, 1) := by decide +kernel
theorem dX8_sharing_12 : decode cX8_sharing 12 = .ok (.aload_n 0, 1) := by decide +kernel
theorem dX8_sharing_13 : decode cX8_sharing 13 = .ok (.iload_n 3, 1) := by decide +kernel
theorem dX8_sharing_14 : decode cX8_sharing 14 = .ok (.iconst 4, 1) := by decide +kernel
theorem dX8_sharing_15 : decode cX8_sharing 15 = .ok (.invokestatic 37, 3) := by decide +kernel
theorem dX8_sharing_18 : decode cX8_sharing 18 = .ok (.iload_n 1, 1) := by decide +kernel
theorem dX8_sharing_19 : decode cX8_sharing 19 = .ok (.if_icmp .ne 7, 3) := by decide +kernel
theorem dX8_sharing_22 : decode cX8_sharing 22 = .ok (.iconst 1, 1) := by decide +kernel
theorem dX8_sharing_23 : decode cX8_sharing 23 = .ok (.goto 4, 3) := by decide +kernel
theorem dX8_sharing_26 : decode cX8_sharing 26 = .ok (.iconst 0, 1) := by decide +kernel
theorem dX8_sharing_27 : decode cX8_sharing 27 = .ok (.iadd, 1) := by decide +kernel
theorem dX8_sharing_28 : decode cX8_sharing 28 = .ok (.istore_n 2, 1) := by decide +kernel
theorem dX8_sharing_29 : decode cX8_sharing 29 = .ok (.iinc 3 1, 3) := by decide +kernel
theorem dX8_sharing_32 : decode cX8_sharing 32 = .ok (.goto (-28), 3) := by decide +kernel
theorem dX8_sharing_35 : decode cX8_sharing 35 = .ok (.iload_n 2, 1) := by decide +kernel
theorem dX8_sharing_36 : decode cX8_sharing 36 = .ok (.ireturn, 1) := by decide +kernel
theorem dX8_extreme_0 : decode cX8_extreme 0 = .ok (.iload_n 2, 1) := by decide +kernel
theorem dX8_extreme_1 : decode cX8_extreme 1 = .ok (.istore 4, 2) := by decide +kernel
theorem dX8_extreme_3 : decode cX8_extreme 3 = .ok (.iconst 0, 1) := by decide +kernel
theorem dX8_extreme_4 : decode cX8_extreme 4 = .ok (.istore 5, 2) := by decide +kernel
theorem dX8_extreme_6 : decode cX8_extreme 6 = .ok (.iload 5, 2) := by decide +kernel
theorem dX8_extreme_8 : decode cX8_extreme 8 = .ok (.aload_n 0, 1) := by decide +kernel
theorem dX8_extreme_9 : decode cX8_extreme 9 = .ok (.iconst 2, 1) := by decide +kernel
theorem dX8_extreme_10 : decode cX8_extreme 10 = .ok (.iaload, 1) := by decide +kernel
theorem dX8_extreme_11 : decode cX8_extreme 11 = .ok (.if_icmp .ge 54, 3) := by decide +kernel
theorem dX8_extreme_14 : decode cX8_extreme 14 = .ok (.aload_n 0, 1) := by decide +kernel
theorem dX8_extreme_15 : decode cX8_extreme 15 = .ok (.iload 5, 2) := by decide +kernel
theorem dX8_extreme_17 : decode cX8_extreme 17 = .ok (.iconst 1, 1) := by decide +kernel
theorem dX8_extreme_18 : decode cX8_extreme 18 = .ok (.invokestatic 37, 3) := by decide +kernel
theorem dX8_extreme_21 : decode cX8_extreme 21 = .ok (.istore 6, 2) := by decide +kernel
theorem dX8_extreme_23 : decode cX8_extreme 23 = .ok (.aload_n 0, 1) := by decide +kernel
theorem dX8_extreme_24 : decode cX8_extreme 24 = .ok (.iload 5, 2) := by decide +kernel
theorem dX8_extreme_26 : decode cX8_extreme 26 = .ok (.iconst 4, 1) := by decide +kernel
theorem dX8_extreme_27 : decode cX8_extreme 27 = .ok (.invokestatic 37, 3) := by decide +kernel
theorem dX8_extreme_30 : decode cX8_extreme 30 = .ok (.iload_n 1, 1) := by decide +kernel
theorem dX8_extreme_31 : decode cX8_extreme 31 = .ok (.if_icmp .ne 24, 3) := by decide +kernel
theorem dX8_extreme_34 : decode cX8_extreme 34 = .ok (.iload 6, 2) := by decide +kernel
theorem dX8_extreme_36 : decode cX8_extreme 36 = .ok (.iload 4, 2) := by decide +kernel
theorem dX8_extreme_38 : decode cX8_extreme 38 = .ok (.if_icmp .le 7, 3) := by decide +kernel
theorem dX8_extreme_41 : decode cX8_extreme 41 = .ok (.iconst 1, 1) := by decide +kernel
theorem dX8_extreme_42 : decode cX8_extreme 42 = .ok (.goto 4, 3) := by decide +kernel
theorem dX8_extreme_45 : decode cX8_extreme 45 = .ok (.iconst 0, 1) := by decide +kernel
theorem dX8_extreme_46 : decode cX8_extreme 46 = .ok (.iload_n 3, 1) := by decide +kernel
theorem dX8_extreme_47 : decode cX8_extreme 47 = .ok (.if_icmp .ne 8, 3) := by decide +kernel
theorem dX8_extreme_50 : decode cX8_extreme 50 = .ok (.iload 6, 2) := by decide +kernel
theorem dX8_extreme_52 : decode cX8_extreme 52 = .ok (.goto 5, 3) := by decide +kernel
theorem dX8_extreme_55 : decode cX8_extreme 55 = .ok (.iload 4, 2) := by decide +kernel
theorem dX8_extreme_57 : decode cX8_extreme 57 = .ok (.istore 4, 2) := by decide +kernel
theorem dX8_extreme_59 : decode cX8_extreme 59 = .ok (.iinc 5 1, 3) := by decide +kernel
theorem dX8_extreme_62 : decode cX8_extreme 62 = .ok (.goto (-56), 3) := by decide +kernel
theorem dX8_extreme_65 : decode cX8_extreme 65 = .ok (.iload 4, 2) := by decide +kernel
theorem dX8_extreme_67 : decode cX8_extreme 67 = .ok (.ireturn, 1) := by decide +kernel
theorem dX8_fits_0 : decode cX8_fits 0 = .ok (.aload_n 0, 1) := by decide +kernel
theorem dX8_fits_1 : decode cX8_fits 1 = .ok (.iload_n 1, 1) := by decide +kernel
theorem dX8_fits_2 : decode cX8_fits 2 = .ok (.iload_n 2, 1) := by decide +kernel
theorem dX8_fits_3 : decode cX8_fits 3 = .ok (.iconst 1, 1) := by decide +kernel
theorem dX8_fits_4 : decode cX8_fits 4 = .ok (.invokestatic 45, 3) := by decide +kernel
theorem dX8_fits_7 : decode cX8_fits 7 = .ok (.aload_n 0, 1) := by decide +kernel
theorem dX8_fits_8 : decode cX8_fits 8 = .ok (.iload_n 1, 1) := by decide +kernel
theorem dX8_fits_9 : decode cX8_fits 9 = .ok (.iload_n 2, 1) := by decide +kernel
theorem dX8_fits_10 : decode cX8_fits 10 = .ok (.iconst 0, 1) := by decide +kernel
theorem dX8_fits_11 : decode cX8_fits 11 = .ok (.invokestatic 45, 3) := by decide +kernel
theorem dX8_fits_14 : decode cX8_fits 14 = .ok (.isub, 1) := by decide +kernel
theorem dX8_fits_15 : decode cX8_fits 15 = .ok (.aload_n 0, 1) := by decide +kernel
theorem dX8_fits_16 : decode cX8_fits 16 = .ok (.bipush 11, 2) := by decide +kernel
theorem dX8_fits_18 : decode cX8_fits 18 = .ok (.iaload, 1) := by decide +kernel
theorem dX8_fits_19 : decode cX8_fits 19 = .ok (.if_icmp .gt 7, 3) := by decide +kernel
theorem dX8_fits_22 : decode cX8_fits 22 = .ok (.iconst 1, 1) := by decide +kernel
theorem dX8_fits_23 : decode cX8_fits 23 = .ok (.goto 4, 3) := by decide +kernel
theorem dX8_fits_26 : decode cX8_fits 26 = .ok (.iconst 0, 1) := by decide +kernel
theorem dX8_fits_27 : decode cX8_fits 27 = .ok (.ireturn, 1) := by decide +kernel
theorem dX8_joinable_0 : decode cX8_joinable 0 = .ok (.iconst 0, 1) := by decide +kernel
theorem dX8_joinable_1 : decode cX8_joinable 1 = .ok (.istore_n 2, 1) := by decide +kernel
theorem dX8_joinable_2 : decode cX8_joinable 2 = .ok (.iload_n 2, 1) := by decide +kernel
theorem dX8_joinable_3 : decode cX8_joinable 3 = .ok (.aload_n 0, 1) := by decide +kernel
theorem dX8_joinable_4 : decode cX8_joinable 4 = .ok (.bipush 10, 2) := by decide +kernel
theorem dX8_joinable_6 : decode cX8_joinable 6 = .ok (.iaload, 1) := by decide +kernel
theorem dX8_joinable_7 : decode cX8_joinable 7 = .ok (.if_icmp .ge 31, 3) := by decide +kernel
theorem dX8_joinable_10 : decode cX8_joinable 10 = .ok (.aload_n 0, 1) := by decide +kernel
theorem dX8_joinable_11 : decode cX8_joinable 11 = .ok (.iload_n 2, 1) := by decide +kernel
theorem dX8_joinable_12 : decode cX8_joinable 12 = .ok (.invokestatic 49, 3) := by decide +kernel
theorem dX8_joinable_15 : decode cX8_joinable 15 = .ok (.sipush (-1005), 3) := by decide +kernel
theorem dX8_joinable_18 : decode cX8_joinable 18 = .ok (.if_icmp .eq 14, 3) := by decide +kernel
theorem dX8_joinable_21 : decode cX8_joinable 21 = .ok (.aload_n 0, 1) := by decide +kernel
theorem dX8_joinable_22 : decode cX8_joinable 22 = .ok (.iload_n 2, 1) := by decide +kernel
theorem dX8_joinable_23 : decode cX8_joinable 23 = .ok (.iload_n 1, 1) := by decide +kernel
theorem dX8_joinable_24 : decode cX8_joinable 24 = .ok (.invokestatic 53, 3) := by decide +kernel
theorem dX8_joinable_27 : decode cX8_joinable 27 = .ok (.ifCond .eq 5, 3) := by decide +kernel
theorem dX8_joinable_30 : decode cX8_joinable 30 = .ok (.iload_n 2, 1) := by decide +kernel
theorem dX8_joinable_31 : decode cX8_joinable 31 = .ok (.ireturn, 1) := by decide +kernel
theorem dX8_joinable_32 : decode cX8_joinable 32 = .ok (.iinc 2 1, 3) := by decide +kernel
theorem dX8_joinable_35 : decode cX8_joinable 35 = .ok (.goto (-33), 3) := by decide +kernel
theorem dX8_joinable_38 : decode cX8_joinable 38 = .ok (.sipush (-1005), 3) := by decide +kernel
theorem dX8_joinable_41 : decode cX8_joinable 41 = .ok (.ireturn, 1) := by decide +kernel
theorem dX8_freeOne_0 : decode cX8_freeOne 0 = .ok (.iconst 0, 1) := by decide +kernel
theorem dX8_freeOne_1 : decode cX8_freeOne 1 = .ok (.istore_n 1, 1) := by decide +kernel
theorem dX8_freeOne_2 : decode cX8_freeOne 2 = .ok (.iload_n 1, 1) := by decide +kernel
theorem dX8_freeOne_3 : decode cX8_freeOne 3 = .ok (.aload_n 0, 1) := by decide +kernel
theorem dX8_freeOne_4 : decode cX8_freeOne 4 = .ok (.bipush 10, 2) := by decide +kernel
theorem dX8_freeOne_6 : decode cX8_freeOne 6 = .ok (.iaload, 1) := by decide +kernel
theorem dX8_freeOne_7 : decode cX8_freeOne 7 = .ok (.if_icmp .ge 22, 3) := by decide +kernel
theorem dX8_freeOne_10 : decode cX8_freeOne 10 = .ok (.aload_n 0, 1) := by decide +kernel
theorem dX8_freeOne_11 : decode cX8_freeOne 11 = .ok (.iload_n 1, 1) := by decide +kernel
theorem dX8_freeOne_12 : decode cX8_freeOne 12 = .ok (.invokestatic 49, 3) := by decide +kernel
theorem dX8_freeOne_15 : decode cX8_freeOne 15 = .ok (.sipush (-1005), 3) := by decide +kernel
theorem dX8_freeOne_18 : decode cX8_freeOne 18 = .ok (.if_icmp .ne 5, 3) := by decide +kernel
theorem dX8_freeOne_21 : decode cX8_freeOne 21 = .ok (.iload_n 1, 1) := by decide +kernel
theorem dX8_freeOne_22 : decode cX8_freeOne 22 = .ok (.ireturn, 1) := by decide +kernel
theorem dX8_freeOne_23 : decode cX8_freeOne 23 = .ok (.iinc 1 1, 3) := by decide +kernel
theorem dX8_freeOne_26 : decode cX8_freeOne 26 = .ok (.goto (-24), 3) := by decide +kernel
theorem dX8_freeOne_29 : decode cX8_freeOne 29 = .ok (.sipush (-1005), 3) := by decide +kernel
theorem dX8_freeOne_32 : decode cX8_freeOne 32 = .ok (.ireturn, 1) := by decide +kernel
theorem dX8_latest_0 : decode cX8_latest 0 = .ok (.iconst 0, 1) := by decide +kernel
theorem dX8_latest_1 : decode cX8_latest 1 = .ok (.istore_n 1, 1) := by decide +kernel
theorem dX8_latest_2 : decode cX8_latest 2 = .ok (.iconst 1, 1) := by decide +kernel
theorem dX8_latest_3 : decode cX8_latest 3 = .ok (.istore_n 2, 1) := by decide +kernel
theorem dX8_latest_4 : decode cX8_latest 4 = .ok (.iload_n 2, 1) := by decide +kernel
theorem dX8_latest_5 : decode cX8_latest 5 = .ok (.aload_n 0, 1) := by decide +kernel
theorem dX8_latest_6 : decode cX8_latest 6 = .ok (.bipush 10, 2) := by decide +kernel
theorem dX8_latest_8 : decode cX8_latest 8 = .ok (.iaload, 1) := by decide +kernel
theorem dX8_latest_9 : decode cX8_latest 9 = .ok (.if_icmp .ge 28, 3) := by decide +kernel
theorem dX8_latest_12 : decode cX8_latest 12 = .ok (.aload_n 0, 1) := by decide +kernel
theorem dX8_latest_13 : decode cX8_latest 13 = .ok (.iload_n 2, 1) := by decide +kernel
theorem dX8_latest_14 : decode cX8_latest 14 = .ok (.invokestatic 49, 3) := by decide +kernel
theorem dX8_latest_17 : decode cX8_latest 17 = .ok (.aload_n 0, 1) := by decide +kernel
theorem dX8_latest_18 : decode cX8_latest 18 = .ok (.iload_n 1, 1) := by decide +kernel
theorem dX8_latest_19 : decode cX8_latest 19 = .ok (.invokestatic 49, 3) := by decide +kernel
theorem dX8_latest_22 : decode cX8_latest 22 = .ok (.if_icmp .le 7, 3) := by decide +kernel
theorem dX8_latest_25 : decode cX8_latest 25 = .ok (.iload_n 2, 1) := by decide +kernel
theorem dX8_latest_26 : decode cX8_latest 26 = .ok (.goto 4, 3) := by decide +kernel
theorem dX8_latest_29 : decode cX8_latest 29 = .ok (.iload_n 1, 1) := by decide +kernel
theorem dX8_latest_30 : decode cX8_latest 30 = .ok (.istore_n 1, 1) := by decide +kernel
theorem dX8_latest_31 : decode cX8_latest 31 = .ok (.iinc 2 1, 3) := by decide +kernel
theorem dX8_latest_34 : decode cX8_latest 34 = .ok (.goto (-30), 3) := by decide +kernel
theorem dX8_latest_37 : decode cX8_latest 37 = .ok (.iload_n 1, 1) := by decide +kernel
theorem dX8_latest_38 : decode cX8_latest 38 = .ok (.ireturn, 1) := by decide +kernel
theorem dX8_frees_0 : decode cX8_frees 0 = .ok (.iconst 0, 1) := by decide +kernel
theorem dX8_frees_1 : decode cX8_frees 1 = .ok (.istore_n 2, 1) := by decide +kernel
theorem dX8_frees_2 : decode cX8_frees 2 = .ok (.iload_n 2, 1) := by decide +kernel
theorem dX8_frees_3 : decode cX8_frees 3 = .ok (.aload_n 0, 1) := by decide +kernel
theorem dX8_frees_4 : decode cX8_frees 4 = .ok (.iconst 2, 1) := by decide +kernel
theorem dX8_frees_5 : decode cX8_frees 5 = .ok (.iaload, 1) := by decide +kernel
theorem dX8_frees_6 : decode cX8_frees 6 = .ok (.if_icmp .ge 28, 3) := by decide +kernel
theorem dX8_frees_9 : decode cX8_frees 9 = .ok (.aload_n 0, 1) := by decide +kernel
theorem dX8_frees_10 : decode cX8_frees 10 = .ok (.iload_n 2, 1) := by decide +kernel
theorem dX8_frees_11 : decode cX8_frees 11 = .ok (.iconst 4, 1) := by decide +kernel
theorem dX8_frees_12 : decode cX8_frees 12 = .ok (.invokestatic 37, 3) := by decide +kernel
theorem dX8_frees_15 : decode cX8_frees 15 = .ok (.iload_n 1, 1) := by decide +kernel
theorem dX8_frees_16 : decode cX8_frees 16 = .ok (.if_icmp .ne 12, 3) := by decide +kernel
theorem dX8_frees_19 : decode cX8_frees 19 = .ok (.aload_n 0, 1) := by decide +kernel
theorem dX8_frees_20 : decode cX8_frees 20 = .ok (.iload_n 2, 1) := by decide +kernel
theorem dX8_frees_21 : decode cX8_frees 21 = .ok (.iconst 4, 1) := by decide +kernel
theorem dX8_frees_22 : decode cX8_frees 22 = .ok (.sipush (-1005), 3) := by decide +kernel
theorem dX8_frees_25 : decode cX8_frees 25 = .ok (.invokestatic 56, 3) := by decide +kernel
theorem dX8_frees_28 : decode cX8_frees 28 = .ok (.iinc 2 1, 3) := by decide +kernel
theorem dX8_frees_31 : decode cX8_frees 31 = .ok (.goto (-29), 3) := by decide +kernel
theorem dX8_frees_34 : decode cX8_frees 34 = .ok (.aload_n 0, 1) := by decide +kernel
theorem dX8_frees_35 : decode cX8_frees 35 = .ok (.sipush 154, 3) := by decide +kernel
theorem dX8_frees_38 : decode cX8_frees 38 = .ok (.iconst 2, 1) := by decide +kernel
theorem dX8_frees_39 : decode cX8_frees 39 = .ok (.iload_n 1, 1) := by decide +kernel
theorem dX8_frees_40 : decode cX8_frees 40 = .ok (.imul, 1) := by decide +kernel
theorem dX8_frees_41 : decode cX8_frees 41 = .ok (.iadd, 1) := by decide +kernel
theorem dX8_frees_42 : decode cX8_frees 42 = .ok (.sipush (-1005), 3) := by decide +kernel
theorem dX8_frees_45 : decode cX8_frees 45 = .ok (.iastore, 1) := by decide +kernel
theorem dX8_frees_46 : decode cX8_frees 46 = .ok (.aload_n 0, 1) := by decide +kernel
theorem dX8_frees_47 : decode cX8_frees 47 = .ok (.sipush 154, 3) := by decide +kernel
theorem dX8_frees_50 : decode cX8_frees 50 = .ok (.iconst 2, 1) := by decide +kernel
theorem dX8_frees_51 : decode cX8_frees 51 = .ok (.iload_n 1, 1) := by decide +kernel
theorem dX8_frees_52 : decode cX8_frees 52 = .ok (.imul, 1) := by decide +kernel
theorem dX8_frees_53 : decode cX8_frees 53 = .ok (.iadd, 1) := by decide +kernel
theorem dX8_frees_54 : decode cX8_frees 54 = .ok (.iconst 1, 1) := by decide +kernel
theorem dX8_frees_55 : decode cX8_frees 55 = .ok (.iadd, 1) := by decide +kernel
theorem dX8_frees_56 : decode cX8_frees 56 = .ok (.iconst 0, 1) := by decide +kernel
theorem dX8_frees_57 : decode cX8_frees 57 = .ok (.iastore, 1) := by decide +kernel
theorem dX8_frees_58 : decode cX8_frees 58 = .ok (.return_, 1) := by decide +kernel
theorem dX8_loads_0 : decode cX8_loads 0 = .ok (.aload_n 0, 1) := by decide +kernel
theorem dX8_loads_1 : decode cX8_loads 1 = .ok (.iload_n 2, 1) := by decide +kernel
theorem dX8_loads_2 : decode cX8_loads 2 = .ok (.iconst 4, 1) := by decide +kernel
theorem dX8_loads_3 : decode cX8_loads 3 = .ok (.iload_n 1, 1) := by decide +kernel
theorem dX8_loads_4 : decode cX8_loads 4 = .ok (.invokestatic 56, 3) := by decide +kernel
theorem dX8_loads_7 : decode cX8_loads 7 = .ok (.aload_n 0, 1) := by decide +kernel
theorem dX8_loads_8 : decode cX8_loads 8 = .ok (.sipush 154, 3) := by decide +kernel
theorem dX8_loads_11 : decode cX8_loads 11 = .ok (.iconst 2, 1) := by decide +kernel
theorem dX8_loads_12 : decode cX8_loads 12 = .ok (.iload_n 1, 1) := by decide +kernel
theorem dX8_loads_13 : decode cX8_loads 13 = .ok (.imul, 1) := by decide +kernel
theorem dX8_loads_14 : decode cX8_loads 14 = .ok (.iadd, 1) := by decide +kernel
theorem dX8_loads_15 : decode cX8_loads 15 = .ok (.aload_n 0, 1) := by decide +kernel
theorem dX8_loads_16 : decode cX8_loads 16 = .ok (.iload_n 2, 1) := by decide +kernel
theorem dX8_loads_17 : decode cX8_loads 17 = .ok (.iconst 1, 1) := by decide +kernel
theorem dX8_loads_18 : decode cX8_loads 18 = .ok (.invokestatic 37, 3) := by decide +kernel
theorem dX8_loads_21 : decode cX8_loads 21 = .ok (.iastore, 1) := by decide +kernel
theorem dX8_loads_22 : decode cX8_loads 22 = .ok (.aload_n 0, 1) := by decide +kernel
theorem dX8_loads_23 : decode cX8_loads 23 = .ok (.sipush 154, 3) := by decide +kernel
theorem dX8_loads_26 : decode cX8_loads 26 = .ok (.iconst 2, 1) := by decide +kernel
theorem dX8_loads_27 : decode cX8_loads 27 = .ok (.iload_n 1, 1) := by decide +kernel
theorem dX8_loads_28 : decode cX8_loads 28 = .ok (.imul, 1) := by decide +kernel
theorem dX8_loads_29 : decode cX8_loads 29 = .ok (.iadd, 1) := by decide +kernel
theorem dX8_loads_30 : decode cX8_loads 30 = .ok (.iconst 1, 1) := by decide +kernel
theorem dX8_loads_31 : decode cX8_loads 31 = .ok (.iadd, 1) := by decide +kernel
theorem dX8_loads_32 : decode cX8_loads 32 = .ok (.aload_n 0, 1) := by decide +kernel
theorem dX8_loads_33 : decode cX8_loads 33 = .ok (.bipush 12, 2) := by decide +kernel
theorem dX8_loads_35 : decode cX8_loads 35 = .ok (.iaload, 1) := by decide +kernel
theorem dX8_loads_36 : decode cX8_loads 36 = .ok (.iastore, 1) := by decide +kernel
theorem dX8_loads_37 : decode cX8_loads 37 = .ok (.aload_n 0, 1) := by decide +kernel
theorem dX8_loads_38 : decode cX8_loads 38 = .ok (.bipush 8, 2) := by decide +kernel
theorem dX8_loads_40 : decode cX8_loads 40 = .ok (.dup2, 1) := by decide +kernel
theorem dX8_loads_41 : decode cX8_loads 41 = .ok (.iaload, 1) := by decide +kernel
theorem dX8_loads_42 : decode cX8_loads 42 = .ok (.iconst 1, 1) := by decide +kernel
theorem dX8_loads_43 : decode cX8_loads 43 = .ok (.iadd, 1) := by decide +kernel
theorem dX8_loads_44 : decode cX8_loads 44 = .ok (.iastore, 1) := by decide +kernel
theorem dX8_loads_45 : decode cX8_loads 45 = .ok (.return_, 1) := by decide +kernel
theorem dX8_isShared_0 : decode cX8_isShared 0 = .ok (.aload_n 0, 1) := by decide +kernel
theorem dX8_isShared_1 : decode cX8_isShared 1 = .ok (.iload_n 1, 1) := by decide +kernel
theorem dX8_isShared_2 : decode cX8_isShared 2 = .ok (.iconst 1, 1) := by decide +kernel
theorem dX8_isShared_3 : decode cX8_isShared 3 = .ok (.invokestatic 37, 3) := by decide +kernel
theorem dX8_isShared_6 : decode cX8_isShared 6 = .ok (.istore_n 2, 1) := by decide +kernel
theorem dX8_isShared_7 : decode cX8_isShared 7 = .ok (.aload_n 0, 1) := by decide +kernel
theorem dX8_isShared_8 : decode cX8_isShared 8 = .ok (.iload_n 2, 1) := by decide +kernel
theorem dX8_isShared_9 : decode cX8_isShared 9 = .ok (.invokestatic 60, 3) := by decide +kernel
theorem dX8_isShared_12 : decode cX8_isShared 12 = .ok (.istore_n 3, 1) := by decide +kernel
theorem dX8_isShared_13 : decode cX8_isShared 13 = .ok (.iload_n 3, 1) := by decide +kernel
theorem dX8_isShared_14 : decode cX8_isShared 14 = .ok (.sipush (-1005), 3) := by decide +kernel
theorem dX8_isShared_17 : decode cX8_isShared 17 = .ok (.if_icmp .eq 28, 3) := by decide +kernel
theorem dX8_isShared_20 : decode cX8_isShared 20 = .ok (.aload_n 0, 1) := by decide +kernel
theorem dX8_isShared_21 : decode cX8_isShared 21 = .ok (.iload_n 1, 1) := by decide +kernel
theorem dX8_isShared_22 : decode cX8_isShared 22 = .ok (.iconst 4, 1) := by decide +kernel
theorem dX8_isShared_23 : decode cX8_isShared 23 = .ok (.iload_n 3, 1) := by decide +kernel
theorem dX8_isShared_24 : decode cX8_isShared 24 = .ok (.invokestatic 56, 3) := by decide +kernel
theorem dX8_isShared_27 : decode cX8_isShared 27 = .ok (.aload_n 0, 1) := by decide +kernel
theorem dX8_isShared_28 : decode cX8_isShared 28 = .ok (.sipush 154, 3) := by decide +kernel
theorem dX8_isShared_31 : decode cX8_isShared 31 = .ok (.iconst 2, 1) := by decide +kernel
theorem dX8_isShared_32 : decode cX8_isShared 32 = .ok (.iload_n 3, 1) := by decide +kernel
theorem dX8_isShared_33 : decode cX8_isShared 33 = .ok (.imul, 1) := by decide +kernel
theorem dX8_isShared_34 : decode cX8_isShared 34 = .ok (.iadd, 1) := by decide +kernel
theorem dX8_isShared_35 : decode cX8_isShared 35 = .ok (.aload_n 0, 1) := by decide +kernel
theorem dX8_isShared_36 : decode cX8_isShared 36 = .ok (.iload_n 3, 1) := by decide +kernel
theorem dX8_isShared_37 : decode cX8_isShared 37 = .ok (.iload_n 2, 1) := by decide +kernel
theorem dX8_isShared_38 : decode cX8_isShared 38 = .ok (.iconst 1, 1) := by decide +kernel
theorem dX8_isShared_39 : decode cX8_isShared 39 = .ok (.invokestatic 45, 3) := by decide +kernel
theorem dX8_isShared_42 : decode cX8_isShared 42 = .ok (.iastore, 1) := by decide +kernel
theorem dX8_isShared_43 : decode cX8_isShared 43 = .ok (.iconst 1, 1) := by decide +kernel
theorem dX8_isShared_44 : decode cX8_isShared 44 = .ok (.ireturn, 1) := by decide +kernel
theorem dX8_isShared_45 : decode cX8_isShared 45 = .ok (.aload_n 0, 1) := by decide +kernel
theorem dX8_isShared_46 : decode cX8_isShared 46 = .ok (.invokestatic 63, 3) := by decide +kernel
theorem dX8_isShared_49 : decode cX8_isShared 49 = .ok (.istore_n 3, 1) := by decide +kernel
theorem dX8_isShared_50 : decode cX8_isShared 50 = .ok (.iload_n 3, 1) := by decide +kernel
theorem dX8_isShared_51 : decode cX8_isShared 51 = .ok (.sipush (-1005), 3) := by decide +kernel
theorem dX8_isShared_54 : decode cX8_isShared 54 = .ok (.if_icmp .ne 32, 3) := by decide +kernel
theorem dX8_isShared_57 : decode cX8_isShared 57 = .ok (.aload_n 0, 1) := by decide +kernel
theorem dX8_isShared_58 : decode cX8_isShared 58 = .ok (.invokestatic 67, 3) := by decide +kernel
theorem dX8_isShared_61 : decode cX8_isShared 61 = .ok (.istore_n 3, 1) := by decide +kernel
theorem dX8_isShared_62 : decode cX8_isShared 62 = .ok (.aload_n 0, 1) := by decide +kernel
theorem dX8_isShared_63 : decode cX8_isShared 63 = .ok (.iload_n 3, 1) := by decide +kernel
theorem dX8_isShared_64 : decode cX8_isShared 64 = .ok (.invokestatic 49, 3) := by decide +kernel
theorem dX8_isShared_67 : decode cX8_isShared 67 = .ok (.iload_n 2, 1) := by decide +kernel
theorem dX8_isShared_68 : decode cX8_isShared 68 = .ok (.if_icmp .gt 5, 3) := by decide +kernel
theorem dX8_isShared_71 : decode cX8_isShared 71 = .ok (.iconst 0, 1) := by decide +kernel
theorem dX8_isShared_72 : decode cX8_isShared 72 = .ok (.ireturn, 1) := by decide +kernel
theorem dX8_isShared_73 : decode cX8_isShared 73 = .ok (.aload_n 0, 1) := by decide +kernel
theorem dX8_isShared_74 : decode cX8_isShared 74 = .ok (.iload_n 3, 1) := by decide +kernel
theorem dX8_isShared_75 : decode cX8_isShared 75 = .ok (.invokestatic 70, 3) := by decide +kernel
theorem dX8_isShared_78 : decode cX8_isShared 78 = .ok (.aload_n 0, 1) := by decide +kernel
theorem dX8_isShared_79 : decode cX8_isShared 79 = .ok (.bipush 9, 2) := by decide +kernel
theorem dX8_isShared_81 : decode cX8_isShared 81 = .ok (.dup2, 1) := by decide +kernel
theorem dX8_isShared_82 : decode cX8_isShared 82 = .ok (.iaload, 1) := by decide +kernel
theorem dX8_isShared_83 : decode cX8_isShared 83 = .ok (.iconst 1, 1) := by decide +kernel
theorem dX8_isShared_84 : decode cX8_isShared 84 = .ok (.iadd, 1) := by decide +kernel
theorem dX8_isShared_85 : decode cX8_isShared 85 = .ok (.iastore, 1) := by decide +kernel
theorem dX8_isShared_86 : decode cX8_isShared 86 = .ok (.aload_n 0, 1) := by decide +kernel
theorem dX8_isShared_87 : decode cX8_isShared 87 = .ok (.iload_n 3, 1) := by decide +kernel
theorem dX8_isShared_88 : decode cX8_isShared 88 = .ok (.iload_n 1, 1) := by decide +kernel
theorem dX8_isShared_89 : decode cX8_isShared 89 = .ok (.invokestatic 74, 3) := by decide +kernel
theorem dX8_isShared_92 : decode cX8_isShared 92 = .ok (.iconst 1, 1) := by decide +kernel
theorem dX8_isShared_93 : decode cX8_isShared 93 = .ok (.ireturn, 1) := by decide +kernel
theorem dX8_shares_0 : decode cX8_shares 0 = .ok (.aload_n 0, 1) := by decide +kernel
theorem dX8_shares_1 : decode cX8_shares 1 = .ok (.sipush (-1005), 3) := by decide +kernel
theorem dX8_shares_4 : decode cX8_shares 4 = .ok (.invokestatic 78, 3) := by decide +kernel
theorem dX8_shares_7 : decode cX8_shares 7 = .ok (.istore_n 1, 1) := by decide +kernel
theorem dX8_shares_8 : decode cX8_shares 8 = .ok (.iload_n 1, 1) := by decide +kernel
theorem dX8_shares_9 : decode cX8_shares 9 = .ok (.sipush (-1005), 3) := by decide +kernel
theorem dX8_shares_12 : decode cX8_shares 12 = .ok (.if_icmp .eq 28, 3) := by decide +kernel
theorem dX8_shares_15 : decode cX8_shares 15 = .ok (.aload_n 0, 1) := by decide +kernel
theorem dX8_shares_16 : decode cX8_shares 16 = .ok (.iload_n 1, 1) := by decide +kernel
theorem dX8_shares_17 : decode cX8_shares 17 = .ok (.invokestatic 81, 3) := by decide +kernel
theorem dX8_shares_20 : decode cX8_shares 20 = .ok (.ifCond .eq 13, 3) := by decide +kernel
theorem dX8_shares_23 : decode cX8_shares 23 = .ok (.aload_n 0, 1) := by decide +kernel
theorem dX8_shares_24 : decode cX8_shares 24 = .ok (.sipush (-1005), 3) := by decide +kernel
theorem dX8_shares_27 : decode cX8_shares 27 = .ok (.invokestatic 78, 3) := by decide +kernel
theorem dX8_shares_30 : decode cX8_shares 30 = .ok (.goto 6, 3) := by decide +kernel
theorem dX8_shares_33 : decode cX8_shares 33 = .ok (.sipush (-1005), 3) := by decide +kernel
theorem dX8_shares_36 : decode cX8_shares 36 = .ok (.istore_n 1, 1) := by decide +kernel
theorem dX8_shares_37 : decode cX8_shares 37 = .ok (.goto (-29), 3) := by decide +kernel
theorem dX8_shares_40 : decode cX8_shares 40 = .ok (.return_, 1) := by decide +kernel
theorem dX8_takesOff_0 : decode cX8_takesOff 0 = .ok (.aload_n 0, 1) := by decide +kernel
theorem dX8_takesOff_1 : decode cX8_takesOff 1 = .ok (.iload_n 1, 1) := by decide +kernel
theorem dX8_takesOff_2 : decode cX8_takesOff 2 = .ok (.iconst 4, 1) := by decide +kernel
theorem dX8_takesOff_3 : decode cX8_takesOff 3 = .ok (.invokestatic 37, 3) := by decide +kernel
theorem dX8_takesOff_6 : decode cX8_takesOff 6 = .ok (.istore_n 2, 1) := by decide +kernel
theorem dX8_takesOff_7 : decode cX8_takesOff 7 = .ok (.iload_n 2, 1) := by decide +kernel
theorem dX8_takesOff_8 : decode cX8_takesOff 8 = .ok (.sipush (-1005), 3) := by decide +kernel
theorem dX8_takesOff_11 : decode cX8_takesOff 11 = .ok (.if_icmp .ne 4, 3) := by decide +kernel
theorem dX8_takesOff_14 : decode cX8_takesOff 14 = .ok (.return_, 1) := by decide +kernel
theorem dX8_takesOff_15 : decode cX8_takesOff 15 = .ok (.aload_n 0, 1) := by decide +kernel
theorem dX8_takesOff_16 : decode cX8_takesOff 16 = .ok (.iload_n 1, 1) := by decide +kernel
theorem dX8_takesOff_17 : decode cX8_takesOff 17 = .ok (.iconst 4, 1) := by decide +kernel
theorem dX8_takesOff_18 : decode cX8_takesOff 18 = .ok (.sipush (-1005), 3) := by decide +kernel
theorem dX8_takesOff_21 : decode cX8_takesOff 21 = .ok (.invokestatic 56, 3) := by decide +kernel
theorem dX8_takesOff_24 : decode cX8_takesOff 24 = .ok (.aload_n 0, 1) := by decide +kernel
theorem dX8_takesOff_25 : decode cX8_takesOff 25 = .ok (.iload_n 2, 1) := by decide +kernel
theorem dX8_takesOff_26 : decode cX8_takesOff 26 = .ok (.invokestatic 78, 3) := by decide +kernel
theorem dX8_takesOff_29 : decode cX8_takesOff 29 = .ok (.istore_n 3, 1) := by decide +kernel
theorem dX8_takesOff_30 : decode cX8_takesOff 30 = .ok (.iload_n 3, 1) := by decide +kernel
theorem dX8_takesOff_31 : decode cX8_takesOff 31 = .ok (.sipush (-1005), 3) := by decide +kernel
theorem dX8_takesOff_34 : decode cX8_takesOff 34 = .ok (.if_icmp .ne 11, 3) := by decide +kernel
theorem dX8_takesOff_37 : decode cX8_takesOff 37 = .ok (.aload_n 0, 1) := by decide +kernel
theorem dX8_takesOff_38 : decode cX8_takesOff 38 = .ok (.iload_n 2, 1) := by decide +kernel
theorem dX8_takesOff_39 : decode cX8_takesOff 39 = .ok (.invokestatic 70, 3) := by decide +kernel
theorem dX8_takesOff_42 : decode cX8_takesOff 42 = .ok (.goto 24, 3) := by decide +kernel
theorem dX8_takesOff_45 : decode cX8_takesOff 45 = .ok (.aload_n 0, 1) := by decide +kernel
theorem dX8_takesOff_46 : decode cX8_takesOff 46 = .ok (.sipush 154, 3) := by decide +kernel
theorem dX8_takesOff_49 : decode cX8_takesOff 49 = .ok (.iconst 2, 1) := by decide +kernel
theorem dX8_takesOff_50 : decode cX8_takesOff 50 = .ok (.iload_n 2, 1) := by decide +kernel
theorem dX8_takesOff_51 : decode cX8_takesOff 51 = .ok (.imul, 1) := by decide +kernel
theorem dX8_takesOff_52 : decode cX8_takesOff 52 = .ok (.iadd, 1) := by decide +kernel
theorem dX8_takesOff_53 : decode cX8_takesOff 53 = .ok (.aload_n 0, 1) := by decide +kernel
theorem dX8_takesOff_54 : decode cX8_takesOff 54 = .ok (.iload_n 2, 1) := by decide +kernel
theorem dX8_takesOff_55 : decode cX8_takesOff 55 = .ok (.aload_n 0, 1) := by decide +kernel
theorem dX8_takesOff_56 : decode cX8_takesOff 56 = .ok (.iload_n 3, 1) := by decide +kernel
theorem dX8_takesOff_57 : decode cX8_takesOff 57 = .ok (.iconst 1, 1) := by decide +kernel
theorem dX8_takesOff_58 : decode cX8_takesOff 58 = .ok (.invokestatic 37, 3) := by decide +kernel
theorem dX8_takesOff_61 : decode cX8_takesOff 61 = .ok (.iconst 1, 1) := by decide +kernel
theorem dX8_takesOff_62 : decode cX8_takesOff 62 = .ok (.invokestatic 45, 3) := by decide +kernel
theorem dX8_takesOff_65 : decode cX8_takesOff 65 = .ok (.iastore, 1) := by decide +kernel
theorem dX8_takesOff_66 : decode cX8_takesOff 66 = .ok (.return_, 1) := by decide +kernel
theorem dX8_removes_0 : decode cX8_removes 0 = .ok (.aload_n 0, 1) := by decide +kernel
theorem dX8_removes_1 : decode cX8_removes 1 = .ok (.iconst 2, 1) := by decide +kernel
theorem dX8_removes_2 : decode cX8_removes 2 = .ok (.dup2, 1) := by decide +kernel
theorem dX8_removes_3 : decode cX8_removes 3 = .ok (.iaload, 1) := by decide +kernel
theorem dX8_removes_4 : decode cX8_removes 4 = .ok (.iconst 1, 1) := by decide +kernel
theorem dX8_removes_5 : decode cX8_removes 5 = .ok (.isub, 1) := by decide +kernel
theorem dX8_removes_6 : decode cX8_removes 6 = .ok (.iastore, 1) := by decide +kernel
theorem dX8_removes_7 : decode cX8_removes 7 = .ok (.bipush 7, 2) := by decide +kernel
theorem dX8_removes_9 : decode cX8_removes 9 = .ok (.iload_n 1, 1) := by decide +kernel
theorem dX8_removes_10 : decode cX8_removes 10 = .ok (.imul, 1) := by decide +kernel
theorem dX8_removes_11 : decode cX8_removes 11 = .ok (.istore_n 2, 1) := by decide +kernel
theorem dX8_removes_12 : decode cX8_removes 12 = .ok (.iload_n 2, 1) := by decide +kernel
theorem dX8_removes_13 : decode cX8_removes 13 = .ok (.bipush 7, 2) := by decide +kernel
theorem dX8_removes_15 : decode cX8_removes 15 = .ok (.aload_n 0, 1) := by decide +kernel
theorem dX8_removes_16 : decode cX8_removes 16 = .ok (.iconst 2, 1) := by decide +kernel
theorem dX8_removes_17 : decode cX8_removes 17 = .ok (.iaload, 1) := by decide +kernel
theorem dX8_removes_18 : decode cX8_removes 18 = .ok (.imul, 1) := by decide +kernel
theorem dX8_removes_19 : decode cX8_removes 19 = .ok (.if_icmp .ge 24, 3) := by decide +kernel
theorem dX8_removes_22 : decode cX8_removes 22 = .ok (.aload_n 0, 1) := by decide +kernel
theorem dX8_removes_23 : decode cX8_removes 23 = .ok (.bipush 14, 2) := by decide +kernel
theorem dX8_removes_25 : decode cX8_removes 25 = .ok (.iload_n 2, 1) := by decide +kernel
theorem dX8_removes_26 : decode cX8_removes 26 = .ok (.iadd, 1) := by decide +kernel
theorem dX8_removes_27 : decode cX8_removes 27 = .ok (.aload_n 0, 1) := by decide +kernel
theorem dX8_removes_28 : decode cX8_removes 28 = .ok (.bipush 14, 2) := by decide +kernel
theorem dX8_removes_30 : decode cX8_removes 30 = .ok (.iload_n 2, 1) := by decide +kernel
theorem dX8_removes_31 : decode cX8_removes 31 = .ok (.iadd, 1) := by decide +kernel
theorem dX8_removes_32 : decode cX8_removes 32 = .ok (.bipush 7, 2) := by decide +kernel
theorem dX8_removes_34 : decode cX8_removes 34 = .ok (.iadd, 1) := by decide +kernel
theorem dX8_removes_35 : decode cX8_removes 35 = .ok (.iaload, 1) := by decide +kernel
theorem dX8_removes_36 : decode cX8_removes 36 = .ok (.iastore, 1) := by decide +kernel
theorem dX8_removes_37 : decode cX8_removes 37 = .ok (.iinc 2 1, 3) := by decide +kernel
theorem dX8_removes_40 : decode cX8_removes 40 = .ok (.goto (-28), 3) := by decide +kernel
theorem dX8_removes_43 : decode cX8_removes 43 = .ok (.iconst 0, 1) := by decide +kernel
theorem dX8_removes_44 : decode cX8_removes 44 = .ok (.istore_n 2, 1) := by decide +kernel
theorem dX8_removes_45 : decode cX8_removes 45 = .ok (.iload_n 2, 1) := by decide +kernel
theorem dX8_removes_46 : decode cX8_removes 46 = .ok (.bipush 7, 2) := by decide +kernel
theorem dX8_removes_48 : decode cX8_removes 48 = .ok (.if_icmp .ge 23, 3) := by decide +kernel
theorem dX8_removes_51 : decode cX8_removes 51 = .ok (.aload_n 0, 1) := by decide +kernel
theorem dX8_removes_52 : decode cX8_removes 52 = .ok (.bipush 14, 2) := by decide +kernel
theorem dX8_removes_54 : decode cX8_removes 54 = .ok (.bipush 7, 2) := by decide +kernel
theorem dX8_removes_56 : decode cX8_removes 56 = .ok (.aload_n 0, 1) := by decide +kernel
theorem dX8_removes_57 : decode cX8_removes 57 = .ok (.iconst 2, 1) := by decide +kernel
theorem dX8_removes_58 : decode cX8_removes 58 = .ok (.iaload, 1) := by decide +kernel
theorem dX8_removes_59 : decode cX8_removes 59 = .ok (.imul, 1) := by decide +kernel
theorem dX8_removes_60 : decode cX8_removes 60 = .ok (.iadd, 1) := by decide +kernel
theorem dX8_removes_61 : decode cX8_removes 61 = .ok (.iload_n 2, 1) := by decide +kernel
theorem dX8_removes_62 : decode cX8_removes 62 = .ok (.iadd, 1) := by decide +kernel
theorem dX8_removes_63 : decode cX8_removes 63 = .ok (.iconst 0, 1) := by decide +kernel
theorem dX8_removes_64 : decode cX8_removes 64 = .ok (.iastore, 1) := by decide +kernel
theorem dX8_removes_65 : decode cX8_removes 65 = .ok (.iinc 2 1, 3) := by decide +kernel
theorem dX8_removes_68 : decode cX8_removes 68 = .ok (.goto (-23), 3) := by decide +kernel
theorem dX8_removes_71 : decode cX8_removes 71 = .ok (.return_, 1) := by decide +kernel
theorem dX8_logs_0 : decode cX8_logs 0 = .ok (.bipush 31, 2) := by decide +kernel
theorem dX8_logs_2 : decode cX8_logs 2 = .ok (.istore 4, 2) := by decide +kernel
theorem dX8_logs_4 : decode cX8_logs 4 = .ok (.iload 4, 2) := by decide +kernel
theorem dX8_logs_6 : decode cX8_logs 6 = .ok (.iconst 3, 1) := by decide +kernel
theorem dX8_logs_7 : decode cX8_logs 7 = .ok (.if_icmp .le 27, 3) := by decide +kernel
theorem dX8_logs_10 : decode cX8_logs 10 = .ok (.aload_n 0, 1) := by decide +kernel
theorem dX8_logs_11 : decode cX8_logs 11 = .ok (.sipush 162, 3) := by decide +kernel
theorem dX8_logs_14 : decode cX8_logs 14 = .ok (.iload 4, 2) := by decide +kernel
theorem dX8_logs_16 : decode cX8_logs 16 = .ok (.iadd, 1) := by decide +kernel
theorem dX8_logs_17 : decode cX8_logs 17 = .ok (.aload_n 0, 1) := by decide +kernel
theorem dX8_logs_18 : decode cX8_logs 18 = .ok (.sipush 162, 3) := by decide +kernel
theorem dX8_logs_21 : decode cX8_logs 21 = .ok (.iload 4, 2) := by decide +kernel
theorem dX8_logs_23 : decode cX8_logs 23 = .ok (.iadd, 1) := by decide +kernel
theorem dX8_logs_24 : decode cX8_logs 24 = .ok (.iconst 4, 1) := by decide +kernel
theorem dX8_logs_25 : decode cX8_logs 25 = .ok (.isub, 1) := by decide +kernel
theorem dX8_logs_26 : decode cX8_logs 26 = .ok (.iaload, 1) := by decide +kernel
theorem dX8_logs_27 : decode cX8_logs 27 = .ok (.iastore, 1) := by decide +kernel
theorem dX8_logs_28 : decode cX8_logs 28 = .ok (.iinc 4 (-1), 3) := by decide +kernel
theorem dX8_logs_31 : decode cX8_logs 31 = .ok (.goto (-27), 3) := by decide +kernel
theorem dX8_logs_34 : decode cX8_logs 34 = .ok (.aload_n 0, 1) := by decide +kernel
theorem dX8_logs_35 : decode cX8_logs 35 = .ok (.sipush 162, 3) := by decide +kernel
theorem dX8_logs_38 : decode cX8_logs 38 = .ok (.iload_n 1, 1) := by decide +kernel
theorem dX8_logs_39 : decode cX8_logs 39 = .ok (.iastore, 1) := by decide +kernel
theorem dX8_logs_40 : decode cX8_logs 40 = .ok (.aload_n 0, 1) := by decide +kernel
theorem dX8_logs_41 : decode cX8_logs 41 = .ok (.sipush 163, 3) := by decide +kernel
theorem dX8_logs_44 : decode cX8_logs 44 = .ok (.aload_n 0, 1) := by decide +kernel
theorem dX8_logs_45 : decode cX8_logs 45 = .ok (.iconst 0, 1) := by decide +kernel
theorem dX8_logs_46 : decode cX8_logs 46 = .ok (.iaload, 1) := by decide +kernel
theorem dX8_logs_47 : decode cX8_logs 47 = .ok (.iastore, 1) := by decide +kernel
theorem dX8_logs_48 : decode cX8_logs 48 = .ok (.aload_n 0, 1) := by decide +kernel
theorem dX8_logs_49 : decode cX8_logs 49 = .ok (.sipush 164, 3) := by decide +kernel
theorem dX8_logs_52 : decode cX8_logs 52 = .ok (.iload_n 2, 1) := by decide +kernel
theorem dX8_logs_53 : decode cX8_logs 53 = .ok (.iastore, 1) := by decide +kernel
theorem dX8_logs_54 : decode cX8_logs 54 = .ok (.aload_n 0, 1) := by decide +kernel
theorem dX8_logs_55 : decode cX8_logs 55 = .ok (.sipush 165, 3) := by decide +kernel
theorem dX8_logs_58 : decode cX8_logs 58 = .ok (.iload_n 3, 1) := by decide +kernel
theorem dX8_logs_59 : decode cX8_logs 59 = .ok (.iastore, 1) := by decide +kernel
theorem dX8_logs_60 : decode cX8_logs 60 = .ok (.aload_n 0, 1) := by decide +kernel
theorem dX8_logs_61 : decode cX8_logs 61 = .ok (.sipush 194, 3) := by decide +kernel
theorem dX8_logs_64 : decode cX8_logs 64 = .ok (.dup2, 1) := by decide +kernel
theorem dX8_logs_65 : decode cX8_logs 65 = .ok (.iaload, 1) := by decide +kernel
theorem dX8_logs_66 : decode cX8_logs 66 = .ok (.aload_n 0, 1) := by decide +kernel
theorem dX8_logs_67 : decode cX8_logs 67 = .ok (.sipush 194, 3) := by decide +kernel
theorem dX8_logs_70 : decode cX8_logs 70 = .ok (.iaload, 1) := by decide +kernel
theorem dX8_logs_71 : decode cX8_logs 71 = .ok (.bipush 8, 2) := by decide +kernel
theorem dX8_logs_73 : decode cX8_logs 73 = .ok (.if_icmp .ge 7, 3) := by decide +kernel
theorem dX8_logs_76 : decode cX8_logs 76 = .ok (.iconst 1, 1) := by decide +kernel
theorem dX8_logs_77 : decode cX8_logs 77 = .ok (.goto 4, 3) := by decide +kernel
theorem dX8_logs_80 : decode cX8_logs 80 = .ok (.iconst 0, 1) := by decide +kernel
theorem dX8_logs_81 : decode cX8_logs 81 = .ok (.iadd, 1) := by decide +kernel
theorem dX8_logs_82 : decode cX8_logs 82 = .ok (.iastore, 1) := by decide +kernel
theorem dX8_logs_83 : decode cX8_logs 83 = .ok (.return_, 1) := by decide +kernel
theorem dX8_rings_0 : decode cX8_rings 0 = .ok (.aload_n 0, 1) := by decide +kernel
theorem dX8_rings_1 : decode cX8_rings 1 = .ok (.iconst 0, 1) := by decide +kernel
theorem dX8_rings_2 : decode cX8_rings 2 = .ok (.iaload, 1) := by decide +kernel
theorem dX8_rings_3 : decode cX8_rings 3 = .ok (.aload_n 0, 1) := by decide +kernel
theorem dX8_rings_4 : decode cX8_rings 4 = .ok (.iload_n 1, 1) := by decide +kernel
theorem dX8_rings_5 : decode cX8_rings 5 = .ok (.iconst 1, 1) := by decide +kernel
theorem dX8_rings_6 : decode cX8_rings 6 = .ok (.invokestatic 37, 3) := by decide +kernel
theorem dX8_rings_9 : decode cX8_rings 9 = .ok (.isub, 1) := by decide +kernel
theorem dX8_rings_10 : decode cX8_rings 10 = .ok (.istore_n 2, 1) := by decide +kernel
theorem dX8_rings_11 : decode cX8_rings 11 = .ok (.aload_n 0, 1) := by decide +kernel
theorem dX8_rings_12 : decode cX8_rings 12 = .ok (.aload_n 0, 1) := by decide +kernel
theorem dX8_rings_13 : decode cX8_rings 13 = .ok (.iload_n 1, 1) := by decide +kernel
theorem dX8_rings_14 : decode cX8_rings 14 = .ok (.iconst 0, 1) := by decide +kernel
theorem dX8_rings_15 : decode cX8_rings 15 = .ok (.invokestatic 37, 3) := by decide +kernel
theorem dX8_rings_18 : decode cX8_rings 18 = .ok (.iload_n 2, 1) := by decide +kernel
theorem dX8_rings_19 : decode cX8_rings 19 = .ok (.aload_n 0, 1) := by decide +kernel
theorem dX8_rings_20 : decode cX8_rings 20 = .ok (.iload_n 1, 1) := by decide +kernel
theorem dX8_rings_21 : decode cX8_rings 21 = .ok (.iconst 4, 1) := by decide +kernel
theorem dX8_rings_22 : decode cX8_rings 22 = .ok (.invokestatic 37, 3) := by decide +kernel
theorem dX8_rings_25 : decode cX8_rings 25 = .ok (.invokestatic 85, 3) := by decide +kernel
theorem dX8_rings_28 : decode cX8_rings 28 = .ok (.aload_n 0, 1) := by decide +kernel
theorem dX8_rings_29 : decode cX8_rings 29 = .ok (.iconst 4, 1) := by decide +kernel
theorem dX8_rings_30 : decode cX8_rings 30 = .ok (.dup2, 1) := by decide +kernel
theorem dX8_rings_31 : decode cX8_rings 31 = .ok (.iaload, 1) := by decide +kernel
theorem dX8_rings_32 : decode cX8_rings 32 = .ok (.iconst 1, 1) := by decide +kernel
theorem dX8_rings_33 : decode cX8_rings 33 = .ok (.iadd, 1) := by decide +kernel
theorem dX8_rings_34 : decode cX8_rings 34 = .ok (.iastore, 1) := by decide +kernel
theorem dX8_rings_35 : decode cX8_rings 35 = .ok (.aload_n 0, 1) := by decide +kernel
theorem dX8_rings_36 : decode cX8_rings 36 = .ok (.iconst 5, 1) := by decide +kernel
theorem dX8_rings_37 : decode cX8_rings 37 = .ok (.dup2, 1) := by decide +kernel
theorem dX8_rings_38 : decode cX8_rings 38 = .ok (.iaload, 1) := by decide +kernel
theorem dX8_rings_39 : decode cX8_rings 39 = .ok (.iload_n 2, 1) := by decide +kernel
theorem dX8_rings_40 : decode cX8_rings 40 = .ok (.iadd, 1) := by decide +kernel
theorem dX8_rings_41 : decode cX8_rings 41 = .ok (.iastore, 1) := by decide +kernel
theorem dX8_rings_42 : decode cX8_rings 42 = .ok (.aload_n 0, 1) := by decide +kernel
theorem dX8_rings_43 : decode cX8_rings 43 = .ok (.bipush 6, 2) := by decide +kernel
theorem dX8_rings_45 : decode cX8_rings 45 = .ok (.iload_n 2, 1) := by decide +kernel
theorem dX8_rings_46 : decode cX8_rings 46 = .ok (.aload_n 0, 1) := by decide +kernel
theorem dX8_rings_47 : decode cX8_rings 47 = .ok (.bipush 6, 2) := by decide +kernel
theorem dX8_rings_49 : decode cX8_rings 49 = .ok (.iaload, 1) := by decide +kernel
theorem dX8_rings_50 : decode cX8_rings 50 = .ok (.if_icmp .le 7, 3) := by decide +kernel
theorem dX8_rings_53 : decode cX8_rings 53 = .ok (.iload_n 2, 1) := by decide +kernel
theorem dX8_rings_54 : decode cX8_rings 54 = .ok (.goto 7, 3) := by decide +kernel
theorem dX8_rings_57 : decode cX8_rings 57 = .ok (.aload_n 0, 1) := by decide +kernel
theorem dX8_rings_58 : decode cX8_rings 58 = .ok (.bipush 6, 2) := by decide +kernel
theorem dX8_rings_60 : decode cX8_rings 60 = .ok (.iaload, 1) := by decide +kernel
theorem dX8_rings_61 : decode cX8_rings 61 = .ok (.iastore, 1) := by decide +kernel
theorem dX8_rings_62 : decode cX8_rings 62 = .ok (.aload_n 0, 1) := by decide +kernel
theorem dX8_rings_63 : decode cX8_rings 63 = .ok (.iload_n 1, 1) := by decide +kernel
theorem dX8_rings_64 : decode cX8_rings 64 = .ok (.iconst 2, 1) := by decide +kernel
theorem dX8_rings_65 : decode cX8_rings 65 = .ok (.invokestatic 37, 3) := by decide +kernel
theorem dX8_rings_68 : decode cX8_rings 68 = .ok (.ifCond .ne 9, 3) := by decide +kernel
theorem dX8_rings_71 : decode cX8_rings 71 = .ok (.aload_n 0, 1) := by decide +kernel
theorem dX8_rings_72 : decode cX8_rings 72 = .ok (.iload_n 1, 1) := by decide +kernel
theorem dX8_rings_73 : decode cX8_rings 73 = .ok (.invokestatic 88, 3) := by decide +kernel
theorem dX8_rings_76 : decode cX8_rings 76 = .ok (.return_, 1) := by decide +kernel
theorem dX8_rings_77 : decode cX8_rings 77 = .ok (.aload_n 0, 1) := by decide +kernel
theorem dX8_rings_78 : decode cX8_rings 78 = .ok (.iload_n 1, 1) := by decide +kernel
theorem dX8_rings_79 : decode cX8_rings 79 = .ok (.iconst 5, 1) := by decide +kernel
theorem dX8_rings_80 : decode cX8_rings 80 = .ok (.aload_n 0, 1) := by decide +kernel
theorem dX8_rings_81 : decode cX8_rings 81 = .ok (.iload_n 1, 1) := by decide +kernel
theorem dX8_rings_82 : decode cX8_rings 82 = .ok (.iconst 5, 1) := by decide +kernel
theorem dX8_rings_83 : decode cX8_rings 83 = .ok (.invokestatic 37, 3) := by decide +kernel
theorem dX8_rings_86 : decode cX8_rings 86 = .ok (.iconst 1, 1) := by decide +kernel
theorem dX8_rings_87 : decode cX8_rings 87 = .ok (.iadd, 1) := by decide +kernel
theorem dX8_rings_88 : decode cX8_rings 88 = .ok (.invokestatic 56, 3) := by decide +kernel
theorem dX8_rings_91 : decode cX8_rings 91 = .ok (.aload_n 0, 1) := by decide +kernel
theorem dX8_rings_92 : decode cX8_rings 92 = .ok (.iload_n 1, 1) := by decide +kernel
theorem dX8_rings_93 : decode cX8_rings 93 = .ok (.bipush 6, 2) := by decide +kernel
theorem dX8_rings_95 : decode cX8_rings 95 = .ok (.iload_n 2, 1) := by decide +kernel
theorem dX8_rings_96 : decode cX8_rings 96 = .ok (.aload_n 0, 1) := by decide +kernel
theorem dX8_rings_97 : decode cX8_rings 97 = .ok (.iload_n 1, 1) := by decide +kernel
theorem dX8_rings_98 : decode cX8_rings 98 = .ok (.bipush 6, 2) := by decide +kernel
theorem dX8_rings_100 : decode cX8_rings 100 = .ok (.invokestatic 37, 3) := by decide +kernel
theorem dX8_rings_103 : decode cX8_rings 103 = .ok (.if_icmp .le 7, 3) := by decide +kernel
theorem dX8_rings_106 : decode cX8_rings 106 = .ok (.iload_n 2, 1) := by decide +kernel
theorem dX8_rings_107 : decode cX8_rings 107 = .ok (.goto 10, 3) := by decide +kernel
theorem dX8_rings_110 : decode cX8_rings 110 = .ok (.aload_n 0, 1) := by decide +kernel
theorem dX8_rings_111 : decode cX8_rings 111 = .ok (.iload_n 1, 1) := by decide +kernel
theorem dX8_rings_112 : decode cX8_rings 112 = .ok (.bipush 6, 2) := by decide +kernel
theorem dX8_rings_114 : decode cX8_rings 114 = .ok (.invokestatic 37, 3) := by decide +kernel
theorem dX8_rings_117 : decode cX8_rings 117 = .ok (.invokestatic 56, 3) := by decide +kernel
theorem dX8_rings_120 : decode cX8_rings 120 = .ok (.aload_n 0, 1) := by decide +kernel
theorem dX8_rings_121 : decode cX8_rings 121 = .ok (.iload_n 1, 1) := by decide +kernel
theorem dX8_rings_122 : decode cX8_rings 122 = .ok (.iconst 4, 1) := by decide +kernel
theorem dX8_rings_123 : decode cX8_rings 123 = .ok (.sipush (-1005), 3) := by decide +kernel
theorem dX8_rings_126 : decode cX8_rings 126 = .ok (.invokestatic 56, 3) := by decide +kernel
theorem dX8_rings_129 : decode cX8_rings 129 = .ok (.aload_n 0, 1) := by decide +kernel
theorem dX8_rings_130 : decode cX8_rings 130 = .ok (.iload_n 1, 1) := by decide +kernel
theorem dX8_rings_131 : decode cX8_rings 131 = .ok (.iconst 1, 1) := by decide +kernel
theorem dX8_rings_132 : decode cX8_rings 132 = .ok (.aload_n 0, 1) := by decide +kernel
theorem dX8_rings_133 : decode cX8_rings 133 = .ok (.iload_n 1, 1) := by decide +kernel
theorem dX8_rings_134 : decode cX8_rings 134 = .ok (.iconst 1, 1) := by decide +kernel
theorem dX8_rings_135 : decode cX8_rings 135 = .ok (.invokestatic 37, 3) := by decide +kernel
theorem dX8_rings_138 : decode cX8_rings 138 = .ok (.aload_n 0, 1) := by decide +kernel
theorem dX8_rings_139 : decode cX8_rings 139 = .ok (.iload_n 1, 1) := by decide +kernel
theorem dX8_rings_140 : decode cX8_rings 140 = .ok (.iconst 2, 1) := by decide +kernel
theorem dX8_rings_141 : decode cX8_rings 141 = .ok (.invokestatic 37, 3) := by decide +kernel
theorem dX8_rings_144 : decode cX8_rings 144 = .ok (.iadd, 1) := by decide +kernel
theorem dX8_rings_145 : decode cX8_rings 145 = .ok (.invokestatic 56, 3) := by decide +kernel
theorem dX8_rings_148 : decode cX8_rings 148 = .ok (.aload_n 0, 1) := by decide +kernel
theorem dX8_rings_149 : decode cX8_rings 149 = .ok (.iload_n 1, 1) := by decide +kernel
theorem dX8_rings_150 : decode cX8_rings 150 = .ok (.iconst 1, 1) := by decide +kernel
theorem dX8_rings_151 : decode cX8_rings 151 = .ok (.invokestatic 37, 3) := by decide +kernel
theorem dX8_rings_154 : decode cX8_rings 154 = .ok (.aload_n 0, 1) := by decide +kernel
theorem dX8_rings_155 : decode cX8_rings 155 = .ok (.iconst 0, 1) := by decide +kernel
theorem dX8_rings_156 : decode cX8_rings 156 = .ok (.iaload, 1) := by decide +kernel
theorem dX8_rings_157 : decode cX8_rings 157 = .ok (.if_icmp .gt 33, 3) := by decide +kernel
theorem dX8_rings_160 : decode cX8_rings 160 = .ok (.aload_n 0, 1) := by decide +kernel
theorem dX8_rings_161 : decode cX8_rings 161 = .ok (.bipush 7, 2) := by decide +kernel
theorem dX8_rings_163 : decode cX8_rings 163 = .ok (.dup2, 1) := by decide +kernel
theorem dX8_rings_164 : decode cX8_rings 164 = .ok (.iaload, 1) := by decide +kernel
theorem dX8_rings_165 : decode cX8_rings 165 = .ok (.iconst 1, 1) := by decide +kernel
theorem dX8_rings_166 : decode cX8_rings 166 = .ok (.iadd, 1) := by decide +kernel
theorem dX8_rings_167 : decode cX8_rings 167 = .ok (.iastore, 1) := by decide +kernel
theorem dX8_rings_168 : decode cX8_rings 168 = .ok (.aload_n 0, 1) := by decide +kernel
theorem dX8_rings_169 : decode cX8_rings 169 = .ok (.iload_n 1, 1) := by decide +kernel
theorem dX8_rings_170 : decode cX8_rings 170 = .ok (.iconst 1, 1) := by decide +kernel
theorem dX8_rings_171 : decode cX8_rings 171 = .ok (.aload_n 0, 1) := by decide +kernel
theorem dX8_rings_172 : decode cX8_rings 172 = .ok (.iload_n 1, 1) := by decide +kernel
theorem dX8_rings_173 : decode cX8_rings 173 = .ok (.iconst 1, 1) := by decide +kernel
theorem dX8_rings_174 : decode cX8_rings 174 = .ok (.invokestatic 37, 3) := by decide +kernel
theorem dX8_rings_177 : decode cX8_rings 177 = .ok (.aload_n 0, 1) := by decide +kernel
theorem dX8_rings_178 : decode cX8_rings 178 = .ok (.iload_n 1, 1) := by decide +kernel
theorem dX8_rings_179 : decode cX8_rings 179 = .ok (.iconst 2, 1) := by decide +kernel
theorem dX8_rings_180 : decode cX8_rings 180 = .ok (.invokestatic 37, 3) := by decide +kernel
theorem dX8_rings_183 : decode cX8_rings 183 = .ok (.iadd, 1) := by decide +kernel
theorem dX8_rings_184 : decode cX8_rings 184 = .ok (.invokestatic 56, 3) := by decide +kernel
theorem dX8_rings_187 : decode cX8_rings 187 = .ok (.goto (-39), 3) := by decide +kernel
theorem dX8_rings_190 : decode cX8_rings 190 = .ok (.return_, 1) := by decide +kernel
theorem dX8_ringsAll_0 : decode cX8_ringsAll 0 = .ok (.iconst 0, 1) := by decide +kernel
theorem dX8_ringsAll_1 : decode cX8_ringsAll 1 = .ok (.istore_n 2, 1) := by decide +kernel
theorem dX8_ringsAll_2 : decode cX8_ringsAll 2 = .ok (.aload_n 0, 1) := by decide +kernel
theorem dX8_ringsAll_3 : decode cX8_ringsAll 3 = .ok (.iload_n 1, 1) := by decide +kernel
theorem dX8_ringsAll_4 : decode cX8_ringsAll 4 = .ok (.invokestatic 78, 3) := by decide +kernel
theorem dX8_ringsAll_7 : decode cX8_ringsAll 7 = .ok (.istore_n 3, 1) := by decide +kernel
theorem dX8_ringsAll_8 : decode cX8_ringsAll 8 = .ok (.iload_n 3, 1) := by decide +kernel
theorem dX8_ringsAll_9 : decode cX8_ringsAll 9 = .ok (.sipush (-1005), 3) := by decide +kernel
theorem dX8_ringsAll_12 : decode cX8_ringsAll 12 = .ok (.if_icmp .eq 20, 3) := by decide +kernel
theorem dX8_ringsAll_15 : decode cX8_ringsAll 15 = .ok (.aload_n 0, 1) := by decide +kernel
theorem dX8_ringsAll_16 : decode cX8_ringsAll 16 = .ok (.iload_n 3, 1) := by decide +kernel
theorem dX8_ringsAll_17 : decode cX8_ringsAll 17 = .ok (.invokestatic 91, 3) := by decide +kernel
theorem dX8_ringsAll_20 : decode cX8_ringsAll 20 = .ok (.iinc 2 1, 3) := by decide +kernel
theorem dX8_ringsAll_23 : decode cX8_ringsAll 23 = .ok (.aload_n 0, 1) := by decide +kernel
theorem dX8_ringsAll_24 : decode cX8_ringsAll 24 = .ok (.iload_n 1, 1) := by decide +kernel
theorem dX8_ringsAll_25 : decode cX8_ringsAll 25 = .ok (.invokestatic 78, 3) := by decide +kernel
theorem dX8_ringsAll_28 : decode cX8_ringsAll 28 = .ok (.istore_n 3, 1) := by decide +kernel
theorem dX8_ringsAll_29 : decode cX8_ringsAll 29 = .ok (.goto (-21), 3) := by decide +kernel
theorem dX8_ringsAll_32 : decode cX8_ringsAll 32 = .ok (.aload_n 0, 1) := by decide +kernel
theorem dX8_ringsAll_33 : decode cX8_ringsAll 33 = .ok (.iload_n 1, 1) := by decide +kernel
theorem dX8_ringsAll_34 : decode cX8_ringsAll 34 = .ok (.invokestatic 70, 3) := by decide +kernel
theorem dX8_ringsAll_37 : decode cX8_ringsAll 37 = .ok (.iload_n 2, 1) := by decide +kernel
theorem dX8_ringsAll_38 : decode cX8_ringsAll 38 = .ok (.ireturn, 1) := by decide +kernel
theorem dX8_tick_0 : decode cX8_tick 0 = .ok (.aload_n 0, 1) := by decide +kernel
theorem dX8_tick_1 : decode cX8_tick 1 = .ok (.iconst 1, 1) := by decide +kernel
theorem dX8_tick_2 : decode cX8_tick 2 = .ok (.dup2, 1) := by decide +kernel
theorem dX8_tick_3 : decode cX8_tick 3 = .ok (.iaload, 1) := by decide +kernel
theorem dX8_tick_4 : decode cX8_tick 4 = .ok (.iconst 1, 1) := by decide +kernel
theorem dX8_tick_5 : decode cX8_tick 5 = .ok (.iadd, 1) := by decide +kernel
theorem dX8_tick_6 : decode cX8_tick 6 = .ok (.iastore, 1) := by decide +kernel
theorem dX8_tick_7 : decode cX8_tick 7 = .ok (.aload_n 0, 1) := by decide +kernel
theorem dX8_tick_8 : decode cX8_tick 8 = .ok (.bipush 13, 2) := by decide +kernel
theorem dX8_tick_10 : decode cX8_tick 10 = .ok (.iaload, 1) := by decide +kernel
theorem dX8_tick_11 : decode cX8_tick 11 = .ok (.istore_n 1, 1) := by decide +kernel
theorem dX8_tick_12 : decode cX8_tick 12 = .ok (.iload_n 1, 1) := by decide +kernel
theorem dX8_tick_13 : decode cX8_tick 13 = .ok (.ifCond .eq 15, 3) := by decide +kernel
theorem dX8_tick_16 : decode cX8_tick 16 = .ok (.aload_n 0, 1) := by decide +kernel
theorem dX8_tick_17 : decode cX8_tick 17 = .ok (.iconst 1, 1) := by decide +kernel
theorem dX8_tick_18 : decode cX8_tick 18 = .ok (.iaload, 1) := by decide +kernel
theorem dX8_tick_19 : decode cX8_tick 19 = .ok (.iload_n 1, 1) := by decide +kernel
theorem dX8_tick_20 : decode cX8_tick 20 = .ok (.irem, 1) := by decide +kernel
theorem dX8_tick_21 : decode cX8_tick 21 = .ok (.ifCond .ne 7, 3) := by decide +kernel
theorem dX8_tick_24 : decode cX8_tick 24 = .ok (.iconst 1, 1) := by decide +kernel
theorem dX8_tick_25 : decode cX8_tick 25 = .ok (.goto 4, 3) := by decide +kernel
theorem dX8_tick_28 : decode cX8_tick 28 = .ok (.iconst 0, 1) := by decide +kernel
theorem dX8_tick_29 : decode cX8_tick 29 = .ok (.istore_n 2, 1) := by decide +kernel
theorem dX8_tick_30 : decode cX8_tick 30 = .ok (.aload_n 0, 1) := by decide +kernel
theorem dX8_tick_31 : decode cX8_tick 31 = .ok (.iconst 0, 1) := by decide +kernel
theorem dX8_tick_32 : decode cX8_tick 32 = .ok (.dup2, 1) := by decide +kernel
theorem dX8_tick_33 : decode cX8_tick 33 = .ok (.iaload, 1) := by decide +kernel
theorem dX8_tick_34 : decode cX8_tick 34 = .ok (.iload_n 2, 1) := by decide +kernel
theorem dX8_tick_35 : decode cX8_tick 35 = .ok (.ifCond .ne 7, 3) := by decide +kernel
theorem dX8_tick_38 : decode cX8_tick 38 = .ok (.iconst 1, 1) := by decide +kernel
theorem dX8_tick_39 : decode cX8_tick 39 = .ok (.goto 12, 3) := by decide +kernel
theorem dX8_tick_42 : decode cX8_tick 42 = .ok (.iload_n 1, 1) := by decide +kernel
theorem dX8_tick_43 : decode cX8_tick 43 = .ok (.ifCond .le 7, 3) := by decide +kernel
theorem dX8_tick_46 : decode cX8_tick 46 = .ok (.iconst 2, 1) := by decide +kernel
theorem dX8_tick_47 : decode cX8_tick 47 = .ok (.goto 4, 3) := by decide +kernel
theorem dX8_tick_50 : decode cX8_tick 50 = .ok (.iconst 0, 1) := by decide +kernel
theorem dX8_tick_51 : decode cX8_tick 51 = .ok (.iadd, 1) := by decide +kernel
theorem dX8_tick_52 : decode cX8_tick 52 = .ok (.iastore, 1) := by decide +kernel
theorem dX8_tick_53 : decode cX8_tick 53 = .ok (.iconst 0, 1) := by decide +kernel
theorem dX8_tick_54 : decode cX8_tick 54 = .ok (.istore_n 3, 1) := by decide +kernel
theorem dX8_tick_55 : decode cX8_tick 55 = .ok (.iconst 0, 1) := by decide +kernel
theorem dX8_tick_56 : decode cX8_tick 56 = .ok (.istore 4, 2) := by decide +kernel
theorem dX8_tick_58 : decode cX8_tick 58 = .ok (.iload 4, 2) := by decide +kernel
theorem dX8_tick_60 : decode cX8_tick 60 = .ok (.aload_n 0, 1) := by decide +kernel
theorem dX8_tick_61 : decode cX8_tick 61 = .ok (.bipush 10, 2) := by decide +kernel
theorem dX8_tick_63 : decode cX8_tick 63 = .ok (.iaload, 1) := by decide +kernel
theorem dX8_tick_64 : decode cX8_tick 64 = .ok (.if_icmp .ge 44, 3) := by decide +kernel
theorem dX8_tick_67 : decode cX8_tick 67 = .ok (.aload_n 0, 1) := by decide +kernel
theorem dX8_tick_68 : decode cX8_tick 68 = .ok (.sipush 154, 3) := by decide +kernel
theorem dX8_tick_71 : decode cX8_tick 71 = .ok (.iconst 2, 1) := by decide +kernel
theorem dX8_tick_72 : decode cX8_tick 72 = .ok (.iload 4, 2) := by decide +kernel
theorem dX8_tick_74 : decode cX8_tick 74 = .ok (.imul, 1) := by decide +kernel
theorem dX8_tick_75 : decode cX8_tick 75 = .ok (.iadd, 1) := by decide +kernel
theorem dX8_tick_76 : decode cX8_tick 76 = .ok (.iconst 1, 1) := by decide +kernel
theorem dX8_tick_77 : decode cX8_tick 77 = .ok (.iadd, 1) := by decide +kernel
theorem dX8_tick_78 : decode cX8_tick 78 = .ok (.dup2, 1) := by decide +kernel
theorem dX8_tick_79 : decode cX8_tick 79 = .ok (.iaload, 1) := by decide +kernel
theorem dX8_tick_80 : decode cX8_tick 80 = .ok (.aload_n 0, 1) := by decide +kernel
theorem dX8_tick_81 : decode cX8_tick 81 = .ok (.sipush 154, 3) := by decide +kernel
theorem dX8_tick_84 : decode cX8_tick 84 = .ok (.iconst 2, 1) := by decide +kernel
theorem dX8_tick_85 : decode cX8_tick 85 = .ok (.iload 4, 2) := by decide +kernel
theorem dX8_tick_87 : decode cX8_tick 87 = .ok (.imul, 1) := by decide +kernel
theorem dX8_tick_88 : decode cX8_tick 88 = .ok (.iadd, 1) := by decide +kernel
theorem dX8_tick_89 : decode cX8_tick 89 = .ok (.iconst 1, 1) := by decide +kernel
theorem dX8_tick_90 : decode cX8_tick 90 = .ok (.iadd, 1) := by decide +kernel
theorem dX8_tick_91 : decode cX8_tick 91 = .ok (.iaload, 1) := by decide +kernel
theorem dX8_tick_92 : decode cX8_tick 92 = .ok (.ifCond .le 7, 3) := by decide +kernel
theorem dX8_tick_95 : decode cX8_tick 95 = .ok (.iconst 1, 1) := by decide +kernel
theorem dX8_tick_96 : decode cX8_tick 96 = .ok (.goto 4, 3) := by decide +kernel
theorem dX8_tick_99 : decode cX8_tick 99 = .ok (.iconst 0, 1) := by decide +kernel
theorem dX8_tick_100 : decode cX8_tick 100 = .ok (.isub, 1) := by decide +kernel
theorem dX8_tick_101 : decode cX8_tick 101 = .ok (.iastore, 1) := by decide +kernel
theorem dX8_tick_102 : decode cX8_tick 102 = .ok (.iinc 4 1, 3) := by decide +kernel
theorem dX8_tick_105 : decode cX8_tick 105 = .ok (.goto (-47), 3) := by decide +kernel
theorem dX8_tick_108 : decode cX8_tick 108 = .ok (.iconst 0, 1) := by decide +kernel
theorem dX8_tick_109 : decode cX8_tick 109 = .ok (.istore 4, 2) := by decide +kernel
theorem dX8_tick_111 : decode cX8_tick 111 = .ok (.iload 4, 2) := by decide +kernel
theorem dX8_tick_113 : decode cX8_tick 113 = .ok (.aload_n 0, 1) := by decide +kernel
theorem dX8_tick_114 : decode cX8_tick 114 = .ok (.bipush 10, 2) := by decide +kernel
theorem dX8_tick_116 : decode cX8_tick 116 = .ok (.iaload, 1) := by decide +kernel
theorem dX8_tick_117 : decode cX8_tick 117 = .ok (.if_icmp .ge 73, 3) := by decide +kernel
theorem dX8_tick_120 : decode cX8_tick 120 = .ok (.aload_n 0, 1) := by decide +kernel
theorem dX8_tick_121 : decode cX8_tick 121 = .ok (.iload 4, 2) := by decide +kernel
theorem dX8_tick_123 : decode cX8_tick 123 = .ok (.invokestatic 49, 3) := by decide +kernel
theorem dX8_tick_126 : decode cX8_tick 126 = .ok (.sipush (-1005), 3) := by decide +kernel
theorem dX8_tick_129 : decode cX8_tick 129 = .ok (.if_icmp .eq 34, 3) := by decide +kernel
theorem dX8_tick_132 : decode cX8_tick 132 = .ok (.aload_n 0, 1) := by decide +kernel
theorem dX8_tick_133 : decode cX8_tick 133 = .ok (.sipush 154, 3) := by decide +kernel
theorem dX8_tick_136 : decode cX8_tick 136 = .ok (.iconst 2, 1) := by decide +kernel
theorem dX8_tick_137 : decode cX8_tick 137 = .ok (.iload 4, 2) := by decide +kernel
theorem dX8_tick_139 : decode cX8_tick 139 = .ok (.imul, 1) := by decide +kernel
theorem dX8_tick_140 : decode cX8_tick 140 = .ok (.iadd, 1) := by decide +kernel
theorem dX8_tick_141 : decode cX8_tick 141 = .ok (.iconst 1, 1) := by decide +kernel
theorem dX8_tick_142 : decode cX8_tick 142 = .ok (.iadd, 1) := by decide +kernel
theorem dX8_tick_143 : decode cX8_tick 143 = .ok (.iaload, 1) := by decide +kernel
theorem dX8_tick_144 : decode cX8_tick 144 = .ok (.ifCond .ne 19, 3) := by decide +kernel
theorem dX8_tick_147 : decode cX8_tick 147 = .ok (.aload_n 0, 1) := by decide +kernel
theorem dX8_tick_148 : decode cX8_tick 148 = .ok (.iload 4, 2) := by decide +kernel
theorem dX8_tick_150 : decode cX8_tick 150 = .ok (.invokestatic 49, 3) := by decide +kernel
theorem dX8_tick_153 : decode cX8_tick 153 = .ok (.aload_n 0, 1) := by decide +kernel
theorem dX8_tick_154 : decode cX8_tick 154 = .ok (.iconst 0, 1) := by decide +kernel
theorem dX8_tick_155 : decode cX8_tick 155 = .ok (.iaload, 1) := by decide +kernel
theorem dX8_tick_156 : decode cX8_tick 156 = .ok (.if_icmp .gt 7, 3) := by decide +kernel
theorem dX8_tick_159 : decode cX8_tick 159 = .ok (.iconst 1, 1) := by decide +kernel
theorem dX8_tick_160 : decode cX8_tick 160 = .ok (.goto 4, 3) := by decide +kernel
theorem dX8_tick_163 : decode cX8_tick 163 = .ok (.iconst 0, 1) := by decide +kernel
theorem dX8_tick_164 : decode cX8_tick 164 = .ok (.istore 5, 2) := by decide +kernel
theorem dX8_tick_166 : decode cX8_tick 166 = .ok (.iload_n 3, 1) := by decide +kernel
theorem dX8_tick_167 : decode cX8_tick 167 = .ok (.iload 5, 2) := by decide +kernel
theorem dX8_tick_169 : decode cX8_tick 169 = .ok (.ifCond .eq 12, 3) := by decide +kernel
theorem dX8_tick_172 : decode cX8_tick 172 = .ok (.aload_n 0, 1) := by decide +kernel
theorem dX8_tick_173 : decode cX8_tick 173 = .ok (.iload 4, 2) := by decide +kernel
theorem dX8_tick_175 : decode cX8_tick 175 = .ok (.invokestatic 94, 3) := by decide +kernel
theorem dX8_tick_178 : decode cX8_tick 178 = .ok (.goto 4, 3) := by decide +kernel
theorem dX8_tick_181 : decode cX8_tick 181 = .ok (.iconst 0, 1) := by decide +kernel
theorem dX8_tick_182 : decode cX8_tick 182 = .ok (.iadd, 1) := by decide +kernel
theorem dX8_tick_183 : decode cX8_tick 183 = .ok (.istore_n 3, 1) := by decide +kernel
theorem dX8_tick_184 : decode cX8_tick 184 = .ok (.iinc 4 1, 3) := by decide +kernel
theorem dX8_tick_187 : decode cX8_tick 187 = .ok (.goto (-76), 3) := by decide +kernel
theorem dX8_tick_190 : decode cX8_tick 190 = .ok (.aload_n 0, 1) := by decide +kernel
theorem dX8_tick_191 : decode cX8_tick 191 = .ok (.invokestatic 97, 3) := by decide +kernel
theorem dX8_tick_194 : decode cX8_tick 194 = .ok (.iload_n 3, 1) := by decide +kernel
theorem dX8_tick_195 : decode cX8_tick 195 = .ok (.ireturn, 1) := by decide +kernel
theorem dX8_ticks_0 : decode cX8_ticks 0 = .ok (.iconst 0, 1) := by decide +kernel
theorem dX8_ticks_1 : decode cX8_ticks 1 = .ok (.istore_n 2, 1) := by decide +kernel
theorem dX8_ticks_2 : decode cX8_ticks 2 = .ok (.iconst 0, 1) := by decide +kernel
theorem dX8_ticks_3 : decode cX8_ticks 3 = .ok (.istore_n 3, 1) := by decide +kernel
theorem dX8_ticks_4 : decode cX8_ticks 4 = .ok (.iload_n 3, 1) := by decide +kernel
theorem dX8_ticks_5 : decode cX8_ticks 5 = .ok (.iload_n 1, 1) := by decide +kernel
theorem dX8_ticks_6 : decode cX8_ticks 6 = .ok (.if_icmp .ge 16, 3) := by decide +kernel
theorem dX8_ticks_9 : decode cX8_ticks 9 = .ok (.iload_n 2, 1) := by decide +kernel
theorem dX8_ticks_10 : decode cX8_ticks 10 = .ok (.aload_n 0, 1) := by decide +kernel
theorem dX8_ticks_11 : decode cX8_ticks 11 = .ok (.invokestatic 101, 3) := by decide +kernel
theorem dX8_ticks_14 : decode cX8_ticks 14 = .ok (.iadd, 1) := by decide +kernel
theorem dX8_ticks_15 : decode cX8_ticks 15 = .ok (.istore_n 2, 1) := by decide +kernel
theorem dX8_ticks_16 : decode cX8_ticks 16 = .ok (.iinc 3 1, 3) := by decide +kernel
theorem dX8_ticks_19 : decode cX8_ticks 19 = .ok (.goto (-15), 3) := by decide +kernel
theorem dX8_ticks_22 : decode cX8_ticks 22 = .ok (.iload_n 2, 1) := by decide +kernel
theorem dX8_ticks_23 : decode cX8_ticks 23 = .ok (.ireturn, 1) := by decide +kernel
theorem dX8_sets_0 : decode cX8_sets 0 = .ok (.aload_n 0, 1) := by decide +kernel
theorem dX8_sets_1 : decode cX8_sets 1 = .ok (.iconst 2, 1) := by decide +kernel
theorem dX8_sets_2 : decode cX8_sets 2 = .ok (.iaload, 1) := by decide +kernel
theorem dX8_sets_3 : decode cX8_sets 3 = .ok (.istore 4, 2) := by decide +kernel
theorem dX8_sets_5 : decode cX8_sets 5 = .ok (.aload_n 0, 1) := by decide +kernel
theorem dX8_sets_6 : decode cX8_sets 6 = .ok (.iconst 2, 1) := by decide +kernel
theorem dX8_sets_7 : decode cX8_sets 7 = .ok (.dup2, 1) := by decide +kernel
theorem dX8_sets_8 : decode cX8_sets 8 = .ok (.iaload, 1) := by decide +kernel
theorem dX8_sets_9 : decode cX8_sets 9 = .ok (.iconst 1, 1) := by decide +kernel
theorem dX8_sets_10 : decode cX8_sets 10 = .ok (.iadd, 1) := by decide +kernel
theorem dX8_sets_11 : decode cX8_sets 11 = .ok (.iastore, 1) := by decide +kernel
theorem dX8_sets_12 : decode cX8_sets 12 = .ok (.aload_n 0, 1) := by decide +kernel
theorem dX8_sets_13 : decode cX8_sets 13 = .ok (.iload 4, 2) := by decide +kernel
theorem dX8_sets_15 : decode cX8_sets 15 = .ok (.iconst 0, 1) := by decide +kernel
theorem dX8_sets_16 : decode cX8_sets 16 = .ok (.aload_n 0, 1) := by decide +kernel
theorem dX8_sets_17 : decode cX8_sets 17 = .ok (.iconst 3, 1) := by decide +kernel
theorem dX8_sets_18 : decode cX8_sets 18 = .ok (.iaload, 1) := by decide +kernel
theorem dX8_sets_19 : decode cX8_sets 19 = .ok (.invokestatic 56, 3) := by decide +kernel
theorem dX8_sets_22 : decode cX8_sets 22 = .ok (.aload_n 0, 1) := by decide +kernel
theorem dX8_sets_23 : decode cX8_sets 23 = .ok (.iload 4, 2) := by decide +kernel
theorem dX8_sets_25 : decode cX8_sets 25 = .ok (.iconst 1, 1) := by decide +kernel
theorem dX8_sets_26 : decode cX8_sets 26 = .ok (.iload_n 1, 1) := by decide +kernel
theorem dX8_sets_27 : decode cX8_sets 27 = .ok (.invokestatic 56, 3) := by decide +kernel
theorem dX8_sets_30 : decode cX8_sets 30 = .ok (.aload_n 0, 1) := by decide +kernel
theorem dX8_sets_31 : decode cX8_sets 31 = .ok (.iload 4, 2) := by decide +kernel
theorem dX8_sets_33 : decode cX8_sets 33 = .ok (.iconst 2, 1) := by decide +kernel
theorem dX8_sets_34 : decode cX8_sets 34 = .ok (.iload_n 2, 1) := by decide +kernel
theorem dX8_sets_35 : decode cX8_sets 35 = .ok (.invokestatic 56, 3) := by decide +kernel
theorem dX8_sets_38 : decode cX8_sets 38 = .ok (.aload_n 0, 1) := by decide +kernel
theorem dX8_sets_39 : decode cX8_sets 39 = .ok (.iload 4, 2) := by decide +kernel
theorem dX8_sets_41 : decode cX8_sets 41 = .ok (.iconst 3, 1) := by decide +kernel
theorem dX8_sets_42 : decode cX8_sets 42 = .ok (.iload_n 3, 1) := by decide +kernel
theorem dX8_sets_43 : decode cX8_sets 43 = .ok (.invokestatic 56, 3) := by decide +kernel
theorem dX8_sets_46 : decode cX8_sets 46 = .ok (.aload_n 0, 1) := by decide +kernel
theorem dX8_sets_47 : decode cX8_sets 47 = .ok (.iload 4, 2) := by decide +kernel
theorem dX8_sets_49 : decode cX8_sets 49 = .ok (.iconst 4, 1) := by decide +kernel
theorem dX8_sets_50 : decode cX8_sets 50 = .ok (.sipush (-1005), 3) := by decide +kernel
theorem dX8_sets_53 : decode cX8_sets 53 = .ok (.invokestatic 56, 3) := by decide +kernel
theorem dX8_sets_56 : decode cX8_sets 56 = .ok (.aload_n 0, 1) := by decide +kernel
theorem dX8_sets_57 : decode cX8_sets 57 = .ok (.iload 4, 2) := by decide +kernel
theorem dX8_sets_59 : decode cX8_sets 59 = .ok (.iconst 5, 1) := by decide +kernel
theorem dX8_sets_60 : decode cX8_sets 60 = .ok (.iconst 0, 1) := by decide +kernel
theorem dX8_sets_61 : decode cX8_sets 61 = .ok (.invokestatic 56, 3) := by decide +kernel
theorem dX8_sets_64 : decode cX8_sets 64 = .ok (.aload_n 0, 1) := by decide +kernel
theorem dX8_sets_65 : decode cX8_sets 65 = .ok (.iload 4, 2) := by decide +kernel
theorem dX8_sets_67 : decode cX8_sets 67 = .ok (.bipush 6, 2) := by decide +kernel
theorem dX8_sets_69 : decode cX8_sets 69 = .ok (.sipush (-1005), 3) := by decide +kernel
theorem dX8_sets_72 : decode cX8_sets 72 = .ok (.invokestatic 56, 3) := by decide +kernel
theorem dX8_sets_75 : decode cX8_sets 75 = .ok (.aload_n 0, 1) := by decide +kernel
theorem dX8_sets_76 : decode cX8_sets 76 = .ok (.iconst 3, 1) := by decide +kernel
theorem dX8_sets_77 : decode cX8_sets 77 = .ok (.dup2, 1) := by decide +kernel
theorem dX8_sets_78 : decode cX8_sets 78 = .ok (.iaload, 1) := by decide +kernel
theorem dX8_sets_79 : decode cX8_sets 79 = .ok (.iconst 1, 1) := by decide +kernel
theorem dX8_sets_80 : decode cX8_sets 80 = .ok (.iadd, 1) := by decide +kernel
theorem dX8_sets_81 : decode cX8_sets 81 = .ok (.iastore, 1) := by decide +kernel
theorem dX8_sets_82 : decode cX8_sets 82 = .ok (.aload_n 0, 1) := by decide +kernel
theorem dX8_sets_83 : decode cX8_sets 83 = .ok (.invokestatic 97, 3) := by decide +kernel
theorem dX8_sets_86 : decode cX8_sets 86 = .ok (.return_, 1) := by decide +kernel
theorem dX8_set_0 : decode cX8_set 0 = .ok (.iload_n 1, 1) := by decide +kernel
theorem dX8_set_1 : decode cX8_set 1 = .ok (.iconst 0, 1) := by decide +kernel
theorem dX8_set_2 : decode cX8_set 2 = .ok (.ldc 104, 2) := by decide +kernel
theorem dX8_set_4 : decode cX8_set 4 = .ok (.invokestatic 105, 3) := by decide +kernel
theorem dX8_set_7 : decode cX8_set 7 = .ok (.ifCond .eq 23, 3) := by decide +kernel
theorem dX8_set_10 : decode cX8_set 10 = .ok (.iload_n 2, 1) := by decide +kernel
theorem dX8_set_11 : decode cX8_set 11 = .ok (.iconst 0, 1) := by decide +kernel
theorem dX8_set_12 : decode cX8_set 12 = .ok (.sipush 9999, 3) := by decide +kernel
theorem dX8_set_15 : decode cX8_set 15 = .ok (.invokestatic 105, 3) := by decide +kernel
theorem dX8_set_18 : decode cX8_set 18 = .ok (.ifCond .eq 12, 3) := by decide +kernel
theorem dX8_set_21 : decode cX8_set 21 = .ok (.iload_n 3, 1) := by decide +kernel
theorem dX8_set_22 : decode cX8_set 22 = .ok (.iconst 0, 1) := by decide +kernel
theorem dX8_set_23 : decode cX8_set 23 = .ok (.iconst 3, 1) := by decide +kernel
theorem dX8_set_24 : decode cX8_set 24 = .ok (.invokestatic 105, 3) := by decide +kernel
theorem dX8_set_27 : decode cX8_set 27 = .ok (.ifCond .ne 7, 3) := by decide +kernel
theorem dX8_set_30 : decode cX8_set 30 = .ok (.sipush (-1002), 3) := by decide +kernel
theorem dX8_set_33 : decode cX8_set 33 = .ok (.ireturn, 1) := by decide +kernel
theorem dX8_set_34 : decode cX8_set 34 = .ok (.iload_n 1, 1) := by decide +kernel
theorem dX8_set_35 : decode cX8_set 35 = .ok (.aload_n 0, 1) := by decide +kernel
theorem dX8_set_36 : decode cX8_set 36 = .ok (.getfield 7, 3) := by decide +kernel
theorem dX8_set_39 : decode cX8_set 39 = .ok (.iconst 0, 1) := by decide +kernel
theorem dX8_set_40 : decode cX8_set 40 = .ok (.iaload, 1) := by decide +kernel
theorem dX8_set_41 : decode cX8_set 41 = .ok (.if_icmp .ge 7, 3) := by decide +kernel
theorem dX8_set_44 : decode cX8_set 44 = .ok (.sipush (-1004), 3) := by decide +kernel
theorem dX8_set_47 : decode cX8_set 47 = .ok (.ireturn, 1) := by decide +kernel
theorem dX8_set_48 : decode cX8_set 48 = .ok (.aload_n 0, 1) := by decide +kernel
theorem dX8_set_49 : decode cX8_set 49 = .ok (.getfield 7, 3) := by decide +kernel
theorem dX8_set_52 : decode cX8_set 52 = .ok (.iconst 2, 1) := by decide +kernel
theorem dX8_set_53 : decode cX8_set 53 = .ok (.iaload, 1) := by decide +kernel
theorem dX8_set_54 : decode cX8_set 54 = .ok (.bipush 20, 2) := by decide +kernel
theorem dX8_set_56 : decode cX8_set 56 = .ok (.if_icmp .eq 15, 3) := by decide +kernel
theorem dX8_set_59 : decode cX8_set 59 = .ok (.aload_n 0, 1) := by decide +kernel
theorem dX8_set_60 : decode cX8_set 60 = .ok (.getfield 7, 3) := by decide +kernel
theorem dX8_set_63 : decode cX8_set 63 = .ok (.iconst 3, 1) := by decide +kernel
theorem dX8_set_64 : decode cX8_set 64 = .ok (.iaload, 1) := by decide +kernel
theorem dX8_set_65 : decode cX8_set 65 = .ok (.sipush 500, 3) := by decide +kernel
theorem dX8_set_68 : decode cX8_set 68 = .ok (.if_icmp .ne 7, 3) := by decide +kernel
theorem dX8_set_71 : decode cX8_set 71 = .ok (.sipush (-1003), 3) := by decide +kernel
theorem dX8_set_74 : decode cX8_set 74 = .ok (.ireturn, 1) := by decide +kernel
theorem dX8_set_75 : decode cX8_set 75 = .ok (.aload_n 0, 1) := by decide +kernel
theorem dX8_set_76 : decode cX8_set 76 = .ok (.invokevirtual 109, 3) := by decide +kernel
theorem dX8_set_79 : decode cX8_set 79 = .ok (.aload_n 0, 1) := by decide +kernel
theorem dX8_set_80 : decode cX8_set 80 = .ok (.getfield 7, 3) := by decide +kernel
theorem dX8_set_83 : decode cX8_set 83 = .ok (.iload_n 1, 1) := by decide +kernel
theorem dX8_set_84 : decode cX8_set 84 = .ok (.iload_n 2, 1) := by decide +kernel
theorem dX8_set_85 : decode cX8_set 85 = .ok (.iload_n 3, 1) := by decide +kernel
theorem dX8_set_86 : decode cX8_set 86 = .ok (.invokestatic 112, 3) := by decide +kernel
theorem dX8_set_89 : decode cX8_set 89 = .ok (.aload_n 0, 1) := by decide +kernel
theorem dX8_set_90 : decode cX8_set 90 = .ok (.getfield 7, 3) := by decide +kernel
theorem dX8_set_93 : decode cX8_set 93 = .ok (.iconst 3, 1) := by decide +kernel
theorem dX8_set_94 : decode cX8_set 94 = .ok (.iaload, 1) := by decide +kernel
theorem dX8_set_95 : decode cX8_set 95 = .ok (.iconst 1, 1) := by decide +kernel
theorem dX8_set_96 : decode cX8_set 96 = .ok (.isub, 1) := by decide +kernel
theorem dX8_set_97 : decode cX8_set 97 = .ok (.ireturn, 1) := by decide +kernel
end
section
theorem dX8_setAll_0 : decode cX8_setAll 0 = .ok (.aload_n 0, 1) := by decide +kernel
theorem dX8_setAll_1 : decode cX8_setAll 1 = .ok (.invokevirtual 115, 3) := by decide +kernel
theorem dX8_setAll_4 : decode cX8_setAll 4 = .ok (.istore_n 1, 1) := by decide +kernel
theorem dX8_setAll_5 : decode cX8_setAll 5 = .ok (.iload_n 1, 1) := by decide +kernel
theorem dX8_setAll_6 : decode cX8_setAll 6 = .ok (.sipush (-1005), 3) := by decide +kernel
theorem dX8_setAll_9 : decode cX8_setAll 9 = .ok (.if_icmp .eq 9, 3) := by decide +kernel
theorem dX8_setAll_12 : decode cX8_setAll 12 = .ok (.sipush (-1100), 3) := by decide +kernel
theorem dX8_setAll_15 : decode cX8_setAll 15 = .ok (.iload_n 1, 1) := by decide +kernel
theorem dX8_setAll_16 : decode cX8_setAll 16 = .ok (.isub, 1) := by decide +kernel
theorem dX8_setAll_17 : decode cX8_setAll 17 = .ok (.ireturn, 1) := by decide +kernel
theorem dX8_setAll_18 : decode cX8_setAll 18 = .ok (.iconst 0, 1) := by decide +kernel
theorem dX8_setAll_19 : decode cX8_setAll 19 = .ok (.istore_n 2, 1) := by decide +kernel
theorem dX8_setAll_20 : decode cX8_setAll 20 = .ok (.iload_n 2, 1) := by decide +kernel
theorem dX8_setAll_21 : decode cX8_setAll 21 = .ok (.aload_n 0, 1) := by decide +kernel
theorem dX8_setAll_22 : decode cX8_setAll 22 = .ok (.getfield 119, 3) := by decide +kernel
theorem dX8_setAll_25 : decode cX8_setAll 25 = .ok (.if_icmp .ge 30, 3) := by decide +kernel
theorem dX8_setAll_28 : decode cX8_setAll 28 = .ok (.aload_n 0, 1) := by decide +kernel
theorem dX8_setAll_29 : decode cX8_setAll 29 = .ok (.getfield 26, 3) := by decide +kernel
theorem dX8_setAll_32 : decode cX8_setAll 32 = .ok (.iconst 3, 1) := by decide +kernel
theorem dX8_setAll_33 : decode cX8_setAll 33 = .ok (.iload_n 2, 1) := by decide +kernel
theorem dX8_setAll_34 : decode cX8_setAll 34 = .ok (.imul, 1) := by decide +kernel
theorem dX8_setAll_35 : decode cX8_setAll 35 = .ok (.iaload, 1) := by decide +kernel
theorem dX8_setAll_36 : decode cX8_setAll 36 = .ok (.aload_n 0, 1) := by decide +kernel
theorem dX8_setAll_37 : decode cX8_setAll 37 = .ok (.getfield 7, 3) := by decide +kernel
theorem dX8_setAll_40 : decode cX8_setAll 40 = .ok (.iconst 0, 1) := by decide +kernel
theorem dX8_setAll_41 : decode cX8_setAll 41 = .ok (.iaload, 1) := by decide +kernel
theorem dX8_setAll_42 : decode cX8_setAll 42 = .ok (.if_icmp .ge 7, 3) := by decide +kernel
theorem dX8_setAll_45 : decode cX8_setAll 45 = .ok (.sipush (-1004), 3) := by decide +kernel
theorem dX8_setAll_48 : decode cX8_setAll 48 = .ok (.ireturn, 1) := by decide +kernel
theorem dX8_setAll_49 : decode cX8_setAll 49 = .ok (.iinc 2 1, 3) := by decide +kernel
theorem dX8_setAll_52 : decode cX8_setAll 52 = .ok (.goto (-32), 3) := by decide +kernel
theorem dX8_setAll_55 : decode cX8_setAll 55 = .ok (.aload_n 0, 1) := by decide +kernel
theorem dX8_setAll_56 : decode cX8_setAll 56 = .ok (.getfield 7, 3) := by decide +kernel
theorem dX8_setAll_59 : decode cX8_setAll 59 = .ok (.iconst 2, 1) := by decide +kernel
theorem dX8_setAll_60 : decode cX8_setAll 60 = .ok (.iaload, 1) := by decide +kernel
theorem dX8_setAll_61 : decode cX8_setAll 61 = .ok (.aload_n 0, 1) := by decide +kernel
theorem dX8_setAll_62 : decode cX8_setAll 62 = .ok (.getfield 119, 3) := by decide +kernel
theorem dX8_setAll_65 : decode cX8_setAll 65 = .ok (.iadd, 1) := by decide +kernel
theorem dX8_setAll_66 : decode cX8_setAll 66 = .ok (.bipush 20, 2) := by decide +kernel
theorem dX8_setAll_68 : decode cX8_setAll 68 = .ok (.if_icmp .gt 20, 3) := by decide +kernel
theorem dX8_setAll_71 : decode cX8_setAll 71 = .ok (.aload_n 0, 1) := by decide +kernel
theorem dX8_setAll_72 : decode cX8_setAll 72 = .ok (.getfield 7, 3) := by decide +kernel
theorem dX8_setAll_75 : decode cX8_setAll 75 = .ok (.iconst 3, 1) := by decide +kernel
theorem dX8_setAll_76 : decode cX8_setAll 76 = .ok (.iaload, 1) := by decide +kernel
theorem dX8_setAll_77 : decode cX8_setAll 77 = .ok (.aload_n 0, 1) := by decide +kernel
theorem dX8_setAll_78 : decode cX8_setAll 78 = .ok (.getfield 119, 3) := by decide +kernel
theorem dX8_setAll_81 : decode cX8_setAll 81 = .ok (.iadd, 1) := by decide +kernel
theorem dX8_setAll_82 : decode cX8_setAll 82 = .ok (.sipush 500, 3) := by decide +kernel
theorem dX8_setAll_85 : decode cX8_setAll 85 = .ok (.if_icmp .le 7, 3) := by decide +kernel
theorem dX8_setAll_88 : decode cX8_setAll 88 = .ok (.sipush (-1003), 3) := by decide +kernel
theorem dX8_setAll_91 : decode cX8_setAll 91 = .ok (.ireturn, 1) := by decide +kernel
theorem dX8_setAll_92 : decode cX8_setAll 92 = .ok (.aload_n 0, 1) := by decide +kernel
theorem dX8_setAll_93 : decode cX8_setAll 93 = .ok (.invokevirtual 109, 3) := by decide +kernel
theorem dX8_setAll_96 : decode cX8_setAll 96 = .ok (.iconst 0, 1) := by decide +kernel
theorem dX8_setAll_97 : decode cX8_setAll 97 = .ok (.istore_n 2, 1) := by decide +kernel
theorem dX8_setAll_98 : decode cX8_setAll 98 = .ok (.iload_n 2, 1) := by decide +kernel
theorem dX8_setAll_99 : decode cX8_setAll 99 = .ok (.aload_n 0, 1) := by decide +kernel
theorem dX8_setAll_100 : decode cX8_setAll 100 = .ok (.getfield 119, 3) := by decide +kernel
theorem dX8_setAll_103 : decode cX8_setAll 103 = .ok (.if_icmp .ge 44, 3) := by decide +kernel
theorem dX8_setAll_106 : decode cX8_setAll 106 = .ok (.aload_n 0, 1) := by decide +kernel
theorem dX8_setAll_107 : decode cX8_setAll 107 = .ok (.getfield 7, 3) := by decide +kernel
theorem dX8_setAll_110 : decode cX8_setAll 110 = .ok (.aload_n 0, 1) := by decide +kernel
theorem dX8_setAll_111 : decode cX8_setAll 111 = .ok (.getfield 26, 3) := by decide +kernel
theorem dX8_setAll_114 : decode cX8_setAll 114 = .ok (.iconst 3, 1) := by decide +kernel
theorem dX8_setAll_115 : decode cX8_setAll 115 = .ok (.iload_n 2, 1) := by decide +kernel
theorem dX8_setAll_116 : decode cX8_setAll 116 = .ok (.imul, 1) := by decide +kernel
theorem dX8_setAll_117 : decode cX8_setAll 117 = .ok (.iaload, 1) := by decide +kernel
theorem dX8_setAll_118 : decode cX8_setAll 118 = .ok (.aload_n 0, 1) := by decide +kernel
theorem dX8_setAll_119 : decode cX8_setAll 119 = .ok (.getfield 26, 3) := by decide +kernel
theorem dX8_setAll_122 : decode cX8_setAll 122 = .ok (.iconst 3, 1) := by decide +kernel
theorem dX8_setAll_123 : decode cX8_setAll 123 = .ok (.iload_n 2, 1) := by decide +kernel
theorem dX8_setAll_124 : decode cX8_setAll 124 = .ok (.imul, 1) := by decide +kernel
theorem dX8_setAll_125 : decode cX8_setAll 125 = .ok (.iconst 1, 1) := by decide +kernel
theorem dX8_setAll_126 : decode cX8_setAll 126 = .ok (.iadd, 1) := by decide +kernel
theorem dX8_setAll_127 : decode cX8_setAll 127 = .ok (.iaload, 1) := by decide +kernel
theorem dX8_setAll_128 : decode cX8_setAll 128 = .ok (.aload_n 0, 1) := by decide +kernel
theorem dX8_setAll_129 : decode cX8_setAll 129 = .ok (.getfield 26, 3) := by decide +kernel
theorem dX8_setAll_132 : decode cX8_setAll 132 = .ok (.iconst 3, 1) := by decide +kernel
theorem dX8_setAll_133 : decode cX8_setAll 133 = .ok (.iload_n 2, 1) := by decide +kernel
theorem dX8_setAll_134 : decode cX8_setAll 134 = .ok (.imul, 1) := by decide +kernel
theorem dX8_setAll_135 : decode cX8_setAll 135 = .ok (.iconst 2, 1) := by decide +kernel
theorem dX8_setAll_136 : decode cX8_setAll 136 = .ok (.iadd, 1) := by decide +kernel
theorem dX8_setAll_137 : decode cX8_setAll 137 = .ok (.iaload, 1) := by decide +kernel
theorem dX8_setAll_138 : decode cX8_setAll 138 = .ok (.invokestatic 112, 3) := by decide +kernel
theorem dX8_setAll_141 : decode cX8_setAll 141 = .ok (.iinc 2 1, 3) := by decide +kernel
theorem dX8_setAll_144 : decode cX8_setAll 144 = .ok (.goto (-46), 3) := by decide +kernel
theorem dX8_setAll_147 : decode cX8_setAll 147 = .ok (.aload_n 0, 1) := by decide +kernel
theorem dX8_setAll_148 : decode cX8_setAll 148 = .ok (.getfield 7, 3) := by decide +kernel
theorem dX8_setAll_151 : decode cX8_setAll 151 = .ok (.iconst 2, 1) := by decide +kernel
theorem dX8_setAll_152 : decode cX8_setAll 152 = .ok (.iaload, 1) := by decide +kernel
theorem dX8_setAll_153 : decode cX8_setAll 153 = .ok (.ireturn, 1) := by decide +kernel
theorem dX8_cancel_0 : decode cX8_cancel 0 = .ok (.aload_n 0, 1) := by decide +kernel
theorem dX8_cancel_1 : decode cX8_cancel 1 = .ok (.getfield 7, 3) := by decide +kernel
theorem dX8_cancel_4 : decode cX8_cancel 4 = .ok (.iload_n 1, 1) := by decide +kernel
theorem dX8_cancel_5 : decode cX8_cancel 5 = .ok (.invokestatic 122, 3) := by decide +kernel
theorem dX8_cancel_8 : decode cX8_cancel 8 = .ok (.istore_n 2, 1) := by decide +kernel
theorem dX8_cancel_9 : decode cX8_cancel 9 = .ok (.iload_n 2, 1) := by decide +kernel
theorem dX8_cancel_10 : decode cX8_cancel 10 = .ok (.sipush (-1005), 3) := by decide +kernel
theorem dX8_cancel_13 : decode cX8_cancel 13 = .ok (.if_icmp .ne 7, 3) := by decide +kernel
theorem dX8_cancel_16 : decode cX8_cancel 16 = .ok (.sipush (-1001), 3) := by decide +kernel
theorem dX8_cancel_19 : decode cX8_cancel 19 = .ok (.ireturn, 1) := by decide +kernel
theorem dX8_cancel_20 : decode cX8_cancel 20 = .ok (.aload_n 0, 1) := by decide +kernel
theorem dX8_cancel_21 : decode cX8_cancel 21 = .ok (.invokevirtual 109, 3) := by decide +kernel
theorem dX8_cancel_24 : decode cX8_cancel 24 = .ok (.aload_n 0, 1) := by decide +kernel
theorem dX8_cancel_25 : decode cX8_cancel 25 = .ok (.getfield 7, 3) := by decide +kernel
theorem dX8_cancel_28 : decode cX8_cancel 28 = .ok (.iload_n 2, 1) := by decide +kernel
theorem dX8_cancel_29 : decode cX8_cancel 29 = .ok (.invokestatic 125, 3) := by decide +kernel
theorem dX8_cancel_32 : decode cX8_cancel 32 = .ok (.aload_n 0, 1) := by decide +kernel
theorem dX8_cancel_33 : decode cX8_cancel 33 = .ok (.getfield 7, 3) := by decide +kernel
theorem dX8_cancel_36 : decode cX8_cancel 36 = .ok (.iload_n 2, 1) := by decide +kernel
theorem dX8_cancel_37 : decode cX8_cancel 37 = .ok (.invokestatic 88, 3) := by decide +kernel
theorem dX8_cancel_40 : decode cX8_cancel 40 = .ok (.aload_n 0, 1) := by decide +kernel
theorem dX8_cancel_41 : decode cX8_cancel 41 = .ok (.getfield 7, 3) := by decide +kernel
theorem dX8_cancel_44 : decode cX8_cancel 44 = .ok (.invokestatic 97, 3) := by decide +kernel
theorem dX8_cancel_47 : decode cX8_cancel 47 = .ok (.aload_n 0, 1) := by decide +kernel
theorem dX8_cancel_48 : decode cX8_cancel 48 = .ok (.getfield 7, 3) := by decide +kernel
theorem dX8_cancel_51 : decode cX8_cancel 51 = .ok (.iconst 2, 1) := by decide +kernel
theorem dX8_cancel_52 : decode cX8_cancel 52 = .ok (.iaload, 1) := by decide +kernel
theorem dX8_cancel_53 : decode cX8_cancel 53 = .ok (.ireturn, 1) := by decide +kernel
theorem dX8_move_0 : decode cX8_move 0 = .ok (.aload_n 0, 1) := by decide +kernel
theorem dX8_move_1 : decode cX8_move 1 = .ok (.getfield 7, 3) := by decide +kernel
theorem dX8_move_4 : decode cX8_move 4 = .ok (.iload_n 1, 1) := by decide +kernel
theorem dX8_move_5 : decode cX8_move 5 = .ok (.invokestatic 122, 3) := by decide +kernel
theorem dX8_move_8 : decode cX8_move 8 = .ok (.istore_n 3, 1) := by decide +kernel
theorem dX8_move_9 : decode cX8_move 9 = .ok (.iload_n 3, 1) := by decide +kernel
theorem dX8_move_10 : decode cX8_move 10 = .ok (.sipush (-1005), 3) := by decide +kernel
theorem dX8_move_13 : decode cX8_move 13 = .ok (.if_icmp .ne 7, 3) := by decide +kernel
theorem dX8_move_16 : decode cX8_move 16 = .ok (.sipush (-1001), 3) := by decide +kernel
theorem dX8_move_19 : decode cX8_move 19 = .ok (.ireturn, 1) := by decide +kernel
theorem dX8_move_20 : decode cX8_move 20 = .ok (.iload_n 2, 1) := by decide +kernel
theorem dX8_move_21 : decode cX8_move 21 = .ok (.iconst 0, 1) := by decide +kernel
theorem dX8_move_22 : decode cX8_move 22 = .ok (.ldc 104, 2) := by decide +kernel
theorem dX8_move_24 : decode cX8_move 24 = .ok (.invokestatic 105, 3) := by decide +kernel
theorem dX8_move_27 : decode cX8_move 27 = .ok (.ifCond .ne 7, 3) := by decide +kernel
theorem dX8_move_30 : decode cX8_move 30 = .ok (.sipush (-1002), 3) := by decide +kernel
theorem dX8_move_33 : decode cX8_move 33 = .ok (.ireturn, 1) := by decide +kernel
theorem dX8_move_34 : decode cX8_move 34 = .ok (.iload_n 2, 1) := by decide +kernel
theorem dX8_move_35 : decode cX8_move 35 = .ok (.aload_n 0, 1) := by decide +kernel
theorem dX8_move_36 : decode cX8_move 36 = .ok (.getfield 7, 3) := by decide +kernel
theorem dX8_move_39 : decode cX8_move 39 = .ok (.iconst 0, 1) := by decide +kernel
theorem dX8_move_40 : decode cX8_move 40 = .ok (.iaload, 1) := by decide +kernel
theorem dX8_move_41 : decode cX8_move 41 = .ok (.if_icmp .ge 7, 3) := by decide +kernel
theorem dX8_move_44 : decode cX8_move 44 = .ok (.sipush (-1004), 3) := by decide +kernel
theorem dX8_move_47 : decode cX8_move 47 = .ok (.ireturn, 1) := by decide +kernel
theorem dX8_move_48 : decode cX8_move 48 = .ok (.aload_n 0, 1) := by decide +kernel
theorem dX8_move_49 : decode cX8_move 49 = .ok (.getfield 7, 3) := by decide +kernel
theorem dX8_move_52 : decode cX8_move 52 = .ok (.iload_n 3, 1) := by decide +kernel
theorem dX8_move_53 : decode cX8_move 53 = .ok (.iconst 1, 1) := by decide +kernel
theorem dX8_move_54 : decode cX8_move 54 = .ok (.invokestatic 37, 3) := by decide +kernel
theorem dX8_move_57 : decode cX8_move 57 = .ok (.istore 4, 2) := by decide +kernel
theorem dX8_move_59 : decode cX8_move 59 = .ok (.iload 4, 2) := by decide +kernel
theorem dX8_move_61 : decode cX8_move 61 = .ok (.iload_n 2, 1) := by decide +kernel
theorem dX8_move_62 : decode cX8_move 62 = .ok (.if_icmp .ne 7, 3) := by decide +kernel
theorem dX8_move_65 : decode cX8_move 65 = .ok (.sipush (-1005), 3) := by decide +kernel
theorem dX8_move_68 : decode cX8_move 68 = .ok (.ireturn, 1) := by decide +kernel
theorem dX8_move_69 : decode cX8_move 69 = .ok (.aload_n 0, 1) := by decide +kernel
theorem dX8_move_70 : decode cX8_move 70 = .ok (.invokevirtual 109, 3) := by decide +kernel
theorem dX8_move_73 : decode cX8_move 73 = .ok (.aload_n 0, 1) := by decide +kernel
theorem dX8_move_74 : decode cX8_move 74 = .ok (.getfield 7, 3) := by decide +kernel
theorem dX8_move_77 : decode cX8_move 77 = .ok (.iload_n 3, 1) := by decide +kernel
theorem dX8_move_78 : decode cX8_move 78 = .ok (.invokestatic 125, 3) := by decide +kernel
theorem dX8_move_81 : decode cX8_move 81 = .ok (.aload_n 0, 1) := by decide +kernel
theorem dX8_move_82 : decode cX8_move 82 = .ok (.getfield 7, 3) := by decide +kernel
theorem dX8_move_85 : decode cX8_move 85 = .ok (.iload_n 3, 1) := by decide +kernel
theorem dX8_move_86 : decode cX8_move 86 = .ok (.iconst 1, 1) := by decide +kernel
theorem dX8_move_87 : decode cX8_move 87 = .ok (.iload_n 2, 1) := by decide +kernel
theorem dX8_move_88 : decode cX8_move 88 = .ok (.invokestatic 56, 3) := by decide +kernel
theorem dX8_move_91 : decode cX8_move 91 = .ok (.aload_n 0, 1) := by decide +kernel
theorem dX8_move_92 : decode cX8_move 92 = .ok (.getfield 7, 3) := by decide +kernel
theorem dX8_move_95 : decode cX8_move 95 = .ok (.invokestatic 97, 3) := by decide +kernel
theorem dX8_move_98 : decode cX8_move 98 = .ok (.iload 4, 2) := by decide +kernel
theorem dX8_move_100 : decode cX8_move 100 = .ok (.ireturn, 1) := by decide +kernel
theorem dX8_setsComparers_0 : decode cX8_setsComparers 0 = .ok (.iload_n 1, 1) := by decide +kernel
theorem dX8_setsComparers_1 : decode cX8_setsComparers 1 = .ok (.istore_n 2, 1) := by decide +kernel
theorem dX8_setsComparers_2 : decode cX8_setsComparers 2 = .ok (.iload_n 2, 1) := by decide +kernel
theorem dX8_setsComparers_3 : decode cX8_setsComparers 3 = .ok (.aload_n 0, 1) := by decide +kernel
theorem dX8_setsComparers_4 : decode cX8_setsComparers 4 = .ok (.bipush 10, 2) := by decide +kernel
theorem dX8_setsComparers_6 : decode cX8_setsComparers 6 = .ok (.iaload, 1) := by decide +kernel
theorem dX8_setsComparers_7 : decode cX8_setsComparers 7 = .ok (.if_icmp .ge 14, 3) := by decide +kernel
theorem dX8_setsComparers_10 : decode cX8_setsComparers 10 = .ok (.aload_n 0, 1) := by decide +kernel
theorem dX8_setsComparers_11 : decode cX8_setsComparers 11 = .ok (.iload_n 2, 1) := by decide +kernel
theorem dX8_setsComparers_12 : decode cX8_setsComparers 12 = .ok (.invokestatic 70, 3) := by decide +kernel
theorem dX8_setsComparers_15 : decode cX8_setsComparers 15 = .ok (.iinc 2 1, 3) := by decide +kernel
theorem dX8_setsComparers_18 : decode cX8_setsComparers 18 = .ok (.goto (-16), 3) := by decide +kernel
theorem dX8_setsComparers_21 : decode cX8_setsComparers 21 = .ok (.aload_n 0, 1) := by decide +kernel
theorem dX8_setsComparers_22 : decode cX8_setsComparers 22 = .ok (.bipush 10, 2) := by decide +kernel
theorem dX8_setsComparers_24 : decode cX8_setsComparers 24 = .ok (.iload_n 1, 1) := by decide +kernel
theorem dX8_setsComparers_25 : decode cX8_setsComparers 25 = .ok (.iastore, 1) := by decide +kernel
theorem dX8_setsComparers_26 : decode cX8_setsComparers 26 = .ok (.aload_n 0, 1) := by decide +kernel
theorem dX8_setsComparers_27 : decode cX8_setsComparers 27 = .ok (.invokestatic 97, 3) := by decide +kernel
theorem dX8_setsComparers_30 : decode cX8_setsComparers 30 = .ok (.return_, 1) := by decide +kernel
theorem dX8_setComparers_0 : decode cX8_setComparers 0 = .ok (.iload_n 1, 1) := by decide +kernel
theorem dX8_setComparers_1 : decode cX8_setComparers 1 = .ok (.iconst 1, 1) := by decide +kernel
theorem dX8_setComparers_2 : decode cX8_setComparers 2 = .ok (.iconst 4, 1) := by decide +kernel
theorem dX8_setComparers_3 : decode cX8_setComparers 3 = .ok (.invokestatic 105, 3) := by decide +kernel
theorem dX8_setComparers_6 : decode cX8_setComparers 6 = .ok (.ifCond .ne 7, 3) := by decide +kernel
theorem dX8_setComparers_9 : decode cX8_setComparers 9 = .ok (.sipush (-1002), 3) := by decide +kernel
theorem dX8_setComparers_12 : decode cX8_setComparers 12 = .ok (.ireturn, 1) := by decide +kernel
theorem dX8_setComparers_13 : decode cX8_setComparers 13 = .ok (.aload_n 0, 1) := by decide +kernel
theorem dX8_setComparers_14 : decode cX8_setComparers 14 = .ok (.getfield 7, 3) := by decide +kernel
theorem dX8_setComparers_17 : decode cX8_setComparers 17 = .ok (.bipush 10, 2) := by decide +kernel
theorem dX8_setComparers_19 : decode cX8_setComparers 19 = .ok (.iaload, 1) := by decide +kernel
theorem dX8_setComparers_20 : decode cX8_setComparers 20 = .ok (.istore_n 2, 1) := by decide +kernel
theorem dX8_setComparers_21 : decode cX8_setComparers 21 = .ok (.iload_n 2, 1) := by decide +kernel
theorem dX8_setComparers_22 : decode cX8_setComparers 22 = .ok (.iload_n 1, 1) := by decide +kernel
theorem dX8_setComparers_23 : decode cX8_setComparers 23 = .ok (.if_icmp .ne 7, 3) := by decide +kernel
theorem dX8_setComparers_26 : decode cX8_setComparers 26 = .ok (.sipush (-1005), 3) := by decide +kernel
theorem dX8_setComparers_29 : decode cX8_setComparers 29 = .ok (.ireturn, 1) := by decide +kernel
theorem dX8_setComparers_30 : decode cX8_setComparers 30 = .ok (.aload_n 0, 1) := by decide +kernel
theorem dX8_setComparers_31 : decode cX8_setComparers 31 = .ok (.invokevirtual 109, 3) := by decide +kernel
theorem dX8_setComparers_34 : decode cX8_setComparers 34 = .ok (.aload_n 0, 1) := by decide +kernel
theorem dX8_setComparers_35 : decode cX8_setComparers 35 = .ok (.getfield 7, 3) := by decide +kernel
theorem dX8_setComparers_38 : decode cX8_setComparers 38 = .ok (.iload_n 1, 1) := by decide +kernel
theorem dX8_setComparers_39 : decode cX8_setComparers 39 = .ok (.invokestatic 128, 3) := by decide +kernel
theorem dX8_setComparers_42 : decode cX8_setComparers 42 = .ok (.iload_n 2, 1) := by decide +kernel
theorem dX8_setComparers_43 : decode cX8_setComparers 43 = .ok (.ireturn, 1) := by decide +kernel
theorem dX8_becomes_0 : decode cX8_becomes 0 = .ok (.aload_n 0, 1) := by decide +kernel
theorem dX8_becomes_1 : decode cX8_becomes 1 = .ok (.getfield 7, 3) := by decide +kernel
theorem dX8_becomes_4 : decode cX8_becomes 4 = .ok (.iload_n 1, 1) := by decide +kernel
theorem dX8_becomes_5 : decode cX8_becomes 5 = .ok (.iaload, 1) := by decide +kernel
theorem dX8_becomes_6 : decode cX8_becomes 6 = .ok (.istore_n 3, 1) := by decide +kernel
theorem dX8_becomes_7 : decode cX8_becomes 7 = .ok (.iload_n 3, 1) := by decide +kernel
theorem dX8_becomes_8 : decode cX8_becomes 8 = .ok (.iload_n 2, 1) := by decide +kernel
theorem dX8_becomes_9 : decode cX8_becomes 9 = .ok (.if_icmp .ne 7, 3) := by decide +kernel
theorem dX8_becomes_12 : decode cX8_becomes 12 = .ok (.sipush (-1005), 3) := by decide +kernel
theorem dX8_becomes_15 : decode cX8_becomes 15 = .ok (.ireturn, 1) := by decide +kernel
theorem dX8_becomes_16 : decode cX8_becomes 16 = .ok (.aload_n 0, 1) := by decide +kernel
theorem dX8_becomes_17 : decode cX8_becomes 17 = .ok (.invokevirtual 109, 3) := by decide +kernel
theorem dX8_becomes_20 : decode cX8_becomes 20 = .ok (.aload_n 0, 1) := by decide +kernel
theorem dX8_becomes_21 : decode cX8_becomes 21 = .ok (.getfield 7, 3) := by decide +kernel
theorem dX8_becomes_24 : decode cX8_becomes 24 = .ok (.iload_n 1, 1) := by decide +kernel
theorem dX8_becomes_25 : decode cX8_becomes 25 = .ok (.iload_n 2, 1) := by decide +kernel
theorem dX8_becomes_26 : decode cX8_becomes 26 = .ok (.iastore, 1) := by decide +kernel
theorem dX8_becomes_27 : decode cX8_becomes 27 = .ok (.iload_n 3, 1) := by decide +kernel
theorem dX8_becomes_28 : decode cX8_becomes 28 = .ok (.ireturn, 1) := by decide +kernel
theorem dX8_setWindow_0 : decode cX8_setWindow 0 = .ok (.iload_n 1, 1) := by decide +kernel
theorem dX8_setWindow_1 : decode cX8_setWindow 1 = .ok (.iconst 0, 1) := by decide +kernel
theorem dX8_setWindow_2 : decode cX8_setWindow 2 = .ok (.bipush 20, 2) := by decide +kernel
theorem dX8_setWindow_4 : decode cX8_setWindow 4 = .ok (.invokestatic 105, 3) := by decide +kernel
theorem dX8_setWindow_7 : decode cX8_setWindow 7 = .ok (.ifCond .ne 7, 3) := by decide +kernel
theorem dX8_setWindow_10 : decode cX8_setWindow 10 = .ok (.sipush (-1002), 3) := by decide +kernel
theorem dX8_setWindow_13 : decode cX8_setWindow 13 = .ok (.ireturn, 1) := by decide +kernel
theorem dX8_setWindow_14 : decode cX8_setWindow 14 = .ok (.aload_n 0, 1) := by decide +kernel
theorem dX8_setWindow_15 : decode cX8_setWindow 15 = .ok (.bipush 11, 2) := by decide +kernel
theorem dX8_setWindow_17 : decode cX8_setWindow 17 = .ok (.iload_n 1, 1) := by decide +kernel
theorem dX8_setWindow_18 : decode cX8_setWindow 18 = .ok (.invokevirtual 131, 3) := by decide +kernel
theorem dX8_setWindow_21 : decode cX8_setWindow 21 = .ok (.istore_n 2, 1) := by decide +kernel
theorem dX8_setWindow_22 : decode cX8_setWindow 22 = .ok (.iload_n 2, 1) := by decide +kernel
theorem dX8_setWindow_23 : decode cX8_setWindow 23 = .ok (.sipush (-1005), 3) := by decide +kernel
theorem dX8_setWindow_26 : decode cX8_setWindow 26 = .ok (.if_icmp .eq 10, 3) := by decide +kernel
theorem dX8_setWindow_29 : decode cX8_setWindow 29 = .ok (.aload_n 0, 1) := by decide +kernel
theorem dX8_setWindow_30 : decode cX8_setWindow 30 = .ok (.getfield 7, 3) := by decide +kernel
theorem dX8_setWindow_33 : decode cX8_setWindow 33 = .ok (.invokestatic 97, 3) := by decide +kernel
theorem dX8_setWindow_36 : decode cX8_setWindow 36 = .ok (.iload_n 2, 1) := by decide +kernel
theorem dX8_setWindow_37 : decode cX8_setWindow 37 = .ok (.ireturn, 1) := by decide +kernel
theorem dX8_setLoading_0 : decode cX8_setLoading 0 = .ok (.iload_n 1, 1) := by decide +kernel
theorem dX8_setLoading_1 : decode cX8_setLoading 1 = .ok (.iconst 0, 1) := by decide +kernel
theorem dX8_setLoading_2 : decode cX8_setLoading 2 = .ok (.bipush 9, 2) := by decide +kernel
theorem dX8_setLoading_4 : decode cX8_setLoading 4 = .ok (.invokestatic 105, 3) := by decide +kernel
theorem dX8_setLoading_7 : decode cX8_setLoading 7 = .ok (.ifCond .eq 13, 3) := by decide +kernel
theorem dX8_setLoading_10 : decode cX8_setLoading 10 = .ok (.aload_n 0, 1) := by decide +kernel
theorem dX8_setLoading_11 : decode cX8_setLoading 11 = .ok (.bipush 12, 2) := by decide +kernel
theorem dX8_setLoading_13 : decode cX8_setLoading 13 = .ok (.iload_n 1, 1) := by decide +kernel
theorem dX8_setLoading_14 : decode cX8_setLoading 14 = .ok (.invokevirtual 131, 3) := by decide +kernel
theorem dX8_setLoading_17 : decode cX8_setLoading 17 = .ok (.goto 6, 3) := by decide +kernel
theorem dX8_setLoading_20 : decode cX8_setLoading 20 = .ok (.sipush (-1002), 3) := by decide +kernel
theorem dX8_setLoading_23 : decode cX8_setLoading 23 = .ok (.ireturn, 1) := by decide +kernel
theorem dX8_setDrift_0 : decode cX8_setDrift 0 = .ok (.iload_n 1, 1) := by decide +kernel
theorem dX8_setDrift_1 : decode cX8_setDrift 1 = .ok (.ifCond .eq 26, 3) := by decide +kernel
theorem dX8_setDrift_4 : decode cX8_setDrift 4 = .ok (.iload_n 1, 1) := by decide +kernel
theorem dX8_setDrift_5 : decode cX8_setDrift 5 = .ok (.iconst 2, 1) := by decide +kernel
theorem dX8_setDrift_6 : decode cX8_setDrift 6 = .ok (.sipush 999, 3) := by decide +kernel
theorem dX8_setDrift_9 : decode cX8_setDrift 9 = .ok (.invokestatic 105, 3) := by decide +kernel
theorem dX8_setDrift_12 : decode cX8_setDrift 12 = .ok (.ifCond .ne 15, 3) := by decide +kernel
theorem dX8_setDrift_15 : decode cX8_setDrift 15 = .ok (.iload_n 1, 1) := by decide +kernel
theorem dX8_setDrift_16 : decode cX8_setDrift 16 = .ok (.sipush (-999), 3) := by decide +kernel
theorem dX8_setDrift_19 : decode cX8_setDrift 19 = .ok (.bipush (-2), 2) := by decide +kernel
theorem dX8_setDrift_21 : decode cX8_setDrift 21 = .ok (.invokestatic 105, 3) := by decide +kernel
theorem dX8_setDrift_24 : decode cX8_setDrift 24 = .ok (.ifCond .eq 7, 3) := by decide +kernel
theorem dX8_setDrift_27 : decode cX8_setDrift 27 = .ok (.iconst 1, 1) := by decide +kernel
theorem dX8_setDrift_28 : decode cX8_setDrift 28 = .ok (.goto 4, 3) := by decide +kernel
theorem dX8_setDrift_31 : decode cX8_setDrift 31 = .ok (.iconst 0, 1) := by decide +kernel
theorem dX8_setDrift_32 : decode cX8_setDrift 32 = .ok (.istore_n 2, 1) := by decide +kernel
theorem dX8_setDrift_33 : decode cX8_setDrift 33 = .ok (.iload_n 2, 1) := by decide +kernel
theorem dX8_setDrift_34 : decode cX8_setDrift 34 = .ok (.ifCond .eq 13, 3) := by decide +kernel
theorem dX8_setDrift_37 : decode cX8_setDrift 37 = .ok (.aload_n 0, 1) := by decide +kernel
theorem dX8_setDrift_38 : decode cX8_setDrift 38 = .ok (.bipush 13, 2) := by decide +kernel
theorem dX8_setDrift_40 : decode cX8_setDrift 40 = .ok (.iload_n 1, 1) := by decide +kernel
theorem dX8_setDrift_41 : decode cX8_setDrift 41 = .ok (.invokevirtual 131, 3) := by decide +kernel
theorem dX8_setDrift_44 : decode cX8_setDrift 44 = .ok (.goto 6, 3) := by decide +kernel
theorem dX8_setDrift_47 : decode cX8_setDrift 47 = .ok (.sipush (-1002), 3) := by decide +kernel
theorem dX8_setDrift_50 : decode cX8_setDrift 50 = .ok (.ireturn, 1) := by decide +kernel
theorem dX8_correct_0 : decode cX8_correct 0 = .ok (.iload_n 1, 1) := by decide +kernel
theorem dX8_correct_1 : decode cX8_correct 1 = .ok (.sipush (-999), 3) := by decide +kernel
theorem dX8_correct_4 : decode cX8_correct 4 = .ok (.sipush 999, 3) := by decide +kernel
theorem dX8_correct_7 : decode cX8_correct 7 = .ok (.invokestatic 105, 3) := by decide +kernel
theorem dX8_correct_10 : decode cX8_correct 10 = .ok (.ifCond .ne 7, 3) := by decide +kernel
theorem dX8_correct_13 : decode cX8_correct 13 = .ok (.sipush (-1002), 3) := by decide +kernel
theorem dX8_correct_16 : decode cX8_correct 16 = .ok (.ireturn, 1) := by decide +kernel
theorem dX8_correct_17 : decode cX8_correct 17 = .ok (.aload_n 0, 1) := by decide +kernel
theorem dX8_correct_18 : decode cX8_correct 18 = .ok (.getfield 7, 3) := by decide +kernel
theorem dX8_correct_21 : decode cX8_correct 21 = .ok (.iconst 0, 1) := by decide +kernel
theorem dX8_correct_22 : decode cX8_correct 22 = .ok (.iaload, 1) := by decide +kernel
theorem dX8_correct_23 : decode cX8_correct 23 = .ok (.iload_n 1, 1) := by decide +kernel
theorem dX8_correct_24 : decode cX8_correct 24 = .ok (.iadd, 1) := by decide +kernel
theorem dX8_correct_25 : decode cX8_correct 25 = .ok (.iconst 0, 1) := by decide +kernel
theorem dX8_correct_26 : decode cX8_correct 26 = .ok (.ldc 104, 2) := by decide +kernel
theorem dX8_correct_28 : decode cX8_correct 28 = .ok (.invokestatic 105, 3) := by decide +kernel
theorem dX8_correct_31 : decode cX8_correct 31 = .ok (.ifCond .ne 7, 3) := by decide +kernel
theorem dX8_correct_34 : decode cX8_correct 34 = .ok (.sipush (-1004), 3) := by decide +kernel
theorem dX8_correct_37 : decode cX8_correct 37 = .ok (.ireturn, 1) := by decide +kernel
theorem dX8_correct_38 : decode cX8_correct 38 = .ok (.iload_n 1, 1) := by decide +kernel
theorem dX8_correct_39 : decode cX8_correct 39 = .ok (.ifCond .ne 7, 3) := by decide +kernel
theorem dX8_correct_42 : decode cX8_correct 42 = .ok (.sipush (-1005), 3) := by decide +kernel
theorem dX8_correct_45 : decode cX8_correct 45 = .ok (.ireturn, 1) := by decide +kernel
theorem dX8_correct_46 : decode cX8_correct 46 = .ok (.aload_n 0, 1) := by decide +kernel
theorem dX8_correct_47 : decode cX8_correct 47 = .ok (.invokevirtual 109, 3) := by decide +kernel
theorem dX8_correct_50 : decode cX8_correct 50 = .ok (.aload_n 0, 1) := by decide +kernel
theorem dX8_correct_51 : decode cX8_correct 51 = .ok (.getfield 7, 3) := by decide +kernel
theorem dX8_correct_54 : decode cX8_correct 54 = .ok (.iconst 0, 1) := by decide +kernel
theorem dX8_correct_55 : decode cX8_correct 55 = .ok (.dup2, 1) := by decide +kernel
theorem dX8_correct_56 : decode cX8_correct 56 = .ok (.iaload, 1) := by decide +kernel
theorem dX8_correct_57 : decode cX8_correct 57 = .ok (.iload_n 1, 1) := by decide +kernel
theorem dX8_correct_58 : decode cX8_correct 58 = .ok (.iadd, 1) := by decide +kernel
theorem dX8_correct_59 : decode cX8_correct 59 = .ok (.iastore, 1) := by decide +kernel
theorem dX8_correct_60 : decode cX8_correct 60 = .ok (.aload_n 0, 1) := by decide +kernel
theorem dX8_correct_61 : decode cX8_correct 61 = .ok (.getfield 7, 3) := by decide +kernel
theorem dX8_correct_64 : decode cX8_correct 64 = .ok (.invokestatic 97, 3) := by decide +kernel
theorem dX8_correct_67 : decode cX8_correct 67 = .ok (.aload_n 0, 1) := by decide +kernel
theorem dX8_correct_68 : decode cX8_correct 68 = .ok (.getfield 7, 3) := by decide +kernel
theorem dX8_correct_71 : decode cX8_correct 71 = .ok (.iconst 0, 1) := by decide +kernel
theorem dX8_correct_72 : decode cX8_correct 72 = .ok (.iaload, 1) := by decide +kernel
theorem dX8_correct_73 : decode cX8_correct 73 = .ok (.ireturn, 1) := by decide +kernel
theorem dX8_run_0 : decode cX8_run 0 = .ok (.iload_n 1, 1) := by decide +kernel
theorem dX8_run_1 : decode cX8_run 1 = .ok (.iconst 1, 1) := by decide +kernel
theorem dX8_run_2 : decode cX8_run 2 = .ok (.sipush 1000, 3) := by decide +kernel
theorem dX8_run_5 : decode cX8_run 5 = .ok (.invokestatic 105, 3) := by decide +kernel
theorem dX8_run_8 : decode cX8_run 8 = .ok (.ifCond .ne 7, 3) := by decide +kernel
theorem dX8_run_11 : decode cX8_run 11 = .ok (.sipush (-1002), 3) := by decide +kernel
theorem dX8_run_14 : decode cX8_run 14 = .ok (.ireturn, 1) := by decide +kernel
theorem dX8_run_15 : decode cX8_run 15 = .ok (.aload_n 0, 1) := by decide +kernel
theorem dX8_run_16 : decode cX8_run 16 = .ok (.getfield 7, 3) := by decide +kernel
theorem dX8_run_19 : decode cX8_run 19 = .ok (.iconst 0, 1) := by decide +kernel
theorem dX8_run_20 : decode cX8_run 20 = .ok (.iaload, 1) := by decide +kernel
theorem dX8_run_21 : decode cX8_run 21 = .ok (.iconst 2, 1) := by decide +kernel
theorem dX8_run_22 : decode cX8_run 22 = .ok (.iload_n 1, 1) := by decide +kernel
theorem dX8_run_23 : decode cX8_run 23 = .ok (.imul, 1) := by decide +kernel
theorem dX8_run_24 : decode cX8_run 24 = .ok (.iadd, 1) := by decide +kernel
theorem dX8_run_25 : decode cX8_run 25 = .ok (.ldc 104, 2) := by decide +kernel
theorem dX8_run_27 : decode cX8_run 27 = .ok (.if_icmp .le 7, 3) := by decide +kernel
theorem dX8_run_30 : decode cX8_run 30 = .ok (.sipush (-1003), 3) := by decide +kernel
theorem dX8_run_33 : decode cX8_run 33 = .ok (.ireturn, 1) := by decide +kernel
theorem dX8_run_34 : decode cX8_run 34 = .ok (.aload_n 0, 1) := by decide +kernel
theorem dX8_run_35 : decode cX8_run 35 = .ok (.invokevirtual 109, 3) := by decide +kernel
theorem dX8_run_38 : decode cX8_run 38 = .ok (.aload_n 0, 1) := by decide +kernel
theorem dX8_run_39 : decode cX8_run 39 = .ok (.getfield 7, 3) := by decide +kernel
theorem dX8_run_42 : decode cX8_run 42 = .ok (.iload_n 1, 1) := by decide +kernel
theorem dX8_run_43 : decode cX8_run 43 = .ok (.invokestatic 135, 3) := by decide +kernel
theorem dX8_run_46 : decode cX8_run 46 = .ok (.ireturn, 1) := by decide +kernel
theorem dX8_type_0 : decode cX8_type 0 = .ok (.aload_n 0, 1) := by decide +kernel
theorem dX8_type_1 : decode cX8_type 1 = .ok (.getfield 138, 3) := by decide +kernel
theorem dX8_type_4 : decode cX8_type 4 = .ok (.bipush 60, 2) := by decide +kernel
theorem dX8_type_6 : decode cX8_type 6 = .ok (.if_icmp .ne 7, 3) := by decide +kernel
theorem dX8_type_9 : decode cX8_type 9 = .ok (.sipush (-1003), 3) := by decide +kernel
theorem dX8_type_12 : decode cX8_type 12 = .ok (.ireturn, 1) := by decide +kernel
theorem dX8_type_13 : decode cX8_type 13 = .ok (.aload_n 0, 1) := by decide +kernel
theorem dX8_type_14 : decode cX8_type 14 = .ok (.getfield 22, 3) := by decide +kernel
theorem dX8_type_17 : decode cX8_type 17 = .ok (.aload_n 0, 1) := by decide +kernel
theorem dX8_type_18 : decode cX8_type 18 = .ok (.getfield 138, 3) := by decide +kernel
theorem dX8_type_21 : decode cX8_type 21 = .ok (.iload_n 1, 1) := by decide +kernel
theorem dX8_type_22 : decode cX8_type 22 = .ok (.castore, 1) := by decide +kernel
theorem dX8_type_23 : decode cX8_type 23 = .ok (.aload_n 0, 1) := by decide +kernel
theorem dX8_type_24 : decode cX8_type 24 = .ok (.dup, 1) := by decide +kernel
theorem dX8_type_25 : decode cX8_type 25 = .ok (.getfield 138, 3) := by decide +kernel
theorem dX8_type_28 : decode cX8_type 28 = .ok (.iconst 1, 1) := by decide +kernel
theorem dX8_type_29 : decode cX8_type 29 = .ok (.iadd, 1) := by decide +kernel
theorem dX8_type_30 : decode cX8_type 30 = .ok (.putfield 138, 3) := by decide +kernel
theorem dX8_type_33 : decode cX8_type 33 = .ok (.aload_n 0, 1) := by decide +kernel
theorem dX8_type_34 : decode cX8_type 34 = .ok (.getfield 138, 3) := by decide +kernel
theorem dX8_type_37 : decode cX8_type 37 = .ok (.ireturn, 1) := by decide +kernel
theorem dX8_clearText_0 : decode cX8_clearText 0 = .ok (.aload_n 0, 1) := by decide +kernel
theorem dX8_clearText_1 : decode cX8_clearText 1 = .ok (.getfield 138, 3) := by decide +kernel
theorem dX8_clearText_4 : decode cX8_clearText 4 = .ok (.istore_n 1, 1) := by decide +kernel
theorem dX8_clearText_5 : decode cX8_clearText 5 = .ok (.aload_n 0, 1) := by decide +kernel
theorem dX8_clearText_6 : decode cX8_clearText 6 = .ok (.iconst 0, 1) := by decide +kernel
theorem dX8_clearText_7 : decode cX8_clearText 7 = .ok (.putfield 138, 3) := by decide +kernel
theorem dX8_clearText_10 : decode cX8_clearText 10 = .ok (.iload_n 1, 1) := by decide +kernel
theorem dX8_clearText_11 : decode cX8_clearText 11 = .ok (.ireturn, 1) := by decide +kernel
theorem dX8_sees_0 : decode cX8_sees 0 = .ok (.aload_n 0, 1) := by decide +kernel
theorem dX8_sees_1 : decode cX8_sees 1 = .ok (.getfield 141, 3) := by decide +kernel
theorem dX8_sees_4 : decode cX8_sees 4 = .ok (.aload_n 0, 1) := by decide +kernel
theorem dX8_sees_5 : decode cX8_sees 5 = .ok (.getfield 138, 3) := by decide +kernel
theorem dX8_sees_8 : decode cX8_sees 8 = .ok (.if_icmp .ge 24, 3) := by decide +kernel
theorem dX8_sees_11 : decode cX8_sees 11 = .ok (.aload_n 0, 1) := by decide +kernel
theorem dX8_sees_12 : decode cX8_sees 12 = .ok (.getfield 22, 3) := by decide +kernel
theorem dX8_sees_15 : decode cX8_sees 15 = .ok (.aload_n 0, 1) := by decide +kernel
theorem dX8_sees_16 : decode cX8_sees 16 = .ok (.getfield 141, 3) := by decide +kernel
theorem dX8_sees_19 : decode cX8_sees 19 = .ok (.caload, 1) := by decide +kernel
theorem dX8_sees_20 : decode cX8_sees 20 = .ok (.iload_n 1, 1) := by decide +kernel
theorem dX8_sees_21 : decode cX8_sees 21 = .ok (.iload_n 2, 1) := by decide +kernel
theorem dX8_sees_22 : decode cX8_sees 22 = .ok (.invokestatic 105, 3) := by decide +kernel
theorem dX8_sees_25 : decode cX8_sees 25 = .ok (.ifCond .eq 7, 3) := by decide +kernel
theorem dX8_sees_28 : decode cX8_sees 28 = .ok (.iconst 1, 1) := by decide +kernel
theorem dX8_sees_29 : decode cX8_sees 29 = .ok (.goto 4, 3) := by decide +kernel
theorem dX8_sees_32 : decode cX8_sees 32 = .ok (.iconst 0, 1) := by decide +kernel
theorem dX8_sees_33 : decode cX8_sees 33 = .ok (.ireturn, 1) := by decide +kernel
theorem dX8_takes_0 : decode cX8_takes 0 = .ok (.aload_n 0, 1) := by decide +kernel
theorem dX8_takes_1 : decode cX8_takes 1 = .ok (.iload_n 1, 1) := by decide +kernel
theorem dX8_takes_2 : decode cX8_takes 2 = .ok (.iload_n 1, 1) := by decide +kernel
theorem dX8_takes_3 : decode cX8_takes 3 = .ok (.invokevirtual 144, 3) := by decide +kernel
theorem dX8_takes_6 : decode cX8_takes 6 = .ok (.istore_n 2, 1) := by decide +kernel
theorem dX8_takes_7 : decode cX8_takes 7 = .ok (.aload_n 0, 1) := by decide +kernel
theorem dX8_takes_8 : decode cX8_takes 8 = .ok (.dup, 1) := by decide +kernel
theorem dX8_takes_9 : decode cX8_takes 9 = .ok (.getfield 141, 3) := by decide +kernel
theorem dX8_takes_12 : decode cX8_takes 12 = .ok (.iload_n 2, 1) := by decide +kernel
theorem dX8_takes_13 : decode cX8_takes 13 = .ok (.ifCond .eq 7, 3) := by decide +kernel
theorem dX8_takes_16 : decode cX8_takes 16 = .ok (.iconst 1, 1) := by decide +kernel
theorem dX8_takes_17 : decode cX8_takes 17 = .ok (.goto 4, 3) := by decide +kernel
theorem dX8_takes_20 : decode cX8_takes 20 = .ok (.iconst 0, 1) := by decide +kernel
theorem dX8_takes_21 : decode cX8_takes 21 = .ok (.iadd, 1) := by decide +kernel
theorem dX8_takes_22 : decode cX8_takes 22 = .ok (.putfield 141, 3) := by decide +kernel
theorem dX8_takes_25 : decode cX8_takes 25 = .ok (.iload_n 2, 1) := by decide +kernel
theorem dX8_takes_26 : decode cX8_takes 26 = .ok (.ireturn, 1) := by decide +kernel
theorem dX8_isNumber_0 : decode cX8_isNumber 0 = .ok (.aload_n 0, 1) := by decide +kernel
theorem dX8_isNumber_1 : decode cX8_isNumber 1 = .ok (.bipush 48, 2) := by decide +kernel
theorem dX8_isNumber_3 : decode cX8_isNumber 3 = .ok (.iload_n 2, 1) := by decide +kernel
theorem dX8_isNumber_4 : decode cX8_isNumber 4 = .ok (.iadd, 1) := by decide +kernel
theorem dX8_isNumber_5 : decode cX8_isNumber 5 = .ok (.bipush 48, 2) := by decide +kernel
theorem dX8_isNumber_7 : decode cX8_isNumber 7 = .ok (.iload_n 3, 1) := by decide +kernel
theorem dX8_isNumber_8 : decode cX8_isNumber 8 = .ok (.bipush 9, 2) := by decide +kernel
theorem dX8_isNumber_10 : decode cX8_isNumber 10 = .ok (.if_icmp .ge 7, 3) := by decide +kernel
theorem dX8_isNumber_13 : decode cX8_isNumber 13 = .ok (.iload_n 3, 1) := by decide +kernel
theorem dX8_isNumber_14 : decode cX8_isNumber 14 = .ok (.goto 5, 3) := by decide +kernel
theorem dX8_isNumber_17 : decode cX8_isNumber 17 = .ok (.bipush 9, 2) := by decide +kernel
theorem dX8_isNumber_19 : decode cX8_isNumber 19 = .ok (.iadd, 1) := by decide +kernel
theorem dX8_isNumber_20 : decode cX8_isNumber 20 = .ok (.invokevirtual 144, 3) := by decide +kernel
theorem dX8_isNumber_23 : decode cX8_isNumber 23 = .ok (.ifCond .ne 5, 3) := by decide +kernel
theorem dX8_isNumber_26 : decode cX8_isNumber 26 = .ok (.iconst 0, 1) := by decide +kernel
theorem dX8_isNumber_27 : decode cX8_isNumber 27 = .ok (.ireturn, 1) := by decide +kernel
theorem dX8_isNumber_28 : decode cX8_isNumber 28 = .ok (.aload_n 0, 1) := by decide +kernel
theorem dX8_isNumber_29 : decode cX8_isNumber 29 = .ok (.getfield 22, 3) := by decide +kernel
theorem dX8_isNumber_32 : decode cX8_isNumber 32 = .ok (.aload_n 0, 1) := by decide +kernel
theorem dX8_isNumber_33 : decode cX8_isNumber 33 = .ok (.getfield 141, 3) := by decide +kernel
theorem dX8_isNumber_36 : decode cX8_isNumber 36 = .ok (.caload, 1) := by decide +kernel
theorem dX8_isNumber_37 : decode cX8_isNumber 37 = .ok (.bipush 48, 2) := by decide +kernel
theorem dX8_isNumber_39 : decode cX8_isNumber 39 = .ok (.isub, 1) := by decide +kernel
theorem dX8_isNumber_40 : decode cX8_isNumber 40 = .ok (.istore 4, 2) := by decide +kernel
theorem dX8_isNumber_42 : decode cX8_isNumber 42 = .ok (.aload_n 0, 1) := by decide +kernel
theorem dX8_isNumber_43 : decode cX8_isNumber 43 = .ok (.dup, 1) := by decide +kernel
theorem dX8_isNumber_44 : decode cX8_isNumber 44 = .ok (.getfield 141, 3) := by decide +kernel
theorem dX8_isNumber_47 : decode cX8_isNumber 47 = .ok (.iconst 1, 1) := by decide +kernel
theorem dX8_isNumber_48 : decode cX8_isNumber 48 = .ok (.iadd, 1) := by decide +kernel
theorem dX8_isNumber_49 : decode cX8_isNumber 49 = .ok (.putfield 141, 3) := by decide +kernel
theorem dX8_isNumber_52 : decode cX8_isNumber 52 = .ok (.iload 4, 2) := by decide +kernel
theorem dX8_isNumber_54 : decode cX8_isNumber 54 = .ok (.ifCond .le 69, 3) := by decide +kernel
theorem dX8_isNumber_57 : decode cX8_isNumber 57 = .ok (.aload_n 0, 1) := by decide +kernel
theorem dX8_isNumber_58 : decode cX8_isNumber 58 = .ok (.bipush 48, 2) := by decide +kernel
theorem dX8_isNumber_60 : decode cX8_isNumber 60 = .ok (.bipush 57, 2) := by decide +kernel
theorem dX8_isNumber_62 : decode cX8_isNumber 62 = .ok (.invokevirtual 144, 3) := by decide +kernel
theorem dX8_isNumber_65 : decode cX8_isNumber 65 = .ok (.ifCond .eq 58, 3) := by decide +kernel
theorem dX8_isNumber_68 : decode cX8_isNumber 68 = .ok (.bipush 10, 2) := by decide +kernel
theorem dX8_isNumber_70 : decode cX8_isNumber 70 = .ok (.iload 4, 2) := by decide +kernel
theorem dX8_isNumber_72 : decode cX8_isNumber 72 = .ok (.imul, 1) := by decide +kernel
theorem dX8_isNumber_73 : decode cX8_isNumber 73 = .ok (.aload_n 0, 1) := by decide +kernel
theorem dX8_isNumber_74 : decode cX8_isNumber 74 = .ok (.getfield 22, 3) := by decide +kernel
theorem dX8_isNumber_77 : decode cX8_isNumber 77 = .ok (.aload_n 0, 1) := by decide +kernel
theorem dX8_isNumber_78 : decode cX8_isNumber 78 = .ok (.getfield 141, 3) := by decide +kernel
theorem dX8_isNumber_81 : decode cX8_isNumber 81 = .ok (.caload, 1) := by decide +kernel
theorem dX8_isNumber_82 : decode cX8_isNumber 82 = .ok (.iadd, 1) := by decide +kernel
theorem dX8_isNumber_83 : decode cX8_isNumber 83 = .ok (.bipush 48, 2) := by decide +kernel
theorem dX8_isNumber_85 : decode cX8_isNumber 85 = .ok (.isub, 1) := by decide +kernel
theorem dX8_isNumber_86 : decode cX8_isNumber 86 = .ok (.iload_n 3, 1) := by decide +kernel
theorem dX8_isNumber_87 : decode cX8_isNumber 87 = .ok (.if_icmp .gt 36, 3) := by decide +kernel
theorem dX8_isNumber_90 : decode cX8_isNumber 90 = .ok (.bipush 10, 2) := by decide +kernel
theorem dX8_isNumber_92 : decode cX8_isNumber 92 = .ok (.iload 4, 2) := by decide +kernel
theorem dX8_isNumber_94 : decode cX8_isNumber 94 = .ok (.imul, 1) := by decide +kernel
theorem dX8_isNumber_95 : decode cX8_isNumber 95 = .ok (.aload_n 0, 1) := by decide +kernel
theorem dX8_isNumber_96 : decode cX8_isNumber 96 = .ok (.getfield 22, 3) := by decide +kernel
theorem dX8_isNumber_99 : decode cX8_isNumber 99 = .ok (.aload_n 0, 1) := by decide +kernel
theorem dX8_isNumber_100 : decode cX8_isNumber 100 = .ok (.getfield 141, 3) := by decide +kernel
theorem dX8_isNumber_103 : decode cX8_isNumber 103 = .ok (.caload, 1) := by decide +kernel
theorem dX8_isNumber_104 : decode cX8_isNumber 104 = .ok (.iadd, 1) := by decide +kernel
theorem dX8_isNumber_105 : decode cX8_isNumber 105 = .ok (.bipush 48, 2) := by decide +kernel
theorem dX8_isNumber_107 : decode cX8_isNumber 107 = .ok (.isub, 1) := by decide +kernel
theorem dX8_isNumber_108 : decode cX8_isNumber 108 = .ok (.istore 4, 2) := by decide +kernel
theorem dX8_isNumber_110 : decode cX8_isNumber 110 = .ok (.aload_n 0, 1) := by decide +kernel
theorem dX8_isNumber_111 : decode cX8_isNumber 111 = .ok (.dup, 1) := by decide +kernel
theorem dX8_isNumber_112 : decode cX8_isNumber 112 = .ok (.getfield 141, 3) := by decide +kernel
theorem dX8_isNumber_115 : decode cX8_isNumber 115 = .ok (.iconst 1, 1) := by decide +kernel
theorem dX8_isNumber_116 : decode cX8_isNumber 116 = .ok (.iadd, 1) := by decide +kernel
theorem dX8_isNumber_117 : decode cX8_isNumber 117 = .ok (.putfield 141, 3) := by decide +kernel
theorem dX8_isNumber_120 : decode cX8_isNumber 120 = .ok (.goto (-68), 3) := by decide +kernel
theorem dX8_isNumber_123 : decode cX8_isNumber 123 = .ok (.aload_n 0, 1) := by decide +kernel
theorem dX8_isNumber_124 : decode cX8_isNumber 124 = .ok (.getfield 26, 3) := by decide +kernel
theorem dX8_isNumber_127 : decode cX8_isNumber 127 = .ok (.iconst 3, 1) := by decide +kernel
theorem dX8_isNumber_128 : decode cX8_isNumber 128 = .ok (.aload_n 0, 1) := by decide +kernel
theorem dX8_isNumber_129 : decode cX8_isNumber 129 = .ok (.getfield 119, 3) := by decide +kernel
theorem dX8_isNumber_132 : decode cX8_isNumber 132 = .ok (.imul, 1) := by decide +kernel
theorem dX8_isNumber_133 : decode cX8_isNumber 133 = .ok (.iload_n 1, 1) := by decide +kernel
theorem dX8_isNumber_134 : decode cX8_isNumber 134 = .ok (.iadd, 1) := by decide +kernel
theorem dX8_isNumber_135 : decode cX8_isNumber 135 = .ok (.iload 4, 2) := by decide +kernel
theorem dX8_isNumber_137 : decode cX8_isNumber 137 = .ok (.iastore, 1) := by decide +kernel
theorem dX8_isNumber_138 : decode cX8_isNumber 138 = .ok (.iconst 1, 1) := by decide +kernel
theorem dX8_isNumber_139 : decode cX8_isNumber 139 = .ok (.ireturn, 1) := by decide +kernel
theorem dX8_isAlarmTold_0 : decode cX8_isAlarmTold 0 = .ok (.aload_n 0, 1) := by decide +kernel
theorem dX8_isAlarmTold_1 : decode cX8_isAlarmTold 1 = .ok (.getfield 26, 3) := by decide +kernel
theorem dX8_isAlarmTold_4 : decode cX8_isAlarmTold 4 = .ok (.iconst 3, 1) := by decide +kernel
theorem dX8_isAlarmTold_5 : decode cX8_isAlarmTold 5 = .ok (.aload_n 0, 1) := by decide +kernel
theorem dX8_isAlarmTold_6 : decode cX8_isAlarmTold 6 = .ok (.getfield 119, 3) := by decide +kernel
theorem dX8_isAlarmTold_9 : decode cX8_isAlarmTold 9 = .ok (.imul, 1) := by decide +kernel
theorem dX8_isAlarmTold_10 : decode cX8_isAlarmTold 10 = .ok (.iconst 1, 1) := by decide +kernel
theorem dX8_isAlarmTold_11 : decode cX8_isAlarmTold 11 = .ok (.iadd, 1) := by decide +kernel
theorem dX8_isAlarmTold_12 : decode cX8_isAlarmTold 12 = .ok (.iconst 0, 1) := by decide +kernel
theorem dX8_isAlarmTold_13 : decode cX8_isAlarmTold 13 = .ok (.iastore, 1) := by decide +kernel
theorem dX8_isAlarmTold_14 : decode cX8_isAlarmTold 14 = .ok (.aload_n 0, 1) := by decide +kernel
theorem dX8_isAlarmTold_15 : decode cX8_isAlarmTold 15 = .ok (.getfield 26, 3) := by decide +kernel
theorem dX8_isAlarmTold_18 : decode cX8_isAlarmTold 18 = .ok (.iconst 3, 1) := by decide +kernel
theorem dX8_isAlarmTold_19 : decode cX8_isAlarmTold 19 = .ok (.aload_n 0, 1) := by decide +kernel
theorem dX8_isAlarmTold_20 : decode cX8_isAlarmTold 20 = .ok (.getfield 119, 3) := by decide +kernel
theorem dX8_isAlarmTold_23 : decode cX8_isAlarmTold 23 = .ok (.imul, 1) := by decide +kernel
theorem dX8_isAlarmTold_24 : decode cX8_isAlarmTold 24 = .ok (.iconst 2, 1) := by decide +kernel
theorem dX8_isAlarmTold_25 : decode cX8_isAlarmTold 25 = .ok (.iadd, 1) := by decide +kernel
theorem dX8_isAlarmTold_26 : decode cX8_isAlarmTold 26 = .ok (.iconst 0, 1) := by decide +kernel
theorem dX8_isAlarmTold_27 : decode cX8_isAlarmTold 27 = .ok (.iastore, 1) := by decide +kernel
theorem dX8_isAlarmTold_28 : decode cX8_isAlarmTold 28 = .ok (.aload_n 0, 1) := by decide +kernel
theorem dX8_isAlarmTold_29 : decode cX8_isAlarmTold 29 = .ok (.iconst 0, 1) := by decide +kernel
theorem dX8_isAlarmTold_30 : decode cX8_isAlarmTold 30 = .ok (.iconst 0, 1) := by decide +kernel
theorem dX8_isAlarmTold_31 : decode cX8_isAlarmTold 31 = .ok (.ldc 104, 2) := by decide +kernel
theorem dX8_isAlarmTold_33 : decode cX8_isAlarmTold 33 = .ok (.invokevirtual 148, 3) := by decide +kernel
theorem dX8_isAlarmTold_36 : decode cX8_isAlarmTold 36 = .ok (.ifCond .eq 24, 3) := by decide +kernel
theorem dX8_isAlarmTold_39 : decode cX8_isAlarmTold 39 = .ok (.aload_n 0, 1) := by decide +kernel
theorem dX8_isAlarmTold_40 : decode cX8_isAlarmTold 40 = .ok (.bipush 47, 2) := by decide +kernel
theorem dX8_isAlarmTold_42 : decode cX8_isAlarmTold 42 = .ok (.invokevirtual 151, 3) := by decide +kernel
theorem dX8_isAlarmTold_45 : decode cX8_isAlarmTold 45 = .ok (.ifCond .eq 17, 3) := by decide +kernel
theorem dX8_isAlarmTold_48 : decode cX8_isAlarmTold 48 = .ok (.aload_n 0, 1) := by decide +kernel
theorem dX8_isAlarmTold_49 : decode cX8_isAlarmTold 49 = .ok (.iconst 1, 1) := by decide +kernel
theorem dX8_isAlarmTold_50 : decode cX8_isAlarmTold 50 = .ok (.iconst 1, 1) := by decide +kernel
theorem dX8_isAlarmTold_51 : decode cX8_isAlarmTold 51 = .ok (.sipush 9999, 3) := by decide +kernel
theorem dX8_isAlarmTold_54 : decode cX8_isAlarmTold 54 = .ok (.invokevirtual 148, 3) := by decide +kernel
theorem dX8_isAlarmTold_57 : decode cX8_isAlarmTold 57 = .ok (.ifCond .ne 5, 3) := by decide +kernel
theorem dX8_isAlarmTold_60 : decode cX8_isAlarmTold 60 = .ok (.iconst 0, 1) := by decide +kernel
theorem dX8_isAlarmTold_61 : decode cX8_isAlarmTold 61 = .ok (.ireturn, 1) := by decide +kernel
theorem dX8_isAlarmTold_62 : decode cX8_isAlarmTold 62 = .ok (.aload_n 0, 1) := by decide +kernel
theorem dX8_isAlarmTold_63 : decode cX8_isAlarmTold 63 = .ok (.bipush 33, 2) := by decide +kernel
theorem dX8_isAlarmTold_65 : decode cX8_isAlarmTold 65 = .ok (.invokevirtual 151, 3) := by decide +kernel
theorem dX8_isAlarmTold_68 : decode cX8_isAlarmTold 68 = .ok (.ifCond .eq 13, 3) := by decide +kernel
theorem dX8_isAlarmTold_71 : decode cX8_isAlarmTold 71 = .ok (.aload_n 0, 1) := by decide +kernel
theorem dX8_isAlarmTold_72 : decode cX8_isAlarmTold 72 = .ok (.iconst 2, 1) := by decide +kernel
theorem dX8_isAlarmTold_73 : decode cX8_isAlarmTold 73 = .ok (.iconst 1, 1) := by decide +kernel
theorem dX8_isAlarmTold_74 : decode cX8_isAlarmTold 74 = .ok (.iconst 3, 1) := by decide +kernel
theorem dX8_isAlarmTold_75 : decode cX8_isAlarmTold 75 = .ok (.invokevirtual 148, 3) := by decide +kernel
theorem dX8_isAlarmTold_78 : decode cX8_isAlarmTold 78 = .ok (.ifCond .eq 7, 3) := by decide +kernel
theorem dX8_isAlarmTold_81 : decode cX8_isAlarmTold 81 = .ok (.iconst 1, 1) := by decide +kernel
theorem dX8_isAlarmTold_82 : decode cX8_isAlarmTold 82 = .ok (.goto 4, 3) := by decide +kernel
theorem dX8_isAlarmTold_85 : decode cX8_isAlarmTold 85 = .ok (.iconst 0, 1) := by decide +kernel
theorem dX8_isAlarmTold_86 : decode cX8_isAlarmTold 86 = .ok (.ireturn, 1) := by decide +kernel
theorem dX8_fault_0 : decode cX8_fault 0 = .ok (.aload_n 0, 1) := by decide +kernel
theorem dX8_fault_1 : decode cX8_fault 1 = .ok (.iconst 0, 1) := by decide +kernel
theorem dX8_fault_2 : decode cX8_fault 2 = .ok (.putfield 141, 3) := by decide +kernel
theorem dX8_fault_5 : decode cX8_fault 5 = .ok (.aload_n 0, 1) := by decide +kernel
theorem dX8_fault_6 : decode cX8_fault 6 = .ok (.iconst 0, 1) := by decide +kernel
theorem dX8_fault_7 : decode cX8_fault 7 = .ok (.putfield 119, 3) := by decide +kernel
theorem dX8_fault_10 : decode cX8_fault 10 = .ok (.iconst 1, 1) := by decide +kernel
theorem dX8_fault_11 : decode cX8_fault 11 = .ok (.istore_n 1, 1) := by decide +kernel
theorem dX8_fault_12 : decode cX8_fault 12 = .ok (.iload_n 1, 1) := by decide +kernel
theorem dX8_fault_13 : decode cX8_fault 13 = .ok (.ifCond .eq 35, 3) := by decide +kernel
theorem dX8_fault_16 : decode cX8_fault 16 = .ok (.aload_n 0, 1) := by decide +kernel
theorem dX8_fault_17 : decode cX8_fault 17 = .ok (.invokevirtual 155, 3) := by decide +kernel
theorem dX8_fault_20 : decode cX8_fault 20 = .ok (.ifCond .ne 8, 3) := by decide +kernel
theorem dX8_fault_23 : decode cX8_fault 23 = .ok (.aload_n 0, 1) := by decide +kernel
theorem dX8_fault_24 : decode cX8_fault 24 = .ok (.getfield 141, 3) := by decide +kernel
theorem dX8_fault_27 : decode cX8_fault 27 = .ok (.ireturn, 1) := by decide +kernel
theorem dX8_fault_28 : decode cX8_fault 28 = .ok (.aload_n 0, 1) := by decide +kernel
theorem dX8_fault_29 : decode cX8_fault 29 = .ok (.dup, 1) := by decide +kernel
theorem dX8_fault_30 : decode cX8_fault 30 = .ok (.getfield 119, 3) := by decide +kernel
theorem dX8_fault_33 : decode cX8_fault 33 = .ok (.iconst 1, 1) := by decide +kernel
theorem dX8_fault_34 : decode cX8_fault 34 = .ok (.iadd, 1) := by decide +kernel
theorem dX8_fault_35 : decode cX8_fault 35 = .ok (.putfield 119, 3) := by decide +kernel
theorem dX8_fault_38 : decode cX8_fault 38 = .ok (.aload_n 0, 1) := by decide +kernel
theorem dX8_fault_39 : decode cX8_fault 39 = .ok (.bipush 59, 2) := by decide +kernel
theorem dX8_fault_41 : decode cX8_fault 41 = .ok (.invokevirtual 151, 3) := by decide +kernel
theorem dX8_fault_44 : decode cX8_fault 44 = .ok (.istore_n 1, 1) := by decide +kernel
theorem dX8_fault_45 : decode cX8_fault 45 = .ok (.goto (-33), 3) := by decide +kernel
theorem dX8_fault_48 : decode cX8_fault 48 = .ok (.aload_n 0, 1) := by decide +kernel
theorem dX8_fault_49 : decode cX8_fault 49 = .ok (.getfield 141, 3) := by decide +kernel
theorem dX8_fault_52 : decode cX8_fault 52 = .ok (.aload_n 0, 1) := by decide +kernel
theorem dX8_fault_53 : decode cX8_fault 53 = .ok (.getfield 138, 3) := by decide +kernel
theorem dX8_fault_56 : decode cX8_fault 56 = .ok (.if_icmp .ne 9, 3) := by decide +kernel
theorem dX8_fault_59 : decode cX8_fault 59 = .ok (.sipush (-1005), 3) := by decide +kernel
theorem dX8_fault_62 : decode cX8_fault 62 = .ok (.goto 7, 3) := by decide +kernel
theorem dX8_fault_65 : decode cX8_fault 65 = .ok (.aload_n 0, 1) := by decide +kernel
theorem dX8_fault_66 : decode cX8_fault 66 = .ok (.getfield 141, 3) := by decide +kernel
theorem dX8_fault_69 : decode cX8_fault 69 = .ok (.ireturn, 1) := by decide +kernel
theorem dX8_undo_0 : decode cX8_undo 0 = .ok (.aload_n 0, 1) := by decide +kernel
theorem dX8_undo_1 : decode cX8_undo 1 = .ok (.getfield 29, 3) := by decide +kernel
theorem dX8_undo_4 : decode cX8_undo 4 = .ok (.ifCond .ne 7, 3) := by decide +kernel
theorem dX8_undo_7 : decode cX8_undo 7 = .ok (.sipush (-1005), 3) := by decide +kernel
theorem dX8_undo_10 : decode cX8_undo 10 = .ok (.ireturn, 1) := by decide +kernel
theorem dX8_undo_11 : decode cX8_undo 11 = .ok (.aload_n 0, 1) := by decide +kernel
theorem dX8_undo_12 : decode cX8_undo 12 = .ok (.dup, 1) := by decide +kernel
theorem dX8_undo_13 : decode cX8_undo 13 = .ok (.getfield 29, 3) := by decide +kernel
theorem dX8_undo_16 : decode cX8_undo 16 = .ok (.iconst 1, 1) := by decide +kernel
theorem dX8_undo_17 : decode cX8_undo 17 = .ok (.isub, 1) := by decide +kernel
theorem dX8_undo_18 : decode cX8_undo 18 = .ok (.putfield 29, 3) := by decide +kernel
theorem dX8_undo_21 : decode cX8_undo 21 = .ok (.aload_n 0, 1) := by decide +kernel
theorem dX8_undo_22 : decode cX8_undo 22 = .ok (.getfield 16, 3) := by decide +kernel
theorem dX8_undo_25 : decode cX8_undo 25 = .ok (.sipush 195, 3) := by decide +kernel
theorem dX8_undo_28 : decode cX8_undo 28 = .ok (.aload_n 0, 1) := by decide +kernel
theorem dX8_undo_29 : decode cX8_undo 29 = .ok (.getfield 29, 3) := by decide +kernel
theorem dX8_undo_32 : decode cX8_undo 32 = .ok (.imul, 1) := by decide +kernel
theorem dX8_undo_33 : decode cX8_undo 33 = .ok (.aload_n 0, 1) := by decide +kernel
theorem dX8_undo_34 : decode cX8_undo 34 = .ok (.getfield 7, 3) := by decide +kernel
theorem dX8_undo_37 : decode cX8_undo 37 = .ok (.iconst 0, 1) := by decide +kernel
theorem dX8_undo_38 : decode cX8_undo 38 = .ok (.invokestatic 33, 3) := by decide +kernel
theorem dX8_undo_41 : decode cX8_undo 41 = .ok (.aload_n 0, 1) := by decide +kernel
theorem dX8_undo_42 : decode cX8_undo 42 = .ok (.getfield 29, 3) := by decide +kernel
theorem dX8_undo_45 : decode cX8_undo 45 = .ok (.ireturn, 1) := by decide +kernel
theorem dX8_keep_0 : decode cX8_keep 0 = .ok (.aload_n 0, 1) := by decide +kernel
theorem dX8_keep_1 : decode cX8_keep 1 = .ok (.getfield 7, 3) := by decide +kernel
theorem dX8_keep_4 : decode cX8_keep 4 = .ok (.iconst 0, 1) := by decide +kernel
theorem dX8_keep_5 : decode cX8_keep 5 = .ok (.aload_n 0, 1) := by decide +kernel
theorem dX8_keep_6 : decode cX8_keep 6 = .ok (.getfield 19, 3) := by decide +kernel
theorem dX8_keep_9 : decode cX8_keep 9 = .ok (.iconst 0, 1) := by decide +kernel
theorem dX8_keep_10 : decode cX8_keep 10 = .ok (.invokestatic 33, 3) := by decide +kernel
theorem dX8_keep_13 : decode cX8_keep 13 = .ok (.aload_n 0, 1) := by decide +kernel
theorem dX8_keep_14 : decode cX8_keep 14 = .ok (.iconst 1, 1) := by decide +kernel
theorem dX8_keep_15 : decode cX8_keep 15 = .ok (.putfield 159, 3) := by decide +kernel
theorem dX8_keep_18 : decode cX8_keep 18 = .ok (.aload_n 0, 1) := by decide +kernel
theorem dX8_keep_19 : decode cX8_keep 19 = .ok (.getfield 7, 3) := by decide +kernel
theorem dX8_keep_22 : decode cX8_keep 22 = .ok (.iconst 0, 1) := by decide +kernel
theorem dX8_keep_23 : decode cX8_keep 23 = .ok (.iaload, 1) := by decide +kernel
theorem dX8_keep_24 : decode cX8_keep 24 = .ok (.ireturn, 1) := by decide +kernel
theorem dX8_restore_0 : decode cX8_restore 0 = .ok (.aload_n 0, 1) := by decide +kernel
theorem dX8_restore_1 : decode cX8_restore 1 = .ok (.getfield 159, 3) := by decide +kernel
theorem dX8_restore_4 : decode cX8_restore 4 = .ok (.ifCond .ne 7, 3) := by decide +kernel
theorem dX8_restore_7 : decode cX8_restore 7 = .ok (.sipush (-1005), 3) := by decide +kernel
theorem dX8_restore_10 : decode cX8_restore 10 = .ok (.ireturn, 1) := by decide +kernel
theorem dX8_restore_11 : decode cX8_restore 11 = .ok (.aload_n 0, 1) := by decide +kernel
theorem dX8_restore_12 : decode cX8_restore 12 = .ok (.invokevirtual 109, 3) := by decide +kernel
theorem dX8_restore_15 : decode cX8_restore 15 = .ok (.aload_n 0, 1) := by decide +kernel
theorem dX8_restore_16 : decode cX8_restore 16 = .ok (.getfield 19, 3) := by decide +kernel
theorem dX8_restore_19 : decode cX8_restore 19 = .ok (.iconst 0, 1) := by decide +kernel
theorem dX8_restore_20 : decode cX8_restore 20 = .ok (.aload_n 0, 1) := by decide +kernel
theorem dX8_restore_21 : decode cX8_restore 21 = .ok (.getfield 7, 3) := by decide +kernel
theorem dX8_restore_24 : decode cX8_restore 24 = .ok (.iconst 0, 1) := by decide +kernel
theorem dX8_restore_25 : decode cX8_restore 25 = .ok (.invokestatic 33, 3) := by decide +kernel
theorem dX8_restore_28 : decode cX8_restore 28 = .ok (.aload_n 0, 1) := by decide +kernel
theorem dX8_restore_29 : decode cX8_restore 29 = .ok (.getfield 7, 3) := by decide +kernel
theorem dX8_restore_32 : decode cX8_restore 32 = .ok (.iconst 0, 1) := by decide +kernel
theorem dX8_restore_33 : decode cX8_restore 33 = .ok (.iaload, 1) := by decide +kernel
theorem dX8_restore_34 : decode cX8_restore 34 = .ok (.ireturn, 1) := by decide +kernel
theorem dX8_alarm_0 : decode cX8_alarm 0 = .ok (.aload_n 0, 1) := by decide +kernel
theorem dX8_alarm_1 : decode cX8_alarm 1 = .ok (.getfield 7, 3) := by decide +kernel
theorem dX8_alarm_4 : decode cX8_alarm 4 = .ok (.iload_n 1, 1) := by decide +kernel
theorem dX8_alarm_5 : decode cX8_alarm 5 = .ok (.invokestatic 122, 3) := by decide +kernel
theorem dX8_alarm_8 : decode cX8_alarm 8 = .ok (.istore_n 3, 1) := by decide +kernel
theorem dX8_alarm_9 : decode cX8_alarm 9 = .ok (.iload_n 3, 1) := by decide +kernel
theorem dX8_alarm_10 : decode cX8_alarm 10 = .ok (.sipush (-1005), 3) := by decide +kernel
theorem dX8_alarm_13 : decode cX8_alarm 13 = .ok (.if_icmp .ne 7, 3) := by decide +kernel
theorem dX8_alarm_16 : decode cX8_alarm 16 = .ok (.sipush (-1001), 3) := by decide +kernel
theorem dX8_alarm_19 : decode cX8_alarm 19 = .ok (.ireturn, 1) := by decide +kernel
theorem dX8_alarm_20 : decode cX8_alarm 20 = .ok (.iload_n 2, 1) := by decide +kernel
theorem dX8_alarm_21 : decode cX8_alarm 21 = .ok (.tableswitch 85 0 6 #[43, 43, 43, 43, 55, 64, 74], 43) := by decide +kernel
theorem dX8_alarm_64 : decode cX8_alarm 64 = .ok (.aload_n 0, 1) := by decide +kernel
theorem dX8_alarm_65 : decode cX8_alarm 65 = .ok (.getfield 7, 3) := by decide +kernel
theorem dX8_alarm_68 : decode cX8_alarm 68 = .ok (.iload_n 3, 1) := by decide +kernel
theorem dX8_alarm_69 : decode cX8_alarm 69 = .ok (.iconst 1, 1) := by decide +kernel
theorem dX8_alarm_70 : decode cX8_alarm 70 = .ok (.iload_n 2, 1) := by decide +kernel
theorem dX8_alarm_71 : decode cX8_alarm 71 = .ok (.iadd, 1) := by decide +kernel
theorem dX8_alarm_72 : decode cX8_alarm 72 = .ok (.invokestatic 37, 3) := by decide +kernel
theorem dX8_alarm_75 : decode cX8_alarm 75 = .ok (.ireturn, 1) := by decide +kernel
theorem dX8_alarm_76 : decode cX8_alarm 76 = .ok (.aload_n 0, 1) := by decide +kernel
theorem dX8_alarm_77 : decode cX8_alarm 77 = .ok (.getfield 7, 3) := by decide +kernel
theorem dX8_alarm_80 : decode cX8_alarm 80 = .ok (.iload_n 3, 1) := by decide +kernel
theorem dX8_alarm_81 : decode cX8_alarm 81 = .ok (.invokestatic 163, 3) := by decide +kernel
theorem dX8_alarm_84 : decode cX8_alarm 84 = .ok (.ireturn, 1) := by decide +kernel
theorem dX8_alarm_85 : decode cX8_alarm 85 = .ok (.aload_n 0, 1) := by decide +kernel
theorem dX8_alarm_86 : decode cX8_alarm 86 = .ok (.getfield 7, 3) := by decide +kernel
theorem dX8_alarm_89 : decode cX8_alarm 89 = .ok (.iload_n 3, 1) := by decide +kernel
theorem dX8_alarm_90 : decode cX8_alarm 90 = .ok (.iconst 5, 1) := by decide +kernel
theorem dX8_alarm_91 : decode cX8_alarm 91 = .ok (.invokestatic 37, 3) := by decide +kernel
theorem dX8_alarm_94 : decode cX8_alarm 94 = .ok (.ireturn, 1) := by decide +kernel
theorem dX8_alarm_95 : decode cX8_alarm 95 = .ok (.aload_n 0, 1) := by decide +kernel
theorem dX8_alarm_96 : decode cX8_alarm 96 = .ok (.getfield 7, 3) := by decide +kernel
theorem dX8_alarm_99 : decode cX8_alarm 99 = .ok (.iload_n 3, 1) := by decide +kernel
theorem dX8_alarm_100 : decode cX8_alarm 100 = .ok (.bipush 6, 2) := by decide +kernel
theorem dX8_alarm_102 : decode cX8_alarm 102 = .ok (.invokestatic 37, 3) := by decide +kernel
theorem dX8_alarm_105 : decode cX8_alarm 105 = .ok (.ireturn, 1) := by decide +kernel
theorem dX8_alarm_106 : decode cX8_alarm 106 = .ok (.sipush (-1002), 3) := by decide +kernel
theorem dX8_alarm_109 : decode cX8_alarm 109 = .ok (.ireturn, 1) := by decide +kernel
theorem dX8_comparer_0 : decode cX8_comparer 0 = .ok (.iload_n 1, 1) := by decide +kernel
theorem dX8_comparer_1 : decode cX8_comparer 1 = .ok (.iconst 0, 1) := by decide +kernel
theorem dX8_comparer_2 : decode cX8_comparer 2 = .ok (.aload_n 0, 1) := by decide +kernel
theorem dX8_comparer_3 : decode cX8_comparer 3 = .ok (.getfield 7, 3) := by decide +kernel
theorem dX8_comparer_6 : decode cX8_comparer 6 = .ok (.bipush 10, 2) := by decide +kernel
theorem dX8_comparer_8 : decode cX8_comparer 8 = .ok (.iaload, 1) := by decide +kernel
theorem dX8_comparer_9 : decode cX8_comparer 9 = .ok (.iconst 1, 1) := by decide +kernel
theorem dX8_comparer_10 : decode cX8_comparer 10 = .ok (.isub, 1) := by decide +kernel
theorem dX8_comparer_11 : decode cX8_comparer 11 = .ok (.invokestatic 105, 3) := by decide +kernel
theorem dX8_comparer_14 : decode cX8_comparer 14 = .ok (.ifCond .ne 7, 3) := by decide +kernel
theorem dX8_comparer_17 : decode cX8_comparer 17 = .ok (.sipush (-1001), 3) := by decide +kernel
theorem dX8_comparer_20 : decode cX8_comparer 20 = .ok (.ireturn, 1) := by decide +kernel
theorem dX8_comparer_21 : decode cX8_comparer 21 = .ok (.aload_n 0, 1) := by decide +kernel
theorem dX8_comparer_22 : decode cX8_comparer 22 = .ok (.getfield 7, 3) := by decide +kernel
theorem dX8_comparer_25 : decode cX8_comparer 25 = .ok (.iload_n 1, 1) := by decide +kernel
theorem dX8_comparer_26 : decode cX8_comparer 26 = .ok (.invokestatic 78, 3) := by decide +kernel
theorem dX8_comparer_29 : decode cX8_comparer 29 = .ok (.istore_n 3, 1) := by decide +kernel
theorem dX8_comparer_30 : decode cX8_comparer 30 = .ok (.iload_n 2, 1) := by decide +kernel
theorem dX8_comparer_31 : decode cX8_comparer 31 = .ok (.tableswitch 85 0 3 #[29, 38, 47, 62], 29) := by decide +kernel
theorem dX8_comparer_60 : decode cX8_comparer 60 = .ok (.aload_n 0, 1) := by decide +kernel
theorem dX8_comparer_61 : decode cX8_comparer 61 = .ok (.getfield 7, 3) := by decide +kernel
theorem dX8_comparer_64 : decode cX8_comparer 64 = .ok (.iload_n 1, 1) := by decide +kernel
theorem dX8_comparer_65 : decode cX8_comparer 65 = .ok (.invokestatic 49, 3) := by decide +kernel
theorem dX8_comparer_68 : decode cX8_comparer 68 = .ok (.ireturn, 1) := by decide +kernel
theorem dX8_comparer_69 : decode cX8_comparer 69 = .ok (.aload_n 0, 1) := by decide +kernel
theorem dX8_comparer_70 : decode cX8_comparer 70 = .ok (.getfield 7, 3) := by decide +kernel
theorem dX8_comparer_73 : decode cX8_comparer 73 = .ok (.iload_n 1, 1) := by decide +kernel
theorem dX8_comparer_74 : decode cX8_comparer 74 = .ok (.invokestatic 166, 3) := by decide +kernel
theorem dX8_comparer_77 : decode cX8_comparer 77 = .ok (.ireturn, 1) := by decide +kernel
theorem dX8_comparer_78 : decode cX8_comparer 78 = .ok (.aload_n 0, 1) := by decide +kernel
theorem dX8_comparer_79 : decode cX8_comparer 79 = .ok (.getfield 7, 3) := by decide +kernel
theorem dX8_comparer_82 : decode cX8_comparer 82 = .ok (.sipush 154, 3) := by decide +kernel
theorem dX8_comparer_85 : decode cX8_comparer 85 = .ok (.iconst 2, 1) := by decide +kernel
theorem dX8_comparer_86 : decode cX8_comparer 86 = .ok (.iload_n 1, 1) := by decide +kernel
theorem dX8_comparer_87 : decode cX8_comparer 87 = .ok (.imul, 1) := by decide +kernel
theorem dX8_comparer_88 : decode cX8_comparer 88 = .ok (.iadd, 1) := by decide +kernel
theorem dX8_comparer_89 : decode cX8_comparer 89 = .ok (.iconst 1, 1) := by decide +kernel
theorem dX8_comparer_90 : decode cX8_comparer 90 = .ok (.iadd, 1) := by decide +kernel
theorem dX8_comparer_91 : decode cX8_comparer 91 = .ok (.iaload, 1) := by decide +kernel
theorem dX8_comparer_92 : decode cX8_comparer 92 = .ok (.ireturn, 1) := by decide +kernel
theorem dX8_comparer_93 : decode cX8_comparer 93 = .ok (.iload_n 3, 1) := by decide +kernel
theorem dX8_comparer_94 : decode cX8_comparer 94 = .ok (.sipush (-1005), 3) := by decide +kernel
theorem dX8_comparer_97 : decode cX8_comparer 97 = .ok (.if_icmp .ne 9, 3) := by decide +kernel
theorem dX8_comparer_100 : decode cX8_comparer 100 = .ok (.sipush (-1005), 3) := by decide +kernel
theorem dX8_comparer_103 : decode cX8_comparer 103 = .ok (.goto 12, 3) := by decide +kernel
theorem dX8_comparer_106 : decode cX8_comparer 106 = .ok (.aload_n 0, 1) := by decide +kernel
theorem dX8_comparer_107 : decode cX8_comparer 107 = .ok (.getfield 7, 3) := by decide +kernel
theorem dX8_comparer_110 : decode cX8_comparer 110 = .ok (.iload_n 3, 1) := by decide +kernel
theorem dX8_comparer_111 : decode cX8_comparer 111 = .ok (.iconst 0, 1) := by decide +kernel
theorem dX8_comparer_112 : decode cX8_comparer 112 = .ok (.invokestatic 37, 3) := by decide +kernel
theorem dX8_comparer_115 : decode cX8_comparer 115 = .ok (.ireturn, 1) := by decide +kernel
theorem dX8_comparer_116 : decode cX8_comparer 116 = .ok (.sipush (-1002), 3) := by decide +kernel
theorem dX8_comparer_119 : decode cX8_comparer 119 = .ok (.ireturn, 1) := by decide +kernel
theorem dX8_at_0 : decode cX8_at 0 = .ok (.iload_n 1, 1) := by decide +kernel
theorem dX8_at_1 : decode cX8_at 1 = .ok (.ifCond .ge 7, 3) := by decide +kernel
theorem dX8_at_4 : decode cX8_at 4 = .ok (.sipush (-1002), 3) := by decide +kernel
theorem dX8_at_7 : decode cX8_at 7 = .ok (.ireturn, 1) := by decide +kernel
theorem dX8_at_8 : decode cX8_at 8 = .ok (.iconst 0, 1) := by decide +kernel
theorem dX8_at_9 : decode cX8_at 9 = .ok (.istore_n 2, 1) := by decide +kernel
theorem dX8_at_10 : decode cX8_at 10 = .ok (.iload_n 2, 1) := by decide +kernel
theorem dX8_at_11 : decode cX8_at 11 = .ok (.aload_n 0, 1) := by decide +kernel
theorem dX8_at_12 : decode cX8_at 12 = .ok (.getfield 7, 3) := by decide +kernel
theorem dX8_at_15 : decode cX8_at 15 = .ok (.iconst 2, 1) := by decide +kernel
theorem dX8_at_16 : decode cX8_at 16 = .ok (.iaload, 1) := by decide +kernel
theorem dX8_at_17 : decode cX8_at 17 = .ok (.if_icmp .ge 31, 3) := by decide +kernel
theorem dX8_at_20 : decode cX8_at 20 = .ok (.aload_n 0, 1) := by decide +kernel
theorem dX8_at_21 : decode cX8_at 21 = .ok (.getfield 7, 3) := by decide +kernel
theorem dX8_at_24 : decode cX8_at 24 = .ok (.iload_n 2, 1) := by decide +kernel
theorem dX8_at_25 : decode cX8_at 25 = .ok (.invokestatic 163, 3) := by decide +kernel
theorem dX8_at_28 : decode cX8_at 28 = .ok (.iload_n 1, 1) := by decide +kernel
theorem dX8_at_29 : decode cX8_at 29 = .ok (.if_icmp .ne 13, 3) := by decide +kernel
theorem dX8_at_32 : decode cX8_at 32 = .ok (.aload_n 0, 1) := by decide +kernel
theorem dX8_at_33 : decode cX8_at 33 = .ok (.getfield 7, 3) := by decide +kernel
theorem dX8_at_36 : decode cX8_at 36 = .ok (.iload_n 2, 1) := by decide +kernel
theorem dX8_at_37 : decode cX8_at 37 = .ok (.iconst 0, 1) := by decide +kernel
theorem dX8_at_38 : decode cX8_at 38 = .ok (.invokestatic 37, 3) := by decide +kernel
theorem dX8_at_41 : decode cX8_at 41 = .ok (.ireturn, 1) := by decide +kernel
theorem dX8_at_42 : decode cX8_at 42 = .ok (.iinc 2 1, 3) := by decide +kernel
theorem dX8_at_45 : decode cX8_at 45 = .ok (.goto (-35), 3) := by decide +kernel
theorem dX8_at_48 : decode cX8_at 48 = .ok (.sipush (-1005), 3) := by decide +kernel
theorem dX8_at_51 : decode cX8_at 51 = .ok (.ireturn, 1) := by decide +kernel
theorem dX8_ringsIn_0 : decode cX8_ringsIn 0 = .ok (.aload_n 0, 1) := by decide +kernel
theorem dX8_ringsIn_1 : decode cX8_ringsIn 1 = .ok (.getfield 7, 3) := by decide +kernel
theorem dX8_ringsIn_4 : decode cX8_ringsIn 4 = .ok (.iload_n 1, 1) := by decide +kernel
theorem dX8_ringsIn_5 : decode cX8_ringsIn 5 = .ok (.invokestatic 122, 3) := by decide +kernel
theorem dX8_ringsIn_8 : decode cX8_ringsIn 8 = .ok (.istore_n 2, 1) := by decide +kernel
theorem dX8_ringsIn_9 : decode cX8_ringsIn 9 = .ok (.iload_n 2, 1) := by decide +kernel
theorem dX8_ringsIn_10 : decode cX8_ringsIn 10 = .ok (.sipush (-1005), 3) := by decide +kernel
theorem dX8_ringsIn_13 : decode cX8_ringsIn 13 = .ok (.if_icmp .ne 7, 3) := by decide +kernel
theorem dX8_ringsIn_16 : decode cX8_ringsIn 16 = .ok (.sipush (-1001), 3) := by decide +kernel
theorem dX8_ringsIn_19 : decode cX8_ringsIn 19 = .ok (.ireturn, 1) := by decide +kernel
theorem dX8_ringsIn_20 : decode cX8_ringsIn 20 = .ok (.aload_n 0, 1) := by decide +kernel
theorem dX8_ringsIn_21 : decode cX8_ringsIn 21 = .ok (.getfield 7, 3) := by decide +kernel
theorem dX8_ringsIn_24 : decode cX8_ringsIn 24 = .ok (.iload_n 2, 1) := by decide +kernel
theorem dX8_ringsIn_25 : decode cX8_ringsIn 25 = .ok (.iconst 5, 1) := by decide +kernel
theorem dX8_ringsIn_26 : decode cX8_ringsIn 26 = .ok (.invokestatic 37, 3) := by decide +kernel
theorem dX8_ringsIn_29 : decode cX8_ringsIn 29 = .ok (.istore_n 3, 1) := by decide +kernel
theorem dX8_ringsIn_30 : decode cX8_ringsIn 30 = .ok (.aload_n 0, 1) := by decide +kernel
theorem dX8_ringsIn_31 : decode cX8_ringsIn 31 = .ok (.getfield 7, 3) := by decide +kernel
theorem dX8_ringsIn_34 : decode cX8_ringsIn 34 = .ok (.iconst 0, 1) := by decide +kernel
theorem dX8_ringsIn_35 : decode cX8_ringsIn 35 = .ok (.aload_n 0, 1) := by decide +kernel
theorem dX8_ringsIn_36 : decode cX8_ringsIn 36 = .ok (.getfield 13, 3) := by decide +kernel
theorem dX8_ringsIn_39 : decode cX8_ringsIn 39 = .ok (.iconst 0, 1) := by decide +kernel
theorem dX8_ringsIn_40 : decode cX8_ringsIn 40 = .ok (.invokestatic 33, 3) := by decide +kernel
theorem dX8_ringsIn_43 : decode cX8_ringsIn 43 = .ok (.iconst 0, 1) := by decide +kernel
theorem dX8_ringsIn_44 : decode cX8_ringsIn 44 = .ok (.istore 4, 2) := by decide +kernel
theorem dX8_ringsIn_46 : decode cX8_ringsIn 46 = .ok (.iconst 1, 1) := by decide +kernel
theorem dX8_ringsIn_47 : decode cX8_ringsIn 47 = .ok (.istore 5, 2) := by decide +kernel
theorem dX8_ringsIn_49 : decode cX8_ringsIn 49 = .ok (.iload 5, 2) := by decide +kernel
theorem dX8_ringsIn_51 : decode cX8_ringsIn 51 = .ok (.sipush 1000, 3) := by decide +kernel
theorem dX8_ringsIn_54 : decode cX8_ringsIn 54 = .ok (.if_icmp .gt 61, 3) := by decide +kernel
theorem dX8_ringsIn_57 : decode cX8_ringsIn 57 = .ok (.iload 4, 2) := by decide +kernel
theorem dX8_ringsIn_59 : decode cX8_ringsIn 59 = .ok (.aload_n 0, 1) := by decide +kernel
theorem dX8_ringsIn_60 : decode cX8_ringsIn 60 = .ok (.getfield 13, 3) := by decide +kernel
theorem dX8_ringsIn_63 : decode cX8_ringsIn 63 = .ok (.invokestatic 101, 3) := by decide +kernel
theorem dX8_ringsIn_66 : decode cX8_ringsIn 66 = .ok (.iadd, 1) := by decide +kernel
theorem dX8_ringsIn_67 : decode cX8_ringsIn 67 = .ok (.istore 4, 2) := by decide +kernel
theorem dX8_ringsIn_69 : decode cX8_ringsIn 69 = .ok (.aload_n 0, 1) := by decide +kernel
theorem dX8_ringsIn_70 : decode cX8_ringsIn 70 = .ok (.getfield 13, 3) := by decide +kernel
theorem dX8_ringsIn_73 : decode cX8_ringsIn 73 = .ok (.iload_n 1, 1) := by decide +kernel
theorem dX8_ringsIn_74 : decode cX8_ringsIn 74 = .ok (.invokestatic 122, 3) := by decide +kernel
theorem dX8_ringsIn_77 : decode cX8_ringsIn 77 = .ok (.istore 6, 2) := by decide +kernel
theorem dX8_ringsIn_79 : decode cX8_ringsIn 79 = .ok (.iload 4, 2) := by decide +kernel
theorem dX8_ringsIn_81 : decode cX8_ringsIn 81 = .ok (.ifCond .le 28, 3) := by decide +kernel
theorem dX8_ringsIn_84 : decode cX8_ringsIn 84 = .ok (.iload 6, 2) := by decide +kernel
theorem dX8_ringsIn_86 : decode cX8_ringsIn 86 = .ok (.sipush (-1005), 3) := by decide +kernel
theorem dX8_ringsIn_89 : decode cX8_ringsIn 89 = .ok (.if_icmp .eq 17, 3) := by decide +kernel
theorem dX8_ringsIn_92 : decode cX8_ringsIn 92 = .ok (.aload_n 0, 1) := by decide +kernel
theorem dX8_ringsIn_93 : decode cX8_ringsIn 93 = .ok (.getfield 13, 3) := by decide +kernel
theorem dX8_ringsIn_96 : decode cX8_ringsIn 96 = .ok (.iload 6, 2) := by decide +kernel
theorem dX8_ringsIn_98 : decode cX8_ringsIn 98 = .ok (.iconst 5, 1) := by decide +kernel
theorem dX8_ringsIn_99 : decode cX8_ringsIn 99 = .ok (.invokestatic 37, 3) := by decide +kernel
theorem dX8_ringsIn_102 : decode cX8_ringsIn 102 = .ok (.iload_n 3, 1) := by decide +kernel
theorem dX8_ringsIn_103 : decode cX8_ringsIn 103 = .ok (.if_icmp .eq 6, 3) := by decide +kernel
theorem dX8_ringsIn_106 : decode cX8_ringsIn 106 = .ok (.iload 5, 2) := by decide +kernel
theorem dX8_ringsIn_108 : decode cX8_ringsIn 108 = .ok (.ireturn, 1) := by decide +kernel
theorem dX8_ringsIn_109 : decode cX8_ringsIn 109 = .ok (.iinc 5 1, 3) := by decide +kernel
theorem dX8_ringsIn_112 : decode cX8_ringsIn 112 = .ok (.goto (-63), 3) := by decide +kernel
theorem dX8_ringsIn_115 : decode cX8_ringsIn 115 = .ok (.sipush (-1005), 3) := by decide +kernel
theorem dX8_ringsIn_118 : decode cX8_ringsIn 118 = .ok (.ireturn, 1) := by decide +kernel
theorem dX8_would_0 : decode cX8_would 0 = .ok (.aload_n 0, 1) := by decide +kernel
theorem dX8_would_1 : decode cX8_would 1 = .ok (.getfield 7, 3) := by decide +kernel
theorem dX8_would_4 : decode cX8_would 4 = .ok (.iconst 0, 1) := by decide +kernel
theorem dX8_would_5 : decode cX8_would 5 = .ok (.aload_n 0, 1) := by decide +kernel
theorem dX8_would_6 : decode cX8_would 6 = .ok (.getfield 13, 3) := by decide +kernel
theorem dX8_would_9 : decode cX8_would 9 = .ok (.iconst 0, 1) := by decide +kernel
theorem dX8_would_10 : decode cX8_would 10 = .ok (.invokestatic 33, 3) := by decide +kernel
theorem dX8_would_13 : decode cX8_would 13 = .ok (.iload_n 1, 1) := by decide +kernel
theorem dX8_would_14 : decode cX8_would 14 = .ok (.aload_n 0, 1) := by decide +kernel
theorem dX8_would_15 : decode cX8_would 15 = .ok (.getfield 13, 3) := by decide +kernel
theorem dX8_would_18 : decode cX8_would 18 = .ok (.bipush 10, 2) := by decide +kernel
theorem dX8_would_20 : decode cX8_would 20 = .ok (.iaload, 1) := by decide +kernel
theorem dX8_would_21 : decode cX8_would 21 = .ok (.if_icmp .eq 11, 3) := by decide +kernel
theorem dX8_would_24 : decode cX8_would 24 = .ok (.aload_n 0, 1) := by decide +kernel
theorem dX8_would_25 : decode cX8_would 25 = .ok (.getfield 13, 3) := by decide +kernel
theorem dX8_would_28 : decode cX8_would 28 = .ok (.iload_n 1, 1) := by decide +kernel
theorem dX8_would_29 : decode cX8_would 29 = .ok (.invokestatic 128, 3) := by decide +kernel
theorem dX8_would_32 : decode cX8_would 32 = .ok (.aload_n 0, 1) := by decide +kernel
theorem dX8_would_33 : decode cX8_would 33 = .ok (.getfield 13, 3) := by decide +kernel
theorem dX8_would_36 : decode cX8_would 36 = .ok (.iconst 5, 1) := by decide +kernel
theorem dX8_would_37 : decode cX8_would 37 = .ok (.iconst 0, 1) := by decide +kernel
theorem dX8_would_38 : decode cX8_would 38 = .ok (.iastore, 1) := by decide +kernel
theorem dX8_would_39 : decode cX8_would 39 = .ok (.aload_n 0, 1) := by decide +kernel
theorem dX8_would_40 : decode cX8_would 40 = .ok (.getfield 13, 3) := by decide +kernel
theorem dX8_would_43 : decode cX8_would 43 = .ok (.bipush 6, 2) := by decide +kernel
theorem dX8_would_45 : decode cX8_would 45 = .ok (.iconst 0, 1) := by decide +kernel
theorem dX8_would_46 : decode cX8_would 46 = .ok (.iastore, 1) := by decide +kernel
theorem dX8_would_47 : decode cX8_would 47 = .ok (.aload_n 0, 1) := by decide +kernel
theorem dX8_would_48 : decode cX8_would 48 = .ok (.getfield 13, 3) := by decide +kernel
theorem dX8_would_51 : decode cX8_would 51 = .ok (.bipush 7, 2) := by decide +kernel
theorem dX8_would_53 : decode cX8_would 53 = .ok (.iconst 0, 1) := by decide +kernel
theorem dX8_would_54 : decode cX8_would 54 = .ok (.iastore, 1) := by decide +kernel
theorem dX8_would_55 : decode cX8_would 55 = .ok (.aload_n 0, 1) := by decide +kernel
theorem dX8_would_56 : decode cX8_would 56 = .ok (.getfield 13, 3) := by decide +kernel
theorem dX8_would_59 : decode cX8_would 59 = .ok (.iload_n 2, 1) := by decide +kernel
theorem dX8_would_60 : decode cX8_would 60 = .ok (.invokestatic 135, 3) := by decide +kernel
theorem dX8_would_63 : decode cX8_would 63 = .ok (.ireturn, 1) := by decide +kernel
theorem dX8_ifComparers_0 : decode cX8_ifComparers 0 = .ok (.iload_n 1, 1) := by decide +kernel
theorem dX8_ifComparers_1 : decode cX8_ifComparers 1 = .ok (.iconst 1, 1) := by decide +kernel
theorem dX8_ifComparers_2 : decode cX8_ifComparers 2 = .ok (.iconst 4, 1) := by decide +kernel
theorem dX8_ifComparers_3 : decode cX8_ifComparers 3 = .ok (.invokestatic 105, 3) := by decide +kernel
theorem dX8_ifComparers_6 : decode cX8_ifComparers 6 = .ok (.ifCond .eq 23, 3) := by decide +kernel
theorem dX8_ifComparers_9 : decode cX8_ifComparers 9 = .ok (.iload_n 2, 1) := by decide +kernel
theorem dX8_ifComparers_10 : decode cX8_ifComparers 10 = .ok (.iconst 1, 1) := by decide +kernel
theorem dX8_ifComparers_11 : decode cX8_ifComparers 11 = .ok (.sipush 500, 3) := by decide +kernel
theorem dX8_ifComparers_14 : decode cX8_ifComparers 14 = .ok (.invokestatic 105, 3) := by decide +kernel
theorem dX8_ifComparers_17 : decode cX8_ifComparers 17 = .ok (.ifCond .eq 12, 3) := by decide +kernel
theorem dX8_ifComparers_20 : decode cX8_ifComparers 20 = .ok (.iload_n 3, 1) := by decide +kernel
theorem dX8_ifComparers_21 : decode cX8_ifComparers 21 = .ok (.iconst 0, 1) := by decide +kernel
theorem dX8_ifComparers_22 : decode cX8_ifComparers 22 = .ok (.iconst 3, 1) := by decide +kernel
theorem dX8_ifComparers_23 : decode cX8_ifComparers 23 = .ok (.invokestatic 105, 3) := by decide +kernel
theorem dX8_ifComparers_26 : decode cX8_ifComparers 26 = .ok (.ifCond .ne 7, 3) := by decide +kernel
theorem dX8_ifComparers_29 : decode cX8_ifComparers 29 = .ok (.sipush (-1002), 3) := by decide +kernel
theorem dX8_ifComparers_32 : decode cX8_ifComparers 32 = .ok (.ireturn, 1) := by decide +kernel
theorem dX8_ifComparers_33 : decode cX8_ifComparers 33 = .ok (.aload_n 0, 1) := by decide +kernel
theorem dX8_ifComparers_34 : decode cX8_ifComparers 34 = .ok (.iload_n 1, 1) := by decide +kernel
theorem dX8_ifComparers_35 : decode cX8_ifComparers 35 = .ok (.iload_n 2, 1) := by decide +kernel
theorem dX8_ifComparers_36 : decode cX8_ifComparers 36 = .ok (.invokevirtual 169, 3) := by decide +kernel
theorem dX8_ifComparers_39 : decode cX8_ifComparers 39 = .ok (.istore 4, 2) := by decide +kernel
theorem dX8_ifComparers_41 : decode cX8_ifComparers 41 = .ok (.iload_n 3, 1) := by decide +kernel
theorem dX8_ifComparers_42 : decode cX8_ifComparers 42 = .ok (.ifCond .ne 8, 3) := by decide +kernel
theorem dX8_ifComparers_45 : decode cX8_ifComparers 45 = .ok (.iload 4, 2) := by decide +kernel
theorem dX8_ifComparers_47 : decode cX8_ifComparers 47 = .ok (.goto 39, 3) := by decide +kernel
theorem dX8_ifComparers_50 : decode cX8_ifComparers 50 = .ok (.iload_n 3, 1) := by decide +kernel
theorem dX8_ifComparers_51 : decode cX8_ifComparers 51 = .ok (.iconst 1, 1) := by decide +kernel
theorem dX8_ifComparers_52 : decode cX8_ifComparers 52 = .ok (.if_icmp .ne 12, 3) := by decide +kernel
theorem dX8_ifComparers_55 : decode cX8_ifComparers 55 = .ok (.aload_n 0, 1) := by decide +kernel
theorem dX8_ifComparers_56 : decode cX8_ifComparers 56 = .ok (.getfield 13, 3) := by decide +kernel
theorem dX8_ifComparers_59 : decode cX8_ifComparers 59 = .ok (.iconst 5, 1) := by decide +kernel
theorem dX8_ifComparers_60 : decode cX8_ifComparers 60 = .ok (.iaload, 1) := by decide +kernel
theorem dX8_ifComparers_61 : decode cX8_ifComparers 61 = .ok (.goto 25, 3) := by decide +kernel
theorem dX8_ifComparers_64 : decode cX8_ifComparers 64 = .ok (.iload_n 3, 1) := by decide +kernel
theorem dX8_ifComparers_65 : decode cX8_ifComparers 65 = .ok (.iconst 2, 1) := by decide +kernel
theorem dX8_ifComparers_66 : decode cX8_ifComparers 66 = .ok (.if_icmp .ne 13, 3) := by decide +kernel
theorem dX8_ifComparers_69 : decode cX8_ifComparers 69 = .ok (.aload_n 0, 1) := by decide +kernel
theorem dX8_ifComparers_70 : decode cX8_ifComparers 70 = .ok (.getfield 13, 3) := by decide +kernel
theorem dX8_ifComparers_73 : decode cX8_ifComparers 73 = .ok (.bipush 6, 2) := by decide +kernel
theorem dX8_ifComparers_75 : decode cX8_ifComparers 75 = .ok (.iaload, 1) := by decide +kernel
theorem dX8_ifComparers_76 : decode cX8_ifComparers 76 = .ok (.goto 10, 3) := by decide +kernel
theorem dX8_ifComparers_79 : decode cX8_ifComparers 79 = .ok (.aload_n 0, 1) := by decide +kernel
theorem dX8_ifComparers_80 : decode cX8_ifComparers 80 = .ok (.getfield 13, 3) := by decide +kernel
theorem dX8_ifComparers_83 : decode cX8_ifComparers 83 = .ok (.bipush 7, 2) := by decide +kernel
theorem dX8_ifComparers_85 : decode cX8_ifComparers 85 = .ok (.iaload, 1) := by decide +kernel
theorem dX8_ifComparers_86 : decode cX8_ifComparers 86 = .ok (.ireturn, 1) := by decide +kernel
theorem dX8_fewest_0 : decode cX8_fewest 0 = .ok (.iload_n 1, 1) := by decide +kernel
theorem dX8_fewest_1 : decode cX8_fewest 1 = .ok (.iconst 1, 1) := by decide +kernel
theorem dX8_fewest_2 : decode cX8_fewest 2 = .ok (.sipush 500, 3) := by decide +kernel
theorem dX8_fewest_5 : decode cX8_fewest 5 = .ok (.invokestatic 105, 3) := by decide +kernel
theorem dX8_fewest_8 : decode cX8_fewest 8 = .ok (.ifCond .ne 7, 3) := by decide +kernel
theorem dX8_fewest_11 : decode cX8_fewest 11 = .ok (.sipush (-1002), 3) := by decide +kernel
theorem dX8_fewest_14 : decode cX8_fewest 14 = .ok (.ireturn, 1) := by decide +kernel
theorem dX8_fewest_15 : decode cX8_fewest 15 = .ok (.iconst 0, 1) := by decide +kernel
theorem dX8_fewest_16 : decode cX8_fewest 16 = .ok (.istore_n 2, 1) := by decide +kernel
theorem dX8_fewest_17 : decode cX8_fewest 17 = .ok (.iconst 0, 1) := by decide +kernel
theorem dX8_fewest_18 : decode cX8_fewest 18 = .ok (.istore_n 3, 1) := by decide +kernel
theorem dX8_fewest_19 : decode cX8_fewest 19 = .ok (.iconst 1, 1) := by decide +kernel
theorem dX8_fewest_20 : decode cX8_fewest 20 = .ok (.istore 4, 2) := by decide +kernel
theorem dX8_fewest_22 : decode cX8_fewest 22 = .ok (.iload 4, 2) := by decide +kernel
theorem dX8_fewest_24 : decode cX8_fewest 24 = .ok (.iconst 5, 1) := by decide +kernel
theorem dX8_fewest_25 : decode cX8_fewest 25 = .ok (.if_icmp .ge 72, 3) := by decide +kernel
theorem dX8_fewest_28 : decode cX8_fewest 28 = .ok (.aload_n 0, 1) := by decide +kernel
theorem dX8_fewest_29 : decode cX8_fewest 29 = .ok (.iload 4, 2) := by decide +kernel
theorem dX8_fewest_31 : decode cX8_fewest 31 = .ok (.iload_n 1, 1) := by decide +kernel
theorem dX8_fewest_32 : decode cX8_fewest 32 = .ok (.invokevirtual 169, 3) := by decide +kernel
theorem dX8_fewest_35 : decode cX8_fewest 35 = .ok (.istore 5, 2) := by decide +kernel
theorem dX8_fewest_37 : decode cX8_fewest 37 = .ok (.iload_n 2, 1) := by decide +kernel
theorem dX8_fewest_38 : decode cX8_fewest 38 = .ok (.ifCond .eq 13, 3) := by decide +kernel
theorem dX8_fewest_41 : decode cX8_fewest 41 = .ok (.aload_n 0, 1) := by decide +kernel
theorem dX8_fewest_42 : decode cX8_fewest 42 = .ok (.getfield 13, 3) := by decide +kernel
theorem dX8_fewest_45 : decode cX8_fewest 45 = .ok (.iconst 5, 1) := by decide +kernel
theorem dX8_fewest_46 : decode cX8_fewest 46 = .ok (.iaload, 1) := by decide +kernel
theorem dX8_fewest_47 : decode cX8_fewest 47 = .ok (.iload_n 3, 1) := by decide +kernel
theorem dX8_fewest_48 : decode cX8_fewest 48 = .ok (.if_icmp .ge 7, 3) := by decide +kernel
theorem dX8_fewest_51 : decode cX8_fewest 51 = .ok (.iconst 1, 1) := by decide +kernel
theorem dX8_fewest_52 : decode cX8_fewest 52 = .ok (.goto 4, 3) := by decide +kernel
theorem dX8_fewest_55 : decode cX8_fewest 55 = .ok (.iconst 0, 1) := by decide +kernel
theorem dX8_fewest_56 : decode cX8_fewest 56 = .ok (.istore 6, 2) := by decide +kernel
theorem dX8_fewest_58 : decode cX8_fewest 58 = .ok (.iload 6, 2) := by decide +kernel
theorem dX8_fewest_60 : decode cX8_fewest 60 = .ok (.ifCond .eq 13, 3) := by decide +kernel
theorem dX8_fewest_63 : decode cX8_fewest 63 = .ok (.iload 5, 2) := by decide +kernel
theorem dX8_fewest_65 : decode cX8_fewest 65 = .ok (.ifCond .lt 8, 3) := by decide +kernel
theorem dX8_fewest_68 : decode cX8_fewest 68 = .ok (.iload 4, 2) := by decide +kernel
theorem dX8_fewest_70 : decode cX8_fewest 70 = .ok (.goto 4, 3) := by decide +kernel
theorem dX8_fewest_73 : decode cX8_fewest 73 = .ok (.iload_n 2, 1) := by decide +kernel
theorem dX8_fewest_74 : decode cX8_fewest 74 = .ok (.istore_n 2, 1) := by decide +kernel
theorem dX8_fewest_75 : decode cX8_fewest 75 = .ok (.iload 6, 2) := by decide +kernel
theorem dX8_fewest_77 : decode cX8_fewest 77 = .ok (.ifCond .eq 12, 3) := by decide +kernel
theorem dX8_fewest_80 : decode cX8_fewest 80 = .ok (.aload_n 0, 1) := by decide +kernel
theorem dX8_fewest_81 : decode cX8_fewest 81 = .ok (.getfield 13, 3) := by decide +kernel
theorem dX8_fewest_84 : decode cX8_fewest 84 = .ok (.iconst 5, 1) := by decide +kernel
theorem dX8_fewest_85 : decode cX8_fewest 85 = .ok (.iaload, 1) := by decide +kernel
theorem dX8_fewest_86 : decode cX8_fewest 86 = .ok (.goto 4, 3) := by decide +kernel
theorem dX8_fewest_89 : decode cX8_fewest 89 = .ok (.iload_n 3, 1) := by decide +kernel
theorem dX8_fewest_90 : decode cX8_fewest 90 = .ok (.istore_n 3, 1) := by decide +kernel
theorem dX8_fewest_91 : decode cX8_fewest 91 = .ok (.iinc 4 1, 3) := by decide +kernel
theorem dX8_fewest_94 : decode cX8_fewest 94 = .ok (.goto (-72), 3) := by decide +kernel
theorem dX8_fewest_97 : decode cX8_fewest 97 = .ok (.iload_n 2, 1) := by decide +kernel
theorem dX8_fewest_98 : decode cX8_fewest 98 = .ok (.ireturn, 1) := by decide +kernel
theorem dX8_ring_0 : decode cX8_ring 0 = .ok (.iload_n 1, 1) := by decide +kernel
theorem dX8_ring_1 : decode cX8_ring 1 = .ok (.ifCond .lt 12, 3) := by decide +kernel
theorem dX8_ring_4 : decode cX8_ring 4 = .ok (.iload_n 2, 1) := by decide +kernel
theorem dX8_ring_5 : decode cX8_ring 5 = .ok (.iconst 0, 1) := by decide +kernel
theorem dX8_ring_6 : decode cX8_ring 6 = .ok (.iconst 3, 1) := by decide +kernel
theorem dX8_ring_7 : decode cX8_ring 7 = .ok (.invokestatic 105, 3) := by decide +kernel
theorem dX8_ring_10 : decode cX8_ring 10 = .ok (.ifCond .ne 7, 3) := by decide +kernel
theorem dX8_ring_13 : decode cX8_ring 13 = .ok (.sipush (-1002), 3) := by decide +kernel
theorem dX8_ring_16 : decode cX8_ring 16 = .ok (.ireturn, 1) := by decide +kernel
theorem dX8_ring_17 : decode cX8_ring 17 = .ok (.iload_n 1, 1) := by decide +kernel
theorem dX8_ring_18 : decode cX8_ring 18 = .ok (.aload_n 0, 1) := by decide +kernel
theorem dX8_ring_19 : decode cX8_ring 19 = .ok (.getfield 7, 3) := by decide +kernel
theorem dX8_ring_22 : decode cX8_ring 22 = .ok (.sipush 194, 3) := by decide +kernel
theorem dX8_ring_25 : decode cX8_ring 25 = .ok (.iaload, 1) := by decide +kernel
theorem dX8_ring_26 : decode cX8_ring 26 = .ok (.if_icmp .ge 20, 3) := by decide +kernel
theorem dX8_ring_29 : decode cX8_ring 29 = .ok (.aload_n 0, 1) := by decide +kernel
theorem dX8_ring_30 : decode cX8_ring 30 = .ok (.getfield 7, 3) := by decide +kernel
theorem dX8_ring_33 : decode cX8_ring 33 = .ok (.sipush 162, 3) := by decide +kernel
theorem dX8_ring_36 : decode cX8_ring 36 = .ok (.iconst 4, 1) := by decide +kernel
theorem dX8_ring_37 : decode cX8_ring 37 = .ok (.iload_n 1, 1) := by decide +kernel
theorem dX8_ring_38 : decode cX8_ring 38 = .ok (.imul, 1) := by decide +kernel
theorem dX8_ring_39 : decode cX8_ring 39 = .ok (.iadd, 1) := by decide +kernel
theorem dX8_ring_40 : decode cX8_ring 40 = .ok (.iload_n 2, 1) := by decide +kernel
theorem dX8_ring_41 : decode cX8_ring 41 = .ok (.iadd, 1) := by decide +kernel
theorem dX8_ring_42 : decode cX8_ring 42 = .ok (.iaload, 1) := by decide +kernel
theorem dX8_ring_43 : decode cX8_ring 43 = .ok (.goto 6, 3) := by decide +kernel
theorem dX8_ring_46 : decode cX8_ring 46 = .ok (.sipush (-1005), 3) := by decide +kernel
theorem dX8_ring_49 : decode cX8_ring 49 = .ok (.ireturn, 1) := by decide +kernel
theorem dX8_free_0 : decode cX8_free 0 = .ok (.iconst 0, 1) := by decide +kernel
theorem dX8_free_1 : decode cX8_free 1 = .ok (.istore_n 1, 1) := by decide +kernel
theorem dX8_free_2 : decode cX8_free 2 = .ok (.iconst 0, 1) := by decide +kernel
theorem dX8_free_3 : decode cX8_free 3 = .ok (.istore_n 2, 1) := by decide +kernel
theorem dX8_free_4 : decode cX8_free 4 = .ok (.iload_n 2, 1) := by decide +kernel
theorem dX8_free_5 : decode cX8_free 5 = .ok (.aload_n 0, 1) := by decide +kernel
theorem dX8_free_6 : decode cX8_free 6 = .ok (.getfield 7, 3) := by decide +kernel
theorem dX8_free_9 : decode cX8_free 9 = .ok (.bipush 10, 2) := by decide +kernel
theorem dX8_free_11 : decode cX8_free 11 = .ok (.iaload, 1) := by decide +kernel
theorem dX8_free_12 : decode cX8_free 12 = .ok (.if_icmp .ge 31, 3) := by decide +kernel
theorem dX8_free_15 : decode cX8_free 15 = .ok (.iload_n 1, 1) := by decide +kernel
theorem dX8_free_16 : decode cX8_free 16 = .ok (.aload_n 0, 1) := by decide +kernel
theorem dX8_free_17 : decode cX8_free 17 = .ok (.getfield 7, 3) := by decide +kernel
theorem dX8_free_20 : decode cX8_free 20 = .ok (.iload_n 2, 1) := by decide +kernel
theorem dX8_free_21 : decode cX8_free 21 = .ok (.invokestatic 49, 3) := by decide +kernel
theorem dX8_free_24 : decode cX8_free 24 = .ok (.sipush (-1005), 3) := by decide +kernel
theorem dX8_free_27 : decode cX8_free 27 = .ok (.if_icmp .ne 7, 3) := by decide +kernel
theorem dX8_free_30 : decode cX8_free 30 = .ok (.iconst 1, 1) := by decide +kernel
theorem dX8_free_31 : decode cX8_free 31 = .ok (.goto 4, 3) := by decide +kernel
theorem dX8_free_34 : decode cX8_free 34 = .ok (.iconst 0, 1) := by decide +kernel
theorem dX8_free_35 : decode cX8_free 35 = .ok (.iadd, 1) := by decide +kernel
theorem dX8_free_36 : decode cX8_free 36 = .ok (.istore_n 1, 1) := by decide +kernel
theorem dX8_free_37 : decode cX8_free 37 = .ok (.iinc 2 1, 3) := by decide +kernel
theorem dX8_free_40 : decode cX8_free 40 = .ok (.goto (-36), 3) := by decide +kernel
theorem dX8_free_43 : decode cX8_free 43 = .ok (.iload_n 1, 1) := by decide +kernel
theorem dX8_free_44 : decode cX8_free 44 = .ok (.ireturn, 1) := by decide +kernel
theorem dX8_count_0 : decode cX8_count 0 = .ok (.iload_n 1, 1) := by decide +kernel
theorem dX8_count_1 : decode cX8_count 1 = .ok (.tableswitch 132 0 17 #[87, 87, 87, 87, 94, 105, 110, 110, 110, 110, 110, 110, 110, 110, 110, 110, 122, 127], 87) := by decide +kernel
theorem dX8_count_88 : decode cX8_count 88 = .ok (.aload_n 0, 1) := by decide +kernel
theorem dX8_count_89 : decode cX8_count 89 = .ok (.getfield 7, 3) := by decide +kernel
theorem dX8_count_92 : decode cX8_count 92 = .ok (.iload_n 1, 1) := by decide +kernel
theorem dX8_count_93 : decode cX8_count 93 = .ok (.iaload, 1) := by decide +kernel
theorem dX8_count_94 : decode cX8_count 94 = .ok (.ireturn, 1) := by decide +kernel
theorem dX8_count_95 : decode cX8_count 95 = .ok (.aload_n 0, 1) := by decide +kernel
theorem dX8_count_96 : decode cX8_count 96 = .ok (.getfield 7, 3) := by decide +kernel
theorem dX8_count_99 : decode cX8_count 99 = .ok (.sipush (-1005), 3) := by decide +kernel
theorem dX8_count_102 : decode cX8_count 102 = .ok (.invokestatic 166, 3) := by decide +kernel
theorem dX8_count_105 : decode cX8_count 105 = .ok (.ireturn, 1) := by decide +kernel
theorem dX8_count_106 : decode cX8_count 106 = .ok (.aload_n 0, 1) := by decide +kernel
theorem dX8_count_107 : decode cX8_count 107 = .ok (.invokevirtual 172, 3) := by decide +kernel
theorem dX8_count_110 : decode cX8_count 110 = .ok (.ireturn, 1) := by decide +kernel
theorem dX8_count_111 : decode cX8_count 111 = .ok (.aload_n 0, 1) := by decide +kernel
theorem dX8_count_112 : decode cX8_count 112 = .ok (.getfield 7, 3) := by decide +kernel
theorem dX8_count_115 : decode cX8_count 115 = .ok (.iconst 4, 1) := by decide +kernel
theorem dX8_count_116 : decode cX8_count 116 = .ok (.iload_n 1, 1) := by decide +kernel
theorem dX8_count_117 : decode cX8_count 117 = .ok (.iadd, 1) := by decide +kernel
theorem dX8_count_118 : decode cX8_count 118 = .ok (.bipush 6, 2) := by decide +kernel
theorem dX8_count_120 : decode cX8_count 120 = .ok (.isub, 1) := by decide +kernel
theorem dX8_count_121 : decode cX8_count 121 = .ok (.iaload, 1) := by decide +kernel
theorem dX8_count_122 : decode cX8_count 122 = .ok (.ireturn, 1) := by decide +kernel
theorem dX8_count_123 : decode cX8_count 123 = .ok (.aload_n 0, 1) := by decide +kernel
theorem dX8_count_124 : decode cX8_count 124 = .ok (.getfield 29, 3) := by decide +kernel
theorem dX8_count_127 : decode cX8_count 127 = .ok (.ireturn, 1) := by decide +kernel
theorem dX8_count_128 : decode cX8_count 128 = .ok (.aload_n 0, 1) := by decide +kernel
theorem dX8_count_129 : decode cX8_count 129 = .ok (.getfield 138, 3) := by decide +kernel
theorem dX8_count_132 : decode cX8_count 132 = .ok (.ireturn, 1) := by decide +kernel
theorem dX8_count_133 : decode cX8_count 133 = .ok (.sipush (-1002), 3) := by decide +kernel
theorem dX8_count_136 : decode cX8_count 136 = .ok (.ireturn, 1) := by decide +kernel
end
section
theorem dL_law_0 : decode cL_law 0 = .ok (.new 7, 3) := by decide +kernel
theorem dL_law_3 : decode cL_law 3 = .ok (.dup, 1) := by decide +kernel
theorem dL_law_4 : decode cL_law 4 = .ok (.invokespecial 9, 3) := by decide +kernel
theorem dL_law_7 : decode cL_law 7 = .ok (.astore_n 1, 1) := by decide +kernel
theorem dL_law_8 : decode cL_law 8 = .ok (.new 10, 3) := by decide +kernel
theorem dL_law_11 : decode cL_law 11 = .ok (.dup, 1) := by decide +kernel
theorem dL_law_12 : decode cL_law 12 = .ok (.invokespecial 12, 3) := by decide +kernel
theorem dL_law_15 : decode cL_law 15 = .ok (.astore_n 2, 1) := by decide +kernel
theorem dL_law_16 : decode cL_law 16 = .ok (.iconst 0, 1) := by decide +kernel
theorem dL_law_17 : decode cL_law 17 = .ok (.istore_n 3, 1) := by decide +kernel
theorem dL_law_18 : decode cL_law 18 = .ok (.iload_n 3, 1) := by decide +kernel
theorem dL_law_19 : decode cL_law 19 = .ok (.aload_n 0, 1) := by decide +kernel
theorem dL_law_20 : decode cL_law 20 = .ok (.arraylength, 1) := by decide +kernel
theorem dL_law_21 : decode cL_law 21 = .ok (.iconst 4, 1) := by decide +kernel
theorem dL_law_22 : decode cL_law 22 = .ok (.isub, 1) := by decide +kernel
theorem dL_law_23 : decode cL_law 23 = .ok (.if_icmp .gt 684, 3) := by decide +kernel
theorem dL_law_26 : decode cL_law 26 = .ok (.aload_n 0, 1) := by decide +kernel
theorem dL_law_27 : decode cL_law 27 = .ok (.iload_n 3, 1) := by decide +kernel
theorem dL_law_28 : decode cL_law 28 = .ok (.iaload, 1) := by decide +kernel
theorem dL_law_29 : decode cL_law 29 = .ok (.bipush 31, 2) := by decide +kernel
theorem dL_law_31 : decode cL_law 31 = .ok (.iand, 1) := by decide +kernel
theorem dL_law_32 : decode cL_law 32 = .ok (.tableswitch 669 0 22 #[108, 151, 164, 187, 220, 243, 266, 289, 312, 335, 358, 383, 396, 409, 422, 435, 468, 501, 524, 547, 590, 613, 646], 108) := by decide +kernel
theorem dL_law_140 : decode cL_law 140 = .ok (.aload_n 1, 1) := by decide +kernel
theorem dL_law_141 : decode cL_law 141 = .ok (.aload_n 0, 1) := by decide +kernel
theorem dL_law_142 : decode cL_law 142 = .ok (.iload_n 3, 1) := by decide +kernel
theorem dL_law_143 : decode cL_law 143 = .ok (.iconst 1, 1) := by decide +kernel
theorem dL_law_144 : decode cL_law 144 = .ok (.iadd, 1) := by decide +kernel
theorem dL_law_145 : decode cL_law 145 = .ok (.iaload, 1) := by decide +kernel
theorem dL_law_146 : decode cL_law 146 = .ok (.aload_n 0, 1) := by decide +kernel
theorem dL_law_147 : decode cL_law 147 = .ok (.iload_n 3, 1) := by decide +kernel
theorem dL_law_148 : decode cL_law 148 = .ok (.iconst 2, 1) := by decide +kernel
theorem dL_law_149 : decode cL_law 149 = .ok (.iadd, 1) := by decide +kernel
theorem dL_law_150 : decode cL_law 150 = .ok (.iaload, 1) := by decide +kernel
theorem dL_law_151 : decode cL_law 151 = .ok (.aload_n 0, 1) := by decide +kernel
theorem dL_law_152 : decode cL_law 152 = .ok (.iload_n 3, 1) := by decide +kernel
theorem dL_law_153 : decode cL_law 153 = .ok (.iconst 3, 1) := by decide +kernel
theorem dL_law_154 : decode cL_law 154 = .ok (.iadd, 1) := by decide +kernel
theorem dL_law_155 : decode cL_law 155 = .ok (.iaload, 1) := by decide +kernel
theorem dL_law_156 : decode cL_law 156 = .ok (.invokevirtual 13, 3) := by decide +kernel
theorem dL_law_159 : decode cL_law 159 = .ok (.aload_n 2, 1) := by decide +kernel
theorem dL_law_160 : decode cL_law 160 = .ok (.aload_n 0, 1) := by decide +kernel
theorem dL_law_161 : decode cL_law 161 = .ok (.iload_n 3, 1) := by decide +kernel
theorem dL_law_162 : decode cL_law 162 = .ok (.iconst 1, 1) := by decide +kernel
theorem dL_law_163 : decode cL_law 163 = .ok (.iadd, 1) := by decide +kernel
theorem dL_law_164 : decode cL_law 164 = .ok (.iaload, 1) := by decide +kernel
theorem dL_law_165 : decode cL_law 165 = .ok (.aload_n 0, 1) := by decide +kernel
theorem dL_law_166 : decode cL_law 166 = .ok (.iload_n 3, 1) := by decide +kernel
theorem dL_law_167 : decode cL_law 167 = .ok (.iconst 2, 1) := by decide +kernel
theorem dL_law_168 : decode cL_law 168 = .ok (.iadd, 1) := by decide +kernel
theorem dL_law_169 : decode cL_law 169 = .ok (.iaload, 1) := by decide +kernel
theorem dL_law_170 : decode cL_law 170 = .ok (.aload_n 0, 1) := by decide +kernel
theorem dL_law_171 : decode cL_law 171 = .ok (.iload_n 3, 1) := by decide +kernel
theorem dL_law_172 : decode cL_law 172 = .ok (.iconst 3, 1) := by decide +kernel
theorem dL_law_173 : decode cL_law 173 = .ok (.iadd, 1) := by decide +kernel
theorem dL_law_174 : decode cL_law 174 = .ok (.iaload, 1) := by decide +kernel
theorem dL_law_175 : decode cL_law 175 = .ok (.invokevirtual 17, 3) := by decide +kernel
theorem dL_law_178 : decode cL_law 178 = .ok (.if_icmp .eq 523, 3) := by decide +kernel
theorem dL_law_181 : decode cL_law 181 = .ok (.iconst 0, 1) := by decide +kernel
theorem dL_law_182 : decode cL_law 182 = .ok (.ireturn, 1) := by decide +kernel
theorem dL_law_183 : decode cL_law 183 = .ok (.aload_n 1, 1) := by decide +kernel
theorem dL_law_184 : decode cL_law 184 = .ok (.invokevirtual 18, 3) := by decide +kernel
theorem dL_law_187 : decode cL_law 187 = .ok (.aload_n 2, 1) := by decide +kernel
theorem dL_law_188 : decode cL_law 188 = .ok (.invokevirtual 22, 3) := by decide +kernel
theorem dL_law_191 : decode cL_law 191 = .ok (.if_icmp .eq 510, 3) := by decide +kernel
theorem dL_law_194 : decode cL_law 194 = .ok (.iconst 0, 1) := by decide +kernel
theorem dL_law_195 : decode cL_law 195 = .ok (.ireturn, 1) := by decide +kernel
theorem dL_law_196 : decode cL_law 196 = .ok (.aload_n 1, 1) := by decide +kernel
theorem dL_law_197 : decode cL_law 197 = .ok (.aload_n 0, 1) := by decide +kernel
theorem dL_law_198 : decode cL_law 198 = .ok (.iload_n 3, 1) := by decide +kernel
theorem dL_law_199 : decode cL_law 199 = .ok (.iconst 1, 1) := by decide +kernel
theorem dL_law_200 : decode cL_law 200 = .ok (.iadd, 1) := by decide +kernel
theorem dL_law_201 : decode cL_law 201 = .ok (.iaload, 1) := by decide +kernel
theorem dL_law_202 : decode cL_law 202 = .ok (.invokevirtual 23, 3) := by decide +kernel
theorem dL_law_205 : decode cL_law 205 = .ok (.aload_n 2, 1) := by decide +kernel
theorem dL_law_206 : decode cL_law 206 = .ok (.aload_n 0, 1) := by decide +kernel
theorem dL_law_207 : decode cL_law 207 = .ok (.iload_n 3, 1) := by decide +kernel
theorem dL_law_208 : decode cL_law 208 = .ok (.iconst 1, 1) := by decide +kernel
theorem dL_law_209 : decode cL_law 209 = .ok (.iadd, 1) := by decide +kernel
theorem dL_law_210 : decode cL_law 210 = .ok (.iaload, 1) := by decide +kernel
theorem dL_law_211 : decode cL_law 211 = .ok (.invokevirtual 27, 3) := by decide +kernel
theorem dL_law_214 : decode cL_law 214 = .ok (.if_icmp .eq 487, 3) := by decide +kernel
theorem dL_law_217 : decode cL_law 217 = .ok (.iconst 0, 1) := by decide +kernel
theorem dL_law_218 : decode cL_law 218 = .ok (.ireturn, 1) := by decide +kernel
theorem dL_law_219 : decode cL_law 219 = .ok (.aload_n 1, 1) := by decide +kernel
theorem dL_law_220 : decode cL_law 220 = .ok (.aload_n 0, 1) := by decide +kernel
theorem dL_law_221 : decode cL_law 221 = .ok (.iload_n 3, 1) := by decide +kernel
theorem dL_law_222 : decode cL_law 222 = .ok (.iconst 1, 1) := by decide +kernel
theorem dL_law_223 : decode cL_law 223 = .ok (.iadd, 1) := by decide +kernel
theorem dL_law_224 : decode cL_law 224 = .ok (.iaload, 1) := by decide +kernel
theorem dL_law_225 : decode cL_law 225 = .ok (.aload_n 0, 1) := by decide +kernel
theorem dL_law_226 : decode cL_law 226 = .ok (.iload_n 3, 1) := by decide +kernel
theorem dL_law_227 : decode cL_law 227 = .ok (.iconst 2, 1) := by decide +kernel
theorem dL_law_228 : decode cL_law 228 = .ok (.iadd, 1) := by decide +kernel
theorem dL_law_229 : decode cL_law 229 = .ok (.iaload, 1) := by decide +kernel
theorem dL_law_230 : decode cL_law 230 = .ok (.invokevirtual 28, 3) := by decide +kernel
theorem dL_law_233 : decode cL_law 233 = .ok (.aload_n 2, 1) := by decide +kernel
theorem dL_law_234 : decode cL_law 234 = .ok (.aload_n 0, 1) := by decide +kernel
theorem dL_law_235 : decode cL_law 235 = .ok (.iload_n 3, 1) := by decide +kernel
theorem dL_law_236 : decode cL_law 236 = .ok (.iconst 1, 1) := by decide +kernel
theorem dL_law_237 : decode cL_law 237 = .ok (.iadd, 1) := by decide +kernel
theorem dL_law_238 : decode cL_law 238 = .ok (.iaload, 1) := by decide +kernel
theorem dL_law_239 : decode cL_law 239 = .ok (.aload_n 0, 1) := by decide +kernel
theorem dL_law_240 : decode cL_law 240 = .ok (.iload_n 3, 1) := by decide +kernel
theorem dL_law_241 : decode cL_law 241 = .ok (.iconst 2, 1) := by decide +kernel
theorem dL_law_242 : decode cL_law 242 = .ok (.iadd, 1) := by decide +kernel
theorem dL_law_243 : decode cL_law 243 = .ok (.iaload, 1) := by decide +kernel
theorem dL_law_244 : decode cL_law 244 = .ok (.invokevirtual 32, 3) := by decide +kernel
theorem dL_law_247 : decode cL_law 247 = .ok (.if_icmp .eq 454, 3) := by decide +kernel
theorem dL_law_250 : decode cL_law 250 = .ok (.iconst 0, 1) := by decide +kernel
theorem dL_law_251 : decode cL_law 251 = .ok (.ireturn, 1) := by decide +kernel
theorem dL_law_252 : decode cL_law 252 = .ok (.aload_n 1, 1) := by decide +kernel
theorem dL_law_253 : decode cL_law 253 = .ok (.aload_n 0, 1) := by decide +kernel
theorem dL_law_254 : decode cL_law 254 = .ok (.iload_n 3, 1) := by decide +kernel
theorem dL_law_255 : decode cL_law 255 = .ok (.iconst 1, 1) := by decide +kernel
theorem dL_law_256 : decode cL_law 256 = .ok (.iadd, 1) := by decide +kernel
theorem dL_law_257 : decode cL_law 257 = .ok (.iaload, 1) := by decide +kernel
theorem dL_law_258 : decode cL_law 258 = .ok (.invokevirtual 33, 3) := by decide +kernel
theorem dL_law_261 : decode cL_law 261 = .ok (.aload_n 2, 1) := by decide +kernel
theorem dL_law_262 : decode cL_law 262 = .ok (.aload_n 0, 1) := by decide +kernel
theorem dL_law_263 : decode cL_law 263 = .ok (.iload_n 3, 1) := by decide +kernel
theorem dL_law_264 : decode cL_law 264 = .ok (.iconst 1, 1) := by decide +kernel
theorem dL_law_265 : decode cL_law 265 = .ok (.iadd, 1) := by decide +kernel
theorem dL_law_266 : decode cL_law 266 = .ok (.iaload, 1) := by decide +kernel
theorem dL_law_267 : decode cL_law 267 = .ok (.invokevirtual 36, 3) := by decide +kernel
theorem dL_law_270 : decode cL_law 270 = .ok (.if_icmp .eq 431, 3) := by decide +kernel
theorem dL_law_273 : decode cL_law 273 = .ok (.iconst 0, 1) := by decide +kernel
theorem dL_law_274 : decode cL_law 274 = .ok (.ireturn, 1) := by decide +kernel
theorem dL_law_275 : decode cL_law 275 = .ok (.aload_n 1, 1) := by decide +kernel
theorem dL_law_276 : decode cL_law 276 = .ok (.aload_n 0, 1) := by decide +kernel
theorem dL_law_277 : decode cL_law 277 = .ok (.iload_n 3, 1) := by decide +kernel
theorem dL_law_278 : decode cL_law 278 = .ok (.iconst 1, 1) := by decide +kernel
theorem dL_law_279 : decode cL_law 279 = .ok (.iadd, 1) := by decide +kernel
theorem dL_law_280 : decode cL_law 280 = .ok (.iaload, 1) := by decide +kernel
theorem dL_law_281 : decode cL_law 281 = .ok (.invokevirtual 37, 3) := by decide +kernel
theorem dL_law_284 : decode cL_law 284 = .ok (.aload_n 2, 1) := by decide +kernel
theorem dL_law_285 : decode cL_law 285 = .ok (.aload_n 0, 1) := by decide +kernel
theorem dL_law_286 : decode cL_law 286 = .ok (.iload_n 3, 1) := by decide +kernel
theorem dL_law_287 : decode cL_law 287 = .ok (.iconst 1, 1) := by decide +kernel
theorem dL_law_288 : decode cL_law 288 = .ok (.iadd, 1) := by decide +kernel
theorem dL_law_289 : decode cL_law 289 = .ok (.iaload, 1) := by decide +kernel
theorem dL_law_290 : decode cL_law 290 = .ok (.invokevirtual 40, 3) := by decide +kernel
theorem dL_law_293 : decode cL_law 293 = .ok (.if_icmp .eq 408, 3) := by decide +kernel
theorem dL_law_296 : decode cL_law 296 = .ok (.iconst 0, 1) := by decide +kernel
theorem dL_law_297 : decode cL_law 297 = .ok (.ireturn, 1) := by decide +kernel
theorem dL_law_298 : decode cL_law 298 = .ok (.aload_n 1, 1) := by decide +kernel
theorem dL_law_299 : decode cL_law 299 = .ok (.aload_n 0, 1) := by decide +kernel
theorem dL_law_300 : decode cL_law 300 = .ok (.iload_n 3, 1) := by decide +kernel
theorem dL_law_301 : decode cL_law 301 = .ok (.iconst 1, 1) := by decide +kernel
theorem dL_law_302 : decode cL_law 302 = .ok (.iadd, 1) := by decide +kernel
theorem dL_law_303 : decode cL_law 303 = .ok (.iaload, 1) := by decide +kernel
theorem dL_law_304 : decode cL_law 304 = .ok (.invokevirtual 41, 3) := by decide +kernel
theorem dL_law_307 : decode cL_law 307 = .ok (.aload_n 2, 1) := by decide +kernel
theorem dL_law_308 : decode cL_law 308 = .ok (.aload_n 0, 1) := by decide +kernel
theorem dL_law_309 : decode cL_law 309 = .ok (.iload_n 3, 1) := by decide +kernel
theorem dL_law_310 : decode cL_law 310 = .ok (.iconst 1, 1) := by decide +kernel
theorem dL_law_311 : decode cL_law 311 = .ok (.iadd, 1) := by decide +kernel
theorem dL_law_312 : decode cL_law 312 = .ok (.iaload, 1) := by decide +kernel
theorem dL_law_313 : decode cL_law 313 = .ok (.invokevirtual 44, 3) := by decide +kernel
theorem dL_law_316 : decode cL_law 316 = .ok (.if_icmp .eq 385, 3) := by decide +kernel
theorem dL_law_319 : decode cL_law 319 = .ok (.iconst 0, 1) := by decide +kernel
theorem dL_law_320 : decode cL_law 320 = .ok (.ireturn, 1) := by decide +kernel
theorem dL_law_321 : decode cL_law 321 = .ok (.aload_n 1, 1) := by decide +kernel
theorem dL_law_322 : decode cL_law 322 = .ok (.aload_n 0, 1) := by decide +kernel
theorem dL_law_323 : decode cL_law 323 = .ok (.iload_n 3, 1) := by decide +kernel
theorem dL_law_324 : decode cL_law 324 = .ok (.iconst 1, 1) := by decide +kernel
theorem dL_law_325 : decode cL_law 325 = .ok (.iadd, 1) := by decide +kernel
theorem dL_law_326 : decode cL_law 326 = .ok (.iaload, 1) := by decide +kernel
theorem dL_law_327 : decode cL_law 327 = .ok (.invokevirtual 45, 3) := by decide +kernel
theorem dL_law_330 : decode cL_law 330 = .ok (.aload_n 2, 1) := by decide +kernel
theorem dL_law_331 : decode cL_law 331 = .ok (.aload_n 0, 1) := by decide +kernel
theorem dL_law_332 : decode cL_law 332 = .ok (.iload_n 3, 1) := by decide +kernel
theorem dL_law_333 : decode cL_law 333 = .ok (.iconst 1, 1) := by decide +kernel
theorem dL_law_334 : decode cL_law 334 = .ok (.iadd, 1) := by decide +kernel
theorem dL_law_335 : decode cL_law 335 = .ok (.iaload, 1) := by decide +kernel
theorem dL_law_336 : decode cL_law 336 = .ok (.invokevirtual 48, 3) := by decide +kernel
theorem dL_law_339 : decode cL_law 339 = .ok (.if_icmp .eq 362, 3) := by decide +kernel
theorem dL_law_342 : decode cL_law 342 = .ok (.iconst 0, 1) := by decide +kernel
theorem dL_law_343 : decode cL_law 343 = .ok (.ireturn, 1) := by decide +kernel
theorem dL_law_344 : decode cL_law 344 = .ok (.aload_n 1, 1) := by decide +kernel
theorem dL_law_345 : decode cL_law 345 = .ok (.aload_n 0, 1) := by decide +kernel
theorem dL_law_346 : decode cL_law 346 = .ok (.iload_n 3, 1) := by decide +kernel
theorem dL_law_347 : decode cL_law 347 = .ok (.iconst 1, 1) := by decide +kernel
theorem dL_law_348 : decode cL_law 348 = .ok (.iadd, 1) := by decide +kernel
theorem dL_law_349 : decode cL_law 349 = .ok (.iaload, 1) := by decide +kernel
theorem dL_law_350 : decode cL_law 350 = .ok (.invokevirtual 49, 3) := by decide +kernel
theorem dL_law_353 : decode cL_law 353 = .ok (.aload_n 2, 1) := by decide +kernel
theorem dL_law_354 : decode cL_law 354 = .ok (.aload_n 0, 1) := by decide +kernel
theorem dL_law_355 : decode cL_law 355 = .ok (.iload_n 3, 1) := by decide +kernel
theorem dL_law_356 : decode cL_law 356 = .ok (.iconst 1, 1) := by decide +kernel
theorem dL_law_357 : decode cL_law 357 = .ok (.iadd, 1) := by decide +kernel
theorem dL_law_358 : decode cL_law 358 = .ok (.iaload, 1) := by decide +kernel
theorem dL_law_359 : decode cL_law 359 = .ok (.invokevirtual 52, 3) := by decide +kernel
theorem dL_law_362 : decode cL_law 362 = .ok (.if_icmp .eq 339, 3) := by decide +kernel
theorem dL_law_365 : decode cL_law 365 = .ok (.iconst 0, 1) := by decide +kernel
theorem dL_law_366 : decode cL_law 366 = .ok (.ireturn, 1) := by decide +kernel
theorem dL_law_367 : decode cL_law 367 = .ok (.aload_n 1, 1) := by decide +kernel
theorem dL_law_368 : decode cL_law 368 = .ok (.aload_n 0, 1) := by decide +kernel
theorem dL_law_369 : decode cL_law 369 = .ok (.iload_n 3, 1) := by decide +kernel
theorem dL_law_370 : decode cL_law 370 = .ok (.iconst 1, 1) := by decide +kernel
theorem dL_law_371 : decode cL_law 371 = .ok (.iadd, 1) := by decide +kernel
theorem dL_law_372 : decode cL_law 372 = .ok (.iaload, 1) := by decide +kernel
theorem dL_law_373 : decode cL_law 373 = .ok (.invokevirtual 53, 3) := by decide +kernel
theorem dL_law_376 : decode cL_law 376 = .ok (.aload_n 2, 1) := by decide +kernel
theorem dL_law_377 : decode cL_law 377 = .ok (.aload_n 0, 1) := by decide +kernel
theorem dL_law_378 : decode cL_law 378 = .ok (.iload_n 3, 1) := by decide +kernel
theorem dL_law_379 : decode cL_law 379 = .ok (.iconst 1, 1) := by decide +kernel
theorem dL_law_380 : decode cL_law 380 = .ok (.iadd, 1) := by decide +kernel
theorem dL_law_381 : decode cL_law 381 = .ok (.iaload, 1) := by decide +kernel
theorem dL_law_382 : decode cL_law 382 = .ok (.invokevirtual 56, 3) := by decide +kernel
theorem dL_law_385 : decode cL_law 385 = .ok (.if_icmp .eq 316, 3) := by decide +kernel
theorem dL_law_388 : decode cL_law 388 = .ok (.iconst 0, 1) := by decide +kernel
theorem dL_law_389 : decode cL_law 389 = .ok (.ireturn, 1) := by decide +kernel
theorem dL_law_390 : decode cL_law 390 = .ok (.aload_n 1, 1) := by decide +kernel
theorem dL_law_391 : decode cL_law 391 = .ok (.aload_n 0, 1) := by decide +kernel
theorem dL_law_392 : decode cL_law 392 = .ok (.iload_n 3, 1) := by decide +kernel
theorem dL_law_393 : decode cL_law 393 = .ok (.iconst 1, 1) := by decide +kernel
theorem dL_law_394 : decode cL_law 394 = .ok (.iadd, 1) := by decide +kernel
theorem dL_law_395 : decode cL_law 395 = .ok (.iaload, 1) := by decide +kernel
theorem dL_law_396 : decode cL_law 396 = .ok (.i2c, 1) := by decide +kernel
theorem dL_law_397 : decode cL_law 397 = .ok (.invokevirtual 57, 3) := by decide +kernel
theorem dL_law_400 : decode cL_law 400 = .ok (.aload_n 2, 1) := by decide +kernel
theorem dL_law_401 : decode cL_law 401 = .ok (.aload_n 0, 1) := by decide +kernel
theorem dL_law_402 : decode cL_law 402 = .ok (.iload_n 3, 1) := by decide +kernel
theorem dL_law_403 : decode cL_law 403 = .ok (.iconst 1, 1) := by decide +kernel
theorem dL_law_404 : decode cL_law 404 = .ok (.iadd, 1) := by decide +kernel
theorem dL_law_405 : decode cL_law 405 = .ok (.iaload, 1) := by decide +kernel
theorem dL_law_406 : decode cL_law 406 = .ok (.i2c, 1) := by decide +kernel
theorem dL_law_407 : decode cL_law 407 = .ok (.invokevirtual 61, 3) := by decide +kernel
theorem dL_law_410 : decode cL_law 410 = .ok (.if_icmp .eq 291, 3) := by decide +kernel
theorem dL_law_413 : decode cL_law 413 = .ok (.iconst 0, 1) := by decide +kernel
theorem dL_law_414 : decode cL_law 414 = .ok (.ireturn, 1) := by decide +kernel
theorem dL_law_415 : decode cL_law 415 = .ok (.aload_n 1, 1) := by decide +kernel
theorem dL_law_416 : decode cL_law 416 = .ok (.invokevirtual 62, 3) := by decide +kernel
theorem dL_law_419 : decode cL_law 419 = .ok (.aload_n 2, 1) := by decide +kernel
theorem dL_law_420 : decode cL_law 420 = .ok (.invokevirtual 65, 3) := by decide +kernel
theorem dL_law_423 : decode cL_law 423 = .ok (.if_icmp .eq 278, 3) := by decide +kernel
theorem dL_law_426 : decode cL_law 426 = .ok (.iconst 0, 1) := by decide +kernel
theorem dL_law_427 : decode cL_law 427 = .ok (.ireturn, 1) := by decide +kernel
theorem dL_law_428 : decode cL_law 428 = .ok (.aload_n 1, 1) := by decide +kernel
theorem dL_law_429 : decode cL_law 429 = .ok (.invokevirtual 66, 3) := by decide +kernel
theorem dL_law_432 : decode cL_law 432 = .ok (.aload_n 2, 1) := by decide +kernel
theorem dL_law_433 : decode cL_law 433 = .ok (.invokevirtual 69, 3) := by decide +kernel
theorem dL_law_436 : decode cL_law 436 = .ok (.if_icmp .eq 265, 3) := by decide +kernel
theorem dL_law_439 : decode cL_law 439 = .ok (.iconst 0, 1) := by decide +kernel
theorem dL_law_440 : decode cL_law 440 = .ok (.ireturn, 1) := by decide +kernel
theorem dL_law_441 : decode cL_law 441 = .ok (.aload_n 1, 1) := by decide +kernel
theorem dL_law_442 : decode cL_law 442 = .ok (.invokevirtual 70, 3) := by decide +kernel
theorem dL_law_445 : decode cL_law 445 = .ok (.aload_n 2, 1) := by decide +kernel
theorem dL_law_446 : decode cL_law 446 = .ok (.invokevirtual 73, 3) := by decide +kernel
theorem dL_law_449 : decode cL_law 449 = .ok (.if_icmp .eq 252, 3) := by decide +kernel
theorem dL_law_452 : decode cL_law 452 = .ok (.iconst 0, 1) := by decide +kernel
theorem dL_law_453 : decode cL_law 453 = .ok (.ireturn, 1) := by decide +kernel
theorem dL_law_454 : decode cL_law 454 = .ok (.aload_n 1, 1) := by decide +kernel
theorem dL_law_455 : decode cL_law 455 = .ok (.invokevirtual 74, 3) := by decide +kernel
theorem dL_law_458 : decode cL_law 458 = .ok (.aload_n 2, 1) := by decide +kernel
theorem dL_law_459 : decode cL_law 459 = .ok (.invokevirtual 77, 3) := by decide +kernel
theorem dL_law_462 : decode cL_law 462 = .ok (.if_icmp .eq 239, 3) := by decide +kernel
theorem dL_law_465 : decode cL_law 465 = .ok (.iconst 0, 1) := by decide +kernel
theorem dL_law_466 : decode cL_law 466 = .ok (.ireturn, 1) := by decide +kernel
theorem dL_law_467 : decode cL_law 467 = .ok (.aload_n 1, 1) := by decide +kernel
theorem dL_law_468 : decode cL_law 468 = .ok (.aload_n 0, 1) := by decide +kernel
theorem dL_law_469 : decode cL_law 469 = .ok (.iload_n 3, 1) := by decide +kernel
theorem dL_law_470 : decode cL_law 470 = .ok (.iconst 1, 1) := by decide +kernel
theorem dL_law_471 : decode cL_law 471 = .ok (.iadd, 1) := by decide +kernel
theorem dL_law_472 : decode cL_law 472 = .ok (.iaload, 1) := by decide +kernel
theorem dL_law_473 : decode cL_law 473 = .ok (.aload_n 0, 1) := by decide +kernel
theorem dL_law_474 : decode cL_law 474 = .ok (.iload_n 3, 1) := by decide +kernel
theorem dL_law_475 : decode cL_law 475 = .ok (.iconst 2, 1) := by decide +kernel
theorem dL_law_476 : decode cL_law 476 = .ok (.iadd, 1) := by decide +kernel
theorem dL_law_477 : decode cL_law 477 = .ok (.iaload, 1) := by decide +kernel
theorem dL_law_478 : decode cL_law 478 = .ok (.invokevirtual 78, 3) := by decide +kernel
theorem dL_law_481 : decode cL_law 481 = .ok (.aload_n 2, 1) := by decide +kernel
theorem dL_law_482 : decode cL_law 482 = .ok (.aload_n 0, 1) := by decide +kernel
theorem dL_law_483 : decode cL_law 483 = .ok (.iload_n 3, 1) := by decide +kernel
theorem dL_law_484 : decode cL_law 484 = .ok (.iconst 1, 1) := by decide +kernel
theorem dL_law_485 : decode cL_law 485 = .ok (.iadd, 1) := by decide +kernel
theorem dL_law_486 : decode cL_law 486 = .ok (.iaload, 1) := by decide +kernel
theorem dL_law_487 : decode cL_law 487 = .ok (.aload_n 0, 1) := by decide +kernel
theorem dL_law_488 : decode cL_law 488 = .ok (.iload_n 3, 1) := by decide +kernel
theorem dL_law_489 : decode cL_law 489 = .ok (.iconst 2, 1) := by decide +kernel
theorem dL_law_490 : decode cL_law 490 = .ok (.iadd, 1) := by decide +kernel
theorem dL_law_491 : decode cL_law 491 = .ok (.iaload, 1) := by decide +kernel
theorem dL_law_492 : decode cL_law 492 = .ok (.invokevirtual 81, 3) := by decide +kernel
theorem dL_law_495 : decode cL_law 495 = .ok (.if_icmp .eq 206, 3) := by decide +kernel
theorem dL_law_498 : decode cL_law 498 = .ok (.iconst 0, 1) := by decide +kernel
theorem dL_law_499 : decode cL_law 499 = .ok (.ireturn, 1) := by decide +kernel
theorem dL_law_500 : decode cL_law 500 = .ok (.aload_n 1, 1) := by decide +kernel
theorem dL_law_501 : decode cL_law 501 = .ok (.aload_n 0, 1) := by decide +kernel
theorem dL_law_502 : decode cL_law 502 = .ok (.iload_n 3, 1) := by decide +kernel
theorem dL_law_503 : decode cL_law 503 = .ok (.iconst 1, 1) := by decide +kernel
theorem dL_law_504 : decode cL_law 504 = .ok (.iadd, 1) := by decide +kernel
theorem dL_law_505 : decode cL_law 505 = .ok (.iaload, 1) := by decide +kernel
theorem dL_law_506 : decode cL_law 506 = .ok (.aload_n 0, 1) := by decide +kernel
theorem dL_law_507 : decode cL_law 507 = .ok (.iload_n 3, 1) := by decide +kernel
theorem dL_law_508 : decode cL_law 508 = .ok (.iconst 2, 1) := by decide +kernel
theorem dL_law_509 : decode cL_law 509 = .ok (.iadd, 1) := by decide +kernel
theorem dL_law_510 : decode cL_law 510 = .ok (.iaload, 1) := by decide +kernel
theorem dL_law_511 : decode cL_law 511 = .ok (.invokevirtual 82, 3) := by decide +kernel
theorem dL_law_514 : decode cL_law 514 = .ok (.aload_n 2, 1) := by decide +kernel
theorem dL_law_515 : decode cL_law 515 = .ok (.aload_n 0, 1) := by decide +kernel
theorem dL_law_516 : decode cL_law 516 = .ok (.iload_n 3, 1) := by decide +kernel
theorem dL_law_517 : decode cL_law 517 = .ok (.iconst 1, 1) := by decide +kernel
theorem dL_law_518 : decode cL_law 518 = .ok (.iadd, 1) := by decide +kernel
theorem dL_law_519 : decode cL_law 519 = .ok (.iaload, 1) := by decide +kernel
theorem dL_law_520 : decode cL_law 520 = .ok (.aload_n 0, 1) := by decide +kernel
theorem dL_law_521 : decode cL_law 521 = .ok (.iload_n 3, 1) := by decide +kernel
theorem dL_law_522 : decode cL_law 522 = .ok (.iconst 2, 1) := by decide +kernel
theorem dL_law_523 : decode cL_law 523 = .ok (.iadd, 1) := by decide +kernel
theorem dL_law_524 : decode cL_law 524 = .ok (.iaload, 1) := by decide +kernel
theorem dL_law_525 : decode cL_law 525 = .ok (.invokevirtual 85, 3) := by decide +kernel
theorem dL_law_528 : decode cL_law 528 = .ok (.if_icmp .eq 173, 3) := by decide +kernel
theorem dL_law_531 : decode cL_law 531 = .ok (.iconst 0, 1) := by decide +kernel
theorem dL_law_532 : decode cL_law 532 = .ok (.ireturn, 1) := by decide +kernel
theorem dL_law_533 : decode cL_law 533 = .ok (.aload_n 1, 1) := by decide +kernel
theorem dL_law_534 : decode cL_law 534 = .ok (.aload_n 0, 1) := by decide +kernel
theorem dL_law_535 : decode cL_law 535 = .ok (.iload_n 3, 1) := by decide +kernel
theorem dL_law_536 : decode cL_law 536 = .ok (.iconst 1, 1) := by decide +kernel
theorem dL_law_537 : decode cL_law 537 = .ok (.iadd, 1) := by decide +kernel
theorem dL_law_538 : decode cL_law 538 = .ok (.iaload, 1) := by decide +kernel
theorem dL_law_539 : decode cL_law 539 = .ok (.invokevirtual 86, 3) := by decide +kernel
theorem dL_law_542 : decode cL_law 542 = .ok (.aload_n 2, 1) := by decide +kernel
theorem dL_law_543 : decode cL_law 543 = .ok (.aload_n 0, 1) := by decide +kernel
theorem dL_law_544 : decode cL_law 544 = .ok (.iload_n 3, 1) := by decide +kernel
theorem dL_law_545 : decode cL_law 545 = .ok (.iconst 1, 1) := by decide +kernel
theorem dL_law_546 : decode cL_law 546 = .ok (.iadd, 1) := by decide +kernel
theorem dL_law_547 : decode cL_law 547 = .ok (.iaload, 1) := by decide +kernel
theorem dL_law_548 : decode cL_law 548 = .ok (.invokevirtual 89, 3) := by decide +kernel
theorem dL_law_551 : decode cL_law 551 = .ok (.if_icmp .eq 150, 3) := by decide +kernel
theorem dL_law_554 : decode cL_law 554 = .ok (.iconst 0, 1) := by decide +kernel
theorem dL_law_555 : decode cL_law 555 = .ok (.ireturn, 1) := by decide +kernel
theorem dL_law_556 : decode cL_law 556 = .ok (.aload_n 1, 1) := by decide +kernel
theorem dL_law_557 : decode cL_law 557 = .ok (.aload_n 0, 1) := by decide +kernel
theorem dL_law_558 : decode cL_law 558 = .ok (.iload_n 3, 1) := by decide +kernel
theorem dL_law_559 : decode cL_law 559 = .ok (.iconst 1, 1) := by decide +kernel
theorem dL_law_560 : decode cL_law 560 = .ok (.iadd, 1) := by decide +kernel
theorem dL_law_561 : decode cL_law 561 = .ok (.iaload, 1) := by decide +kernel
theorem dL_law_562 : decode cL_law 562 = .ok (.invokevirtual 90, 3) := by decide +kernel
theorem dL_law_565 : decode cL_law 565 = .ok (.aload_n 2, 1) := by decide +kernel
theorem dL_law_566 : decode cL_law 566 = .ok (.aload_n 0, 1) := by decide +kernel
theorem dL_law_567 : decode cL_law 567 = .ok (.iload_n 3, 1) := by decide +kernel
theorem dL_law_568 : decode cL_law 568 = .ok (.iconst 1, 1) := by decide +kernel
theorem dL_law_569 : decode cL_law 569 = .ok (.iadd, 1) := by decide +kernel
theorem dL_law_570 : decode cL_law 570 = .ok (.iaload, 1) := by decide +kernel
theorem dL_law_571 : decode cL_law 571 = .ok (.invokevirtual 93, 3) := by decide +kernel
theorem dL_law_574 : decode cL_law 574 = .ok (.if_icmp .eq 127, 3) := by decide +kernel
theorem dL_law_577 : decode cL_law 577 = .ok (.iconst 0, 1) := by decide +kernel
theorem dL_law_578 : decode cL_law 578 = .ok (.ireturn, 1) := by decide +kernel
theorem dL_law_579 : decode cL_law 579 = .ok (.aload_n 1, 1) := by decide +kernel
theorem dL_law_580 : decode cL_law 580 = .ok (.aload_n 0, 1) := by decide +kernel
theorem dL_law_581 : decode cL_law 581 = .ok (.iload_n 3, 1) := by decide +kernel
theorem dL_law_582 : decode cL_law 582 = .ok (.iconst 1, 1) := by decide +kernel
theorem dL_law_583 : decode cL_law 583 = .ok (.iadd, 1) := by decide +kernel
theorem dL_law_584 : decode cL_law 584 = .ok (.iaload, 1) := by decide +kernel
theorem dL_law_585 : decode cL_law 585 = .ok (.aload_n 0, 1) := by decide +kernel
theorem dL_law_586 : decode cL_law 586 = .ok (.iload_n 3, 1) := by decide +kernel
theorem dL_law_587 : decode cL_law 587 = .ok (.iconst 2, 1) := by decide +kernel
theorem dL_law_588 : decode cL_law 588 = .ok (.iadd, 1) := by decide +kernel
theorem dL_law_589 : decode cL_law 589 = .ok (.iaload, 1) := by decide +kernel
theorem dL_law_590 : decode cL_law 590 = .ok (.aload_n 0, 1) := by decide +kernel
theorem dL_law_591 : decode cL_law 591 = .ok (.iload_n 3, 1) := by decide +kernel
theorem dL_law_592 : decode cL_law 592 = .ok (.iconst 3, 1) := by decide +kernel
theorem dL_law_593 : decode cL_law 593 = .ok (.iadd, 1) := by decide +kernel
theorem dL_law_594 : decode cL_law 594 = .ok (.iaload, 1) := by decide +kernel
theorem dL_law_595 : decode cL_law 595 = .ok (.invokevirtual 94, 3) := by decide +kernel
theorem dL_law_598 : decode cL_law 598 = .ok (.aload_n 2, 1) := by decide +kernel
theorem dL_law_599 : decode cL_law 599 = .ok (.aload_n 0, 1) := by decide +kernel
theorem dL_law_600 : decode cL_law 600 = .ok (.iload_n 3, 1) := by decide +kernel
theorem dL_law_601 : decode cL_law 601 = .ok (.iconst 1, 1) := by decide +kernel
theorem dL_law_602 : decode cL_law 602 = .ok (.iadd, 1) := by decide +kernel
theorem dL_law_603 : decode cL_law 603 = .ok (.iaload, 1) := by decide +kernel
theorem dL_law_604 : decode cL_law 604 = .ok (.aload_n 0, 1) := by decide +kernel
theorem dL_law_605 : decode cL_law 605 = .ok (.iload_n 3, 1) := by decide +kernel
theorem dL_law_606 : decode cL_law 606 = .ok (.iconst 2, 1) := by decide +kernel
theorem dL_law_607 : decode cL_law 607 = .ok (.iadd, 1) := by decide +kernel
theorem dL_law_608 : decode cL_law 608 = .ok (.iaload, 1) := by decide +kernel
theorem dL_law_609 : decode cL_law 609 = .ok (.aload_n 0, 1) := by decide +kernel
theorem dL_law_610 : decode cL_law 610 = .ok (.iload_n 3, 1) := by decide +kernel
theorem dL_law_611 : decode cL_law 611 = .ok (.iconst 3, 1) := by decide +kernel
theorem dL_law_612 : decode cL_law 612 = .ok (.iadd, 1) := by decide +kernel
theorem dL_law_613 : decode cL_law 613 = .ok (.iaload, 1) := by decide +kernel
theorem dL_law_614 : decode cL_law 614 = .ok (.invokevirtual 97, 3) := by decide +kernel
theorem dL_law_617 : decode cL_law 617 = .ok (.if_icmp .eq 84, 3) := by decide +kernel
theorem dL_law_620 : decode cL_law 620 = .ok (.iconst 0, 1) := by decide +kernel
theorem dL_law_621 : decode cL_law 621 = .ok (.ireturn, 1) := by decide +kernel
theorem dL_law_622 : decode cL_law 622 = .ok (.aload_n 1, 1) := by decide +kernel
theorem dL_law_623 : decode cL_law 623 = .ok (.aload_n 0, 1) := by decide +kernel
theorem dL_law_624 : decode cL_law 624 = .ok (.iload_n 3, 1) := by decide +kernel
theorem dL_law_625 : decode cL_law 625 = .ok (.iconst 1, 1) := by decide +kernel
theorem dL_law_626 : decode cL_law 626 = .ok (.iadd, 1) := by decide +kernel
theorem dL_law_627 : decode cL_law 627 = .ok (.iaload, 1) := by decide +kernel
theorem dL_law_628 : decode cL_law 628 = .ok (.invokevirtual 98, 3) := by decide +kernel
theorem dL_law_631 : decode cL_law 631 = .ok (.aload_n 2, 1) := by decide +kernel
theorem dL_law_632 : decode cL_law 632 = .ok (.aload_n 0, 1) := by decide +kernel
theorem dL_law_633 : decode cL_law 633 = .ok (.iload_n 3, 1) := by decide +kernel
theorem dL_law_634 : decode cL_law 634 = .ok (.iconst 1, 1) := by decide +kernel
theorem dL_law_635 : decode cL_law 635 = .ok (.iadd, 1) := by decide +kernel
theorem dL_law_636 : decode cL_law 636 = .ok (.iaload, 1) := by decide +kernel
theorem dL_law_637 : decode cL_law 637 = .ok (.invokevirtual 101, 3) := by decide +kernel
theorem dL_law_640 : decode cL_law 640 = .ok (.if_icmp .eq 61, 3) := by decide +kernel
theorem dL_law_643 : decode cL_law 643 = .ok (.iconst 0, 1) := by decide +kernel
theorem dL_law_644 : decode cL_law 644 = .ok (.ireturn, 1) := by decide +kernel
theorem dL_law_645 : decode cL_law 645 = .ok (.aload_n 1, 1) := by decide +kernel
theorem dL_law_646 : decode cL_law 646 = .ok (.aload_n 0, 1) := by decide +kernel
theorem dL_law_647 : decode cL_law 647 = .ok (.iload_n 3, 1) := by decide +kernel
theorem dL_law_648 : decode cL_law 648 = .ok (.iconst 1, 1) := by decide +kernel
theorem dL_law_649 : decode cL_law 649 = .ok (.iadd, 1) := by decide +kernel
theorem dL_law_650 : decode cL_law 650 = .ok (.iaload, 1) := by decide +kernel
theorem dL_law_651 : decode cL_law 651 = .ok (.aload_n 0, 1) := by decide +kernel
theorem dL_law_652 : decode cL_law 652 = .ok (.iload_n 3, 1) := by decide +kernel
theorem dL_law_653 : decode cL_law 653 = .ok (.iconst 2, 1) := by decide +kernel
theorem dL_law_654 : decode cL_law 654 = .ok (.iadd, 1) := by decide +kernel
theorem dL_law_655 : decode cL_law 655 = .ok (.iaload, 1) := by decide +kernel
theorem dL_law_656 : decode cL_law 656 = .ok (.invokevirtual 102, 3) := by decide +kernel
theorem dL_law_659 : decode cL_law 659 = .ok (.aload_n 2, 1) := by decide +kernel
theorem dL_law_660 : decode cL_law 660 = .ok (.aload_n 0, 1) := by decide +kernel
theorem dL_law_661 : decode cL_law 661 = .ok (.iload_n 3, 1) := by decide +kernel
theorem dL_law_662 : decode cL_law 662 = .ok (.iconst 1, 1) := by decide +kernel
theorem dL_law_663 : decode cL_law 663 = .ok (.iadd, 1) := by decide +kernel
theorem dL_law_664 : decode cL_law 664 = .ok (.iaload, 1) := by decide +kernel
theorem dL_law_665 : decode cL_law 665 = .ok (.aload_n 0, 1) := by decide +kernel
theorem dL_law_666 : decode cL_law 666 = .ok (.iload_n 3, 1) := by decide +kernel
theorem dL_law_667 : decode cL_law 667 = .ok (.iconst 2, 1) := by decide +kernel
theorem dL_law_668 : decode cL_law 668 = .ok (.iadd, 1) := by decide +kernel
theorem dL_law_669 : decode cL_law 669 = .ok (.iaload, 1) := by decide +kernel
theorem dL_law_670 : decode cL_law 670 = .ok (.invokevirtual 105, 3) := by decide +kernel
theorem dL_law_673 : decode cL_law 673 = .ok (.if_icmp .eq 28, 3) := by decide +kernel
theorem dL_law_676 : decode cL_law 676 = .ok (.iconst 0, 1) := by decide +kernel
theorem dL_law_677 : decode cL_law 677 = .ok (.ireturn, 1) := by decide +kernel
theorem dL_law_678 : decode cL_law 678 = .ok (.aload_n 1, 1) := by decide +kernel
theorem dL_law_679 : decode cL_law 679 = .ok (.aload_n 0, 1) := by decide +kernel
theorem dL_law_680 : decode cL_law 680 = .ok (.iload_n 3, 1) := by decide +kernel
theorem dL_law_681 : decode cL_law 681 = .ok (.iconst 1, 1) := by decide +kernel
theorem dL_law_682 : decode cL_law 682 = .ok (.iadd, 1) := by decide +kernel
theorem dL_law_683 : decode cL_law 683 = .ok (.iaload, 1) := by decide +kernel
theorem dL_law_684 : decode cL_law 684 = .ok (.invokevirtual 106, 3) := by decide +kernel
theorem dL_law_687 : decode cL_law 687 = .ok (.aload_n 2, 1) := by decide +kernel
theorem dL_law_688 : decode cL_law 688 = .ok (.aload_n 0, 1) := by decide +kernel
theorem dL_law_689 : decode cL_law 689 = .ok (.iload_n 3, 1) := by decide +kernel
theorem dL_law_690 : decode cL_law 690 = .ok (.iconst 1, 1) := by decide +kernel
theorem dL_law_691 : decode cL_law 691 = .ok (.iadd, 1) := by decide +kernel
theorem dL_law_692 : decode cL_law 692 = .ok (.iaload, 1) := by decide +kernel
theorem dL_law_693 : decode cL_law 693 = .ok (.invokevirtual 109, 3) := by decide +kernel
theorem dL_law_696 : decode cL_law 696 = .ok (.if_icmp .eq 5, 3) := by decide +kernel
theorem dL_law_699 : decode cL_law 699 = .ok (.iconst 0, 1) := by decide +kernel
theorem dL_law_700 : decode cL_law 700 = .ok (.ireturn, 1) := by decide +kernel
theorem dL_law_701 : decode cL_law 701 = .ok (.iinc 3 4, 3) := by decide +kernel
theorem dL_law_704 : decode cL_law 704 = .ok (.goto (-686), 3) := by decide +kernel
theorem dL_law_707 : decode cL_law 707 = .ok (.iconst 1, 1) := by decide +kernel
theorem dL_law_708 : decode cL_law 708 = .ok (.ireturn, 1) := by decide +kernel
end
section
/-! ===== a small machine of its own: values, memory, what each instruction asks (a predicate over what comes next) ===== -/
/-- a value: a whole number, or a reference (tag, address) -/
abbrev Vl : Type := Int32 ⊕ (Nat × Nat)
/-- the memory: whole numbers and references, by address and place -/
abbrev Mm : Type := (Nat → Nat → Int32) × (Nat → Nat → Nat)
abbrev dp_Ps : Type := Int32 → Mm → Prop
abbrev dp_Lo : Type := List (Option Vl)
abbrev dp_Rc : Type := Nat → Nat → dp_Lo → List Vl → Mm → dp_Ps → Prop
abbrev dp_Op : Type := Nat → Nat → dp_Lo → List Vl → Mm → dp_Ps → dp_Rc → Prop
abbrev vI (x : Int32) : Vl := .inl x
abbrev vR (t a : Nat) : Vl := .inr (t, a)
def wI (G : Mm) (a k : Nat) (x : Int32) : Mm := (fun b j => if b = a ∧ j = k then x else G.1 b j, G.2)
def wR (G : Mm) (a k b : Nat) : Mm := (G.1, fun c j => if c = a ∧ j = k then b else G.2 c j)
/-- a whole row from place dp on becomes what stands in another from sp on, n numbers -/
def wC (G : Mm) (a0 sp a dp n : Nat) : Mm := (fun b j => if b = a ∧ dp ≤ j ∧ j < dp + n then G.1 a0 (sp + (j - dp)) else G.1 b j, G.2)
/-! tags: 0 to 8 the classes X0 to X8; arrays: 10 int[32], 11 int[30], 12 char[60], 13 Alarm[20], 14 Comparer[4], 15 Chip[4], 16 int[195], 17 int[780], 18 int[96] -/
def dp_al (t : Nat) : Nat := match t with
  | 10 => 32 | 11 => 30 | 12 => 60 | 13 => 20 | 14 => 4 | 15 => 4 | 16 => 195 | 17 => 780 | 18 => 96 | _ => 0
/-- the kind of an array's elements: 0 int, 1 char, 2 Alarm, 3 Comparer, 4 Chip -/
def dp_ak (t : Nat) : Nat := match t with
  | 10 => 0 | 11 => 0 | 12 => 1 | 13 => 2 | 14 => 3 | 15 => 4 | 16 => 0 | 17 => 0 | 18 => 0 | _ => 9
def dp_et (t : Nat) : Nat := match t with
  | 13 => 0 | 14 => 3 | 15 => 2 | _ => 99
def dp_nf (t : Nat) : Nat := match t with
  | 0 => 8 | 1 => 7 | 2 => 12 | 3 => 4 | 4 => 2 | 5 => 2 | 6 => 6 | 7 => 6 | 8 => 11 | _ => 0
/-- what a field that is a reference points at -/
def dp_fr (t j : Nat) : Option Nat := match t, j with
  | 1, 0 => some 12 | 1, 2 => some 11 | 1, 3 => some 11 | 1, 4 => some 11
  | 2, 8 => some 13 | 2, 9 => some 14 | 2, 10 => some 6 | 2, 11 => some 5
  | 4, 0 => some 15 | 5, 0 => some 10
  | 7, 0 => some 2 | 7, 1 => some 2 | 7, 2 => some 2 | 7, 3 => some 4 | 7, 4 => some 1
  | 8, 0 => some 16 | 8, 1 => some 16 | 8, 2 => some 17 | 8, 4 => some 16 | 8, 6 => some 12 | 8, 9 => some 18
  | _, _ => none
def dp_nth : dp_Lo → Nat → Option Vl
  | [], _ => none
  | v :: _, 0 => v
  | _ :: l, n + 1 => dp_nth l n
def dp_upd : dp_Lo → Nat → Vl → dp_Lo
  | [], _, _ => []
  | _ :: l, 0, v => some v :: l
  | w :: l, n + 1, v => w :: dp_upd l n v
def o_bad : dp_Op := fun _ _ _ _ _ _ _ => False
def o_push (x : Int32) (n : Nat) : dp_Op := fun k pc ls st G Q rec => rec k (pc + n) ls (vI x :: st) G Q
def o_iload (i n : Nat) : dp_Op := fun k pc ls st G Q rec => match dp_nth ls i with
  | some (.inl x) => rec k (pc + n) ls (vI x :: st) G Q
  | _ => False
def o_aload (i n : Nat) : dp_Op := fun k pc ls st G Q rec => match dp_nth ls i with
  | some (.inr r) => rec k (pc + n) ls (.inr r :: st) G Q
  | _ => False
def o_istore (i n : Nat) : dp_Op := fun k pc ls st G Q rec => match st with
  | .inl x :: st => rec k (pc + n) (dp_upd ls i (vI x)) st G Q
  | _ => False
def o_astore (i n : Nat) : dp_Op := fun k pc ls st G Q rec => match st with
  | .inr r :: st => rec k (pc + n) (dp_upd ls i (.inr r)) st G Q
  | _ => False
def o_inc (i : Nat) (d : Int32) : dp_Op := fun k pc ls st G Q rec => match dp_nth ls i with
  | some (.inl x) => rec k (pc + 3) (dp_upd ls i (vI (x + d))) st G Q
  | _ => False
def o_bin (f : Int32 → Int32 → Int32) : dp_Op := fun k pc ls st G Q rec => match st with
  | .inl y :: .inl x :: st => rec k (pc + 1) ls (vI (f x y) :: st) G Q
  | _ => False
def o_div : dp_Op := fun k pc ls st G Q rec => match st with
  | .inl y :: .inl x :: st => ¬ y = 0 ∧ rec k (pc + 1) ls (vI (x / y) :: st) G Q
  | _ => False
def o_rem : dp_Op := fun k pc ls st G Q rec => match st with
  | .inl y :: .inl x :: st => ¬ y = 0 ∧ rec k (pc + 1) ls (vI (x - x / y * y) :: st) G Q
  | _ => False
def o_if (c : Int32 → Prop) (tgt : Nat) : dp_Op := fun k pc ls st G Q rec => match st with
  | .inl x :: st => (c x → rec k tgt ls st G Q) ∧ (¬ c x → rec k (pc + 3) ls st G Q)
  | _ => False
def o_cmp (c : Int32 → Int32 → Prop) (tgt : Nat) : dp_Op := fun k pc ls st G Q rec => match st with
  | .inl y :: .inl x :: st => (c x y → rec k tgt ls st G Q) ∧ (¬ c x y → rec k (pc + 3) ls st G Q)
  | _ => False
def o_goto (tgt : Nat) : dp_Op := fun k _ ls st G Q rec => rec k tgt ls st G Q
def o_dup : dp_Op := fun k pc ls st G Q rec => match st with
  | v :: st => rec k (pc + 1) ls (v :: v :: st) G Q
  | _ => False
def o_dup2 : dp_Op := fun k pc ls st G Q rec => match st with
  | v :: w :: st => rec k (pc + 1) ls (v :: w :: v :: w :: st) G Q
  | _ => False
def o_pop : dp_Op := fun k pc ls st G Q rec => match st with
  | _ :: st => rec k (pc + 1) ls st G Q
  | _ => False
def o_getI (t j : Nat) : dp_Op := fun k pc ls st G Q rec => match st with
  | .inr r :: st => cond (Nat.beq r.1 t) (rec k (pc + 3) ls (vI (G.1 r.2 j) :: st) G Q) False
  | _ => False
def o_getR (t j u : Nat) : dp_Op := fun k pc ls st G Q rec => match st with
  | .inr r :: st => cond (Nat.beq r.1 t) (rec k (pc + 3) ls (vR u (G.2 r.2 j) :: st) G Q) False
  | _ => False
def o_putI (t j : Nat) : dp_Op := fun k pc ls st G Q rec => match st with
  | .inl x :: .inr r :: st => cond (Nat.beq r.1 t) (rec k (pc + 3) ls st (wI G r.2 j x) Q) False
  | _ => False
def o_putZ (t j : Nat) : dp_Op := fun k pc ls st G Q rec => match st with
  | .inl x :: .inr r :: st => cond (Nat.beq r.1 t) ((x = 0 ∨ x = 1) ∧ rec k (pc + 3) ls st (wI G r.2 j x) Q) False
  | _ => False
def o_iald : dp_Op := fun k pc ls st G Q rec => match st with
  | .inl i :: .inr r :: st => cond (Nat.beq (dp_ak r.1) 0) (vp_in i (dp_al r.1) ∧ rec k (pc + 1) ls (vI (G.1 r.2 i.toNatClampNeg) :: st) G Q) False
  | _ => False
def o_cald : dp_Op := fun k pc ls st G Q rec => match st with
  | .inl i :: .inr r :: st => cond (Nat.beq (dp_ak r.1) 1) (vp_in i (dp_al r.1) ∧ rec k (pc + 1) ls (vI (G.1 r.2 i.toNatClampNeg) :: st) G Q) False
  | _ => False
def o_aald : dp_Op := fun k pc ls st G Q rec => match st with
  | .inl i :: .inr r :: st => cond (Nat.ble 13 r.1 && Nat.ble r.1 15) (vp_in i (dp_al r.1) ∧ rec k (pc + 1) ls (vR (dp_et r.1) (G.2 r.2 i.toNatClampNeg) :: st) G Q) False
  | _ => False
def o_iast : dp_Op := fun k pc ls st G Q rec => match st with
  | .inl x :: .inl i :: .inr r :: st => cond (Nat.beq (dp_ak r.1) 0) (vp_in i (dp_al r.1) ∧ rec k (pc + 1) ls st (wI G r.2 i.toNatClampNeg x) Q) False
  | _ => False
def o_cast : dp_Op := fun k pc ls st G Q rec => match st with
  | .inl x :: .inl i :: .inr r :: st => cond (Nat.beq (dp_ak r.1) 1) (vp_in i (dp_al r.1) ∧ vp_nar .char x = x ∧ rec k (pc + 1) ls st (wI G r.2 i.toNatClampNeg x) Q) False
  | _ => False
def o_aast : dp_Op := fun k pc ls st G Q rec => match st with
  | .inr v :: .inl i :: .inr r :: st => cond (Nat.ble 13 r.1 && Nat.ble r.1 15 && Nat.beq v.1 (dp_et r.1)) (vp_in i (dp_al r.1) ∧ rec k (pc + 1) ls st (wR G r.2 i.toNatClampNeg v.2) Q) False
  | _ => False
def o_max : dp_Op := fun k pc ls st G Q rec => match st with
  | .inl y :: .inl x :: st => cond (Nat.ble st.length 8) (rec k (pc + 3) ls (vI (if x < y then y else x) :: st) G Q) False
  | _ => False
def o_min : dp_Op := fun k pc ls st G Q rec => match st with
  | .inl y :: .inl x :: st => cond (Nat.ble st.length 8) (rec k (pc + 3) ls (vI (if y < x then y else x) :: st) G Q) False
  | _ => False
def o_acp : dp_Op := fun k pc ls st G Q rec => match st with
  | .inl n :: .inl d :: .inr r :: .inl s :: .inr q :: st => cond (Nat.beq (dp_ak r.1) 0 && Nat.beq (dp_ak q.1) 0 && Nat.ble st.length 8)
      ((¬ s < 0 ∧ ¬ d < 0 ∧ ¬ n < 0 ∧ s.toNatClampNeg + n.toNatClampNeg ≤ dp_al q.1 ∧ d.toNatClampNeg + n.toNatClampNeg ≤ dp_al r.1) ∧ rec k (pc + 3) ls st (wC G q.2 s.toNatClampNeg r.2 d.toNatClampNeg n.toNatClampNeg) Q) False
  | _ => False
def dp_sw (f : Nat → Prop) : List Nat → Int → Int32 → Nat → Prop
  | [], _, _, d => f d
  | t :: ts, lo, x, d => (x.toInt = lo → f t) ∧ (¬ x.toInt = lo → dp_sw f ts (lo + 1) x d)
def o_tsw (lo : Int) (ts : List Nat) (d : Nat) : dp_Op := fun k _ ls st G Q rec => match st with
  | .inl x :: st => dp_sw (fun t => rec k t ls st G Q) ts lo x d
  | _ => False
def o_iret : dp_Op := fun _ _ _ st G Q _ => match st with
  | [.inl x] => Q x G
  | _ => False
def o_zret : dp_Op := fun _ _ _ st G Q _ => match st with
  | [.inl x] => (x = 0 ∨ x = 1) ∧ Q x G
  | _ => False
def o_vret : dp_Op := fun _ _ _ st G Q _ => match st with
  | [] => Q 0 G
  | _ => False
/-- locals at a method's entry: its arguments, the rest unset -/
def dp_pad : Nat → dp_Lo
  | 0 => []
  | n + 1 => none :: dp_pad n
def dp_ini : Nat → List Vl → dp_Lo
  | 0, _ => []
  | n + 1, [] => none :: dp_ini n []
  | n + 1, v :: l => some v :: dp_ini n l
/-- a static method of n arguments, with mL locals; vd: it answers nothing -/
def o_call (k' mL n : Nat) (vd : Bool) : dp_Op := fun k pc ls st G Q rec => cond (Nat.ble n st.length && Nat.ble (st.drop n).length 8)
  (rec k' 0 (dp_ini mL (st.take n).reverse) [] G (fun x G' => rec k (pc + 3) ls (cond vd (st.drop n) (vI x :: st.drop n)) G' Q)) False
/-- a method of an object of tag t, with n arguments beside it -/
def o_callV (k' mL t n : Nat) (vd : Bool) : dp_Op := fun k pc ls st G Q rec => match st.drop n with
  | .inr r :: rest => cond (Nat.beq r.1 t && Nat.ble rest.length 8)
      (rec k' 0 (dp_ini mL (.inr r :: (st.take n).reverse)) [] G (fun x G' => rec k (pc + 3) ls (cond vd rest (vI x :: rest)) G' Q)) False
  | _ => False
end
section
/-! ===== the methods: name, code, locals, answer, height; their code, instruction by instruction: printed by a program ===== -/
def dp_at {α : Type} : List α → Nat → α → α
  | [], _, d => d
  | a :: _, 0, _ => a
  | _ :: l, n + 1, d => dp_at l n d
abbrev kX0_begin : Nat := 0
abbrev kX0_copyFrom : Nat := 1
abbrev kX0_isBefore : Nat := 2
abbrev kX0_noteRing : Nat := 3
abbrev kX0_goOn : Nat := 4
abbrev kX1_append : Nat := 5
abbrev kX1_readList : Nat := 6
abbrev kX1_readAlarm : Nat := 7
abbrev kX1_readSign : Nat := 8
abbrev kX1_readNumber : Nat := 9
abbrev kX1_digitHere : Nat := 10
abbrev kX1_leastTime : Nat := 11
abbrev kX2_copyFrom : Nat := 12
abbrev kX2_hasRoomFor : Nat := 13
abbrev kX2_placeOf : Nat := 14
abbrev kX2_hasRungSince : Nat := 15
abbrev kX2_addAlarm : Nat := 16
abbrev kX2_cancelAlarm : Nat := 17
abbrev kX2_moveAlarm : Nat := 18
abbrev kX2_sortAlarms : Nat := 19
abbrev kX2_removeAlarm : Nat := 20
abbrev kX2_alarmsWithoutComparer : Nat := 21
abbrev kX2_tick : Nat := 22
abbrev kX2_growth : Nat := 23
abbrev kX2_ringComparer : Nat := 24
abbrev kX2_ringAlarm : Nat := 25
abbrev kX2_changeComparers : Nat := 26
abbrev kX2_sendOffSharers : Nat := 27
abbrev kX2_takeOff : Nat := 28
abbrev kX2_freeComparers : Nat := 29
abbrev kX2_firstSharerOf : Nat := 30
abbrev kX2_shareOut : Nat := 31
abbrev kX2_firstWithoutComparer : Nat := 32
abbrev kX2_findComparerFor : Nat := 33
abbrev kX2_firstThatCanTake : Nat := 34
abbrev kX2_firstFree : Nat := 35
abbrev kX2_firstOfGreatestCount : Nat := 36
abbrev kX2_loadFor : Nat := 37
abbrev kX3_copyFrom : Nat := 38
abbrev kX3_isFree : Nat := 39
abbrev kX3_isDue : Nat := 40
abbrev kX3_canTake : Nat := 41
abbrev kX3_release : Nat := 42
abbrev kX3_load : Nat := 43
abbrev kX3_join : Nat := 44
abbrev kX3_loadOn : Nat := 45
abbrev kX4_recordState : Nat := 46
abbrev kX4_dropOldest : Nat := 47
abbrev kX4_takeBack : Nat := 48
abbrev kX5_copyFrom : Nat := 49
abbrev kX5_note : Nat := 50
abbrev kX5_tell : Nat := 51
abbrev kX6_clear : Nat := 52
abbrev kX6_copyFrom : Nat := 53
abbrev kX6_noteRing : Nat := 54
abbrev kX7_set : Nat := 55
abbrev kX7_setAll : Nat := 56
abbrev kX7_cancel : Nat := 57
abbrev kX7_move : Nat := 58
abbrev kX7_setComparers : Nat := 59
abbrev kX7_setWindow : Nat := 60
abbrev kX7_setLoading : Nat := 61
abbrev kX7_setDrift : Nat := 62
abbrev kX7_correct : Nat := 63
abbrev kX7_run : Nat := 64
abbrev kX7_type : Nat := 65
abbrev kX7_clearText : Nat := 66
abbrev kX7_undo : Nat := 67
abbrev kX7_keep : Nat := 68
abbrev kX7_restore : Nat := 69
abbrev kX7_alarm : Nat := 70
abbrev kX7_comparer : Nat := 71
abbrev kX7_at : Nat := 72
abbrev kX7_ringsIn : Nat := 73
abbrev kX7_ifComparers : Nat := 74
abbrev kX7_fewest : Nat := 75
abbrev kX7_ring : Nat := 76
abbrev kX7_count : Nat := 77
abbrev kX7_isWithin : Nat := 78
abbrev kX7_tryComparers : Nat := 79
abbrev kX8_in : Nat := 80
abbrev kX8_lays : Nat := 81
abbrev kX8_records : Nat := 82
abbrev kX8_of : Nat := 83
abbrev kX8_put : Nat := 84
abbrev kX8_find : Nat := 85
abbrev kX8_isAhead : Nat := 86
abbrev kX8_firstOf : Nat := 87
abbrev kX8_placeOf : Nat := 88
abbrev kX8_countOf : Nat := 89
abbrev kX8_sharing : Nat := 90
abbrev kX8_extreme : Nat := 91
abbrev kX8_fits : Nat := 92
abbrev kX8_joinable : Nat := 93
abbrev kX8_freeOne : Nat := 94
abbrev kX8_latest : Nat := 95
abbrev kX8_frees : Nat := 96
abbrev kX8_loads : Nat := 97
abbrev kX8_isShared : Nat := 98
abbrev kX8_shares : Nat := 99
abbrev kX8_takesOff : Nat := 100
abbrev kX8_removes : Nat := 101
abbrev kX8_logs : Nat := 102
abbrev kX8_rings : Nat := 103
abbrev kX8_ringsAll : Nat := 104
abbrev kX8_tick : Nat := 105
abbrev kX8_ticks : Nat := 106
abbrev kX8_sets : Nat := 107
abbrev kX8_set : Nat := 108
abbrev kX8_setAll : Nat := 109
abbrev kX8_cancel : Nat := 110
abbrev kX8_move : Nat := 111
abbrev kX8_setsComparers : Nat := 112
abbrev kX8_setComparers : Nat := 113
abbrev kX8_becomes : Nat := 114
abbrev kX8_setWindow : Nat := 115
abbrev kX8_setLoading : Nat := 116
abbrev kX8_setDrift : Nat := 117
abbrev kX8_correct : Nat := 118
abbrev kX8_run : Nat := 119
abbrev kX8_type : Nat := 120
abbrev kX8_clearText : Nat := 121
abbrev kX8_sees : Nat := 122
abbrev kX8_takes : Nat := 123
abbrev kX8_isNumber : Nat := 124
abbrev kX8_isAlarmTold : Nat := 125
abbrev kX8_fault : Nat := 126
abbrev kX8_undo : Nat := 127
abbrev kX8_keep : Nat := 128
abbrev kX8_restore : Nat := 129
abbrev kX8_alarm : Nat := 130
abbrev kX8_comparer : Nat := 131
abbrev kX8_at : Nat := 132
abbrev kX8_ringsIn : Nat := 133
abbrev kX8_would : Nat := 134
abbrev kX8_ifComparers : Nat := 135
abbrev kX8_fewest : Nat := 136
abbrev kX8_ring : Nat := 137
abbrev kX8_free : Nat := 138
abbrev kX8_count : Nat := 139
def mY (k : Nat) : MethodName := dp_at [yX0_begin, yX0_copyFrom, yX0_isBefore, yX0_noteRing, yX0_goOn, yX1_append, yX1_readList, yX1_readAlarm, yX1_readSign, yX1_readNumber, yX1_digitHere, yX1_leastTime, yX2_copyFrom, yX2_hasRoomFor, yX2_placeOf, yX2_hasRungSince, yX2_addAlarm, yX2_cancelAlarm, yX2_moveAlarm, yX2_sortAlarms, yX2_removeAlarm, yX2_alarmsWithoutComparer, yX2_tick, yX2_growth, yX2_ringComparer, yX2_ringAlarm, yX2_changeComparers, yX2_sendOffSharers, yX2_takeOff, yX2_freeComparers, yX2_firstSharerOf, yX2_shareOut, yX2_firstWithoutComparer, yX2_findComparerFor, yX2_firstThatCanTake, yX2_firstFree, yX2_firstOfGreatestCount, yX2_loadFor, yX3_copyFrom, yX3_isFree, yX3_isDue, yX3_canTake, yX3_release, yX3_load, yX3_join, yX3_loadOn, yX4_recordState, yX4_dropOldest, yX4_takeBack, yX5_copyFrom, yX5_note, yX5_tell, yX6_clear, yX6_copyFrom, yX6_noteRing, yX7_set, yX7_setAll, yX7_cancel, yX7_move, yX7_setComparers, yX7_setWindow, yX7_setLoading, yX7_setDrift, yX7_correct, yX7_run, yX7_type, yX7_clearText, yX7_undo, yX7_keep, yX7_restore, yX7_alarm, yX7_comparer, yX7_at, yX7_ringsIn, yX7_ifComparers, yX7_fewest, yX7_ring, yX7_count, yX7_isWithin, yX7_tryComparers, yX8_in, yX8_lays, yX8_records, yX8_of, yX8_put, yX8_find, yX8_isAhead, yX8_firstOf, yX8_placeOf, yX8_countOf, yX8_sharing, yX8_extreme, yX8_fits, yX8_joinable, yX8_freeOne, yX8_latest, yX8_frees, yX8_loads, yX8_isShared, yX8_shares, yX8_takesOff, yX8_removes, yX8_logs, yX8_rings, yX8_ringsAll, yX8_tick, yX8_ticks, yX8_sets, yX8_set, yX8_setAll, yX8_cancel, yX8_move, yX8_setsComparers, yX8_setComparers, yX8_becomes, yX8_setWindow, yX8_setLoading, yX8_setDrift, yX8_correct, yX8_run, yX8_type, yX8_clearText, yX8_sees, yX8_takes, yX8_isNumber, yX8_isAlarmTold, yX8_fault, yX8_undo, yX8_keep, yX8_restore, yX8_alarm, yX8_comparer, yX8_at, yX8_ringsIn, yX8_would, yX8_ifComparers, yX8_fewest, yX8_ring, yX8_free, yX8_count] k ⟨"", "", ""⟩
def mB (k : Nat) : ByteArray := dp_at [cX0_begin, cX0_copyFrom, cX0_isBefore, cX0_noteRing, cX0_goOn, cX1_append, cX1_readList, cX1_readAlarm, cX1_readSign, cX1_readNumber, cX1_digitHere, cX1_leastTime, cX2_copyFrom, cX2_hasRoomFor, cX2_placeOf, cX2_hasRungSince, cX2_addAlarm, cX2_cancelAlarm, cX2_moveAlarm, cX2_sortAlarms, cX2_removeAlarm, cX2_alarmsWithoutComparer, cX2_tick, cX2_growth, cX2_ringComparer, cX2_ringAlarm, cX2_changeComparers, cX2_sendOffSharers, cX2_takeOff, cX2_freeComparers, cX2_firstSharerOf, cX2_shareOut, cX2_firstWithoutComparer, cX2_findComparerFor, cX2_firstThatCanTake, cX2_firstFree, cX2_firstOfGreatestCount, cX2_loadFor, cX3_copyFrom, cX3_isFree, cX3_isDue, cX3_canTake, cX3_release, cX3_load, cX3_join, cX3_loadOn, cX4_recordState, cX4_dropOldest, cX4_takeBack, cX5_copyFrom, cX5_note, cX5_tell, cX6_clear, cX6_copyFrom, cX6_noteRing, cX7_set, cX7_setAll, cX7_cancel, cX7_move, cX7_setComparers, cX7_setWindow, cX7_setLoading, cX7_setDrift, cX7_correct, cX7_run, cX7_type, cX7_clearText, cX7_undo, cX7_keep, cX7_restore, cX7_alarm, cX7_comparer, cX7_at, cX7_ringsIn, cX7_ifComparers, cX7_fewest, cX7_ring, cX7_count, cX7_isWithin, cX7_tryComparers, cX8_in, cX8_lays, cX8_records, cX8_of, cX8_put, cX8_find, cX8_isAhead, cX8_firstOf, cX8_placeOf, cX8_countOf, cX8_sharing, cX8_extreme, cX8_fits, cX8_joinable, cX8_freeOne, cX8_latest, cX8_frees, cX8_loads, cX8_isShared, cX8_shares, cX8_takesOff, cX8_removes, cX8_logs, cX8_rings, cX8_ringsAll, cX8_tick, cX8_ticks, cX8_sets, cX8_set, cX8_setAll, cX8_cancel, cX8_move, cX8_setsComparers, cX8_setComparers, cX8_becomes, cX8_setWindow, cX8_setLoading, cX8_setDrift, cX8_correct, cX8_run, cX8_type, cX8_clearText, cX8_sees, cX8_takes, cX8_isNumber, cX8_isAlarmTold, cX8_fault, cX8_undo, cX8_keep, cX8_restore, cX8_alarm, cX8_comparer, cX8_at, cX8_ringsIn, cX8_would, cX8_ifComparers, cX8_fewest, cX8_ring, cX8_free, cX8_count] k ⟨#[]⟩
def mL (k : Nat) : Nat := dp_at [5, 2, 2, 2, 3, 2, 2, 4, 2, 5, 2, 3, 3, 2, 3, 4, 5, 2, 4, 4, 4, 3, 3, 1, 3, 4, 3, 3, 5, 3, 3, 3, 2, 5, 3, 2, 3, 3, 2, 1, 2, 3, 1, 3, 2, 1, 2, 3, 2, 2, 6, 3, 1, 2, 2, 4, 3, 3, 5, 3, 3, 3, 3, 3, 4, 2, 2, 1, 1, 1, 5, 4, 2, 5, 4, 5, 3, 2, 3, 4, 3, 5, 2, 3, 4, 3, 4, 4, 4, 2, 4, 7, 3, 3, 2, 3, 3, 3, 4, 2, 4, 3, 5, 3, 4, 6, 4, 5, 4, 3, 3, 5, 3, 3, 4, 3, 2, 3, 2, 2, 2, 2, 3, 3, 5, 1, 2, 1, 1, 1, 4, 4, 3, 7, 3, 5, 7, 3, 3, 2] k 0
def mT (k : Nat) : Option FieldType := dp_at [none, none, (some .boolean), none, (some .int), (some .boolean), (some .int), (some .boolean), (some .boolean), (some .int), (some .int), (some .int), none, (some .boolean), (some .int), (some .boolean), (some .int), none, none, none, none, (some .int), none, (some .int), none, none, none, none, none, (some .int), (some .int), none, (some .int), (some .boolean), (some .int), (some .int), (some .int), none, none, (some .boolean), (some .boolean), (some .boolean), none, none, none, none, none, none, none, none, none, (some .int), none, none, none, (some .int), (some .int), (some .int), (some .int), (some .int), (some .int), (some .int), (some .int), (some .int), (some .int), (some .int), (some .int), (some .int), (some .int), (some .int), (some .int), (some .int), (some .int), (some .int), (some .int), (some .int), (some .int), (some .int), (some .boolean), none, (some .boolean), none, none, (some .int), none, (some .int), (some .boolean), (some .int), (some .int), (some .int), (some .int), (some .int), (some .boolean), (some .int), (some .int), (some .int), none, none, (some .boolean), none, none, none, none, none, (some .int), (some .int), (some .int), none, (some .int), (some .int), (some .int), (some .int), none, (some .int), (some .int), (some .int), (some .int), (some .int), (some .int), (some .int), (some .int), (some .int), (some .boolean), (some .boolean), (some .boolean), (some .boolean), (some .int), (some .int), (some .int), (some .int), (some .int), (some .int), (some .int), (some .int), (some .int), (some .int), (some .int), (some .int), (some .int), (some .int)] k none
def mH (k : Nat) : Nat := dp_at [1, 1, 1, 2, 1, 1, 4, 3, 1, 2, 1, 2, 3, 1, 1, 2, 5, 5, 5, 2, 1, 1, 5, 1, 4, 3, 5, 2, 3, 2, 1, 4, 1, 3, 2, 2, 1, 2, 1, 1, 1, 1, 1, 1, 2, 1, 4, 1, 4, 2, 1, 1, 1, 1, 2, 6, 6, 6, 6, 6, 5, 5, 5, 5, 6, 2, 1, 5, 4, 5, 2, 2, 1, 6, 7, 7, 2, 3, 1, 6, 1, 1, 2, 1, 1, 2, 2, 3, 3, 1, 2, 2, 3, 4, 2, 2, 2, 2, 5, 6, 4, 1, 1, 2, 4, 7, 8, 7, 8, 8, 7, 7, 7, 8, 3, 7, 4, 4, 7, 9, 1, 1, 2, 3, 3, 4, 5, 2, 2, 3, 4, 4, 4, 8, 9, 10, 10, 2, 2, 3] k 0
def tX0_begin : List (Nat × dp_Op) := [(0, o_aload 0 1), (1, o_iload 1 1), (2, o_putI 0 0), (5, o_aload 0 1), (6, o_iload 2 1), (7, o_putI 0 1), (10, o_aload 0 1), (11, o_iload 3 1), (12, o_putI 0 2), (15, o_aload 0 1), (16, o_iload 4 2), (18, o_putI 0 3), (21, o_aload 0 1), (22, o_push (-1005) 3), (25, o_putI 0 4), (28, o_aload 0 1), (29, o_push 0 1), (30, o_putI 0 5), (33, o_aload 0 1), (34, o_push (-1005) 3), (37, o_putI 0 6), (40, o_aload 0 1), (41, o_push 0 1), (42, o_putZ 0 7), (45, o_vret)]
def tX0_copyFrom : List (Nat × dp_Op) := [(0, o_aload 0 1), (1, o_aload 1 1), (2, o_getI 0 0), (5, o_putI 0 0), (8, o_aload 0 1), (9, o_aload 1 1), (10, o_getI 0 1), (13, o_putI 0 1), (16, o_aload 0 1), (17, o_aload 1 1), (18, o_getI 0 2), (21, o_putI 0 2), (24, o_aload 0 1), (25, o_aload 1 1), (26, o_getI 0 3), (29, o_putI 0 3), (32, o_aload 0 1), (33, o_aload 1 1), (34, o_getI 0 4), (37, o_putI 0 4), (40, o_aload 0 1), (41, o_aload 1 1), (42, o_getI 0 5), (45, o_putI 0 5), (48, o_aload 0 1), (49, o_aload 1 1), (50, o_getI 0 6), (53, o_putI 0 6), (56, o_aload 0 1), (57, o_aload 1 1), (58, o_getI 0 7), (61, o_putZ 0 7), (64, o_vret)]
def tX0_isBefore : List (Nat × dp_Op) := [(0, o_aload 0 1), (1, o_getI 0 1), (4, o_aload 1 1), (5, o_getI 0 1), (8, o_cmp (fun x y => x = y) 28), (11, o_aload 0 1), (12, o_getI 0 1), (15, o_aload 1 1), (16, o_getI 0 1), (19, o_cmp (fun x y => y ≤ x) 26), (22, o_push 1 1), (23, o_goto 27), (26, o_push 0 1), (27, o_zret), (28, o_aload 0 1), (29, o_getI 0 3), (32, o_aload 1 1), (33, o_getI 0 3), (36, o_cmp (fun x y => x = y) 56), (39, o_aload 0 1), (40, o_getI 0 3), (43, o_aload 1 1), (44, o_getI 0 3), (47, o_cmp (fun x y => x ≤ y) 54), (50, o_push 1 1), (51, o_goto 55), (54, o_push 0 1), (55, o_zret), (56, o_aload 0 1), (57, o_getI 0 0), (60, o_aload 1 1), (61, o_getI 0 0), (64, o_cmp (fun x y => y ≤ x) 71), (67, o_push 1 1), (68, o_goto 72), (71, o_push 0 1), (72, o_zret)]
def tX0_noteRing : List (Nat × dp_Op) := [(0, o_aload 0 1), (1, o_dup), (2, o_getI 0 5), (5, o_push 1 1), (6, o_bin (fun x y => x + y)), (7, o_putI 0 5), (10, o_aload 0 1), (11, o_aload 0 1), (12, o_getI 0 6), (15, o_iload 1 1), (16, o_max), (19, o_putI 0 6), (22, o_aload 0 1), (23, o_push (-1005) 3), (26, o_putI 0 4), (29, o_vret)]
def tX0_goOn : List (Nat × dp_Op) := [(0, o_aload 0 1), (1, o_getI 0 2), (4, o_if (fun x => 0 < x) 14), (7, o_aload 0 1), (8, o_push 1 1), (9, o_putZ 0 7), (12, o_push 0 1), (13, o_iret), (14, o_iload 1 1), (15, o_aload 0 1), (16, o_getI 0 2), (19, o_div), (20, o_istore 2 1), (21, o_aload 0 1), (22, o_dup), (23, o_getI 0 1), (26, o_iload 2 1), (27, o_push 1 1), (28, o_bin (fun x y => x + y)), (29, o_aload 0 1), (30, o_getI 0 2), (33, o_bin (fun x y => x * y)), (34, o_bin (fun x y => x + y)), (35, o_putI 0 1), (38, o_iload 2 1), (39, o_iret)]
def tX1_append : List (Nat × dp_Op) := [(0, o_aload 0 1), (1, o_getI 1 1), (4, o_push 60 2), (6, o_cmp (fun x y => x < y) 11), (9, o_push 0 1), (10, o_zret), (11, o_aload 0 1), (12, o_getR 1 0 12), (15, o_aload 0 1), (16, o_getI 1 1), (19, o_iload 1 1), (20, o_cast), (21, o_aload 0 1), (22, o_dup), (23, o_getI 1 1), (26, o_push 1 1), (27, o_bin (fun x y => x + y)), (28, o_putI 1 1), (31, o_push 1 1), (32, o_zret)]
def tX1_readList : List (Nat × dp_Op) := [(0, o_aload 0 1), (1, o_push 0 1), (2, o_putI 1 5), (5, o_aload 0 1), (6, o_push 0 1), (7, o_putI 1 6), (10, o_push 0 1), (11, o_istore 1 1), (12, o_iload 1 1), (13, o_push 30 2), (15, o_cmp (fun x y => y < x) 65), (18, o_aload 0 1), (19, o_callV 7 4 1 0 false), (22, o_if (fun x => ¬ x = 0) 30), (25, o_aload 0 1), (26, o_getI 1 6), (29, o_iret), (30, o_aload 0 1), (31, o_push 59 2), (33, o_callV 8 2 1 1 false), (36, o_if (fun x => ¬ x = 0) 59), (39, o_aload 0 1), (40, o_getI 1 6), (43, o_aload 0 1), (44, o_getI 1 1), (47, o_cmp (fun x y => ¬ x = y) 54), (50, o_push (-1) 1), (51, o_goto 58), (54, o_aload 0 1), (55, o_getI 1 6), (58, o_iret), (59, o_inc 1 1), (62, o_goto 12), (65, o_aload 0 1), (66, o_getI 1 6), (69, o_iret)]
def tX1_readAlarm : List (Nat × dp_Op) := [(0, o_aload 0 1), (1, o_push 0 1), (2, o_push 99999 2), (4, o_callV 9 5 1 2 false), (7, o_istore 1 1), (8, o_push 0 1), (9, o_istore 2 1), (10, o_push 0 1), (11, o_istore 3 1), (12, o_iload 1 1), (13, o_push (-1) 1), (14, o_cmp (fun x y => x = y) 35), (17, o_aload 0 1), (18, o_push 47 2), (20, o_callV 8 2 1 1 false), (23, o_if (fun x => x = 0) 35), (26, o_aload 0 1), (27, o_push 1 1), (28, o_push 9999 3), (31, o_callV 9 5 1 2 false), (34, o_istore 2 1), (35, o_iload 1 1), (36, o_push (-1) 1), (37, o_cmp (fun x y => x = y) 61), (40, o_iload 2 1), (41, o_push (-1) 1), (42, o_cmp (fun x y => x = y) 61), (45, o_aload 0 1), (46, o_push 33 2), (48, o_callV 8 2 1 1 false), (51, o_if (fun x => x = 0) 61), (54, o_aload 0 1), (55, o_push 1 1), (56, o_push 3 1), (57, o_callV 9 5 1 2 false), (60, o_istore 3 1), (61, o_iload 1 1), (62, o_push (-1) 1), (63, o_cmp (fun x y => x = y) 85), (66, o_iload 2 1), (67, o_push (-1) 1), (68, o_cmp (fun x y => x = y) 85), (71, o_iload 3 1), (72, o_push (-1) 1), (73, o_cmp (fun x y => x = y) 85), (76, o_aload 0 1), (77, o_getI 1 5), (80, o_push 30 2), (82, o_cmp (fun x y => x < y) 87), (85, o_push 0 1), (86, o_zret), (87, o_aload 0 1), (88, o_getR 1 2 11), (91, o_aload 0 1), (92, o_getI 1 5), (95, o_iload 1 1), (96, o_iast), (97, o_aload 0 1), (98, o_getR 1 3 11), (101, o_aload 0 1), (102, o_getI 1 5), (105, o_iload 2 1), (106, o_iast), (107, o_aload 0 1), (108, o_getR 1 4 11), (111, o_aload 0 1), (112, o_getI 1 5), (115, o_iload 3 1), (116, o_iast), (117, o_aload 0 1), (118, o_dup), (119, o_getI 1 5), (122, o_push 1 1), (123, o_bin (fun x y => x + y)), (124, o_putI 1 5), (127, o_push 1 1), (128, o_zret)]
def tX1_readSign : List (Nat × dp_Op) := [(0, o_aload 0 1), (1, o_getI 1 6), (4, o_aload 0 1), (5, o_getI 1 1), (8, o_cmp (fun x y => y ≤ x) 33), (11, o_aload 0 1), (12, o_getI 1 6), (15, o_push 60 2), (17, o_cmp (fun x y => y ≤ x) 33), (20, o_aload 0 1), (21, o_getR 1 0 12), (24, o_aload 0 1), (25, o_getI 1 6), (28, o_cald), (29, o_iload 1 1), (30, o_cmp (fun x y => x = y) 35), (33, o_push 0 1), (34, o_zret), (35, o_aload 0 1), (36, o_dup), (37, o_getI 1 6), (40, o_push 1 1), (41, o_bin (fun x y => x + y)), (42, o_putI 1 6), (45, o_push 1 1), (46, o_zret)]
def tX1_readNumber : List (Nat × dp_Op) := [(0, o_aload 0 1), (1, o_callV 10 2 1 0 false), (4, o_istore 3 1), (5, o_iload 3 1), (6, o_push (-1) 1), (7, o_cmp (fun x y => x = y) 20), (10, o_iload 3 1), (11, o_iload 1 1), (12, o_cmp (fun x y => x < y) 20), (15, o_iload 3 1), (16, o_iload 2 1), (17, o_cmp (fun x y => x ≤ y) 22), (20, o_push (-1) 1), (21, o_iret), (22, o_aload 0 1), (23, o_dup), (24, o_getI 1 6), (27, o_push 1 1), (28, o_bin (fun x y => x + y)), (29, o_putI 1 6), (32, o_iload 3 1), (33, o_if (fun x => x ≤ 0) 93), (36, o_aload 0 1), (37, o_getI 1 6), (40, o_aload 0 1), (41, o_getI 1 1), (44, o_cmp (fun x y => y ≤ x) 93), (47, o_aload 0 1), (48, o_callV 10 2 1 0 false), (51, o_istore 4 2), (53, o_iload 4 2), (55, o_push (-1) 1), (56, o_cmp (fun x y => x = y) 70), (59, o_iload 3 1), (60, o_push 10 2), (62, o_bin (fun x y => x * y)), (63, o_iload 4 2), (65, o_bin (fun x y => x + y)), (66, o_iload 2 1), (67, o_cmp (fun x y => x ≤ y) 72), (70, o_iload 3 1), (71, o_iret), (72, o_iload 3 1), (73, o_push 10 2), (75, o_bin (fun x y => x * y)), (76, o_iload 4 2), (78, o_bin (fun x y => x + y)), (79, o_istore 3 1), (80, o_aload 0 1), (81, o_dup), (82, o_getI 1 6), (85, o_push 1 1), (86, o_bin (fun x y => x + y)), (87, o_putI 1 6), (90, o_goto 32), (93, o_iload 3 1), (94, o_iret)]
def tX1_digitHere : List (Nat × dp_Op) := [(0, o_aload 0 1), (1, o_getI 1 6), (4, o_aload 0 1), (5, o_getI 1 1), (8, o_cmp (fun x y => y ≤ x) 20), (11, o_aload 0 1), (12, o_getI 1 6), (15, o_push 60 2), (17, o_cmp (fun x y => x < y) 22), (20, o_push (-1) 1), (21, o_iret), (22, o_aload 0 1), (23, o_getR 1 0 12), (26, o_aload 0 1), (27, o_getI 1 6), (30, o_cald), (31, o_istore 1 1), (32, o_iload 1 1), (33, o_push 48 2), (35, o_cmp (fun x y => x < y) 51), (38, o_iload 1 1), (39, o_push 57 2), (41, o_cmp (fun x y => y < x) 51), (44, o_iload 1 1), (45, o_push 48 2), (47, o_bin (fun x y => x - y)), (48, o_goto 52), (51, o_push (-1) 1), (52, o_iret)]
def tX1_leastTime : List (Nat × dp_Op) := [(0, o_push 99999 2), (2, o_istore 1 1), (3, o_push 0 1), (4, o_istore 2 1), (5, o_iload 2 1), (6, o_aload 0 1), (7, o_getI 1 5), (10, o_cmp (fun x y => y ≤ x) 30), (13, o_iload 1 1), (14, o_aload 0 1), (15, o_getR 1 2 11), (18, o_iload 2 1), (19, o_iald), (20, o_min), (23, o_istore 1 1), (24, o_inc 2 1), (27, o_goto 5), (30, o_iload 1 1), (31, o_iret)]
def tX2_copyFrom : List (Nat × dp_Op) := [(0, o_aload 0 1), (1, o_aload 1 1), (2, o_getI 2 0), (5, o_putI 2 0), (8, o_aload 0 1), (9, o_aload 1 1), (10, o_getI 2 1), (13, o_putI 2 1), (16, o_aload 0 1), (17, o_aload 1 1), (18, o_getI 2 2), (21, o_putI 2 2), (24, o_aload 0 1), (25, o_aload 1 1), (26, o_getI 2 3), (29, o_putI 2 3), (32, o_aload 0 1), (33, o_aload 1 1), (34, o_getI 2 4), (37, o_putI 2 4), (40, o_aload 0 1), (41, o_aload 1 1), (42, o_getI 2 5), (45, o_putI 2 5), (48, o_aload 0 1), (49, o_aload 1 1), (50, o_getI 2 6), (53, o_putI 2 6), (56, o_aload 0 1), (57, o_aload 1 1), (58, o_getI 2 7), (61, o_putI 2 7), (64, o_push 0 1), (65, o_istore 2 1), (66, o_iload 2 1), (67, o_aload 0 1), (68, o_getI 2 5), (71, o_cmp (fun x y => y ≤ x) 95), (74, o_aload 0 1), (75, o_getR 2 8 13), (78, o_iload 2 1), (79, o_aald), (80, o_aload 1 1), (81, o_getR 2 8 13), (84, o_iload 2 1), (85, o_aald), (86, o_callV 1 2 0 1 true), (89, o_inc 2 1), (92, o_goto 66), (95, o_push 0 1), (96, o_istore 2 1), (97, o_iload 2 1), (98, o_push 4 1), (99, o_cmp (fun x y => y ≤ x) 123), (102, o_aload 0 1), (103, o_getR 2 9 14), (106, o_iload 2 1), (107, o_aald), (108, o_aload 1 1), (109, o_getR 2 9 14), (112, o_iload 2 1), (113, o_aald), (114, o_callV 38 2 3 1 true), (117, o_inc 2 1), (120, o_goto 97), (123, o_aload 0 1), (124, o_getR 2 10 6), (127, o_aload 1 1), (128, o_getR 2 10 6), (131, o_callV 53 2 6 1 true), (134, o_aload 0 1), (135, o_getR 2 11 5), (138, o_aload 1 1), (139, o_getR 2 11 5), (142, o_callV 49 2 5 1 true), (145, o_vret)]
def tX2_hasRoomFor : List (Nat × dp_Op) := [(0, o_aload 0 1), (1, o_getI 2 5), (4, o_iload 1 1), (5, o_bin (fun x y => x + y)), (6, o_push 20 2), (8, o_cmp (fun x y => y < x) 27), (11, o_aload 0 1), (12, o_getI 2 6), (15, o_iload 1 1), (16, o_bin (fun x y => x + y)), (17, o_push 500 3), (20, o_cmp (fun x y => y < x) 27), (23, o_push 1 1), (24, o_goto 28), (27, o_push 0 1), (28, o_zret)]
def tX2_placeOf : List (Nat × dp_Op) := [(0, o_push 0 1), (1, o_istore 2 1), (2, o_iload 2 1), (3, o_aload 0 1), (4, o_getI 2 5), (7, o_cmp (fun x y => y ≤ x) 31), (10, o_aload 0 1), (11, o_getR 2 8 13), (14, o_iload 2 1), (15, o_aald), (16, o_getI 0 0), (19, o_iload 1 1), (20, o_cmp (fun x y => ¬ x = y) 25), (23, o_iload 2 1), (24, o_iret), (25, o_inc 2 1), (28, o_goto 2), (31, o_push (-1) 1), (32, o_iret)]
def tX2_hasRungSince : List (Nat × dp_Op) := [(0, o_aload 0 1), (1, o_iload 1 1), (2, o_callV 14 3 2 1 false), (5, o_istore 3 1), (6, o_iload 3 1), (7, o_push (-1) 1), (8, o_cmp (fun x y => x = y) 24), (11, o_aload 0 1), (12, o_getR 2 8 13), (15, o_iload 3 1), (16, o_aald), (17, o_getI 0 5), (20, o_iload 2 1), (21, o_cmp (fun x y => x ≤ y) 28), (24, o_push 1 1), (25, o_goto 29), (28, o_push 0 1), (29, o_zret)]
def tX2_addAlarm : List (Nat × dp_Op) := [(0, o_aload 0 1), (1, o_push 1 1), (2, o_callV 13 2 2 1 false), (5, o_if (fun x => ¬ x = 0) 12), (8, o_push (-1003) 3), (11, o_iret), (12, o_aload 0 1), (13, o_getI 2 6), (16, o_istore 4 2), (18, o_aload 0 1), (19, o_getR 2 8 13), (22, o_aload 0 1), (23, o_getI 2 5), (26, o_aald), (27, o_iload 4 2), (29, o_iload 1 1), (30, o_iload 2 1), (31, o_iload 3 1), (32, o_callV 0 5 0 4 true), (35, o_aload 0 1), (36, o_dup), (37, o_getI 2 5), (40, o_push 1 1), (41, o_bin (fun x y => x + y)), (42, o_putI 2 5), (45, o_aload 0 1), (46, o_dup), (47, o_getI 2 6), (50, o_push 1 1), (51, o_bin (fun x y => x + y)), (52, o_putI 2 6), (55, o_aload 0 1), (56, o_callV 19 4 2 0 true), (59, o_aload 0 1), (60, o_callV 31 3 2 0 true), (63, o_iload 4 2), (65, o_iret)]
def tX2_cancelAlarm : List (Nat × dp_Op) := [(0, o_aload 0 1), (1, o_aload 0 1), (2, o_getR 2 8 13), (5, o_iload 1 1), (6, o_aald), (7, o_callV 28 5 2 1 true), (10, o_aload 0 1), (11, o_iload 1 1), (12, o_callV 20 4 2 1 true), (15, o_aload 0 1), (16, o_callV 31 3 2 0 true), (19, o_vret)]
def tX2_moveAlarm : List (Nat × dp_Op) := [(0, o_aload 0 1), (1, o_getR 2 8 13), (4, o_iload 1 1), (5, o_aald), (6, o_astore 3 1), (7, o_aload 0 1), (8, o_aload 3 1), (9, o_callV 28 5 2 1 true), (12, o_aload 3 1), (13, o_iload 2 1), (14, o_putI 0 1), (17, o_aload 0 1), (18, o_callV 19 4 2 0 true), (21, o_aload 0 1), (22, o_callV 31 3 2 0 true), (25, o_vret)]
def tX2_sortAlarms : List (Nat × dp_Op) := [(0, o_push 1 1), (1, o_istore 1 1), (2, o_iload 1 1), (3, o_aload 0 1), (4, o_getI 2 5), (7, o_cmp (fun x y => y ≤ x) 78), (10, o_iload 1 1), (11, o_istore 2 1), (12, o_iload 2 1), (13, o_if (fun x => x ≤ 0) 72), (16, o_aload 0 1), (17, o_getR 2 8 13), (20, o_iload 2 1), (21, o_aald), (22, o_aload 0 1), (23, o_getR 2 8 13), (26, o_iload 2 1), (27, o_push 1 1), (28, o_bin (fun x y => x - y)), (29, o_aald), (30, o_callV 2 2 0 1 false), (33, o_if (fun x => x = 0) 72), (36, o_aload 0 1), (37, o_getR 2 8 13), (40, o_iload 2 1), (41, o_aald), (42, o_astore 3 1), (43, o_aload 0 1), (44, o_getR 2 8 13), (47, o_iload 2 1), (48, o_aload 0 1), (49, o_getR 2 8 13), (52, o_iload 2 1), (53, o_push 1 1), (54, o_bin (fun x y => x - y)), (55, o_aald), (56, o_aast), (57, o_aload 0 1), (58, o_getR 2 8 13), (61, o_iload 2 1), (62, o_push 1 1), (63, o_bin (fun x y => x - y)), (64, o_aload 3 1), (65, o_aast), (66, o_inc 2 (-1)), (69, o_goto 12), (72, o_inc 1 1), (75, o_goto 2), (78, o_vret)]
def tX2_removeAlarm : List (Nat × dp_Op) := [(0, o_aload 0 1), (1, o_getR 2 8 13), (4, o_iload 1 1), (5, o_aald), (6, o_astore 2 1), (7, o_iload 1 1), (8, o_istore 3 1), (9, o_iload 3 1), (10, o_push 1 1), (11, o_bin (fun x y => x + y)), (12, o_aload 0 1), (13, o_getI 2 5), (16, o_cmp (fun x y => y ≤ x) 39), (19, o_aload 0 1), (20, o_getR 2 8 13), (23, o_iload 3 1), (24, o_aload 0 1), (25, o_getR 2 8 13), (28, o_iload 3 1), (29, o_push 1 1), (30, o_bin (fun x y => x + y)), (31, o_aald), (32, o_aast), (33, o_inc 3 1), (36, o_goto 9), (39, o_aload 0 1), (40, o_dup), (41, o_getI 2 5), (44, o_push 1 1), (45, o_bin (fun x y => x - y)), (46, o_putI 2 5), (49, o_aload 0 1), (50, o_getR 2 8 13), (53, o_aload 0 1), (54, o_getI 2 5), (57, o_aload 2 1), (58, o_aast), (59, o_vret)]
def tX2_alarmsWithoutComparer : List (Nat × dp_Op) := [(0, o_push 0 1), (1, o_istore 1 1), (2, o_push 0 1), (3, o_istore 2 1), (4, o_iload 2 1), (5, o_aload 0 1), (6, o_getI 2 5), (9, o_cmp (fun x y => y ≤ x) 36), (12, o_aload 0 1), (13, o_getR 2 8 13), (16, o_iload 2 1), (17, o_aald), (18, o_getI 0 4), (21, o_push (-1005) 3), (24, o_cmp (fun x y => ¬ x = y) 30), (27, o_inc 1 1), (30, o_inc 2 1), (33, o_goto 4), (36, o_iload 1 1), (37, o_iret)]
def tX2_tick : List (Nat × dp_Op) := [(0, o_aload 0 1), (1, o_dup), (2, o_getI 2 1), (5, o_push 1 1), (6, o_bin (fun x y => x + y)), (7, o_putI 2 1), (10, o_aload 0 1), (11, o_dup), (12, o_getI 2 0), (15, o_aload 0 1), (16, o_callV 23 1 2 0 false), (19, o_bin (fun x y => x + y)), (20, o_putI 2 0), (23, o_push 0 1), (24, o_istore 1 1), (25, o_iload 1 1), (26, o_aload 0 1), (27, o_getI 2 7), (30, o_cmp (fun x y => y ≤ x) 48), (33, o_aload 0 1), (34, o_getR 2 9 14), (37, o_iload 1 1), (38, o_aald), (39, o_callV 45 1 3 0 true), (42, o_inc 1 1), (45, o_goto 25), (48, o_push 0 1), (49, o_istore 1 1), (50, o_push 0 1), (51, o_istore 2 1), (52, o_iload 2 1), (53, o_aload 0 1), (54, o_getI 2 7), (57, o_cmp (fun x y => y ≤ x) 89), (60, o_aload 0 1), (61, o_getR 2 9 14), (64, o_iload 2 1), (65, o_aald), (66, o_aload 0 1), (67, o_getI 2 0), (70, o_callV 40 2 3 1 false), (73, o_if (fun x => x = 0) 83), (76, o_aload 0 1), (77, o_iload 2 1), (78, o_callV 24 3 2 1 true), (81, o_push 1 1), (82, o_istore 1 1), (83, o_inc 2 1), (86, o_goto 52), (89, o_iload 1 1), (90, o_if (fun x => x = 0) 97), (93, o_aload 0 1), (94, o_callV 31 3 2 0 true), (97, o_vret)]
def tX2_growth : List (Nat × dp_Op) := [(0, o_aload 0 1), (1, o_getI 2 2), (4, o_if (fun x => x = 0) 19), (7, o_aload 0 1), (8, o_getI 2 1), (11, o_aload 0 1), (12, o_getI 2 2), (15, o_rem), (16, o_if (fun x => x = 0) 21), (19, o_push 1 1), (20, o_iret), (21, o_aload 0 1), (22, o_getI 2 2), (25, o_if (fun x => x ≤ 0) 32), (28, o_push 2 1), (29, o_goto 33), (32, o_push 0 1), (33, o_iret)]
def tX2_ringComparer : List (Nat × dp_Op) := [(0, o_push 0 1), (1, o_istore 2 1), (2, o_iload 2 1), (3, o_aload 0 1), (4, o_getI 2 5), (7, o_cmp (fun x y => y ≤ x) 40), (10, o_aload 0 1), (11, o_getR 2 8 13), (14, o_iload 2 1), (15, o_aald), (16, o_getI 0 4), (19, o_iload 1 1), (20, o_cmp (fun x y => ¬ x = y) 34), (23, o_aload 0 1), (24, o_aload 0 1), (25, o_getR 2 8 13), (28, o_iload 2 1), (29, o_aald), (30, o_iload 1 1), (31, o_callV 25 4 2 2 true), (34, o_inc 2 1), (37, o_goto 2), (40, o_aload 0 1), (41, o_getR 2 9 14), (44, o_iload 1 1), (45, o_aald), (46, o_callV 42 1 3 0 true), (49, o_aload 0 1), (50, o_getI 2 5), (53, o_push 1 1), (54, o_bin (fun x y => x - y)), (55, o_istore 2 1), (56, o_iload 2 1), (57, o_if (fun x => x < 0) 83), (60, o_aload 0 1), (61, o_getR 2 8 13), (64, o_iload 2 1), (65, o_aald), (66, o_getI 0 7), (69, o_if (fun x => x = 0) 77), (72, o_aload 0 1), (73, o_iload 2 1), (74, o_callV 20 4 2 1 true), (77, o_inc 2 (-1)), (80, o_goto 56), (83, o_aload 0 1), (84, o_callV 19 4 2 0 true), (87, o_vret)]
def tX2_ringAlarm : List (Nat × dp_Op) := [(0, o_aload 0 1), (1, o_getI 2 0), (4, o_aload 1 1), (5, o_getI 0 1), (8, o_bin (fun x y => x - y)), (9, o_istore 3 1), (10, o_aload 0 1), (11, o_getR 2 11 5), (14, o_aload 1 1), (15, o_getI 0 0), (18, o_aload 0 1), (19, o_getI 2 0), (22, o_iload 3 1), (23, o_iload 2 1), (24, o_callV 50 6 5 4 true), (27, o_aload 0 1), (28, o_getR 2 10 6), (31, o_iload 3 1), (32, o_callV 54 2 6 1 true), (35, o_aload 1 1), (36, o_iload 3 1), (37, o_callV 3 2 0 1 true), (40, o_aload 0 1), (41, o_getR 2 10 6), (44, o_dup), (45, o_getI 6 3), (48, o_aload 1 1), (49, o_iload 3 1), (50, o_callV 4 3 0 1 false), (53, o_bin (fun x y => x + y)), (54, o_putI 6 3), (57, o_vret)]
def tX2_changeComparers : List (Nat × dp_Op) := [(0, o_iload 1 1), (1, o_istore 2 1), (2, o_iload 2 1), (3, o_aload 0 1), (4, o_getI 2 7), (7, o_cmp (fun x y => y ≤ x) 21), (10, o_aload 0 1), (11, o_iload 2 1), (12, o_callV 27 3 2 1 true), (15, o_inc 2 1), (18, o_goto 2), (21, o_aload 0 1), (22, o_iload 1 1), (23, o_putI 2 7), (26, o_aload 0 1), (27, o_callV 31 3 2 0 true), (30, o_vret)]
def tX2_sendOffSharers : List (Nat × dp_Op) := [(0, o_push 0 1), (1, o_istore 2 1), (2, o_iload 2 1), (3, o_aload 0 1), (4, o_getI 2 5), (7, o_cmp (fun x y => y ≤ x) 41), (10, o_aload 0 1), (11, o_getR 2 8 13), (14, o_iload 2 1), (15, o_aald), (16, o_getI 0 4), (19, o_iload 1 1), (20, o_cmp (fun x y => ¬ x = y) 35), (23, o_aload 0 1), (24, o_getR 2 8 13), (27, o_iload 2 1), (28, o_aald), (29, o_push (-1005) 3), (32, o_putI 0 4), (35, o_inc 2 1), (38, o_goto 2), (41, o_aload 0 1), (42, o_getR 2 9 14), (45, o_iload 1 1), (46, o_aald), (47, o_callV 42 1 3 0 true), (50, o_vret)]
def tX2_takeOff : List (Nat × dp_Op) := [(0, o_aload 1 1), (1, o_getI 0 4), (4, o_istore 2 1), (5, o_iload 2 1), (6, o_if (fun x => x < 0) 14), (9, o_iload 2 1), (10, o_push 4 1), (11, o_cmp (fun x y => x < y) 15), (14, o_vret), (15, o_aload 1 1), (16, o_push (-1005) 3), (19, o_putI 0 4), (22, o_aload 0 1), (23, o_getR 2 9 14), (26, o_iload 2 1), (27, o_aald), (28, o_getI 3 3), (31, o_istore 3 1), (32, o_aload 0 1), (33, o_getR 2 9 14), (36, o_iload 2 1), (37, o_aald), (38, o_callV 42 1 3 0 true), (41, o_push 0 1), (42, o_istore 4 2), (44, o_iload 4 2), (46, o_aload 0 1), (47, o_getI 2 5), (50, o_cmp (fun x y => y ≤ x) 102), (53, o_aload 0 1), (54, o_getR 2 8 13), (57, o_iload 4 2), (59, o_aald), (60, o_getI 0 4), (63, o_iload 2 1), (64, o_cmp (fun x y => ¬ x = y) 96), (67, o_aload 0 1), (68, o_getR 2 9 14), (71, o_iload 2 1), (72, o_aald), (73, o_aload 0 1), (74, o_getR 2 8 13), (77, o_iload 4 2), (79, o_aald), (80, o_getI 0 1), (83, o_callV 44 2 3 1 true), (86, o_aload 0 1), (87, o_getR 2 9 14), (90, o_iload 2 1), (91, o_aald), (92, o_iload 3 1), (93, o_putI 3 3), (96, o_inc 4 1), (99, o_goto 44), (102, o_vret)]
def tX2_freeComparers : List (Nat × dp_Op) := [(0, o_push 0 1), (1, o_istore 1 1), (2, o_push 0 1), (3, o_istore 2 1), (4, o_iload 2 1), (5, o_aload 0 1), (6, o_getI 2 7), (9, o_cmp (fun x y => y ≤ x) 33), (12, o_aload 0 1), (13, o_getR 2 9 14), (16, o_iload 2 1), (17, o_aald), (18, o_callV 39 1 3 0 false), (21, o_if (fun x => x = 0) 27), (24, o_inc 1 1), (27, o_inc 2 1), (30, o_goto 4), (33, o_iload 1 1), (34, o_iret)]
def tX2_firstSharerOf : List (Nat × dp_Op) := [(0, o_push 0 1), (1, o_istore 2 1), (2, o_iload 2 1), (3, o_aload 0 1), (4, o_getI 2 5), (7, o_cmp (fun x y => y ≤ x) 39), (10, o_aload 0 1), (11, o_getR 2 8 13), (14, o_iload 2 1), (15, o_aald), (16, o_getI 0 4), (19, o_iload 1 1), (20, o_cmp (fun x y => ¬ x = y) 33), (23, o_aload 0 1), (24, o_getR 2 8 13), (27, o_iload 2 1), (28, o_aald), (29, o_getI 0 0), (32, o_iret), (33, o_inc 2 1), (36, o_goto 2), (39, o_push (-1005) 3), (42, o_iret)]
def tX2_shareOut : List (Nat × dp_Op) := [(0, o_push 0 1), (1, o_istore 1 1), (2, o_iload 1 1), (3, o_push 1000000 2), (5, o_cmp (fun x y => y ≤ x) 38), (8, o_aload 0 1), (9, o_callV 32 2 2 0 false), (12, o_istore 2 1), (13, o_iload 2 1), (14, o_push (-1) 1), (15, o_cmp (fun x y => x = y) 31), (18, o_aload 0 1), (19, o_aload 0 1), (20, o_getR 2 8 13), (23, o_iload 2 1), (24, o_aald), (25, o_callV 33 5 2 1 false), (28, o_if (fun x => ¬ x = 0) 32), (31, o_vret), (32, o_inc 1 1), (35, o_goto 2), (38, o_vret)]
def tX2_firstWithoutComparer : List (Nat × dp_Op) := [(0, o_push 0 1), (1, o_istore 1 1), (2, o_iload 1 1), (3, o_aload 0 1), (4, o_getI 2 5), (7, o_cmp (fun x y => y ≤ x) 33), (10, o_aload 0 1), (11, o_getR 2 8 13), (14, o_iload 1 1), (15, o_aald), (16, o_getI 0 4), (19, o_push (-1005) 3), (22, o_cmp (fun x y => ¬ x = y) 27), (25, o_iload 1 1), (26, o_iret), (27, o_inc 1 1), (30, o_goto 2), (33, o_push (-1) 1), (34, o_iret)]
def tX2_findComparerFor : List (Nat × dp_Op) := [(0, o_aload 0 1), (1, o_aload 1 1), (2, o_getI 0 1), (5, o_callV 34 3 2 1 false), (8, o_istore 2 1), (9, o_iload 2 1), (10, o_push (-1) 1), (11, o_cmp (fun x y => x = y) 34), (14, o_aload 0 1), (15, o_getR 2 9 14), (18, o_iload 2 1), (19, o_aald), (20, o_aload 1 1), (21, o_getI 0 1), (24, o_callV 44 2 3 1 true), (27, o_aload 1 1), (28, o_iload 2 1), (29, o_putI 0 4), (32, o_push 1 1), (33, o_zret), (34, o_aload 0 1), (35, o_callV 35 2 2 0 false), (38, o_istore 3 1), (39, o_iload 3 1), (40, o_push (-1) 1), (41, o_cmp (fun x y => x = y) 52), (44, o_aload 0 1), (45, o_aload 1 1), (46, o_iload 3 1), (47, o_callV 37 3 2 2 true), (50, o_push 1 1), (51, o_zret), (52, o_aload 0 1), (53, o_callV 36 3 2 0 false), (56, o_istore 4 2), (58, o_aload 0 1), (59, o_getR 2 9 14), (62, o_iload 4 2), (64, o_aald), (65, o_getI 3 2), (68, o_aload 1 1), (69, o_getI 0 1), (72, o_cmp (fun x y => y < x) 77), (75, o_push 0 1), (76, o_zret), (77, o_aload 0 1), (78, o_iload 4 2), (80, o_callV 27 3 2 1 true), (83, o_aload 0 1), (84, o_getR 2 10 6), (87, o_dup), (88, o_getI 6 5), (91, o_push 1 1), (92, o_bin (fun x y => x + y)), (93, o_putI 6 5), (96, o_aload 0 1), (97, o_aload 1 1), (98, o_iload 4 2), (100, o_callV 37 3 2 2 true), (103, o_push 1 1), (104, o_zret)]
def tX2_firstThatCanTake : List (Nat × dp_Op) := [(0, o_push 0 1), (1, o_istore 2 1), (2, o_iload 2 1), (3, o_aload 0 1), (4, o_getI 2 7), (7, o_cmp (fun x y => y ≤ x) 35), (10, o_aload 0 1), (11, o_getR 2 9 14), (14, o_iload 2 1), (15, o_aald), (16, o_iload 1 1), (17, o_aload 0 1), (18, o_getI 2 3), (21, o_callV 41 3 3 2 false), (24, o_if (fun x => x = 0) 29), (27, o_iload 2 1), (28, o_iret), (29, o_inc 2 1), (32, o_goto 2), (35, o_push (-1) 1), (36, o_iret)]
def tX2_firstFree : List (Nat × dp_Op) := [(0, o_push 0 1), (1, o_istore 1 1), (2, o_iload 1 1), (3, o_aload 0 1), (4, o_getI 2 7), (7, o_cmp (fun x y => y ≤ x) 30), (10, o_aload 0 1), (11, o_getR 2 9 14), (14, o_iload 1 1), (15, o_aald), (16, o_callV 39 1 3 0 false), (19, o_if (fun x => x = 0) 24), (22, o_iload 1 1), (23, o_iret), (24, o_inc 1 1), (27, o_goto 2), (30, o_push (-1) 1), (31, o_iret)]
def tX2_firstOfGreatestCount : List (Nat × dp_Op) := [(0, o_push 0 1), (1, o_istore 1 1), (2, o_push 1 1), (3, o_istore 2 1), (4, o_iload 2 1), (5, o_aload 0 1), (6, o_getI 2 7), (9, o_cmp (fun x y => y ≤ x) 41), (12, o_aload 0 1), (13, o_getR 2 9 14), (16, o_iload 2 1), (17, o_aald), (18, o_getI 3 2), (21, o_aload 0 1), (22, o_getR 2 9 14), (25, o_iload 1 1), (26, o_aald), (27, o_getI 3 2), (30, o_cmp (fun x y => x ≤ y) 35), (33, o_iload 2 1), (34, o_istore 1 1), (35, o_inc 2 1), (38, o_goto 4), (41, o_iload 1 1), (42, o_iret)]
def tX2_loadFor : List (Nat × dp_Op) := [(0, o_aload 0 1), (1, o_getR 2 9 14), (4, o_iload 2 1), (5, o_aald), (6, o_aload 1 1), (7, o_getI 0 1), (10, o_aload 0 1), (11, o_getI 2 4), (14, o_callV 43 3 3 2 true), (17, o_aload 1 1), (18, o_iload 2 1), (19, o_putI 0 4), (22, o_aload 0 1), (23, o_getR 2 10 6), (26, o_dup), (27, o_getI 6 4), (30, o_push 1 1), (31, o_bin (fun x y => x + y)), (32, o_putI 6 4), (35, o_vret)]
def tX3_copyFrom : List (Nat × dp_Op) := [(0, o_aload 0 1), (1, o_aload 1 1), (2, o_getI 3 0), (5, o_putI 3 0), (8, o_aload 0 1), (9, o_aload 1 1), (10, o_getI 3 1), (13, o_putI 3 1), (16, o_aload 0 1), (17, o_aload 1 1), (18, o_getI 3 2), (21, o_putI 3 2), (24, o_aload 0 1), (25, o_aload 1 1), (26, o_getI 3 3), (29, o_putI 3 3), (32, o_vret)]
def tX3_isFree : List (Nat × dp_Op) := [(0, o_aload 0 1), (1, o_getI 3 0), (4, o_if (fun x => ¬ x = 0) 11), (7, o_push 1 1), (8, o_goto 12), (11, o_push 0 1), (12, o_zret)]
def tX3_isDue : List (Nat × dp_Op) := [(0, o_aload 0 1), (1, o_getI 3 0), (4, o_if (fun x => x ≤ 0) 26), (7, o_aload 0 1), (8, o_getI 3 3), (11, o_if (fun x => ¬ x = 0) 26), (14, o_aload 0 1), (15, o_getI 3 2), (18, o_iload 1 1), (19, o_cmp (fun x y => y < x) 26), (22, o_push 1 1), (23, o_goto 27), (26, o_push 0 1), (27, o_zret)]
def tX3_canTake : List (Nat × dp_Op) := [(0, o_aload 0 1), (1, o_getI 3 0), (4, o_if (fun x => x ≤ 0) 44), (7, o_aload 0 1), (8, o_getI 3 2), (11, o_aload 0 1), (12, o_getI 3 1), (15, o_bin (fun x y => x - y)), (16, o_iload 2 1), (17, o_cmp (fun x y => y < x) 44), (20, o_aload 0 1), (21, o_getI 3 2), (24, o_iload 1 1), (25, o_bin (fun x y => x - y)), (26, o_iload 2 1), (27, o_cmp (fun x y => y < x) 44), (30, o_iload 1 1), (31, o_aload 0 1), (32, o_getI 3 1), (35, o_bin (fun x y => x - y)), (36, o_iload 2 1), (37, o_cmp (fun x y => y < x) 44), (40, o_push 1 1), (41, o_goto 45), (44, o_push 0 1), (45, o_zret)]
def tX3_release : List (Nat × dp_Op) := [(0, o_aload 0 1), (1, o_push 0 1), (2, o_putI 3 0), (5, o_aload 0 1), (6, o_push 0 1), (7, o_putI 3 1), (10, o_aload 0 1), (11, o_push 0 1), (12, o_putI 3 2), (15, o_aload 0 1), (16, o_push 0 1), (17, o_putI 3 3), (20, o_vret)]
def tX3_load : List (Nat × dp_Op) := [(0, o_aload 0 1), (1, o_push 1 1), (2, o_putI 3 0), (5, o_aload 0 1), (6, o_iload 1 1), (7, o_putI 3 1), (10, o_aload 0 1), (11, o_iload 1 1), (12, o_putI 3 2), (15, o_aload 0 1), (16, o_iload 2 1), (17, o_putI 3 3), (20, o_vret)]
def tX3_join : List (Nat × dp_Op) := [(0, o_aload 0 1), (1, o_aload 0 1), (2, o_getI 3 0), (5, o_if (fun x => ¬ x = 0) 12), (8, o_iload 1 1), (9, o_goto 20), (12, o_aload 0 1), (13, o_getI 3 1), (16, o_iload 1 1), (17, o_min), (20, o_putI 3 1), (23, o_aload 0 1), (24, o_aload 0 1), (25, o_getI 3 0), (28, o_if (fun x => ¬ x = 0) 35), (31, o_iload 1 1), (32, o_goto 43), (35, o_aload 0 1), (36, o_getI 3 2), (39, o_iload 1 1), (40, o_max), (43, o_putI 3 2), (46, o_aload 0 1), (47, o_dup), (48, o_getI 3 0), (51, o_push 1 1), (52, o_bin (fun x y => x + y)), (53, o_putI 3 0), (56, o_vret)]
def tX3_loadOn : List (Nat × dp_Op) := [(0, o_aload 0 1), (1, o_getI 3 3), (4, o_if (fun x => x ≤ 0) 17), (7, o_aload 0 1), (8, o_dup), (9, o_getI 3 3), (12, o_push 1 1), (13, o_bin (fun x y => x - y)), (14, o_putI 3 3), (17, o_vret)]
def tX4_recordState : List (Nat × dp_Op) := [(0, o_aload 0 1), (1, o_getI 4 1), (4, o_push 4 1), (5, o_cmp (fun x y => ¬ x = y) 12), (8, o_aload 0 1), (9, o_callV 47 3 4 0 true), (12, o_aload 0 1), (13, o_getR 4 0 15), (16, o_aload 0 1), (17, o_getI 4 1), (20, o_aald), (21, o_aload 1 1), (22, o_callV 12 3 2 1 true), (25, o_aload 0 1), (26, o_dup), (27, o_getI 4 1), (30, o_push 1 1), (31, o_bin (fun x y => x + y)), (32, o_putI 4 1), (35, o_vret)]
def tX4_dropOldest : List (Nat × dp_Op) := [(0, o_aload 0 1), (1, o_getR 4 0 15), (4, o_push 0 1), (5, o_aald), (6, o_astore 1 1), (7, o_push 0 1), (8, o_istore 2 1), (9, o_iload 2 1), (10, o_push 1 1), (11, o_bin (fun x y => x + y)), (12, o_push 4 1), (13, o_cmp (fun x y => y ≤ x) 36), (16, o_aload 0 1), (17, o_getR 4 0 15), (20, o_iload 2 1), (21, o_aload 0 1), (22, o_getR 4 0 15), (25, o_iload 2 1), (26, o_push 1 1), (27, o_bin (fun x y => x + y)), (28, o_aald), (29, o_aast), (30, o_inc 2 1), (33, o_goto 9), (36, o_aload 0 1), (37, o_getR 4 0 15), (40, o_push 3 1), (41, o_aload 1 1), (42, o_aast), (43, o_aload 0 1), (44, o_dup), (45, o_getI 4 1), (48, o_push 1 1), (49, o_bin (fun x y => x - y)), (50, o_putI 4 1), (53, o_vret)]
def tX4_takeBack : List (Nat × dp_Op) := [(0, o_aload 0 1), (1, o_getI 4 1), (4, o_if (fun x => x ≤ 0) 30), (7, o_aload 0 1), (8, o_dup), (9, o_getI 4 1), (12, o_push 1 1), (13, o_bin (fun x y => x - y)), (14, o_putI 4 1), (17, o_aload 1 1), (18, o_aload 0 1), (19, o_getR 4 0 15), (22, o_aload 0 1), (23, o_getI 4 1), (26, o_aald), (27, o_callV 12 3 2 1 true), (30, o_vret)]
def tX5_copyFrom : List (Nat × dp_Op) := [(0, o_aload 1 1), (1, o_getR 5 0 10), (4, o_push 0 1), (5, o_aload 0 1), (6, o_getR 5 0 10), (9, o_push 0 1), (10, o_push 32 2), (12, o_acp), (15, o_aload 0 1), (16, o_aload 1 1), (17, o_getI 5 1), (20, o_putI 5 1), (23, o_vret)]
def tX5_note : List (Nat × dp_Op) := [(0, o_aload 0 1), (1, o_getI 5 1), (4, o_push 8 2), (6, o_rem), (7, o_push 4 1), (8, o_bin (fun x y => x * y)), (9, o_istore 5 2), (11, o_aload 0 1), (12, o_getR 5 0 10), (15, o_iload 5 2), (17, o_iload 1 1), (18, o_iast), (19, o_aload 0 1), (20, o_getR 5 0 10), (23, o_iload 5 2), (25, o_push 1 1), (26, o_bin (fun x y => x + y)), (27, o_iload 2 1), (28, o_iast), (29, o_aload 0 1), (30, o_getR 5 0 10), (33, o_iload 5 2), (35, o_push 2 1), (36, o_bin (fun x y => x + y)), (37, o_iload 3 1), (38, o_iast), (39, o_aload 0 1), (40, o_getR 5 0 10), (43, o_iload 5 2), (45, o_push 3 1), (46, o_bin (fun x y => x + y)), (47, o_iload 4 2), (49, o_iast), (50, o_aload 0 1), (51, o_dup), (52, o_getI 5 1), (55, o_push 1 1), (56, o_bin (fun x y => x + y)), (57, o_putI 5 1), (60, o_vret)]
def tX5_tell : List (Nat × dp_Op) := [(0, o_iload 1 1), (1, o_if (fun x => x < 0) 13), (4, o_iload 2 1), (5, o_if (fun x => x < 0) 13), (8, o_iload 2 1), (9, o_push 4 1), (10, o_cmp (fun x y => x < y) 17), (13, o_push (-1002) 3), (16, o_iret), (17, o_iload 1 1), (18, o_push 8 2), (20, o_cmp (fun x y => y ≤ x) 31), (23, o_iload 1 1), (24, o_aload 0 1), (25, o_getI 5 1), (28, o_cmp (fun x y => x < y) 35), (31, o_push (-1005) 3), (34, o_iret), (35, o_aload 0 1), (36, o_getR 5 0 10), (39, o_aload 0 1), (40, o_getI 5 1), (43, o_push 1 1), (44, o_bin (fun x y => x - y)), (45, o_iload 1 1), (46, o_bin (fun x y => x - y)), (47, o_push 8 2), (49, o_rem), (50, o_push 4 1), (51, o_bin (fun x y => x * y)), (52, o_iload 2 1), (53, o_bin (fun x y => x + y)), (54, o_iald), (55, o_iret)]
def tX6_clear : List (Nat × dp_Op) := [(0, o_aload 0 1), (1, o_push 0 1), (2, o_putI 6 0), (5, o_aload 0 1), (6, o_push 0 1), (7, o_putI 6 1), (10, o_aload 0 1), (11, o_push 0 1), (12, o_putI 6 2), (15, o_aload 0 1), (16, o_push 0 1), (17, o_putI 6 3), (20, o_aload 0 1), (21, o_push 0 1), (22, o_putI 6 4), (25, o_aload 0 1), (26, o_push 0 1), (27, o_putI 6 5), (30, o_vret)]
def tX6_copyFrom : List (Nat × dp_Op) := [(0, o_aload 0 1), (1, o_aload 1 1), (2, o_getI 6 0), (5, o_putI 6 0), (8, o_aload 0 1), (9, o_aload 1 1), (10, o_getI 6 1), (13, o_putI 6 1), (16, o_aload 0 1), (17, o_aload 1 1), (18, o_getI 6 2), (21, o_putI 6 2), (24, o_aload 0 1), (25, o_aload 1 1), (26, o_getI 6 3), (29, o_putI 6 3), (32, o_aload 0 1), (33, o_aload 1 1), (34, o_getI 6 4), (37, o_putI 6 4), (40, o_aload 0 1), (41, o_aload 1 1), (42, o_getI 6 5), (45, o_putI 6 5), (48, o_vret)]
def tX6_noteRing : List (Nat × dp_Op) := [(0, o_aload 0 1), (1, o_dup), (2, o_getI 6 0), (5, o_push 1 1), (6, o_bin (fun x y => x + y)), (7, o_putI 6 0), (10, o_aload 0 1), (11, o_dup), (12, o_getI 6 1), (15, o_iload 1 1), (16, o_bin (fun x y => x + y)), (17, o_putI 6 1), (20, o_aload 0 1), (21, o_aload 0 1), (22, o_getI 6 2), (25, o_iload 1 1), (26, o_max), (29, o_putI 6 2), (32, o_vret)]
def tX7_set : List (Nat × dp_Op) := [(0, o_iload 1 1), (1, o_push 0 1), (2, o_push 99999 2), (4, o_call 78 3 3 false), (7, o_if (fun x => x = 0) 30), (10, o_iload 2 1), (11, o_push 0 1), (12, o_push 9999 3), (15, o_call 78 3 3 false), (18, o_if (fun x => x = 0) 30), (21, o_iload 3 1), (22, o_push 0 1), (23, o_push 3 1), (24, o_call 78 3 3 false), (27, o_if (fun x => ¬ x = 0) 34), (30, o_push (-1002) 3), (33, o_iret), (34, o_iload 1 1), (35, o_aload 0 1), (36, o_getR 7 0 2), (39, o_getI 2 0), (42, o_cmp (fun x y => y ≤ x) 49), (45, o_push (-1004) 3), (48, o_iret), (49, o_aload 0 1), (50, o_getR 7 0 2), (53, o_push 1 1), (54, o_callV 13 2 2 1 false), (57, o_if (fun x => ¬ x = 0) 64), (60, o_push (-1003) 3), (63, o_iret), (64, o_aload 0 1), (65, o_getR 7 3 4), (68, o_aload 0 1), (69, o_getR 7 0 2), (72, o_callV 46 2 4 1 true), (75, o_aload 0 1), (76, o_getR 7 0 2), (79, o_iload 1 1), (80, o_iload 2 1), (81, o_iload 3 1), (82, o_callV 16 5 2 3 false), (85, o_iret)]
def tX7_setAll : List (Nat × dp_Op) := [(0, o_aload 0 1), (1, o_getR 7 4 1), (4, o_callV 6 2 1 0 false), (7, o_istore 1 1), (8, o_iload 1 1), (9, o_push (-1) 1), (10, o_cmp (fun x y => x = y) 19), (13, o_push (-1100) 3), (16, o_iload 1 1), (17, o_bin (fun x y => x - y)), (18, o_iret), (19, o_aload 0 1), (20, o_getR 7 4 1), (23, o_callV 11 3 1 0 false), (26, o_aload 0 1), (27, o_getR 7 0 2), (30, o_getI 2 0), (33, o_cmp (fun x y => y ≤ x) 40), (36, o_push (-1004) 3), (39, o_iret), (40, o_aload 0 1), (41, o_getR 7 0 2), (44, o_aload 0 1), (45, o_getR 7 4 1), (48, o_getI 1 5), (51, o_callV 13 2 2 1 false), (54, o_if (fun x => ¬ x = 0) 61), (57, o_push (-1003) 3), (60, o_iret), (61, o_aload 0 1), (62, o_getR 7 3 4), (65, o_aload 0 1), (66, o_getR 7 0 2), (69, o_callV 46 2 4 1 true), (72, o_push 0 1), (73, o_istore 2 1), (74, o_iload 2 1), (75, o_aload 0 1), (76, o_getR 7 4 1), (79, o_getI 1 5), (82, o_cmp (fun x y => y ≤ x) 132), (85, o_iload 2 1), (86, o_push 30 2), (88, o_cmp (fun x y => y ≤ x) 132), (91, o_aload 0 1), (92, o_getR 7 0 2), (95, o_aload 0 1), (96, o_getR 7 4 1), (99, o_getR 1 2 11), (102, o_iload 2 1), (103, o_iald), (104, o_aload 0 1), (105, o_getR 7 4 1), (108, o_getR 1 3 11), (111, o_iload 2 1), (112, o_iald), (113, o_aload 0 1), (114, o_getR 7 4 1), (117, o_getR 1 4 11), (120, o_iload 2 1), (121, o_iald), (122, o_callV 16 5 2 3 false), (125, o_pop), (126, o_inc 2 1), (129, o_goto 74), (132, o_aload 0 1), (133, o_getR 7 0 2), (136, o_getI 2 5), (139, o_iret)]
def tX7_cancel : List (Nat × dp_Op) := [(0, o_aload 0 1), (1, o_getR 7 0 2), (4, o_iload 1 1), (5, o_callV 14 3 2 1 false), (8, o_istore 2 1), (9, o_iload 2 1), (10, o_push (-1) 1), (11, o_cmp (fun x y => ¬ x = y) 18), (14, o_push (-1001) 3), (17, o_iret), (18, o_aload 0 1), (19, o_getR 7 3 4), (22, o_aload 0 1), (23, o_getR 7 0 2), (26, o_callV 46 2 4 1 true), (29, o_aload 0 1), (30, o_getR 7 0 2), (33, o_iload 2 1), (34, o_callV 17 2 2 1 true), (37, o_aload 0 1), (38, o_getR 7 0 2), (41, o_getI 2 5), (44, o_iret)]
def tX7_move : List (Nat × dp_Op) := [(0, o_aload 0 1), (1, o_getR 7 0 2), (4, o_iload 1 1), (5, o_callV 14 3 2 1 false), (8, o_istore 3 1), (9, o_iload 3 1), (10, o_push (-1) 1), (11, o_cmp (fun x y => ¬ x = y) 18), (14, o_push (-1001) 3), (17, o_iret), (18, o_iload 2 1), (19, o_push 0 1), (20, o_push 99999 2), (22, o_call 78 3 3 false), (25, o_if (fun x => ¬ x = 0) 32), (28, o_push (-1002) 3), (31, o_iret), (32, o_iload 2 1), (33, o_aload 0 1), (34, o_getR 7 0 2), (37, o_getI 2 0), (40, o_cmp (fun x y => y ≤ x) 47), (43, o_push (-1004) 3), (46, o_iret), (47, o_aload 0 1), (48, o_getR 7 0 2), (51, o_getR 2 8 13), (54, o_iload 3 1), (55, o_aald), (56, o_getI 0 1), (59, o_istore 4 2), (61, o_iload 4 2), (63, o_iload 2 1), (64, o_cmp (fun x y => ¬ x = y) 71), (67, o_push (-1005) 3), (70, o_iret), (71, o_aload 0 1), (72, o_getR 7 3 4), (75, o_aload 0 1), (76, o_getR 7 0 2), (79, o_callV 46 2 4 1 true), (82, o_aload 0 1), (83, o_getR 7 0 2), (86, o_iload 3 1), (87, o_iload 2 1), (88, o_callV 18 4 2 2 true), (91, o_iload 4 2), (93, o_iret)]
def tX7_setComparers : List (Nat × dp_Op) := [(0, o_iload 1 1), (1, o_push 1 1), (2, o_push 4 1), (3, o_call 78 3 3 false), (6, o_if (fun x => ¬ x = 0) 13), (9, o_push (-1002) 3), (12, o_iret), (13, o_aload 0 1), (14, o_getR 7 0 2), (17, o_getI 2 7), (20, o_istore 2 1), (21, o_iload 2 1), (22, o_iload 1 1), (23, o_cmp (fun x y => ¬ x = y) 30), (26, o_push (-1005) 3), (29, o_iret), (30, o_aload 0 1), (31, o_getR 7 3 4), (34, o_aload 0 1), (35, o_getR 7 0 2), (38, o_callV 46 2 4 1 true), (41, o_aload 0 1), (42, o_getR 7 0 2), (45, o_iload 1 1), (46, o_callV 26 3 2 1 true), (49, o_iload 2 1), (50, o_iret)]
def tX7_setWindow : List (Nat × dp_Op) := [(0, o_iload 1 1), (1, o_push 0 1), (2, o_push 20 2), (4, o_call 78 3 3 false), (7, o_if (fun x => ¬ x = 0) 14), (10, o_push (-1002) 3), (13, o_iret), (14, o_aload 0 1), (15, o_getR 7 0 2), (18, o_getI 2 3), (21, o_istore 2 1), (22, o_iload 2 1), (23, o_iload 1 1), (24, o_cmp (fun x y => ¬ x = y) 31), (27, o_push (-1005) 3), (30, o_iret), (31, o_aload 0 1), (32, o_getR 7 3 4), (35, o_aload 0 1), (36, o_getR 7 0 2), (39, o_callV 46 2 4 1 true), (42, o_aload 0 1), (43, o_getR 7 0 2), (46, o_iload 1 1), (47, o_putI 2 3), (50, o_aload 0 1), (51, o_getR 7 0 2), (54, o_callV 31 3 2 0 true), (57, o_iload 2 1), (58, o_iret)]
def tX7_setLoading : List (Nat × dp_Op) := [(0, o_iload 1 1), (1, o_push 0 1), (2, o_push 9 2), (4, o_call 78 3 3 false), (7, o_if (fun x => ¬ x = 0) 14), (10, o_push (-1002) 3), (13, o_iret), (14, o_aload 0 1), (15, o_getR 7 0 2), (18, o_getI 2 4), (21, o_istore 2 1), (22, o_iload 2 1), (23, o_iload 1 1), (24, o_cmp (fun x y => ¬ x = y) 31), (27, o_push (-1005) 3), (30, o_iret), (31, o_aload 0 1), (32, o_getR 7 3 4), (35, o_aload 0 1), (36, o_getR 7 0 2), (39, o_callV 46 2 4 1 true), (42, o_aload 0 1), (43, o_getR 7 0 2), (46, o_iload 1 1), (47, o_putI 2 4), (50, o_iload 2 1), (51, o_iret)]
def tX7_setDrift : List (Nat × dp_Op) := [(0, o_iload 1 1), (1, o_push (-999) 3), (4, o_push 999 3), (7, o_call 78 3 3 false), (10, o_if (fun x => x = 0) 23), (13, o_iload 1 1), (14, o_push 1 1), (15, o_cmp (fun x y => x = y) 23), (18, o_iload 1 1), (19, o_push (-1) 1), (20, o_cmp (fun x y => ¬ x = y) 27), (23, o_push (-1002) 3), (26, o_iret), (27, o_aload 0 1), (28, o_getR 7 0 2), (31, o_getI 2 2), (34, o_istore 2 1), (35, o_iload 2 1), (36, o_iload 1 1), (37, o_cmp (fun x y => ¬ x = y) 44), (40, o_push (-1005) 3), (43, o_iret), (44, o_aload 0 1), (45, o_getR 7 3 4), (48, o_aload 0 1), (49, o_getR 7 0 2), (52, o_callV 46 2 4 1 true), (55, o_aload 0 1), (56, o_getR 7 0 2), (59, o_iload 1 1), (60, o_putI 2 2), (63, o_iload 2 1), (64, o_iret)]
def tX7_correct : List (Nat × dp_Op) := [(0, o_iload 1 1), (1, o_push (-999) 3), (4, o_push 999 3), (7, o_call 78 3 3 false), (10, o_if (fun x => ¬ x = 0) 17), (13, o_push (-1002) 3), (16, o_iret), (17, o_aload 0 1), (18, o_getR 7 0 2), (21, o_getI 2 0), (24, o_iload 1 1), (25, o_bin (fun x y => x + y)), (26, o_istore 2 1), (27, o_iload 2 1), (28, o_push 0 1), (29, o_push 99999 2), (31, o_call 78 3 3 false), (34, o_if (fun x => ¬ x = 0) 41), (37, o_push (-1004) 3), (40, o_iret), (41, o_iload 1 1), (42, o_if (fun x => ¬ x = 0) 49), (45, o_push (-1005) 3), (48, o_iret), (49, o_aload 0 1), (50, o_getR 7 3 4), (53, o_aload 0 1), (54, o_getR 7 0 2), (57, o_callV 46 2 4 1 true), (60, o_aload 0 1), (61, o_getR 7 0 2), (64, o_iload 2 1), (65, o_putI 2 0), (68, o_aload 0 1), (69, o_getR 7 0 2), (72, o_callV 31 3 2 0 true), (75, o_iload 2 1), (76, o_iret)]
def tX7_run : List (Nat × dp_Op) := [(0, o_iload 1 1), (1, o_push 1 1), (2, o_push 1000 3), (5, o_call 78 3 3 false), (8, o_if (fun x => ¬ x = 0) 15), (11, o_push (-1002) 3), (14, o_iret), (15, o_aload 0 1), (16, o_getR 7 0 2), (19, o_getI 2 0), (22, o_push 2 1), (23, o_iload 1 1), (24, o_bin (fun x y => x * y)), (25, o_bin (fun x y => x + y)), (26, o_push 99999 2), (28, o_cmp (fun x y => x ≤ y) 35), (31, o_push (-1003) 3), (34, o_iret), (35, o_aload 0 1), (36, o_getR 7 3 4), (39, o_aload 0 1), (40, o_getR 7 0 2), (43, o_callV 46 2 4 1 true), (46, o_aload 0 1), (47, o_getR 7 0 2), (50, o_getR 2 10 6), (53, o_getI 6 0), (56, o_istore 2 1), (57, o_push 0 1), (58, o_istore 3 1), (59, o_iload 3 1), (60, o_iload 1 1), (61, o_cmp (fun x y => y ≤ x) 77), (64, o_aload 0 1), (65, o_getR 7 0 2), (68, o_callV 22 3 2 0 true), (71, o_inc 3 1), (74, o_goto 59), (77, o_aload 0 1), (78, o_getR 7 0 2), (81, o_getR 2 10 6), (84, o_getI 6 0), (87, o_iload 2 1), (88, o_bin (fun x y => x - y)), (89, o_iret)]
def tX7_type : List (Nat × dp_Op) := [(0, o_aload 0 1), (1, o_getR 7 4 1), (4, o_iload 1 1), (5, o_callV 5 2 1 1 false), (8, o_if (fun x => x = 0) 21), (11, o_aload 0 1), (12, o_getR 7 4 1), (15, o_getI 1 1), (18, o_goto 24), (21, o_push (-1003) 3), (24, o_iret)]
def tX7_clearText : List (Nat × dp_Op) := [(0, o_aload 0 1), (1, o_getR 7 4 1), (4, o_getI 1 1), (7, o_istore 1 1), (8, o_aload 0 1), (9, o_getR 7 4 1), (12, o_push 0 1), (13, o_putI 1 1), (16, o_iload 1 1), (17, o_iret)]
def tX7_undo : List (Nat × dp_Op) := [(0, o_aload 0 1), (1, o_getR 7 3 4), (4, o_getI 4 1), (7, o_if (fun x => ¬ x = 0) 14), (10, o_push (-1005) 3), (13, o_iret), (14, o_aload 0 1), (15, o_getR 7 3 4), (18, o_aload 0 1), (19, o_getR 7 0 2), (22, o_callV 48 2 4 1 true), (25, o_aload 0 1), (26, o_getR 7 3 4), (29, o_getI 4 1), (32, o_iret)]
def tX7_keep : List (Nat × dp_Op) := [(0, o_aload 0 1), (1, o_getR 7 2 2), (4, o_aload 0 1), (5, o_getR 7 0 2), (8, o_callV 12 3 2 1 true), (11, o_aload 0 1), (12, o_push 1 1), (13, o_putZ 7 5), (16, o_aload 0 1), (17, o_getR 7 0 2), (20, o_getI 2 0), (23, o_iret)]
def tX7_restore : List (Nat × dp_Op) := [(0, o_aload 0 1), (1, o_getI 7 5), (4, o_if (fun x => ¬ x = 0) 11), (7, o_push (-1005) 3), (10, o_iret), (11, o_aload 0 1), (12, o_getR 7 3 4), (15, o_aload 0 1), (16, o_getR 7 0 2), (19, o_callV 46 2 4 1 true), (22, o_aload 0 1), (23, o_getR 7 0 2), (26, o_aload 0 1), (27, o_getR 7 2 2), (30, o_callV 12 3 2 1 true), (33, o_aload 0 1), (34, o_getR 7 0 2), (37, o_getI 2 0), (40, o_iret)]
def tX7_alarm : List (Nat × dp_Op) := [(0, o_aload 0 1), (1, o_getR 7 0 2), (4, o_iload 1 1), (5, o_callV 14 3 2 1 false), (8, o_istore 3 1), (9, o_iload 3 1), (10, o_push (-1) 1), (11, o_cmp (fun x y => ¬ x = y) 18), (14, o_push (-1001) 3), (17, o_iret), (18, o_aload 0 1), (19, o_getR 7 0 2), (22, o_getR 2 8 13), (25, o_iload 3 1), (26, o_aald), (27, o_astore 4 2), (29, o_iload 2 1), (30, o_tsw 0 [72, 78, 84, 90, 96, 98, 104] 110), (72, o_aload 4 2), (74, o_getI 0 1), (77, o_iret), (78, o_aload 4 2), (80, o_getI 0 2), (83, o_iret), (84, o_aload 4 2), (86, o_getI 0 3), (89, o_iret), (90, o_aload 4 2), (92, o_getI 0 4), (95, o_iret), (96, o_iload 3 1), (97, o_iret), (98, o_aload 4 2), (100, o_getI 0 5), (103, o_iret), (104, o_aload 4 2), (106, o_getI 0 6), (109, o_iret), (110, o_push (-1002) 3), (113, o_iret)]
def tX7_comparer : List (Nat × dp_Op) := [(0, o_iload 1 1), (1, o_push 0 1), (2, o_aload 0 1), (3, o_getR 7 0 2), (6, o_getI 2 7), (9, o_push 1 1), (10, o_bin (fun x y => x - y)), (11, o_call 78 3 3 false), (14, o_if (fun x => ¬ x = 0) 21), (17, o_push (-1001) 3), (20, o_iret), (21, o_aload 0 1), (22, o_getR 7 0 2), (25, o_getR 2 9 14), (28, o_iload 1 1), (29, o_aald), (30, o_astore 3 1), (31, o_iload 2 1), (32, o_tsw 0 [64, 82, 87, 92] 101), (64, o_aload 3 1), (65, o_callV 39 1 3 0 false), (68, o_if (fun x => x = 0) 77), (71, o_push (-1005) 3), (74, o_goto 81), (77, o_aload 3 1), (78, o_getI 3 2), (81, o_iret), (82, o_aload 3 1), (83, o_getI 3 0), (86, o_iret), (87, o_aload 3 1), (88, o_getI 3 3), (91, o_iret), (92, o_aload 0 1), (93, o_getR 7 0 2), (96, o_iload 1 1), (97, o_callV 30 3 2 1 false), (100, o_iret), (101, o_push (-1002) 3), (104, o_iret)]
def tX7_at : List (Nat × dp_Op) := [(0, o_iload 1 1), (1, o_if (fun x => 0 ≤ x) 8), (4, o_push (-1002) 3), (7, o_iret), (8, o_iload 1 1), (9, o_aload 0 1), (10, o_getR 7 0 2), (13, o_getI 2 5), (16, o_cmp (fun x y => y ≤ x) 34), (19, o_aload 0 1), (20, o_getR 7 0 2), (23, o_getR 2 8 13), (26, o_iload 1 1), (27, o_aald), (28, o_getI 0 0), (31, o_goto 37), (34, o_push (-1005) 3), (37, o_iret)]
def tX7_ringsIn : List (Nat × dp_Op) := [(0, o_aload 0 1), (1, o_getR 7 0 2), (4, o_iload 1 1), (5, o_callV 14 3 2 1 false), (8, o_istore 2 1), (9, o_iload 2 1), (10, o_push (-1) 1), (11, o_cmp (fun x y => ¬ x = y) 18), (14, o_push (-1001) 3), (17, o_iret), (18, o_aload 0 1), (19, o_getR 7 0 2), (22, o_getR 2 8 13), (25, o_iload 2 1), (26, o_aald), (27, o_getI 0 5), (30, o_istore 3 1), (31, o_aload 0 1), (32, o_getR 7 1 2), (35, o_aload 0 1), (36, o_getR 7 0 2), (39, o_callV 12 3 2 1 true), (42, o_push 1 1), (43, o_istore 4 2), (45, o_iload 4 2), (47, o_push 1000 3), (50, o_cmp (fun x y => y < x) 81), (53, o_aload 0 1), (54, o_getR 7 1 2), (57, o_callV 22 3 2 0 true), (60, o_aload 0 1), (61, o_getR 7 1 2), (64, o_iload 1 1), (65, o_iload 3 1), (66, o_callV 15 4 2 2 false), (69, o_if (fun x => x = 0) 75), (72, o_iload 4 2), (74, o_iret), (75, o_inc 4 1), (78, o_goto 45), (81, o_push (-1005) 3), (84, o_iret)]
def tX7_ifComparers : List (Nat × dp_Op) := [(0, o_iload 1 1), (1, o_push 1 1), (2, o_push 4 1), (3, o_call 78 3 3 false), (6, o_if (fun x => x = 0) 29), (9, o_iload 2 1), (10, o_push 1 1), (11, o_push 500 3), (14, o_call 78 3 3 false), (17, o_if (fun x => x = 0) 29), (20, o_iload 3 1), (21, o_push 0 1), (22, o_push 3 1), (23, o_call 78 3 3 false), (26, o_if (fun x => ¬ x = 0) 33), (29, o_push (-1002) 3), (32, o_iret), (33, o_aload 0 1), (34, o_iload 1 1), (35, o_iload 2 1), (36, o_callV 79 4 7 2 true), (39, o_iload 3 1), (40, o_tsw 0 [68, 79, 90] 101), (68, o_aload 0 1), (69, o_getR 7 1 2), (72, o_getR 2 10 6), (75, o_getI 6 0), (78, o_iret), (79, o_aload 0 1), (80, o_getR 7 1 2), (83, o_getR 2 10 6), (86, o_getI 6 1), (89, o_iret), (90, o_aload 0 1), (91, o_getR 7 1 2), (94, o_getR 2 10 6), (97, o_getI 6 2), (100, o_iret), (101, o_aload 0 1), (102, o_getR 7 1 2), (105, o_getR 2 10 6), (108, o_getI 6 3), (111, o_iret)]
def tX7_fewest : List (Nat × dp_Op) := [(0, o_iload 1 1), (1, o_push 1 1), (2, o_push 500 3), (5, o_call 78 3 3 false), (8, o_if (fun x => ¬ x = 0) 15), (11, o_push (-1002) 3), (14, o_iret), (15, o_push 0 1), (16, o_istore 2 1), (17, o_push 0 1), (18, o_istore 3 1), (19, o_push 1 1), (20, o_istore 4 2), (22, o_iload 4 2), (24, o_push 4 1), (25, o_cmp (fun x y => y < x) 73), (28, o_aload 0 1), (29, o_iload 4 2), (31, o_iload 1 1), (32, o_callV 79 4 7 2 true), (35, o_iload 2 1), (36, o_if (fun x => x = 0) 53), (39, o_aload 0 1), (40, o_getR 7 1 2), (43, o_getR 2 10 6), (46, o_getI 6 1), (49, o_iload 3 1), (50, o_cmp (fun x y => y ≤ x) 67), (53, o_iload 4 2), (55, o_istore 2 1), (56, o_aload 0 1), (57, o_getR 7 1 2), (60, o_getR 2 10 6), (63, o_getI 6 1), (66, o_istore 3 1), (67, o_inc 4 1), (70, o_goto 22), (73, o_iload 2 1), (74, o_iret)]
def tX7_ring : List (Nat × dp_Op) := [(0, o_aload 0 1), (1, o_getR 7 0 2), (4, o_getR 2 11 5), (7, o_iload 1 1), (8, o_iload 2 1), (9, o_callV 51 3 5 2 false), (12, o_iret)]
def tX7_count : List (Nat × dp_Op) := [(0, o_iload 1 1), (1, o_tsw 0 [88, 96, 104, 112, 120, 128, 136, 147, 158, 169, 180, 191, 202, 210, 218, 226, 234, 242] 250), (88, o_aload 0 1), (89, o_getR 7 0 2), (92, o_getI 2 0), (95, o_iret), (96, o_aload 0 1), (97, o_getR 7 0 2), (100, o_getI 2 1), (103, o_iret), (104, o_aload 0 1), (105, o_getR 7 0 2), (108, o_getI 2 5), (111, o_iret), (112, o_aload 0 1), (113, o_getR 7 0 2), (116, o_getI 2 6), (119, o_iret), (120, o_aload 0 1), (121, o_getR 7 0 2), (124, o_callV 21 3 2 0 false), (127, o_iret), (128, o_aload 0 1), (129, o_getR 7 0 2), (132, o_callV 29 3 2 0 false), (135, o_iret), (136, o_aload 0 1), (137, o_getR 7 0 2), (140, o_getR 2 10 6), (143, o_getI 6 0), (146, o_iret), (147, o_aload 0 1), (148, o_getR 7 0 2), (151, o_getR 2 10 6), (154, o_getI 6 1), (157, o_iret), (158, o_aload 0 1), (159, o_getR 7 0 2), (162, o_getR 2 10 6), (165, o_getI 6 2), (168, o_iret), (169, o_aload 0 1), (170, o_getR 7 0 2), (173, o_getR 2 10 6), (176, o_getI 6 3), (179, o_iret), (180, o_aload 0 1), (181, o_getR 7 0 2), (184, o_getR 2 10 6), (187, o_getI 6 4), (190, o_iret), (191, o_aload 0 1), (192, o_getR 7 0 2), (195, o_getR 2 10 6), (198, o_getI 6 5), (201, o_iret), (202, o_aload 0 1), (203, o_getR 7 0 2), (206, o_getI 2 7), (209, o_iret), (210, o_aload 0 1), (211, o_getR 7 0 2), (214, o_getI 2 3), (217, o_iret), (218, o_aload 0 1), (219, o_getR 7 0 2), (222, o_getI 2 4), (225, o_iret), (226, o_aload 0 1), (227, o_getR 7 0 2), (230, o_getI 2 2), (233, o_iret), (234, o_aload 0 1), (235, o_getR 7 3 4), (238, o_getI 4 1), (241, o_iret), (242, o_aload 0 1), (243, o_getR 7 4 1), (246, o_getI 1 1), (249, o_iret), (250, o_push (-1002) 3), (253, o_iret)]
def tX7_isWithin : List (Nat × dp_Op) := [(0, o_iload 0 1), (1, o_iload 1 1), (2, o_cmp (fun x y => x < y) 14), (5, o_iload 0 1), (6, o_iload 2 1), (7, o_cmp (fun x y => y < x) 14), (10, o_push 1 1), (11, o_goto 15), (14, o_push 0 1), (15, o_zret)]
def tX7_tryComparers : List (Nat × dp_Op) := [(0, o_aload 0 1), (1, o_getR 7 1 2), (4, o_aload 0 1), (5, o_getR 7 0 2), (8, o_callV 12 3 2 1 true), (11, o_aload 0 1), (12, o_getR 7 1 2), (15, o_iload 1 1), (16, o_callV 26 3 2 1 true), (19, o_aload 0 1), (20, o_getR 7 1 2), (23, o_getR 2 10 6), (26, o_callV 52 1 6 0 true), (29, o_push 0 1), (30, o_istore 3 1), (31, o_iload 3 1), (32, o_iload 2 1), (33, o_cmp (fun x y => y ≤ x) 49), (36, o_aload 0 1), (37, o_getR 7 1 2), (40, o_callV 22 3 2 0 true), (43, o_inc 3 1), (46, o_goto 31), (49, o_vret)]
def tX8_in : List (Nat × dp_Op) := [(0, o_iload 0 1), (1, o_iload 1 1), (2, o_cmp (fun x y => x < y) 14), (5, o_iload 0 1), (6, o_iload 2 1), (7, o_cmp (fun x y => y < x) 14), (10, o_push 1 1), (11, o_goto 15), (14, o_push 0 1), (15, o_zret)]
def tX8_lays : List (Nat × dp_Op) := [(0, o_push 0 1), (1, o_istore 4 2), (3, o_iload 4 2), (5, o_push 195 3), (8, o_cmp (fun x y => y ≤ x) 29), (11, o_aload 2 1), (12, o_iload 3 1), (13, o_iload 4 2), (15, o_bin (fun x y => x + y)), (16, o_aload 0 1), (17, o_iload 1 1), (18, o_iload 4 2), (20, o_bin (fun x y => x + y)), (21, o_iald), (22, o_iast), (23, o_inc 4 1), (26, o_goto 3), (29, o_vret)]
def tX8_records : List (Nat × dp_Op) := [(0, o_aload 0 1), (1, o_getI 8 3), (4, o_push 4 1), (5, o_cmp (fun x y => ¬ x = y) 49), (8, o_push 0 1), (9, o_istore 1 1), (10, o_iload 1 1), (11, o_push 585 3), (14, o_cmp (fun x y => y ≤ x) 39), (17, o_aload 0 1), (18, o_getR 8 2 17), (21, o_iload 1 1), (22, o_aload 0 1), (23, o_getR 8 2 17), (26, o_iload 1 1), (27, o_push 195 3), (30, o_bin (fun x y => x + y)), (31, o_iald), (32, o_iast), (33, o_inc 1 1), (36, o_goto 10), (39, o_aload 0 1), (40, o_dup), (41, o_getI 8 3), (44, o_push 1 1), (45, o_bin (fun x y => x - y)), (46, o_putI 8 3), (49, o_aload 0 1), (50, o_getR 8 0 16), (53, o_push 0 1), (54, o_aload 0 1), (55, o_getR 8 2 17), (58, o_push 195 3), (61, o_aload 0 1), (62, o_getI 8 3), (65, o_bin (fun x y => x * y)), (66, o_call 81 5 4 true), (69, o_aload 0 1), (70, o_dup), (71, o_getI 8 3), (74, o_push 1 1), (75, o_bin (fun x y => x + y)), (76, o_putI 8 3), (79, o_vret)]
def tX8_of : List (Nat × dp_Op) := [(0, o_aload 0 1), (1, o_push 14 2), (3, o_push 7 2), (5, o_iload 1 1), (6, o_bin (fun x y => x * y)), (7, o_bin (fun x y => x + y)), (8, o_iload 2 1), (9, o_bin (fun x y => x + y)), (10, o_iald), (11, o_iret)]
def tX8_put : List (Nat × dp_Op) := [(0, o_aload 0 1), (1, o_push 14 2), (3, o_push 7 2), (5, o_iload 1 1), (6, o_bin (fun x y => x * y)), (7, o_bin (fun x y => x + y)), (8, o_iload 2 1), (9, o_bin (fun x y => x + y)), (10, o_iload 3 1), (11, o_iast), (12, o_vret)]
def tX8_find : List (Nat × dp_Op) := [(0, o_push 0 1), (1, o_istore 2 1), (2, o_iload 2 1), (3, o_aload 0 1), (4, o_push 2 1), (5, o_iald), (6, o_cmp (fun x y => y ≤ x) 27), (9, o_aload 0 1), (10, o_iload 2 1), (11, o_push 0 1), (12, o_call 83 3 3 false), (15, o_iload 1 1), (16, o_cmp (fun x y => ¬ x = y) 21), (19, o_iload 2 1), (20, o_iret), (21, o_inc 2 1), (24, o_goto 2), (27, o_push (-1005) 3), (30, o_iret)]
def tX8_isAhead : List (Nat × dp_Op) := [(0, o_aload 0 1), (1, o_iload 1 1), (2, o_push 1 1), (3, o_call 83 3 3 false), (6, o_aload 0 1), (7, o_iload 2 1), (8, o_push 1 1), (9, o_call 83 3 3 false), (12, o_bin (fun x y => x - y)), (13, o_istore 3 1), (14, o_iload 3 1), (15, o_if (fun x => x = 0) 22), (18, o_iload 3 1), (19, o_goto 35), (22, o_aload 0 1), (23, o_iload 2 1), (24, o_push 3 1), (25, o_call 83 3 3 false), (28, o_aload 0 1), (29, o_iload 1 1), (30, o_push 3 1), (31, o_call 83 3 3 false), (34, o_bin (fun x y => x - y)), (35, o_istore 3 1), (36, o_iload 3 1), (37, o_if (fun x => x = 0) 52), (40, o_iload 3 1), (41, o_if (fun x => 0 ≤ x) 48), (44, o_push 1 1), (45, o_goto 62), (48, o_push 0 1), (49, o_goto 62), (52, o_iload 1 1), (53, o_iload 2 1), (54, o_cmp (fun x y => y ≤ x) 61), (57, o_push 1 1), (58, o_goto 62), (61, o_push 0 1), (62, o_zret)]
def tX8_firstOf : List (Nat × dp_Op) := [(0, o_push (-1005) 3), (3, o_istore 2 1), (4, o_push 0 1), (5, o_istore 3 1), (6, o_iload 3 1), (7, o_aload 0 1), (8, o_push 2 1), (9, o_iald), (10, o_cmp (fun x y => y ≤ x) 51), (13, o_aload 0 1), (14, o_iload 3 1), (15, o_push 4 1), (16, o_call 83 3 3 false), (19, o_iload 1 1), (20, o_cmp (fun x y => ¬ x = y) 43), (23, o_iload 2 1), (24, o_push (-1005) 3), (27, o_cmp (fun x y => x = y) 39), (30, o_aload 0 1), (31, o_iload 3 1), (32, o_iload 2 1), (33, o_call 86 4 3 false), (36, o_if (fun x => x = 0) 43), (39, o_iload 3 1), (40, o_goto 44), (43, o_iload 2 1), (44, o_istore 2 1), (45, o_inc 3 1), (48, o_goto 6), (51, o_iload 2 1), (52, o_iret)]
def tX8_placeOf : List (Nat × dp_Op) := [(0, o_push 0 1), (1, o_istore 2 1), (2, o_push 0 1), (3, o_istore 3 1), (4, o_iload 3 1), (5, o_aload 0 1), (6, o_push 2 1), (7, o_iald), (8, o_cmp (fun x y => y ≤ x) 39), (11, o_iload 2 1), (12, o_iload 3 1), (13, o_iload 1 1), (14, o_cmp (fun x y => x = y) 30), (17, o_aload 0 1), (18, o_iload 3 1), (19, o_iload 1 1), (20, o_call 86 4 3 false), (23, o_if (fun x => x = 0) 30), (26, o_push 1 1), (27, o_goto 31), (30, o_push 0 1), (31, o_bin (fun x y => x + y)), (32, o_istore 2 1), (33, o_inc 3 1), (36, o_goto 4), (39, o_iload 2 1), (40, o_iret)]
def tX8_countOf : List (Nat × dp_Op) := [(0, o_aload 0 1), (1, o_push 154 3), (4, o_push 2 1), (5, o_iload 1 1), (6, o_bin (fun x y => x * y)), (7, o_bin (fun x y => x + y)), (8, o_iald), (9, o_iret)]
def tX8_sharing : List (Nat × dp_Op) := [(0, o_push 0 1), (1, o_istore 2 1), (2, o_push 0 1), (3, o_istore 3 1), (4, o_iload 3 1), (5, o_aload 0 1), (6, o_push 2 1), (7, o_iald), (8, o_cmp (fun x y => y ≤ x) 35), (11, o_iload 2 1), (12, o_aload 0 1), (13, o_iload 3 1), (14, o_push 4 1), (15, o_call 83 3 3 false), (18, o_iload 1 1), (19, o_cmp (fun x y => ¬ x = y) 26), (22, o_push 1 1), (23, o_goto 27), (26, o_push 0 1), (27, o_bin (fun x y => x + y)), (28, o_istore 2 1), (29, o_inc 3 1), (32, o_goto 4), (35, o_iload 2 1), (36, o_iret)]
def tX8_extreme : List (Nat × dp_Op) := [(0, o_iload 2 1), (1, o_istore 4 2), (3, o_push 0 1), (4, o_istore 5 2), (6, o_iload 5 2), (8, o_aload 0 1), (9, o_push 2 1), (10, o_iald), (11, o_cmp (fun x y => y ≤ x) 65), (14, o_aload 0 1), (15, o_iload 5 2), (17, o_push 1 1), (18, o_call 83 3 3 false), (21, o_istore 6 2), (23, o_aload 0 1), (24, o_iload 5 2), (26, o_push 4 1), (27, o_call 83 3 3 false), (30, o_iload 1 1), (31, o_cmp (fun x y => ¬ x = y) 55), (34, o_iload 6 2), (36, o_iload 4 2), (38, o_cmp (fun x y => x ≤ y) 45), (41, o_push 1 1), (42, o_goto 46), (45, o_push 0 1), (46, o_iload 3 1), (47, o_cmp (fun x y => ¬ x = y) 55), (50, o_iload 6 2), (52, o_goto 57), (55, o_iload 4 2), (57, o_istore 4 2), (59, o_inc 5 1), (62, o_goto 6), (65, o_iload 4 2), (67, o_iret)]
def tX8_fits : List (Nat × dp_Op) := [(0, o_aload 0 1), (1, o_iload 1 1), (2, o_iload 2 1), (3, o_push 1 1), (4, o_call 91 7 4 false), (7, o_aload 0 1), (8, o_iload 1 1), (9, o_iload 2 1), (10, o_push 0 1), (11, o_call 91 7 4 false), (14, o_bin (fun x y => x - y)), (15, o_aload 0 1), (16, o_push 11 2), (18, o_iald), (19, o_cmp (fun x y => y < x) 26), (22, o_push 1 1), (23, o_goto 27), (26, o_push 0 1), (27, o_zret)]
def tX8_joinable : List (Nat × dp_Op) := [(0, o_push 0 1), (1, o_istore 2 1), (2, o_iload 2 1), (3, o_aload 0 1), (4, o_push 10 2), (6, o_iald), (7, o_cmp (fun x y => y ≤ x) 38), (10, o_aload 0 1), (11, o_iload 2 1), (12, o_call 89 2 2 false), (15, o_push (-1005) 3), (18, o_cmp (fun x y => x = y) 32), (21, o_aload 0 1), (22, o_iload 2 1), (23, o_iload 1 1), (24, o_call 92 3 3 false), (27, o_if (fun x => x = 0) 32), (30, o_iload 2 1), (31, o_iret), (32, o_inc 2 1), (35, o_goto 2), (38, o_push (-1005) 3), (41, o_iret)]
def tX8_freeOne : List (Nat × dp_Op) := [(0, o_push 0 1), (1, o_istore 1 1), (2, o_iload 1 1), (3, o_aload 0 1), (4, o_push 10 2), (6, o_iald), (7, o_cmp (fun x y => y ≤ x) 29), (10, o_aload 0 1), (11, o_iload 1 1), (12, o_call 89 2 2 false), (15, o_push (-1005) 3), (18, o_cmp (fun x y => ¬ x = y) 23), (21, o_iload 1 1), (22, o_iret), (23, o_inc 1 1), (26, o_goto 2), (29, o_push (-1005) 3), (32, o_iret)]
def tX8_latest : List (Nat × dp_Op) := [(0, o_push 0 1), (1, o_istore 1 1), (2, o_push 1 1), (3, o_istore 2 1), (4, o_iload 2 1), (5, o_aload 0 1), (6, o_push 10 2), (8, o_iald), (9, o_cmp (fun x y => y ≤ x) 37), (12, o_aload 0 1), (13, o_iload 2 1), (14, o_call 89 2 2 false), (17, o_aload 0 1), (18, o_iload 1 1), (19, o_call 89 2 2 false), (22, o_cmp (fun x y => x ≤ y) 29), (25, o_iload 2 1), (26, o_goto 30), (29, o_iload 1 1), (30, o_istore 1 1), (31, o_inc 2 1), (34, o_goto 4), (37, o_iload 1 1), (38, o_iret)]
def tX8_frees : List (Nat × dp_Op) := [(0, o_push 0 1), (1, o_istore 2 1), (2, o_iload 2 1), (3, o_aload 0 1), (4, o_push 2 1), (5, o_iald), (6, o_cmp (fun x y => y ≤ x) 34), (9, o_aload 0 1), (10, o_iload 2 1), (11, o_push 4 1), (12, o_call 83 3 3 false), (15, o_iload 1 1), (16, o_cmp (fun x y => ¬ x = y) 28), (19, o_aload 0 1), (20, o_iload 2 1), (21, o_push 4 1), (22, o_push (-1005) 3), (25, o_call 84 4 4 true), (28, o_inc 2 1), (31, o_goto 2), (34, o_aload 0 1), (35, o_push 154 3), (38, o_push 2 1), (39, o_iload 1 1), (40, o_bin (fun x y => x * y)), (41, o_bin (fun x y => x + y)), (42, o_push (-1005) 3), (45, o_iast), (46, o_aload 0 1), (47, o_push 154 3), (50, o_push 2 1), (51, o_iload 1 1), (52, o_bin (fun x y => x * y)), (53, o_bin (fun x y => x + y)), (54, o_push 1 1), (55, o_bin (fun x y => x + y)), (56, o_push 0 1), (57, o_iast), (58, o_vret)]
def tX8_loads : List (Nat × dp_Op) := [(0, o_aload 0 1), (1, o_iload 2 1), (2, o_push 4 1), (3, o_iload 1 1), (4, o_call 84 4 4 true), (7, o_aload 0 1), (8, o_push 154 3), (11, o_push 2 1), (12, o_iload 1 1), (13, o_bin (fun x y => x * y)), (14, o_bin (fun x y => x + y)), (15, o_aload 0 1), (16, o_iload 2 1), (17, o_push 1 1), (18, o_call 83 3 3 false), (21, o_iast), (22, o_aload 0 1), (23, o_push 154 3), (26, o_push 2 1), (27, o_iload 1 1), (28, o_bin (fun x y => x * y)), (29, o_bin (fun x y => x + y)), (30, o_push 1 1), (31, o_bin (fun x y => x + y)), (32, o_aload 0 1), (33, o_push 12 2), (35, o_iald), (36, o_iast), (37, o_aload 0 1), (38, o_push 8 2), (40, o_dup2), (41, o_iald), (42, o_push 1 1), (43, o_bin (fun x y => x + y)), (44, o_iast), (45, o_vret)]
def tX8_isShared : List (Nat × dp_Op) := [(0, o_aload 0 1), (1, o_iload 1 1), (2, o_push 1 1), (3, o_call 83 3 3 false), (6, o_istore 2 1), (7, o_aload 0 1), (8, o_iload 2 1), (9, o_call 93 3 2 false), (12, o_istore 3 1), (13, o_iload 3 1), (14, o_push (-1005) 3), (17, o_cmp (fun x y => x = y) 45), (20, o_aload 0 1), (21, o_iload 1 1), (22, o_push 4 1), (23, o_iload 3 1), (24, o_call 84 4 4 true), (27, o_aload 0 1), (28, o_push 154 3), (31, o_push 2 1), (32, o_iload 3 1), (33, o_bin (fun x y => x * y)), (34, o_bin (fun x y => x + y)), (35, o_aload 0 1), (36, o_iload 3 1), (37, o_iload 2 1), (38, o_push 1 1), (39, o_call 91 7 4 false), (42, o_iast), (43, o_push 1 1), (44, o_zret), (45, o_aload 0 1), (46, o_call 94 2 1 false), (49, o_istore 3 1), (50, o_iload 3 1), (51, o_push (-1005) 3), (54, o_cmp (fun x y => ¬ x = y) 86), (57, o_aload 0 1), (58, o_call 95 3 1 false), (61, o_istore 3 1), (62, o_aload 0 1), (63, o_iload 3 1), (64, o_call 89 2 2 false), (67, o_iload 2 1), (68, o_cmp (fun x y => y < x) 73), (71, o_push 0 1), (72, o_zret), (73, o_aload 0 1), (74, o_iload 3 1), (75, o_call 96 3 2 true), (78, o_aload 0 1), (79, o_push 9 2), (81, o_dup2), (82, o_iald), (83, o_push 1 1), (84, o_bin (fun x y => x + y)), (85, o_iast), (86, o_aload 0 1), (87, o_iload 3 1), (88, o_iload 1 1), (89, o_call 97 3 3 true), (92, o_push 1 1), (93, o_zret)]
def tX8_shares : List (Nat × dp_Op) := [(0, o_aload 0 1), (1, o_push (-1005) 3), (4, o_call 87 4 2 false), (7, o_istore 1 1), (8, o_iload 1 1), (9, o_push (-1005) 3), (12, o_cmp (fun x y => x = y) 40), (15, o_aload 0 1), (16, o_iload 1 1), (17, o_call 98 4 2 false), (20, o_if (fun x => x = 0) 33), (23, o_aload 0 1), (24, o_push (-1005) 3), (27, o_call 87 4 2 false), (30, o_goto 36), (33, o_push (-1005) 3), (36, o_istore 1 1), (37, o_goto 8), (40, o_vret)]
def tX8_takesOff : List (Nat × dp_Op) := [(0, o_aload 0 1), (1, o_iload 1 1), (2, o_push 4 1), (3, o_call 83 3 3 false), (6, o_istore 2 1), (7, o_iload 2 1), (8, o_push (-1005) 3), (11, o_cmp (fun x y => ¬ x = y) 15), (14, o_vret), (15, o_aload 0 1), (16, o_iload 1 1), (17, o_push 4 1), (18, o_push (-1005) 3), (21, o_call 84 4 4 true), (24, o_aload 0 1), (25, o_iload 2 1), (26, o_call 87 4 2 false), (29, o_istore 3 1), (30, o_iload 3 1), (31, o_push (-1005) 3), (34, o_cmp (fun x y => ¬ x = y) 45), (37, o_aload 0 1), (38, o_iload 2 1), (39, o_call 96 3 2 true), (42, o_goto 66), (45, o_aload 0 1), (46, o_push 154 3), (49, o_push 2 1), (50, o_iload 2 1), (51, o_bin (fun x y => x * y)), (52, o_bin (fun x y => x + y)), (53, o_aload 0 1), (54, o_iload 2 1), (55, o_aload 0 1), (56, o_iload 3 1), (57, o_push 1 1), (58, o_call 83 3 3 false), (61, o_push 1 1), (62, o_call 91 7 4 false), (65, o_iast), (66, o_vret)]
def tX8_removes : List (Nat × dp_Op) := [(0, o_aload 0 1), (1, o_push 2 1), (2, o_dup2), (3, o_iald), (4, o_push 1 1), (5, o_bin (fun x y => x - y)), (6, o_iast), (7, o_push 7 2), (9, o_iload 1 1), (10, o_bin (fun x y => x * y)), (11, o_istore 2 1), (12, o_iload 2 1), (13, o_push 7 2), (15, o_aload 0 1), (16, o_push 2 1), (17, o_iald), (18, o_bin (fun x y => x * y)), (19, o_cmp (fun x y => y ≤ x) 43), (22, o_aload 0 1), (23, o_push 14 2), (25, o_iload 2 1), (26, o_bin (fun x y => x + y)), (27, o_aload 0 1), (28, o_push 14 2), (30, o_iload 2 1), (31, o_bin (fun x y => x + y)), (32, o_push 7 2), (34, o_bin (fun x y => x + y)), (35, o_iald), (36, o_iast), (37, o_inc 2 1), (40, o_goto 12), (43, o_push 0 1), (44, o_istore 2 1), (45, o_iload 2 1), (46, o_push 7 2), (48, o_cmp (fun x y => y ≤ x) 71), (51, o_aload 0 1), (52, o_push 14 2), (54, o_push 7 2), (56, o_aload 0 1), (57, o_push 2 1), (58, o_iald), (59, o_bin (fun x y => x * y)), (60, o_bin (fun x y => x + y)), (61, o_iload 2 1), (62, o_bin (fun x y => x + y)), (63, o_push 0 1), (64, o_iast), (65, o_inc 2 1), (68, o_goto 45), (71, o_vret)]
def tX8_logs : List (Nat × dp_Op) := [(0, o_push 31 2), (2, o_istore 4 2), (4, o_iload 4 2), (6, o_push 3 1), (7, o_cmp (fun x y => x ≤ y) 34), (10, o_aload 0 1), (11, o_push 162 3), (14, o_iload 4 2), (16, o_bin (fun x y => x + y)), (17, o_aload 0 1), (18, o_push 162 3), (21, o_iload 4 2), (23, o_bin (fun x y => x + y)), (24, o_push 4 1), (25, o_bin (fun x y => x - y)), (26, o_iald), (27, o_iast), (28, o_inc 4 (-1)), (31, o_goto 4), (34, o_aload 0 1), (35, o_push 162 3), (38, o_iload 1 1), (39, o_iast), (40, o_aload 0 1), (41, o_push 163 3), (44, o_aload 0 1), (45, o_push 0 1), (46, o_iald), (47, o_iast), (48, o_aload 0 1), (49, o_push 164 3), (52, o_iload 2 1), (53, o_iast), (54, o_aload 0 1), (55, o_push 165 3), (58, o_iload 3 1), (59, o_iast), (60, o_aload 0 1), (61, o_push 194 3), (64, o_dup2), (65, o_iald), (66, o_aload 0 1), (67, o_push 194 3), (70, o_iald), (71, o_push 8 2), (73, o_cmp (fun x y => y ≤ x) 80), (76, o_push 1 1), (77, o_goto 81), (80, o_push 0 1), (81, o_bin (fun x y => x + y)), (82, o_iast), (83, o_vret)]
def tX8_rings : List (Nat × dp_Op) := [(0, o_aload 0 1), (1, o_push 0 1), (2, o_iald), (3, o_aload 0 1), (4, o_iload 1 1), (5, o_push 1 1), (6, o_call 83 3 3 false), (9, o_bin (fun x y => x - y)), (10, o_istore 2 1), (11, o_aload 0 1), (12, o_aload 0 1), (13, o_iload 1 1), (14, o_push 0 1), (15, o_call 83 3 3 false), (18, o_iload 2 1), (19, o_aload 0 1), (20, o_iload 1 1), (21, o_push 4 1), (22, o_call 83 3 3 false), (25, o_call 102 5 4 true), (28, o_aload 0 1), (29, o_push 4 1), (30, o_dup2), (31, o_iald), (32, o_push 1 1), (33, o_bin (fun x y => x + y)), (34, o_iast), (35, o_aload 0 1), (36, o_push 5 1), (37, o_dup2), (38, o_iald), (39, o_iload 2 1), (40, o_bin (fun x y => x + y)), (41, o_iast), (42, o_aload 0 1), (43, o_push 6 2), (45, o_iload 2 1), (46, o_aload 0 1), (47, o_push 6 2), (49, o_iald), (50, o_cmp (fun x y => x ≤ y) 57), (53, o_iload 2 1), (54, o_goto 61), (57, o_aload 0 1), (58, o_push 6 2), (60, o_iald), (61, o_iast), (62, o_aload 0 1), (63, o_iload 1 1), (64, o_push 2 1), (65, o_call 83 3 3 false), (68, o_if (fun x => ¬ x = 0) 77), (71, o_aload 0 1), (72, o_iload 1 1), (73, o_call 101 3 2 true), (76, o_vret), (77, o_aload 0 1), (78, o_iload 1 1), (79, o_push 5 1), (80, o_aload 0 1), (81, o_iload 1 1), (82, o_push 5 1), (83, o_call 83 3 3 false), (86, o_push 1 1), (87, o_bin (fun x y => x + y)), (88, o_call 84 4 4 true), (91, o_aload 0 1), (92, o_iload 1 1), (93, o_push 6 2), (95, o_iload 2 1), (96, o_aload 0 1), (97, o_iload 1 1), (98, o_push 6 2), (100, o_call 83 3 3 false), (103, o_cmp (fun x y => x ≤ y) 110), (106, o_iload 2 1), (107, o_goto 117), (110, o_aload 0 1), (111, o_iload 1 1), (112, o_push 6 2), (114, o_call 83 3 3 false), (117, o_call 84 4 4 true), (120, o_aload 0 1), (121, o_iload 1 1), (122, o_push 4 1), (123, o_push (-1005) 3), (126, o_call 84 4 4 true), (129, o_aload 0 1), (130, o_iload 1 1), (131, o_push 1 1), (132, o_aload 0 1), (133, o_iload 1 1), (134, o_push 1 1), (135, o_call 83 3 3 false), (138, o_aload 0 1), (139, o_iload 1 1), (140, o_push 2 1), (141, o_call 83 3 3 false), (144, o_bin (fun x y => x + y)), (145, o_call 84 4 4 true), (148, o_aload 0 1), (149, o_iload 1 1), (150, o_push 1 1), (151, o_call 83 3 3 false), (154, o_aload 0 1), (155, o_push 0 1), (156, o_iald), (157, o_cmp (fun x y => y < x) 190), (160, o_aload 0 1), (161, o_push 7 2), (163, o_dup2), (164, o_iald), (165, o_push 1 1), (166, o_bin (fun x y => x + y)), (167, o_iast), (168, o_aload 0 1), (169, o_iload 1 1), (170, o_push 1 1), (171, o_aload 0 1), (172, o_iload 1 1), (173, o_push 1 1), (174, o_call 83 3 3 false), (177, o_aload 0 1), (178, o_iload 1 1), (179, o_push 2 1), (180, o_call 83 3 3 false), (183, o_bin (fun x y => x + y)), (184, o_call 84 4 4 true), (187, o_goto 148), (190, o_vret)]
def tX8_ringsAll : List (Nat × dp_Op) := [(0, o_push 0 1), (1, o_istore 2 1), (2, o_aload 0 1), (3, o_iload 1 1), (4, o_call 87 4 2 false), (7, o_istore 3 1), (8, o_iload 3 1), (9, o_push (-1005) 3), (12, o_cmp (fun x y => x = y) 32), (15, o_aload 0 1), (16, o_iload 3 1), (17, o_call 103 3 2 true), (20, o_inc 2 1), (23, o_aload 0 1), (24, o_iload 1 1), (25, o_call 87 4 2 false), (28, o_istore 3 1), (29, o_goto 8), (32, o_aload 0 1), (33, o_iload 1 1), (34, o_call 96 3 2 true), (37, o_iload 2 1), (38, o_iret)]
def tX8_tick : List (Nat × dp_Op) := [(0, o_aload 0 1), (1, o_push 1 1), (2, o_dup2), (3, o_iald), (4, o_push 1 1), (5, o_bin (fun x y => x + y)), (6, o_iast), (7, o_aload 0 1), (8, o_push 13 2), (10, o_iald), (11, o_istore 1 1), (12, o_iload 1 1), (13, o_if (fun x => x = 0) 28), (16, o_aload 0 1), (17, o_push 1 1), (18, o_iald), (19, o_iload 1 1), (20, o_rem), (21, o_if (fun x => ¬ x = 0) 28), (24, o_push 1 1), (25, o_goto 29), (28, o_push 0 1), (29, o_istore 2 1), (30, o_aload 0 1), (31, o_push 0 1), (32, o_dup2), (33, o_iald), (34, o_iload 2 1), (35, o_if (fun x => ¬ x = 0) 42), (38, o_push 1 1), (39, o_goto 51), (42, o_iload 1 1), (43, o_if (fun x => x ≤ 0) 50), (46, o_push 2 1), (47, o_goto 51), (50, o_push 0 1), (51, o_bin (fun x y => x + y)), (52, o_iast), (53, o_push 0 1), (54, o_istore 3 1), (55, o_push 0 1), (56, o_istore 4 2), (58, o_iload 4 2), (60, o_aload 0 1), (61, o_push 10 2), (63, o_iald), (64, o_cmp (fun x y => y ≤ x) 108), (67, o_aload 0 1), (68, o_push 154 3), (71, o_push 2 1), (72, o_iload 4 2), (74, o_bin (fun x y => x * y)), (75, o_bin (fun x y => x + y)), (76, o_push 1 1), (77, o_bin (fun x y => x + y)), (78, o_dup2), (79, o_iald), (80, o_aload 0 1), (81, o_push 154 3), (84, o_push 2 1), (85, o_iload 4 2), (87, o_bin (fun x y => x * y)), (88, o_bin (fun x y => x + y)), (89, o_push 1 1), (90, o_bin (fun x y => x + y)), (91, o_iald), (92, o_if (fun x => x ≤ 0) 99), (95, o_push 1 1), (96, o_goto 100), (99, o_push 0 1), (100, o_bin (fun x y => x - y)), (101, o_iast), (102, o_inc 4 1), (105, o_goto 58), (108, o_push 0 1), (109, o_istore 4 2), (111, o_iload 4 2), (113, o_aload 0 1), (114, o_push 10 2), (116, o_iald), (117, o_cmp (fun x y => y ≤ x) 190), (120, o_aload 0 1), (121, o_iload 4 2), (123, o_call 89 2 2 false), (126, o_push (-1005) 3), (129, o_cmp (fun x y => x = y) 163), (132, o_aload 0 1), (133, o_push 154 3), (136, o_push 2 1), (137, o_iload 4 2), (139, o_bin (fun x y => x * y)), (140, o_bin (fun x y => x + y)), (141, o_push 1 1), (142, o_bin (fun x y => x + y)), (143, o_iald), (144, o_if (fun x => ¬ x = 0) 163), (147, o_aload 0 1), (148, o_iload 4 2), (150, o_call 89 2 2 false), (153, o_aload 0 1), (154, o_push 0 1), (155, o_iald), (156, o_cmp (fun x y => y < x) 163), (159, o_push 1 1), (160, o_goto 164), (163, o_push 0 1), (164, o_istore 5 2), (166, o_iload 3 1), (167, o_iload 5 2), (169, o_if (fun x => x = 0) 181), (172, o_aload 0 1), (173, o_iload 4 2), (175, o_call 104 4 2 false), (178, o_goto 182), (181, o_push 0 1), (182, o_bin (fun x y => x + y)), (183, o_istore 3 1), (184, o_inc 4 1), (187, o_goto 111), (190, o_aload 0 1), (191, o_call 99 2 1 true), (194, o_iload 3 1), (195, o_iret)]
def tX8_ticks : List (Nat × dp_Op) := [(0, o_push 0 1), (1, o_istore 2 1), (2, o_push 0 1), (3, o_istore 3 1), (4, o_iload 3 1), (5, o_iload 1 1), (6, o_cmp (fun x y => y ≤ x) 22), (9, o_iload 2 1), (10, o_aload 0 1), (11, o_call 105 6 1 false), (14, o_bin (fun x y => x + y)), (15, o_istore 2 1), (16, o_inc 3 1), (19, o_goto 4), (22, o_iload 2 1), (23, o_iret)]
def tX8_sets : List (Nat × dp_Op) := [(0, o_aload 0 1), (1, o_push 2 1), (2, o_iald), (3, o_istore 4 2), (5, o_aload 0 1), (6, o_push 2 1), (7, o_dup2), (8, o_iald), (9, o_push 1 1), (10, o_bin (fun x y => x + y)), (11, o_iast), (12, o_aload 0 1), (13, o_iload 4 2), (15, o_push 0 1), (16, o_aload 0 1), (17, o_push 3 1), (18, o_iald), (19, o_call 84 4 4 true), (22, o_aload 0 1), (23, o_iload 4 2), (25, o_push 1 1), (26, o_iload 1 1), (27, o_call 84 4 4 true), (30, o_aload 0 1), (31, o_iload 4 2), (33, o_push 2 1), (34, o_iload 2 1), (35, o_call 84 4 4 true), (38, o_aload 0 1), (39, o_iload 4 2), (41, o_push 3 1), (42, o_iload 3 1), (43, o_call 84 4 4 true), (46, o_aload 0 1), (47, o_iload 4 2), (49, o_push 4 1), (50, o_push (-1005) 3), (53, o_call 84 4 4 true), (56, o_aload 0 1), (57, o_iload 4 2), (59, o_push 5 1), (60, o_push 0 1), (61, o_call 84 4 4 true), (64, o_aload 0 1), (65, o_iload 4 2), (67, o_push 6 2), (69, o_push (-1005) 3), (72, o_call 84 4 4 true), (75, o_aload 0 1), (76, o_push 3 1), (77, o_dup2), (78, o_iald), (79, o_push 1 1), (80, o_bin (fun x y => x + y)), (81, o_iast), (82, o_aload 0 1), (83, o_call 99 2 1 true), (86, o_vret)]
def tX8_set : List (Nat × dp_Op) := [(0, o_iload 1 1), (1, o_push 0 1), (2, o_push 99999 2), (4, o_call 80 3 3 false), (7, o_if (fun x => x = 0) 30), (10, o_iload 2 1), (11, o_push 0 1), (12, o_push 9999 3), (15, o_call 80 3 3 false), (18, o_if (fun x => x = 0) 30), (21, o_iload 3 1), (22, o_push 0 1), (23, o_push 3 1), (24, o_call 80 3 3 false), (27, o_if (fun x => ¬ x = 0) 34), (30, o_push (-1002) 3), (33, o_iret), (34, o_iload 1 1), (35, o_aload 0 1), (36, o_getR 8 0 16), (39, o_push 0 1), (40, o_iald), (41, o_cmp (fun x y => y ≤ x) 48), (44, o_push (-1004) 3), (47, o_iret), (48, o_aload 0 1), (49, o_getR 8 0 16), (52, o_push 2 1), (53, o_iald), (54, o_push 20 2), (56, o_cmp (fun x y => x = y) 71), (59, o_aload 0 1), (60, o_getR 8 0 16), (63, o_push 3 1), (64, o_iald), (65, o_push 500 3), (68, o_cmp (fun x y => ¬ x = y) 75), (71, o_push (-1003) 3), (74, o_iret), (75, o_aload 0 1), (76, o_callV 82 2 8 0 true), (79, o_aload 0 1), (80, o_getR 8 0 16), (83, o_iload 1 1), (84, o_iload 2 1), (85, o_iload 3 1), (86, o_call 107 5 4 true), (89, o_aload 0 1), (90, o_getR 8 0 16), (93, o_push 3 1), (94, o_iald), (95, o_push 1 1), (96, o_bin (fun x y => x - y)), (97, o_iret)]
def tX8_setAll : List (Nat × dp_Op) := [(0, o_aload 0 1), (1, o_callV 126 2 8 0 false), (4, o_istore 1 1), (5, o_iload 1 1), (6, o_push (-1005) 3), (9, o_cmp (fun x y => x = y) 18), (12, o_push (-1100) 3), (15, o_iload 1 1), (16, o_bin (fun x y => x - y)), (17, o_iret), (18, o_push 0 1), (19, o_istore 2 1), (20, o_iload 2 1), (21, o_aload 0 1), (22, o_getI 8 10), (25, o_cmp (fun x y => y ≤ x) 55), (28, o_aload 0 1), (29, o_getR 8 9 18), (32, o_push 3 1), (33, o_iload 2 1), (34, o_bin (fun x y => x * y)), (35, o_iald), (36, o_aload 0 1), (37, o_getR 8 0 16), (40, o_push 0 1), (41, o_iald), (42, o_cmp (fun x y => y ≤ x) 49), (45, o_push (-1004) 3), (48, o_iret), (49, o_inc 2 1), (52, o_goto 20), (55, o_aload 0 1), (56, o_getR 8 0 16), (59, o_push 2 1), (60, o_iald), (61, o_aload 0 1), (62, o_getI 8 10), (65, o_bin (fun x y => x + y)), (66, o_push 20 2), (68, o_cmp (fun x y => y < x) 88), (71, o_aload 0 1), (72, o_getR 8 0 16), (75, o_push 3 1), (76, o_iald), (77, o_aload 0 1), (78, o_getI 8 10), (81, o_bin (fun x y => x + y)), (82, o_push 500 3), (85, o_cmp (fun x y => x ≤ y) 92), (88, o_push (-1003) 3), (91, o_iret), (92, o_aload 0 1), (93, o_callV 82 2 8 0 true), (96, o_push 0 1), (97, o_istore 2 1), (98, o_iload 2 1), (99, o_aload 0 1), (100, o_getI 8 10), (103, o_cmp (fun x y => y ≤ x) 147), (106, o_aload 0 1), (107, o_getR 8 0 16), (110, o_aload 0 1), (111, o_getR 8 9 18), (114, o_push 3 1), (115, o_iload 2 1), (116, o_bin (fun x y => x * y)), (117, o_iald), (118, o_aload 0 1), (119, o_getR 8 9 18), (122, o_push 3 1), (123, o_iload 2 1), (124, o_bin (fun x y => x * y)), (125, o_push 1 1), (126, o_bin (fun x y => x + y)), (127, o_iald), (128, o_aload 0 1), (129, o_getR 8 9 18), (132, o_push 3 1), (133, o_iload 2 1), (134, o_bin (fun x y => x * y)), (135, o_push 2 1), (136, o_bin (fun x y => x + y)), (137, o_iald), (138, o_call 107 5 4 true), (141, o_inc 2 1), (144, o_goto 98), (147, o_aload 0 1), (148, o_getR 8 0 16), (151, o_push 2 1), (152, o_iald), (153, o_iret)]
def tX8_cancel : List (Nat × dp_Op) := [(0, o_aload 0 1), (1, o_getR 8 0 16), (4, o_iload 1 1), (5, o_call 85 3 2 false), (8, o_istore 2 1), (9, o_iload 2 1), (10, o_push (-1005) 3), (13, o_cmp (fun x y => ¬ x = y) 20), (16, o_push (-1001) 3), (19, o_iret), (20, o_aload 0 1), (21, o_callV 82 2 8 0 true), (24, o_aload 0 1), (25, o_getR 8 0 16), (28, o_iload 2 1), (29, o_call 100 4 2 true), (32, o_aload 0 1), (33, o_getR 8 0 16), (36, o_iload 2 1), (37, o_call 101 3 2 true), (40, o_aload 0 1), (41, o_getR 8 0 16), (44, o_call 99 2 1 true), (47, o_aload 0 1), (48, o_getR 8 0 16), (51, o_push 2 1), (52, o_iald), (53, o_iret)]
def tX8_move : List (Nat × dp_Op) := [(0, o_aload 0 1), (1, o_getR 8 0 16), (4, o_iload 1 1), (5, o_call 85 3 2 false), (8, o_istore 3 1), (9, o_iload 3 1), (10, o_push (-1005) 3), (13, o_cmp (fun x y => ¬ x = y) 20), (16, o_push (-1001) 3), (19, o_iret), (20, o_iload 2 1), (21, o_push 0 1), (22, o_push 99999 2), (24, o_call 80 3 3 false), (27, o_if (fun x => ¬ x = 0) 34), (30, o_push (-1002) 3), (33, o_iret), (34, o_iload 2 1), (35, o_aload 0 1), (36, o_getR 8 0 16), (39, o_push 0 1), (40, o_iald), (41, o_cmp (fun x y => y ≤ x) 48), (44, o_push (-1004) 3), (47, o_iret), (48, o_aload 0 1), (49, o_getR 8 0 16), (52, o_iload 3 1), (53, o_push 1 1), (54, o_call 83 3 3 false), (57, o_istore 4 2), (59, o_iload 4 2), (61, o_iload 2 1), (62, o_cmp (fun x y => ¬ x = y) 69), (65, o_push (-1005) 3), (68, o_iret), (69, o_aload 0 1), (70, o_callV 82 2 8 0 true), (73, o_aload 0 1), (74, o_getR 8 0 16), (77, o_iload 3 1), (78, o_call 100 4 2 true), (81, o_aload 0 1), (82, o_getR 8 0 16), (85, o_iload 3 1), (86, o_push 1 1), (87, o_iload 2 1), (88, o_call 84 4 4 true), (91, o_aload 0 1), (92, o_getR 8 0 16), (95, o_call 99 2 1 true), (98, o_iload 4 2), (100, o_iret)]
def tX8_setsComparers : List (Nat × dp_Op) := [(0, o_iload 1 1), (1, o_istore 2 1), (2, o_iload 2 1), (3, o_aload 0 1), (4, o_push 10 2), (6, o_iald), (7, o_cmp (fun x y => y ≤ x) 21), (10, o_aload 0 1), (11, o_iload 2 1), (12, o_call 96 3 2 true), (15, o_inc 2 1), (18, o_goto 2), (21, o_aload 0 1), (22, o_push 10 2), (24, o_iload 1 1), (25, o_iast), (26, o_aload 0 1), (27, o_call 99 2 1 true), (30, o_vret)]
def tX8_setComparers : List (Nat × dp_Op) := [(0, o_iload 1 1), (1, o_push 1 1), (2, o_push 4 1), (3, o_call 80 3 3 false), (6, o_if (fun x => ¬ x = 0) 13), (9, o_push (-1002) 3), (12, o_iret), (13, o_aload 0 1), (14, o_getR 8 0 16), (17, o_push 10 2), (19, o_iald), (20, o_istore 2 1), (21, o_iload 2 1), (22, o_iload 1 1), (23, o_cmp (fun x y => ¬ x = y) 30), (26, o_push (-1005) 3), (29, o_iret), (30, o_aload 0 1), (31, o_callV 82 2 8 0 true), (34, o_aload 0 1), (35, o_getR 8 0 16), (38, o_iload 1 1), (39, o_call 112 3 2 true), (42, o_iload 2 1), (43, o_iret)]
def tX8_becomes : List (Nat × dp_Op) := [(0, o_aload 0 1), (1, o_getR 8 0 16), (4, o_iload 1 1), (5, o_iald), (6, o_istore 3 1), (7, o_iload 3 1), (8, o_iload 2 1), (9, o_cmp (fun x y => ¬ x = y) 16), (12, o_push (-1005) 3), (15, o_iret), (16, o_aload 0 1), (17, o_callV 82 2 8 0 true), (20, o_aload 0 1), (21, o_getR 8 0 16), (24, o_iload 1 1), (25, o_iload 2 1), (26, o_iast), (27, o_iload 3 1), (28, o_iret)]
def tX8_setWindow : List (Nat × dp_Op) := [(0, o_iload 1 1), (1, o_push 0 1), (2, o_push 20 2), (4, o_call 80 3 3 false), (7, o_if (fun x => ¬ x = 0) 14), (10, o_push (-1002) 3), (13, o_iret), (14, o_aload 0 1), (15, o_push 11 2), (17, o_iload 1 1), (18, o_callV 114 4 8 2 false), (21, o_istore 2 1), (22, o_iload 2 1), (23, o_push (-1005) 3), (26, o_cmp (fun x y => x = y) 36), (29, o_aload 0 1), (30, o_getR 8 0 16), (33, o_call 99 2 1 true), (36, o_iload 2 1), (37, o_iret)]
def tX8_setLoading : List (Nat × dp_Op) := [(0, o_iload 1 1), (1, o_push 0 1), (2, o_push 9 2), (4, o_call 80 3 3 false), (7, o_if (fun x => x = 0) 20), (10, o_aload 0 1), (11, o_push 12 2), (13, o_iload 1 1), (14, o_callV 114 4 8 2 false), (17, o_goto 23), (20, o_push (-1002) 3), (23, o_iret)]
def tX8_setDrift : List (Nat × dp_Op) := [(0, o_iload 1 1), (1, o_if (fun x => x = 0) 27), (4, o_iload 1 1), (5, o_push 2 1), (6, o_push 999 3), (9, o_call 80 3 3 false), (12, o_if (fun x => ¬ x = 0) 27), (15, o_iload 1 1), (16, o_push (-999) 3), (19, o_push (-2) 2), (21, o_call 80 3 3 false), (24, o_if (fun x => x = 0) 31), (27, o_push 1 1), (28, o_goto 32), (31, o_push 0 1), (32, o_istore 2 1), (33, o_iload 2 1), (34, o_if (fun x => x = 0) 47), (37, o_aload 0 1), (38, o_push 13 2), (40, o_iload 1 1), (41, o_callV 114 4 8 2 false), (44, o_goto 50), (47, o_push (-1002) 3), (50, o_iret)]
def tX8_correct : List (Nat × dp_Op) := [(0, o_iload 1 1), (1, o_push (-999) 3), (4, o_push 999 3), (7, o_call 80 3 3 false), (10, o_if (fun x => ¬ x = 0) 17), (13, o_push (-1002) 3), (16, o_iret), (17, o_aload 0 1), (18, o_getR 8 0 16), (21, o_push 0 1), (22, o_iald), (23, o_iload 1 1), (24, o_bin (fun x y => x + y)), (25, o_push 0 1), (26, o_push 99999 2), (28, o_call 80 3 3 false), (31, o_if (fun x => ¬ x = 0) 38), (34, o_push (-1004) 3), (37, o_iret), (38, o_iload 1 1), (39, o_if (fun x => ¬ x = 0) 46), (42, o_push (-1005) 3), (45, o_iret), (46, o_aload 0 1), (47, o_callV 82 2 8 0 true), (50, o_aload 0 1), (51, o_getR 8 0 16), (54, o_push 0 1), (55, o_dup2), (56, o_iald), (57, o_iload 1 1), (58, o_bin (fun x y => x + y)), (59, o_iast), (60, o_aload 0 1), (61, o_getR 8 0 16), (64, o_call 99 2 1 true), (67, o_aload 0 1), (68, o_getR 8 0 16), (71, o_push 0 1), (72, o_iald), (73, o_iret)]
def tX8_run : List (Nat × dp_Op) := [(0, o_iload 1 1), (1, o_push 1 1), (2, o_push 1000 3), (5, o_call 80 3 3 false), (8, o_if (fun x => ¬ x = 0) 15), (11, o_push (-1002) 3), (14, o_iret), (15, o_aload 0 1), (16, o_getR 8 0 16), (19, o_push 0 1), (20, o_iald), (21, o_push 2 1), (22, o_iload 1 1), (23, o_bin (fun x y => x * y)), (24, o_bin (fun x y => x + y)), (25, o_push 99999 2), (27, o_cmp (fun x y => x ≤ y) 34), (30, o_push (-1003) 3), (33, o_iret), (34, o_aload 0 1), (35, o_callV 82 2 8 0 true), (38, o_aload 0 1), (39, o_getR 8 0 16), (42, o_iload 1 1), (43, o_call 106 4 2 false), (46, o_iret)]
def tX8_type : List (Nat × dp_Op) := [(0, o_aload 0 1), (1, o_getI 8 7), (4, o_push 60 2), (6, o_cmp (fun x y => ¬ x = y) 13), (9, o_push (-1003) 3), (12, o_iret), (13, o_aload 0 1), (14, o_getR 8 6 12), (17, o_aload 0 1), (18, o_getI 8 7), (21, o_iload 1 1), (22, o_cast), (23, o_aload 0 1), (24, o_dup), (25, o_getI 8 7), (28, o_push 1 1), (29, o_bin (fun x y => x + y)), (30, o_putI 8 7), (33, o_aload 0 1), (34, o_getI 8 7), (37, o_iret)]
def tX8_clearText : List (Nat × dp_Op) := [(0, o_aload 0 1), (1, o_getI 8 7), (4, o_istore 1 1), (5, o_aload 0 1), (6, o_push 0 1), (7, o_putI 8 7), (10, o_iload 1 1), (11, o_iret)]
def tX8_sees : List (Nat × dp_Op) := [(0, o_aload 0 1), (1, o_getI 8 8), (4, o_aload 0 1), (5, o_getI 8 7), (8, o_cmp (fun x y => y ≤ x) 32), (11, o_aload 0 1), (12, o_getR 8 6 12), (15, o_aload 0 1), (16, o_getI 8 8), (19, o_cald), (20, o_iload 1 1), (21, o_iload 2 1), (22, o_call 80 3 3 false), (25, o_if (fun x => x = 0) 32), (28, o_push 1 1), (29, o_goto 33), (32, o_push 0 1), (33, o_zret)]
def tX8_takes : List (Nat × dp_Op) := [(0, o_aload 0 1), (1, o_iload 1 1), (2, o_iload 1 1), (3, o_callV 122 3 8 2 false), (6, o_istore 2 1), (7, o_aload 0 1), (8, o_dup), (9, o_getI 8 8), (12, o_iload 2 1), (13, o_if (fun x => x = 0) 20), (16, o_push 1 1), (17, o_goto 21), (20, o_push 0 1), (21, o_bin (fun x y => x + y)), (22, o_putI 8 8), (25, o_iload 2 1), (26, o_zret)]
def tX8_isNumber : List (Nat × dp_Op) := [(0, o_aload 0 1), (1, o_push 48 2), (3, o_iload 2 1), (4, o_bin (fun x y => x + y)), (5, o_push 48 2), (7, o_iload 3 1), (8, o_push 9 2), (10, o_cmp (fun x y => y ≤ x) 17), (13, o_iload 3 1), (14, o_goto 19), (17, o_push 9 2), (19, o_bin (fun x y => x + y)), (20, o_callV 122 3 8 2 false), (23, o_if (fun x => ¬ x = 0) 28), (26, o_push 0 1), (27, o_zret), (28, o_aload 0 1), (29, o_getR 8 6 12), (32, o_aload 0 1), (33, o_getI 8 8), (36, o_cald), (37, o_push 48 2), (39, o_bin (fun x y => x - y)), (40, o_istore 4 2), (42, o_aload 0 1), (43, o_dup), (44, o_getI 8 8), (47, o_push 1 1), (48, o_bin (fun x y => x + y)), (49, o_putI 8 8), (52, o_iload 4 2), (54, o_if (fun x => x ≤ 0) 123), (57, o_aload 0 1), (58, o_push 48 2), (60, o_push 57 2), (62, o_callV 122 3 8 2 false), (65, o_if (fun x => x = 0) 123), (68, o_push 10 2), (70, o_iload 4 2), (72, o_bin (fun x y => x * y)), (73, o_aload 0 1), (74, o_getR 8 6 12), (77, o_aload 0 1), (78, o_getI 8 8), (81, o_cald), (82, o_bin (fun x y => x + y)), (83, o_push 48 2), (85, o_bin (fun x y => x - y)), (86, o_iload 3 1), (87, o_cmp (fun x y => y < x) 123), (90, o_push 10 2), (92, o_iload 4 2), (94, o_bin (fun x y => x * y)), (95, o_aload 0 1), (96, o_getR 8 6 12), (99, o_aload 0 1), (100, o_getI 8 8), (103, o_cald), (104, o_bin (fun x y => x + y)), (105, o_push 48 2), (107, o_bin (fun x y => x - y)), (108, o_istore 4 2), (110, o_aload 0 1), (111, o_dup), (112, o_getI 8 8), (115, o_push 1 1), (116, o_bin (fun x y => x + y)), (117, o_putI 8 8), (120, o_goto 52), (123, o_aload 0 1), (124, o_getR 8 9 18), (127, o_push 3 1), (128, o_aload 0 1), (129, o_getI 8 10), (132, o_bin (fun x y => x * y)), (133, o_iload 1 1), (134, o_bin (fun x y => x + y)), (135, o_iload 4 2), (137, o_iast), (138, o_push 1 1), (139, o_zret)]
def tX8_isAlarmTold : List (Nat × dp_Op) := [(0, o_aload 0 1), (1, o_getR 8 9 18), (4, o_push 3 1), (5, o_aload 0 1), (6, o_getI 8 10), (9, o_bin (fun x y => x * y)), (10, o_push 1 1), (11, o_bin (fun x y => x + y)), (12, o_push 0 1), (13, o_iast), (14, o_aload 0 1), (15, o_getR 8 9 18), (18, o_push 3 1), (19, o_aload 0 1), (20, o_getI 8 10), (23, o_bin (fun x y => x * y)), (24, o_push 2 1), (25, o_bin (fun x y => x + y)), (26, o_push 0 1), (27, o_iast), (28, o_aload 0 1), (29, o_push 0 1), (30, o_push 0 1), (31, o_push 99999 2), (33, o_callV 124 5 8 3 false), (36, o_if (fun x => x = 0) 60), (39, o_aload 0 1), (40, o_push 47 2), (42, o_callV 123 3 8 1 false), (45, o_if (fun x => x = 0) 62), (48, o_aload 0 1), (49, o_push 1 1), (50, o_push 1 1), (51, o_push 9999 3), (54, o_callV 124 5 8 3 false), (57, o_if (fun x => ¬ x = 0) 62), (60, o_push 0 1), (61, o_zret), (62, o_aload 0 1), (63, o_push 33 2), (65, o_callV 123 3 8 1 false), (68, o_if (fun x => x = 0) 81), (71, o_aload 0 1), (72, o_push 2 1), (73, o_push 1 1), (74, o_push 3 1), (75, o_callV 124 5 8 3 false), (78, o_if (fun x => x = 0) 85), (81, o_push 1 1), (82, o_goto 86), (85, o_push 0 1), (86, o_zret)]
def tX8_fault : List (Nat × dp_Op) := [(0, o_aload 0 1), (1, o_push 0 1), (2, o_putI 8 8), (5, o_aload 0 1), (6, o_push 0 1), (7, o_putI 8 10), (10, o_push 1 1), (11, o_istore 1 1), (12, o_iload 1 1), (13, o_if (fun x => x = 0) 48), (16, o_aload 0 1), (17, o_callV 125 1 8 0 false), (20, o_if (fun x => ¬ x = 0) 28), (23, o_aload 0 1), (24, o_getI 8 8), (27, o_iret), (28, o_aload 0 1), (29, o_dup), (30, o_getI 8 10), (33, o_push 1 1), (34, o_bin (fun x y => x + y)), (35, o_putI 8 10), (38, o_aload 0 1), (39, o_push 59 2), (41, o_callV 123 3 8 1 false), (44, o_istore 1 1), (45, o_goto 12), (48, o_aload 0 1), (49, o_getI 8 8), (52, o_aload 0 1), (53, o_getI 8 7), (56, o_cmp (fun x y => ¬ x = y) 65), (59, o_push (-1005) 3), (62, o_goto 69), (65, o_aload 0 1), (66, o_getI 8 8), (69, o_iret)]
def tX8_undo : List (Nat × dp_Op) := [(0, o_aload 0 1), (1, o_getI 8 3), (4, o_if (fun x => ¬ x = 0) 11), (7, o_push (-1005) 3), (10, o_iret), (11, o_aload 0 1), (12, o_dup), (13, o_getI 8 3), (16, o_push 1 1), (17, o_bin (fun x y => x - y)), (18, o_putI 8 3), (21, o_aload 0 1), (22, o_getR 8 2 17), (25, o_push 195 3), (28, o_aload 0 1), (29, o_getI 8 3), (32, o_bin (fun x y => x * y)), (33, o_aload 0 1), (34, o_getR 8 0 16), (37, o_push 0 1), (38, o_call 81 5 4 true), (41, o_aload 0 1), (42, o_getI 8 3), (45, o_iret)]
def tX8_keep : List (Nat × dp_Op) := [(0, o_aload 0 1), (1, o_getR 8 0 16), (4, o_push 0 1), (5, o_aload 0 1), (6, o_getR 8 4 16), (9, o_push 0 1), (10, o_call 81 5 4 true), (13, o_aload 0 1), (14, o_push 1 1), (15, o_putZ 8 5), (18, o_aload 0 1), (19, o_getR 8 0 16), (22, o_push 0 1), (23, o_iald), (24, o_iret)]
def tX8_restore : List (Nat × dp_Op) := [(0, o_aload 0 1), (1, o_getI 8 5), (4, o_if (fun x => ¬ x = 0) 11), (7, o_push (-1005) 3), (10, o_iret), (11, o_aload 0 1), (12, o_callV 82 2 8 0 true), (15, o_aload 0 1), (16, o_getR 8 4 16), (19, o_push 0 1), (20, o_aload 0 1), (21, o_getR 8 0 16), (24, o_push 0 1), (25, o_call 81 5 4 true), (28, o_aload 0 1), (29, o_getR 8 0 16), (32, o_push 0 1), (33, o_iald), (34, o_iret)]
def tX8_alarm : List (Nat × dp_Op) := [(0, o_aload 0 1), (1, o_getR 8 0 16), (4, o_iload 1 1), (5, o_call 85 3 2 false), (8, o_istore 3 1), (9, o_iload 3 1), (10, o_push (-1005) 3), (13, o_cmp (fun x y => ¬ x = y) 20), (16, o_push (-1001) 3), (19, o_iret), (20, o_iload 2 1), (21, o_tsw 0 [64, 64, 64, 64, 76, 85, 95] 106), (64, o_aload 0 1), (65, o_getR 8 0 16), (68, o_iload 3 1), (69, o_push 1 1), (70, o_iload 2 1), (71, o_bin (fun x y => x + y)), (72, o_call 83 3 3 false), (75, o_iret), (76, o_aload 0 1), (77, o_getR 8 0 16), (80, o_iload 3 1), (81, o_call 88 4 2 false), (84, o_iret), (85, o_aload 0 1), (86, o_getR 8 0 16), (89, o_iload 3 1), (90, o_push 5 1), (91, o_call 83 3 3 false), (94, o_iret), (95, o_aload 0 1), (96, o_getR 8 0 16), (99, o_iload 3 1), (100, o_push 6 2), (102, o_call 83 3 3 false), (105, o_iret), (106, o_push (-1002) 3), (109, o_iret)]
def tX8_comparer : List (Nat × dp_Op) := [(0, o_iload 1 1), (1, o_push 0 1), (2, o_aload 0 1), (3, o_getR 8 0 16), (6, o_push 10 2), (8, o_iald), (9, o_push 1 1), (10, o_bin (fun x y => x - y)), (11, o_call 80 3 3 false), (14, o_if (fun x => ¬ x = 0) 21), (17, o_push (-1001) 3), (20, o_iret), (21, o_aload 0 1), (22, o_getR 8 0 16), (25, o_iload 1 1), (26, o_call 87 4 2 false), (29, o_istore 3 1), (30, o_iload 2 1), (31, o_tsw 0 [60, 69, 78, 93] 116), (60, o_aload 0 1), (61, o_getR 8 0 16), (64, o_iload 1 1), (65, o_call 89 2 2 false), (68, o_iret), (69, o_aload 0 1), (70, o_getR 8 0 16), (73, o_iload 1 1), (74, o_call 90 4 2 false), (77, o_iret), (78, o_aload 0 1), (79, o_getR 8 0 16), (82, o_push 154 3), (85, o_push 2 1), (86, o_iload 1 1), (87, o_bin (fun x y => x * y)), (88, o_bin (fun x y => x + y)), (89, o_push 1 1), (90, o_bin (fun x y => x + y)), (91, o_iald), (92, o_iret), (93, o_iload 3 1), (94, o_push (-1005) 3), (97, o_cmp (fun x y => ¬ x = y) 106), (100, o_push (-1005) 3), (103, o_goto 115), (106, o_aload 0 1), (107, o_getR 8 0 16), (110, o_iload 3 1), (111, o_push 0 1), (112, o_call 83 3 3 false), (115, o_iret), (116, o_push (-1002) 3), (119, o_iret)]
def tX8_at : List (Nat × dp_Op) := [(0, o_iload 1 1), (1, o_if (fun x => 0 ≤ x) 8), (4, o_push (-1002) 3), (7, o_iret), (8, o_push 0 1), (9, o_istore 2 1), (10, o_iload 2 1), (11, o_aload 0 1), (12, o_getR 8 0 16), (15, o_push 2 1), (16, o_iald), (17, o_cmp (fun x y => y ≤ x) 48), (20, o_aload 0 1), (21, o_getR 8 0 16), (24, o_iload 2 1), (25, o_call 88 4 2 false), (28, o_iload 1 1), (29, o_cmp (fun x y => ¬ x = y) 42), (32, o_aload 0 1), (33, o_getR 8 0 16), (36, o_iload 2 1), (37, o_push 0 1), (38, o_call 83 3 3 false), (41, o_iret), (42, o_inc 2 1), (45, o_goto 10), (48, o_push (-1005) 3), (51, o_iret)]
def tX8_ringsIn : List (Nat × dp_Op) := [(0, o_aload 0 1), (1, o_getR 8 0 16), (4, o_iload 1 1), (5, o_call 85 3 2 false), (8, o_istore 2 1), (9, o_iload 2 1), (10, o_push (-1005) 3), (13, o_cmp (fun x y => ¬ x = y) 20), (16, o_push (-1001) 3), (19, o_iret), (20, o_aload 0 1), (21, o_getR 8 0 16), (24, o_iload 2 1), (25, o_push 5 1), (26, o_call 83 3 3 false), (29, o_istore 3 1), (30, o_aload 0 1), (31, o_getR 8 0 16), (34, o_push 0 1), (35, o_aload 0 1), (36, o_getR 8 1 16), (39, o_push 0 1), (40, o_call 81 5 4 true), (43, o_push 0 1), (44, o_istore 4 2), (46, o_push 1 1), (47, o_istore 5 2), (49, o_iload 5 2), (51, o_push 1000 3), (54, o_cmp (fun x y => y < x) 115), (57, o_iload 4 2), (59, o_aload 0 1), (60, o_getR 8 1 16), (63, o_call 105 6 1 false), (66, o_bin (fun x y => x + y)), (67, o_istore 4 2), (69, o_aload 0 1), (70, o_getR 8 1 16), (73, o_iload 1 1), (74, o_call 85 3 2 false), (77, o_istore 6 2), (79, o_iload 4 2), (81, o_if (fun x => x ≤ 0) 109), (84, o_iload 6 2), (86, o_push (-1005) 3), (89, o_cmp (fun x y => x = y) 106), (92, o_aload 0 1), (93, o_getR 8 1 16), (96, o_iload 6 2), (98, o_push 5 1), (99, o_call 83 3 3 false), (102, o_iload 3 1), (103, o_cmp (fun x y => x = y) 109), (106, o_iload 5 2), (108, o_iret), (109, o_inc 5 1), (112, o_goto 49), (115, o_push (-1005) 3), (118, o_iret)]
def tX8_would : List (Nat × dp_Op) := [(0, o_aload 0 1), (1, o_getR 8 0 16), (4, o_push 0 1), (5, o_aload 0 1), (6, o_getR 8 1 16), (9, o_push 0 1), (10, o_call 81 5 4 true), (13, o_iload 1 1), (14, o_aload 0 1), (15, o_getR 8 1 16), (18, o_push 10 2), (20, o_iald), (21, o_cmp (fun x y => x = y) 32), (24, o_aload 0 1), (25, o_getR 8 1 16), (28, o_iload 1 1), (29, o_call 112 3 2 true), (32, o_aload 0 1), (33, o_getR 8 1 16), (36, o_push 5 1), (37, o_push 0 1), (38, o_iast), (39, o_aload 0 1), (40, o_getR 8 1 16), (43, o_push 6 2), (45, o_push 0 1), (46, o_iast), (47, o_aload 0 1), (48, o_getR 8 1 16), (51, o_push 7 2), (53, o_push 0 1), (54, o_iast), (55, o_aload 0 1), (56, o_getR 8 1 16), (59, o_iload 2 1), (60, o_call 106 4 2 false), (63, o_iret)]
def tX8_ifComparers : List (Nat × dp_Op) := [(0, o_iload 1 1), (1, o_push 1 1), (2, o_push 4 1), (3, o_call 80 3 3 false), (6, o_if (fun x => x = 0) 29), (9, o_iload 2 1), (10, o_push 1 1), (11, o_push 500 3), (14, o_call 80 3 3 false), (17, o_if (fun x => x = 0) 29), (20, o_iload 3 1), (21, o_push 0 1), (22, o_push 3 1), (23, o_call 80 3 3 false), (26, o_if (fun x => ¬ x = 0) 33), (29, o_push (-1002) 3), (32, o_iret), (33, o_aload 0 1), (34, o_iload 1 1), (35, o_iload 2 1), (36, o_callV 134 3 8 2 false), (39, o_istore 4 2), (41, o_iload 3 1), (42, o_if (fun x => ¬ x = 0) 50), (45, o_iload 4 2), (47, o_goto 86), (50, o_iload 3 1), (51, o_push 1 1), (52, o_cmp (fun x y => ¬ x = y) 64), (55, o_aload 0 1), (56, o_getR 8 1 16), (59, o_push 5 1), (60, o_iald), (61, o_goto 86), (64, o_iload 3 1), (65, o_push 2 1), (66, o_cmp (fun x y => ¬ x = y) 79), (69, o_aload 0 1), (70, o_getR 8 1 16), (73, o_push 6 2), (75, o_iald), (76, o_goto 86), (79, o_aload 0 1), (80, o_getR 8 1 16), (83, o_push 7 2), (85, o_iald), (86, o_iret)]
def tX8_fewest : List (Nat × dp_Op) := [(0, o_iload 1 1), (1, o_push 1 1), (2, o_push 500 3), (5, o_call 80 3 3 false), (8, o_if (fun x => ¬ x = 0) 15), (11, o_push (-1002) 3), (14, o_iret), (15, o_push 0 1), (16, o_istore 2 1), (17, o_push 0 1), (18, o_istore 3 1), (19, o_push 1 1), (20, o_istore 4 2), (22, o_iload 4 2), (24, o_push 5 1), (25, o_cmp (fun x y => y ≤ x) 97), (28, o_aload 0 1), (29, o_iload 4 2), (31, o_iload 1 1), (32, o_callV 134 3 8 2 false), (35, o_istore 5 2), (37, o_iload 2 1), (38, o_if (fun x => x = 0) 51), (41, o_aload 0 1), (42, o_getR 8 1 16), (45, o_push 5 1), (46, o_iald), (47, o_iload 3 1), (48, o_cmp (fun x y => y ≤ x) 55), (51, o_push 1 1), (52, o_goto 56), (55, o_push 0 1), (56, o_istore 6 2), (58, o_iload 6 2), (60, o_if (fun x => x = 0) 73), (63, o_iload 5 2), (65, o_if (fun x => x < 0) 73), (68, o_iload 4 2), (70, o_goto 74), (73, o_iload 2 1), (74, o_istore 2 1), (75, o_iload 6 2), (77, o_if (fun x => x = 0) 89), (80, o_aload 0 1), (81, o_getR 8 1 16), (84, o_push 5 1), (85, o_iald), (86, o_goto 90), (89, o_iload 3 1), (90, o_istore 3 1), (91, o_inc 4 1), (94, o_goto 22), (97, o_iload 2 1), (98, o_iret)]
def tX8_ring : List (Nat × dp_Op) := [(0, o_iload 1 1), (1, o_if (fun x => x < 0) 13), (4, o_iload 2 1), (5, o_push 0 1), (6, o_push 3 1), (7, o_call 80 3 3 false), (10, o_if (fun x => ¬ x = 0) 17), (13, o_push (-1002) 3), (16, o_iret), (17, o_iload 1 1), (18, o_aload 0 1), (19, o_getR 8 0 16), (22, o_push 194 3), (25, o_iald), (26, o_cmp (fun x y => y ≤ x) 46), (29, o_aload 0 1), (30, o_getR 8 0 16), (33, o_push 162 3), (36, o_push 4 1), (37, o_iload 1 1), (38, o_bin (fun x y => x * y)), (39, o_bin (fun x y => x + y)), (40, o_iload 2 1), (41, o_bin (fun x y => x + y)), (42, o_iald), (43, o_goto 49), (46, o_push (-1005) 3), (49, o_iret)]
def tX8_free : List (Nat × dp_Op) := [(0, o_push 0 1), (1, o_istore 1 1), (2, o_push 0 1), (3, o_istore 2 1), (4, o_iload 2 1), (5, o_aload 0 1), (6, o_getR 8 0 16), (9, o_push 10 2), (11, o_iald), (12, o_cmp (fun x y => y ≤ x) 43), (15, o_iload 1 1), (16, o_aload 0 1), (17, o_getR 8 0 16), (20, o_iload 2 1), (21, o_call 89 2 2 false), (24, o_push (-1005) 3), (27, o_cmp (fun x y => ¬ x = y) 34), (30, o_push 1 1), (31, o_goto 35), (34, o_push 0 1), (35, o_bin (fun x y => x + y)), (36, o_istore 1 1), (37, o_inc 2 1), (40, o_goto 4), (43, o_iload 1 1), (44, o_iret)]
def tX8_count : List (Nat × dp_Op) := [(0, o_iload 1 1), (1, o_tsw 0 [88, 88, 88, 88, 95, 106, 111, 111, 111, 111, 111, 111, 111, 111, 111, 111, 123, 128] 133), (88, o_aload 0 1), (89, o_getR 8 0 16), (92, o_iload 1 1), (93, o_iald), (94, o_iret), (95, o_aload 0 1), (96, o_getR 8 0 16), (99, o_push (-1005) 3), (102, o_call 90 4 2 false), (105, o_iret), (106, o_aload 0 1), (107, o_callV 138 3 8 0 false), (110, o_iret), (111, o_aload 0 1), (112, o_getR 8 0 16), (115, o_push 4 1), (116, o_iload 1 1), (117, o_bin (fun x y => x + y)), (118, o_push 6 2), (120, o_bin (fun x y => x - y)), (121, o_iald), (122, o_iret), (123, o_aload 0 1), (124, o_getI 8 3), (127, o_iret), (128, o_aload 0 1), (129, o_getI 8 7), (132, o_iret), (133, o_push (-1002) 3), (136, o_iret)]
def dp_tbs : List (List (Nat × dp_Op)) := [tX0_begin, tX0_copyFrom, tX0_isBefore, tX0_noteRing, tX0_goOn, tX1_append, tX1_readList, tX1_readAlarm, tX1_readSign, tX1_readNumber, tX1_digitHere, tX1_leastTime, tX2_copyFrom, tX2_hasRoomFor, tX2_placeOf, tX2_hasRungSince, tX2_addAlarm, tX2_cancelAlarm, tX2_moveAlarm, tX2_sortAlarms, tX2_removeAlarm, tX2_alarmsWithoutComparer, tX2_tick, tX2_growth, tX2_ringComparer, tX2_ringAlarm, tX2_changeComparers, tX2_sendOffSharers, tX2_takeOff, tX2_freeComparers, tX2_firstSharerOf, tX2_shareOut, tX2_firstWithoutComparer, tX2_findComparerFor, tX2_firstThatCanTake, tX2_firstFree, tX2_firstOfGreatestCount, tX2_loadFor, tX3_copyFrom, tX3_isFree, tX3_isDue, tX3_canTake, tX3_release, tX3_load, tX3_join, tX3_loadOn, tX4_recordState, tX4_dropOldest, tX4_takeBack, tX5_copyFrom, tX5_note, tX5_tell, tX6_clear, tX6_copyFrom, tX6_noteRing, tX7_set, tX7_setAll, tX7_cancel, tX7_move, tX7_setComparers, tX7_setWindow, tX7_setLoading, tX7_setDrift, tX7_correct, tX7_run, tX7_type, tX7_clearText, tX7_undo, tX7_keep, tX7_restore, tX7_alarm, tX7_comparer, tX7_at, tX7_ringsIn, tX7_ifComparers, tX7_fewest, tX7_ring, tX7_count, tX7_isWithin, tX7_tryComparers, tX8_in, tX8_lays, tX8_records, tX8_of, tX8_put, tX8_find, tX8_isAhead, tX8_firstOf, tX8_placeOf, tX8_countOf, tX8_sharing, tX8_extreme, tX8_fits, tX8_joinable, tX8_freeOne, tX8_latest, tX8_frees, tX8_loads, tX8_isShared, tX8_shares, tX8_takesOff, tX8_removes, tX8_logs, tX8_rings, tX8_ringsAll, tX8_tick, tX8_ticks, tX8_sets, tX8_set, tX8_setAll, tX8_cancel, tX8_move, tX8_setsComparers, tX8_setComparers, tX8_becomes, tX8_setWindow, tX8_setLoading, tX8_setDrift, tX8_correct, tX8_run, tX8_type, tX8_clearText, tX8_sees, tX8_takes, tX8_isNumber, tX8_isAlarmTold, tX8_fault, tX8_undo, tX8_keep, tX8_restore, tX8_alarm, tX8_comparer, tX8_at, tX8_ringsIn, tX8_would, tX8_ifComparers, tX8_fewest, tX8_ring, tX8_free, tX8_count]
def dp_lk : List (Nat × dp_Op) → Nat → dp_Op
  | [], _ => o_bad
  | e :: r, n => cond (Nat.beq e.1 n) e.2 (dp_lk r n)
def cd (k : Nat) : Nat → dp_Op := dp_lk (dp_at dp_tbs k [])
def dp_Mono (X : dp_Rc) : Prop := ∀ k pc ls st G (Q Q' : dp_Ps), (∀ x G', Q x G' → Q' x G') → X k pc ls st G Q → X k pc ls st G Q'
def dp_Clo (X : dp_Rc) : Prop := ∀ k pc ls st G (Q : dp_Ps), (∃ Y : dp_Rc, (∀ k pc ls st G Q, Y k pc ls st G Q → X k pc ls st G Q) ∧ cd k pc k pc ls st G Q Y) → X k pc ls st G Q
/-- from this place on the method comes to its end, and Q holds there: the least predicate that each instruction's asking closes -/
def Wp : dp_Rc := fun k pc ls st G Q => ∀ X : dp_Rc, dp_Mono X → dp_Clo X → X k pc ls st G Q
theorem Wp_mono {k pc ls st G} {Q Q' : dp_Ps} (h : Wp k pc ls st G Q) (hq : ∀ x G', Q x G' → Q' x G') : Wp k pc ls st G Q' := fun X hm hc => hm _ _ _ _ _ _ _ hq (h X hm hc)
theorem Wp_fold {k pc ls st G} {Q : dp_Ps} (h : cd k pc k pc ls st G Q Wp) : Wp k pc ls st G Q := fun X hm hc => hc _ _ _ _ _ _ ⟨Wp, fun _ _ _ _ _ _ hw => hw X hm hc, h⟩
/-- a call of method k, with mL locals -/
def Sp (k mL : Nat) (args : List Vl) (G : Mm) (Q : dp_Ps) : Prop := Wp k 0 (dp_ini mL args) [] G Q
theorem Sp_mono {k mL args G} {Q Q' : dp_Ps} (h : Sp k mL args G Q) (hq : ∀ x G', Q x G' → Q' x G') : Sp k mL args G Q' := Wp_mono h hq
theorem fX0_begin {pc ls st G} {Q : dp_Ps} (h : dp_lk tX0_begin pc 0 pc ls st G Q Wp) : Wp 0 pc ls st G Q := Wp_fold h
theorem fX0_copyFrom {pc ls st G} {Q : dp_Ps} (h : dp_lk tX0_copyFrom pc 1 pc ls st G Q Wp) : Wp 1 pc ls st G Q := Wp_fold h
theorem fX0_isBefore {pc ls st G} {Q : dp_Ps} (h : dp_lk tX0_isBefore pc 2 pc ls st G Q Wp) : Wp 2 pc ls st G Q := Wp_fold h
theorem fX0_noteRing {pc ls st G} {Q : dp_Ps} (h : dp_lk tX0_noteRing pc 3 pc ls st G Q Wp) : Wp 3 pc ls st G Q := Wp_fold h
theorem fX0_goOn {pc ls st G} {Q : dp_Ps} (h : dp_lk tX0_goOn pc 4 pc ls st G Q Wp) : Wp 4 pc ls st G Q := Wp_fold h
theorem fX1_append {pc ls st G} {Q : dp_Ps} (h : dp_lk tX1_append pc 5 pc ls st G Q Wp) : Wp 5 pc ls st G Q := Wp_fold h
theorem fX1_readList {pc ls st G} {Q : dp_Ps} (h : dp_lk tX1_readList pc 6 pc ls st G Q Wp) : Wp 6 pc ls st G Q := Wp_fold h
theorem fX1_readAlarm {pc ls st G} {Q : dp_Ps} (h : dp_lk tX1_readAlarm pc 7 pc ls st G Q Wp) : Wp 7 pc ls st G Q := Wp_fold h
theorem fX1_readSign {pc ls st G} {Q : dp_Ps} (h : dp_lk tX1_readSign pc 8 pc ls st G Q Wp) : Wp 8 pc ls st G Q := Wp_fold h
theorem fX1_readNumber {pc ls st G} {Q : dp_Ps} (h : dp_lk tX1_readNumber pc 9 pc ls st G Q Wp) : Wp 9 pc ls st G Q := Wp_fold h
theorem fX1_digitHere {pc ls st G} {Q : dp_Ps} (h : dp_lk tX1_digitHere pc 10 pc ls st G Q Wp) : Wp 10 pc ls st G Q := Wp_fold h
theorem fX1_leastTime {pc ls st G} {Q : dp_Ps} (h : dp_lk tX1_leastTime pc 11 pc ls st G Q Wp) : Wp 11 pc ls st G Q := Wp_fold h
theorem fX2_copyFrom {pc ls st G} {Q : dp_Ps} (h : dp_lk tX2_copyFrom pc 12 pc ls st G Q Wp) : Wp 12 pc ls st G Q := Wp_fold h
theorem fX2_hasRoomFor {pc ls st G} {Q : dp_Ps} (h : dp_lk tX2_hasRoomFor pc 13 pc ls st G Q Wp) : Wp 13 pc ls st G Q := Wp_fold h
theorem fX2_placeOf {pc ls st G} {Q : dp_Ps} (h : dp_lk tX2_placeOf pc 14 pc ls st G Q Wp) : Wp 14 pc ls st G Q := Wp_fold h
theorem fX2_hasRungSince {pc ls st G} {Q : dp_Ps} (h : dp_lk tX2_hasRungSince pc 15 pc ls st G Q Wp) : Wp 15 pc ls st G Q := Wp_fold h
theorem fX2_addAlarm {pc ls st G} {Q : dp_Ps} (h : dp_lk tX2_addAlarm pc 16 pc ls st G Q Wp) : Wp 16 pc ls st G Q := Wp_fold h
theorem fX2_cancelAlarm {pc ls st G} {Q : dp_Ps} (h : dp_lk tX2_cancelAlarm pc 17 pc ls st G Q Wp) : Wp 17 pc ls st G Q := Wp_fold h
theorem fX2_moveAlarm {pc ls st G} {Q : dp_Ps} (h : dp_lk tX2_moveAlarm pc 18 pc ls st G Q Wp) : Wp 18 pc ls st G Q := Wp_fold h
theorem fX2_sortAlarms {pc ls st G} {Q : dp_Ps} (h : dp_lk tX2_sortAlarms pc 19 pc ls st G Q Wp) : Wp 19 pc ls st G Q := Wp_fold h
theorem fX2_removeAlarm {pc ls st G} {Q : dp_Ps} (h : dp_lk tX2_removeAlarm pc 20 pc ls st G Q Wp) : Wp 20 pc ls st G Q := Wp_fold h
theorem fX2_alarmsWithoutComparer {pc ls st G} {Q : dp_Ps} (h : dp_lk tX2_alarmsWithoutComparer pc 21 pc ls st G Q Wp) : Wp 21 pc ls st G Q := Wp_fold h
theorem fX2_tick {pc ls st G} {Q : dp_Ps} (h : dp_lk tX2_tick pc 22 pc ls st G Q Wp) : Wp 22 pc ls st G Q := Wp_fold h
theorem fX2_growth {pc ls st G} {Q : dp_Ps} (h : dp_lk tX2_growth pc 23 pc ls st G Q Wp) : Wp 23 pc ls st G Q := Wp_fold h
theorem fX2_ringComparer {pc ls st G} {Q : dp_Ps} (h : dp_lk tX2_ringComparer pc 24 pc ls st G Q Wp) : Wp 24 pc ls st G Q := Wp_fold h
theorem fX2_ringAlarm {pc ls st G} {Q : dp_Ps} (h : dp_lk tX2_ringAlarm pc 25 pc ls st G Q Wp) : Wp 25 pc ls st G Q := Wp_fold h
theorem fX2_changeComparers {pc ls st G} {Q : dp_Ps} (h : dp_lk tX2_changeComparers pc 26 pc ls st G Q Wp) : Wp 26 pc ls st G Q := Wp_fold h
theorem fX2_sendOffSharers {pc ls st G} {Q : dp_Ps} (h : dp_lk tX2_sendOffSharers pc 27 pc ls st G Q Wp) : Wp 27 pc ls st G Q := Wp_fold h
theorem fX2_takeOff {pc ls st G} {Q : dp_Ps} (h : dp_lk tX2_takeOff pc 28 pc ls st G Q Wp) : Wp 28 pc ls st G Q := Wp_fold h
theorem fX2_freeComparers {pc ls st G} {Q : dp_Ps} (h : dp_lk tX2_freeComparers pc 29 pc ls st G Q Wp) : Wp 29 pc ls st G Q := Wp_fold h
theorem fX2_firstSharerOf {pc ls st G} {Q : dp_Ps} (h : dp_lk tX2_firstSharerOf pc 30 pc ls st G Q Wp) : Wp 30 pc ls st G Q := Wp_fold h
theorem fX2_shareOut {pc ls st G} {Q : dp_Ps} (h : dp_lk tX2_shareOut pc 31 pc ls st G Q Wp) : Wp 31 pc ls st G Q := Wp_fold h
theorem fX2_firstWithoutComparer {pc ls st G} {Q : dp_Ps} (h : dp_lk tX2_firstWithoutComparer pc 32 pc ls st G Q Wp) : Wp 32 pc ls st G Q := Wp_fold h
theorem fX2_findComparerFor {pc ls st G} {Q : dp_Ps} (h : dp_lk tX2_findComparerFor pc 33 pc ls st G Q Wp) : Wp 33 pc ls st G Q := Wp_fold h
theorem fX2_firstThatCanTake {pc ls st G} {Q : dp_Ps} (h : dp_lk tX2_firstThatCanTake pc 34 pc ls st G Q Wp) : Wp 34 pc ls st G Q := Wp_fold h
theorem fX2_firstFree {pc ls st G} {Q : dp_Ps} (h : dp_lk tX2_firstFree pc 35 pc ls st G Q Wp) : Wp 35 pc ls st G Q := Wp_fold h
theorem fX2_firstOfGreatestCount {pc ls st G} {Q : dp_Ps} (h : dp_lk tX2_firstOfGreatestCount pc 36 pc ls st G Q Wp) : Wp 36 pc ls st G Q := Wp_fold h
theorem fX2_loadFor {pc ls st G} {Q : dp_Ps} (h : dp_lk tX2_loadFor pc 37 pc ls st G Q Wp) : Wp 37 pc ls st G Q := Wp_fold h
theorem fX3_copyFrom {pc ls st G} {Q : dp_Ps} (h : dp_lk tX3_copyFrom pc 38 pc ls st G Q Wp) : Wp 38 pc ls st G Q := Wp_fold h
theorem fX3_isFree {pc ls st G} {Q : dp_Ps} (h : dp_lk tX3_isFree pc 39 pc ls st G Q Wp) : Wp 39 pc ls st G Q := Wp_fold h
theorem fX3_isDue {pc ls st G} {Q : dp_Ps} (h : dp_lk tX3_isDue pc 40 pc ls st G Q Wp) : Wp 40 pc ls st G Q := Wp_fold h
theorem fX3_canTake {pc ls st G} {Q : dp_Ps} (h : dp_lk tX3_canTake pc 41 pc ls st G Q Wp) : Wp 41 pc ls st G Q := Wp_fold h
theorem fX3_release {pc ls st G} {Q : dp_Ps} (h : dp_lk tX3_release pc 42 pc ls st G Q Wp) : Wp 42 pc ls st G Q := Wp_fold h
theorem fX3_load {pc ls st G} {Q : dp_Ps} (h : dp_lk tX3_load pc 43 pc ls st G Q Wp) : Wp 43 pc ls st G Q := Wp_fold h
theorem fX3_join {pc ls st G} {Q : dp_Ps} (h : dp_lk tX3_join pc 44 pc ls st G Q Wp) : Wp 44 pc ls st G Q := Wp_fold h
theorem fX3_loadOn {pc ls st G} {Q : dp_Ps} (h : dp_lk tX3_loadOn pc 45 pc ls st G Q Wp) : Wp 45 pc ls st G Q := Wp_fold h
theorem fX4_recordState {pc ls st G} {Q : dp_Ps} (h : dp_lk tX4_recordState pc 46 pc ls st G Q Wp) : Wp 46 pc ls st G Q := Wp_fold h
theorem fX4_dropOldest {pc ls st G} {Q : dp_Ps} (h : dp_lk tX4_dropOldest pc 47 pc ls st G Q Wp) : Wp 47 pc ls st G Q := Wp_fold h
theorem fX4_takeBack {pc ls st G} {Q : dp_Ps} (h : dp_lk tX4_takeBack pc 48 pc ls st G Q Wp) : Wp 48 pc ls st G Q := Wp_fold h
theorem fX5_copyFrom {pc ls st G} {Q : dp_Ps} (h : dp_lk tX5_copyFrom pc 49 pc ls st G Q Wp) : Wp 49 pc ls st G Q := Wp_fold h
theorem fX5_note {pc ls st G} {Q : dp_Ps} (h : dp_lk tX5_note pc 50 pc ls st G Q Wp) : Wp 50 pc ls st G Q := Wp_fold h
theorem fX5_tell {pc ls st G} {Q : dp_Ps} (h : dp_lk tX5_tell pc 51 pc ls st G Q Wp) : Wp 51 pc ls st G Q := Wp_fold h
theorem fX6_clear {pc ls st G} {Q : dp_Ps} (h : dp_lk tX6_clear pc 52 pc ls st G Q Wp) : Wp 52 pc ls st G Q := Wp_fold h
theorem fX6_copyFrom {pc ls st G} {Q : dp_Ps} (h : dp_lk tX6_copyFrom pc 53 pc ls st G Q Wp) : Wp 53 pc ls st G Q := Wp_fold h
theorem fX6_noteRing {pc ls st G} {Q : dp_Ps} (h : dp_lk tX6_noteRing pc 54 pc ls st G Q Wp) : Wp 54 pc ls st G Q := Wp_fold h
theorem fX7_set {pc ls st G} {Q : dp_Ps} (h : dp_lk tX7_set pc 55 pc ls st G Q Wp) : Wp 55 pc ls st G Q := Wp_fold h
theorem fX7_setAll {pc ls st G} {Q : dp_Ps} (h : dp_lk tX7_setAll pc 56 pc ls st G Q Wp) : Wp 56 pc ls st G Q := Wp_fold h
theorem fX7_cancel {pc ls st G} {Q : dp_Ps} (h : dp_lk tX7_cancel pc 57 pc ls st G Q Wp) : Wp 57 pc ls st G Q := Wp_fold h
theorem fX7_move {pc ls st G} {Q : dp_Ps} (h : dp_lk tX7_move pc 58 pc ls st G Q Wp) : Wp 58 pc ls st G Q := Wp_fold h
theorem fX7_setComparers {pc ls st G} {Q : dp_Ps} (h : dp_lk tX7_setComparers pc 59 pc ls st G Q Wp) : Wp 59 pc ls st G Q := Wp_fold h
theorem fX7_setWindow {pc ls st G} {Q : dp_Ps} (h : dp_lk tX7_setWindow pc 60 pc ls st G Q Wp) : Wp 60 pc ls st G Q := Wp_fold h
theorem fX7_setLoading {pc ls st G} {Q : dp_Ps} (h : dp_lk tX7_setLoading pc 61 pc ls st G Q Wp) : Wp 61 pc ls st G Q := Wp_fold h
theorem fX7_setDrift {pc ls st G} {Q : dp_Ps} (h : dp_lk tX7_setDrift pc 62 pc ls st G Q Wp) : Wp 62 pc ls st G Q := Wp_fold h
theorem fX7_correct {pc ls st G} {Q : dp_Ps} (h : dp_lk tX7_correct pc 63 pc ls st G Q Wp) : Wp 63 pc ls st G Q := Wp_fold h
theorem fX7_run {pc ls st G} {Q : dp_Ps} (h : dp_lk tX7_run pc 64 pc ls st G Q Wp) : Wp 64 pc ls st G Q := Wp_fold h
theorem fX7_type {pc ls st G} {Q : dp_Ps} (h : dp_lk tX7_type pc 65 pc ls st G Q Wp) : Wp 65 pc ls st G Q := Wp_fold h
theorem fX7_clearText {pc ls st G} {Q : dp_Ps} (h : dp_lk tX7_clearText pc 66 pc ls st G Q Wp) : Wp 66 pc ls st G Q := Wp_fold h
theorem fX7_undo {pc ls st G} {Q : dp_Ps} (h : dp_lk tX7_undo pc 67 pc ls st G Q Wp) : Wp 67 pc ls st G Q := Wp_fold h
theorem fX7_keep {pc ls st G} {Q : dp_Ps} (h : dp_lk tX7_keep pc 68 pc ls st G Q Wp) : Wp 68 pc ls st G Q := Wp_fold h
theorem fX7_restore {pc ls st G} {Q : dp_Ps} (h : dp_lk tX7_restore pc 69 pc ls st G Q Wp) : Wp 69 pc ls st G Q := Wp_fold h
theorem fX7_alarm {pc ls st G} {Q : dp_Ps} (h : dp_lk tX7_alarm pc 70 pc ls st G Q Wp) : Wp 70 pc ls st G Q := Wp_fold h
theorem fX7_comparer {pc ls st G} {Q : dp_Ps} (h : dp_lk tX7_comparer pc 71 pc ls st G Q Wp) : Wp 71 pc ls st G Q := Wp_fold h
theorem fX7_at {pc ls st G} {Q : dp_Ps} (h : dp_lk tX7_at pc 72 pc ls st G Q Wp) : Wp 72 pc ls st G Q := Wp_fold h
theorem fX7_ringsIn {pc ls st G} {Q : dp_Ps} (h : dp_lk tX7_ringsIn pc 73 pc ls st G Q Wp) : Wp 73 pc ls st G Q := Wp_fold h
theorem fX7_ifComparers {pc ls st G} {Q : dp_Ps} (h : dp_lk tX7_ifComparers pc 74 pc ls st G Q Wp) : Wp 74 pc ls st G Q := Wp_fold h
theorem fX7_fewest {pc ls st G} {Q : dp_Ps} (h : dp_lk tX7_fewest pc 75 pc ls st G Q Wp) : Wp 75 pc ls st G Q := Wp_fold h
theorem fX7_ring {pc ls st G} {Q : dp_Ps} (h : dp_lk tX7_ring pc 76 pc ls st G Q Wp) : Wp 76 pc ls st G Q := Wp_fold h
theorem fX7_count {pc ls st G} {Q : dp_Ps} (h : dp_lk tX7_count pc 77 pc ls st G Q Wp) : Wp 77 pc ls st G Q := Wp_fold h
theorem fX7_isWithin {pc ls st G} {Q : dp_Ps} (h : dp_lk tX7_isWithin pc 78 pc ls st G Q Wp) : Wp 78 pc ls st G Q := Wp_fold h
theorem fX7_tryComparers {pc ls st G} {Q : dp_Ps} (h : dp_lk tX7_tryComparers pc 79 pc ls st G Q Wp) : Wp 79 pc ls st G Q := Wp_fold h
theorem fX8_in {pc ls st G} {Q : dp_Ps} (h : dp_lk tX8_in pc 80 pc ls st G Q Wp) : Wp 80 pc ls st G Q := Wp_fold h
theorem fX8_lays {pc ls st G} {Q : dp_Ps} (h : dp_lk tX8_lays pc 81 pc ls st G Q Wp) : Wp 81 pc ls st G Q := Wp_fold h
theorem fX8_records {pc ls st G} {Q : dp_Ps} (h : dp_lk tX8_records pc 82 pc ls st G Q Wp) : Wp 82 pc ls st G Q := Wp_fold h
theorem fX8_of {pc ls st G} {Q : dp_Ps} (h : dp_lk tX8_of pc 83 pc ls st G Q Wp) : Wp 83 pc ls st G Q := Wp_fold h
theorem fX8_put {pc ls st G} {Q : dp_Ps} (h : dp_lk tX8_put pc 84 pc ls st G Q Wp) : Wp 84 pc ls st G Q := Wp_fold h
theorem fX8_find {pc ls st G} {Q : dp_Ps} (h : dp_lk tX8_find pc 85 pc ls st G Q Wp) : Wp 85 pc ls st G Q := Wp_fold h
theorem fX8_isAhead {pc ls st G} {Q : dp_Ps} (h : dp_lk tX8_isAhead pc 86 pc ls st G Q Wp) : Wp 86 pc ls st G Q := Wp_fold h
theorem fX8_firstOf {pc ls st G} {Q : dp_Ps} (h : dp_lk tX8_firstOf pc 87 pc ls st G Q Wp) : Wp 87 pc ls st G Q := Wp_fold h
theorem fX8_placeOf {pc ls st G} {Q : dp_Ps} (h : dp_lk tX8_placeOf pc 88 pc ls st G Q Wp) : Wp 88 pc ls st G Q := Wp_fold h
theorem fX8_countOf {pc ls st G} {Q : dp_Ps} (h : dp_lk tX8_countOf pc 89 pc ls st G Q Wp) : Wp 89 pc ls st G Q := Wp_fold h
theorem fX8_sharing {pc ls st G} {Q : dp_Ps} (h : dp_lk tX8_sharing pc 90 pc ls st G Q Wp) : Wp 90 pc ls st G Q := Wp_fold h
theorem fX8_extreme {pc ls st G} {Q : dp_Ps} (h : dp_lk tX8_extreme pc 91 pc ls st G Q Wp) : Wp 91 pc ls st G Q := Wp_fold h
theorem fX8_fits {pc ls st G} {Q : dp_Ps} (h : dp_lk tX8_fits pc 92 pc ls st G Q Wp) : Wp 92 pc ls st G Q := Wp_fold h
theorem fX8_joinable {pc ls st G} {Q : dp_Ps} (h : dp_lk tX8_joinable pc 93 pc ls st G Q Wp) : Wp 93 pc ls st G Q := Wp_fold h
theorem fX8_freeOne {pc ls st G} {Q : dp_Ps} (h : dp_lk tX8_freeOne pc 94 pc ls st G Q Wp) : Wp 94 pc ls st G Q := Wp_fold h
theorem fX8_latest {pc ls st G} {Q : dp_Ps} (h : dp_lk tX8_latest pc 95 pc ls st G Q Wp) : Wp 95 pc ls st G Q := Wp_fold h
theorem fX8_frees {pc ls st G} {Q : dp_Ps} (h : dp_lk tX8_frees pc 96 pc ls st G Q Wp) : Wp 96 pc ls st G Q := Wp_fold h
theorem fX8_loads {pc ls st G} {Q : dp_Ps} (h : dp_lk tX8_loads pc 97 pc ls st G Q Wp) : Wp 97 pc ls st G Q := Wp_fold h
theorem fX8_isShared {pc ls st G} {Q : dp_Ps} (h : dp_lk tX8_isShared pc 98 pc ls st G Q Wp) : Wp 98 pc ls st G Q := Wp_fold h
theorem fX8_shares {pc ls st G} {Q : dp_Ps} (h : dp_lk tX8_shares pc 99 pc ls st G Q Wp) : Wp 99 pc ls st G Q := Wp_fold h
theorem fX8_takesOff {pc ls st G} {Q : dp_Ps} (h : dp_lk tX8_takesOff pc 100 pc ls st G Q Wp) : Wp 100 pc ls st G Q := Wp_fold h
theorem fX8_removes {pc ls st G} {Q : dp_Ps} (h : dp_lk tX8_removes pc 101 pc ls st G Q Wp) : Wp 101 pc ls st G Q := Wp_fold h
theorem fX8_logs {pc ls st G} {Q : dp_Ps} (h : dp_lk tX8_logs pc 102 pc ls st G Q Wp) : Wp 102 pc ls st G Q := Wp_fold h
theorem fX8_rings {pc ls st G} {Q : dp_Ps} (h : dp_lk tX8_rings pc 103 pc ls st G Q Wp) : Wp 103 pc ls st G Q := Wp_fold h
theorem fX8_ringsAll {pc ls st G} {Q : dp_Ps} (h : dp_lk tX8_ringsAll pc 104 pc ls st G Q Wp) : Wp 104 pc ls st G Q := Wp_fold h
theorem fX8_tick {pc ls st G} {Q : dp_Ps} (h : dp_lk tX8_tick pc 105 pc ls st G Q Wp) : Wp 105 pc ls st G Q := Wp_fold h
theorem fX8_ticks {pc ls st G} {Q : dp_Ps} (h : dp_lk tX8_ticks pc 106 pc ls st G Q Wp) : Wp 106 pc ls st G Q := Wp_fold h
theorem fX8_sets {pc ls st G} {Q : dp_Ps} (h : dp_lk tX8_sets pc 107 pc ls st G Q Wp) : Wp 107 pc ls st G Q := Wp_fold h
theorem fX8_set {pc ls st G} {Q : dp_Ps} (h : dp_lk tX8_set pc 108 pc ls st G Q Wp) : Wp 108 pc ls st G Q := Wp_fold h
theorem fX8_setAll {pc ls st G} {Q : dp_Ps} (h : dp_lk tX8_setAll pc 109 pc ls st G Q Wp) : Wp 109 pc ls st G Q := Wp_fold h
theorem fX8_cancel {pc ls st G} {Q : dp_Ps} (h : dp_lk tX8_cancel pc 110 pc ls st G Q Wp) : Wp 110 pc ls st G Q := Wp_fold h
theorem fX8_move {pc ls st G} {Q : dp_Ps} (h : dp_lk tX8_move pc 111 pc ls st G Q Wp) : Wp 111 pc ls st G Q := Wp_fold h
theorem fX8_setsComparers {pc ls st G} {Q : dp_Ps} (h : dp_lk tX8_setsComparers pc 112 pc ls st G Q Wp) : Wp 112 pc ls st G Q := Wp_fold h
theorem fX8_setComparers {pc ls st G} {Q : dp_Ps} (h : dp_lk tX8_setComparers pc 113 pc ls st G Q Wp) : Wp 113 pc ls st G Q := Wp_fold h
theorem fX8_becomes {pc ls st G} {Q : dp_Ps} (h : dp_lk tX8_becomes pc 114 pc ls st G Q Wp) : Wp 114 pc ls st G Q := Wp_fold h
theorem fX8_setWindow {pc ls st G} {Q : dp_Ps} (h : dp_lk tX8_setWindow pc 115 pc ls st G Q Wp) : Wp 115 pc ls st G Q := Wp_fold h
theorem fX8_setLoading {pc ls st G} {Q : dp_Ps} (h : dp_lk tX8_setLoading pc 116 pc ls st G Q Wp) : Wp 116 pc ls st G Q := Wp_fold h
theorem fX8_setDrift {pc ls st G} {Q : dp_Ps} (h : dp_lk tX8_setDrift pc 117 pc ls st G Q Wp) : Wp 117 pc ls st G Q := Wp_fold h
theorem fX8_correct {pc ls st G} {Q : dp_Ps} (h : dp_lk tX8_correct pc 118 pc ls st G Q Wp) : Wp 118 pc ls st G Q := Wp_fold h
theorem fX8_run {pc ls st G} {Q : dp_Ps} (h : dp_lk tX8_run pc 119 pc ls st G Q Wp) : Wp 119 pc ls st G Q := Wp_fold h
theorem fX8_type {pc ls st G} {Q : dp_Ps} (h : dp_lk tX8_type pc 120 pc ls st G Q Wp) : Wp 120 pc ls st G Q := Wp_fold h
theorem fX8_clearText {pc ls st G} {Q : dp_Ps} (h : dp_lk tX8_clearText pc 121 pc ls st G Q Wp) : Wp 121 pc ls st G Q := Wp_fold h
theorem fX8_sees {pc ls st G} {Q : dp_Ps} (h : dp_lk tX8_sees pc 122 pc ls st G Q Wp) : Wp 122 pc ls st G Q := Wp_fold h
theorem fX8_takes {pc ls st G} {Q : dp_Ps} (h : dp_lk tX8_takes pc 123 pc ls st G Q Wp) : Wp 123 pc ls st G Q := Wp_fold h
theorem fX8_isNumber {pc ls st G} {Q : dp_Ps} (h : dp_lk tX8_isNumber pc 124 pc ls st G Q Wp) : Wp 124 pc ls st G Q := Wp_fold h
theorem fX8_isAlarmTold {pc ls st G} {Q : dp_Ps} (h : dp_lk tX8_isAlarmTold pc 125 pc ls st G Q Wp) : Wp 125 pc ls st G Q := Wp_fold h
theorem fX8_fault {pc ls st G} {Q : dp_Ps} (h : dp_lk tX8_fault pc 126 pc ls st G Q Wp) : Wp 126 pc ls st G Q := Wp_fold h
theorem fX8_undo {pc ls st G} {Q : dp_Ps} (h : dp_lk tX8_undo pc 127 pc ls st G Q Wp) : Wp 127 pc ls st G Q := Wp_fold h
theorem fX8_keep {pc ls st G} {Q : dp_Ps} (h : dp_lk tX8_keep pc 128 pc ls st G Q Wp) : Wp 128 pc ls st G Q := Wp_fold h
theorem fX8_restore {pc ls st G} {Q : dp_Ps} (h : dp_lk tX8_restore pc 129 pc ls st G Q Wp) : Wp 129 pc ls st G Q := Wp_fold h
theorem fX8_alarm {pc ls st G} {Q : dp_Ps} (h : dp_lk tX8_alarm pc 130 pc ls st G Q Wp) : Wp 130 pc ls st G Q := Wp_fold h
theorem fX8_comparer {pc ls st G} {Q : dp_Ps} (h : dp_lk tX8_comparer pc 131 pc ls st G Q Wp) : Wp 131 pc ls st G Q := Wp_fold h
theorem fX8_at {pc ls st G} {Q : dp_Ps} (h : dp_lk tX8_at pc 132 pc ls st G Q Wp) : Wp 132 pc ls st G Q := Wp_fold h
theorem fX8_ringsIn {pc ls st G} {Q : dp_Ps} (h : dp_lk tX8_ringsIn pc 133 pc ls st G Q Wp) : Wp 133 pc ls st G Q := Wp_fold h
theorem fX8_would {pc ls st G} {Q : dp_Ps} (h : dp_lk tX8_would pc 134 pc ls st G Q Wp) : Wp 134 pc ls st G Q := Wp_fold h
theorem fX8_ifComparers {pc ls st G} {Q : dp_Ps} (h : dp_lk tX8_ifComparers pc 135 pc ls st G Q Wp) : Wp 135 pc ls st G Q := Wp_fold h
theorem fX8_fewest {pc ls st G} {Q : dp_Ps} (h : dp_lk tX8_fewest pc 136 pc ls st G Q Wp) : Wp 136 pc ls st G Q := Wp_fold h
theorem fX8_ring {pc ls st G} {Q : dp_Ps} (h : dp_lk tX8_ring pc 137 pc ls st G Q Wp) : Wp 137 pc ls st G Q := Wp_fold h
theorem fX8_free {pc ls st G} {Q : dp_Ps} (h : dp_lk tX8_free pc 138 pc ls st G Q Wp) : Wp 138 pc ls st G Q := Wp_fold h
theorem fX8_count {pc ls st G} {Q : dp_Ps} (h : dp_lk tX8_count pc 139 pc ls st G Q Wp) : Wp 139 pc ls st G Q := Wp_fold h
end
section
/-! ===== the small machine and the machine: values, memory, contexts; each instruction's row ===== -/
def dp_tv : Vl → Value
  | .inl x => .int x
  | .inr r => .ref r.2
theorem dp_tv1 (v : Vl) : (dp_tv v).category = 1 := by cases v <;> rfl
def dp_ok (L : List Nat) (kd : Nat → Nat) : Vl → Prop
  | .inl _ => True
  | .inr r => r.2 ∈ L ∧ kd r.2 = r.1
def dp_as : Nat → dp_Lo → List (Nat × Value)
  | _, [] => []
  | i, none :: l => dp_as (i + 1) l
  | i, some v :: l => (i, dp_tv v) :: dp_as (i + 1) l
def dp_rt (t j : Nat) : Option Nat := if t < 9 then dp_fr t j else if 2 ≤ dp_ak t ∧ dp_ak t < 9 ∧ j < dp_al t then some (dp_et t) else none
/-- every reference of the memory points at a cell of the kind that is declared -/
def dp_WT (L : List Nat) (kd : Nat → Nat) (G : Mm) : Prop := ∀ a, a ∈ L → ∀ j u, dp_rt (kd a) j = some u → G.2 a j ∈ L ∧ kd (G.2 a j) = u
def dp_fv (t j : Nat) (x : Int32) (b : Nat) : Value := match dp_fr t j with
  | none => .int x
  | some _ => .ref b
def dp_ce (aC kd : Nat → Nat) (G : Mm) (a : Nat) : va_E :=
  if kd a < 9 then .inr (kd a, (List.range (dp_nf (kd a))).map (fun j => dp_fv (kd a) j (G.1 a j) (G.2 a j)))
  else .inl (aC (dp_ak (kd a)), dp_al (kd a), if dp_ak (kd a) < 2 then .inl (G.1 a) else .inr (.inr (.inr (.inr (fun i => some (G.2 a i))))))
def dp_tys (aC : Nat → Nat) : List (ClassId × FieldType) := [(aC 0, .int), (aC 1, .char), (aC 2, .object RX0), (aC 3, .object RX3), (aC 4, .object RX2)]
/-- the world at memory G -/
def dp_B (D : va_G) (L : List Nat) (kd aC : Nat → Nat) (G : Mm) (U : State) : Prop := va_P D vwCl (va_pl L (dp_ce aC kd G)) U.heap ∧ va_K D vwCl (dp_tys aC) U ∧ va_D (fun q => q ∈ L) (va_pl L (dp_ce aC kd G))
def dp_Q (D : va_G) (L : List Nat) (kd aC : Nat → Nat) (k : Nat) (Q : dp_Ps) : Array Value → State → Outcome → State → Prop := match mT k with
  | none => va_Qv (fun G' : Mm => Q 0 G' ∧ dp_WT L kd G') (fun G' t => dp_B D L kd aC G' t) (fun q => q ∈ L)
  | some _ => va_Qi (fun (x : Int32) (G' : Mm) => Q x G' ∧ dp_WT L kd G') (fun G' t => dp_B D L kd aC G' t) (fun q => q ∈ L)
def lw_tb2 : List Cond := lw_tbl.filter goodWord
theorem dp_w2 {w : Cond} (h : w ∈ lw_tbl) (hg : goodWord w = true) : w ∈ lw_tb2 := List.mem_filter.mpr ⟨h, hg⟩
def rm (k : Nat) : Room := { frames := mH k, cells := 0, slots := 0, locals := 40 * mH k }
def mW (k : Nat) : List Cond := .code (mY k) (mB k) (mL k) (mT k) :: lw_tb2
def dp_C (D : va_G) (aC : Nat → Nat) (k : Nat) (p : Program) (s : State) (m : MethodId) (margs : Array Value) (meth : Method) (c : Code) : Prop :=
  p.tables.exec = Jvm.exec ∧ c.code = mB k ∧ meth.sig.returnType = mT k ∧ c.maxLocals = mL k ∧ s.vm.findClass (mY k).cls = some m.cls ∧ (∀ w ∈ lw_tb2, w.before margs s = true) ∧ meth.locks = false ∧ va_K D vwCl (dp_tys aC) s
/-- what the small machine's 'from here on, Q' says of the machine -/
def dp_X (l : Launch) (D : va_G) (L : List Nat) (kd aC : Nat → Nat) : dp_Rc := fun k pc ls st G Q =>
  dp_WT L kd G → ls.length = mL k → (∀ v, v ∈ st → dp_ok L kd v) → (∀ v, some v ∈ ls → dp_ok L kd v) →
  ∀ (p : Program) (e : Env) (s : State) (m : MethodId) (margs : Array Value) (below : List Frame) (meth : Method) (c : Code) (H : Heap) (locs : List Loc) (lsM : Array Slot),
    dp_C D aC k p s m margs meth c → lv_has lsM (mL k) (dp_as 0 ls) → va_P D vwCl (va_pl L (dp_ce aC kd G)) H → va_D (fun q => q ∈ L) (va_pl L (dp_ce aC kd G)) → va_S (fun q => q ∈ L) s.heap H locs →
    W p l e (rm k) s m margs below meth c H locs 0 0 (MQ below (dp_Q D L kd aC k Q) margs s 0 0 (fun q => q ∈ L)) (F0 m pc lsM (st.map dp_tv))
def dp_OK (k pc : Nat) (o : dp_Op) : Prop := ∀ (l : Launch) (D : va_G) (L : List Nat) (kd aC : Nat → Nat) (Y : dp_Rc), (∀ k pc ls st G Q, Y k pc ls st G Q → dp_X l D L kd aC k pc ls st G Q) →
  ∀ ls st G Q, o k pc ls st G Q Y → dp_X l D L kd aC k pc ls st G Q
def dp_all : Nat → List (List (Nat × dp_Op)) → Prop
  | _, [] => True
  | b, t :: ts => (∀ e ∈ t, dp_OK b e.1 e.2) ∧ dp_all (b + 1) ts
-- plain facts
theorem dp_cd {b : Bool} {P : Prop} (h : cond b P False) : b = true ∧ P := by
  cases b
  · exact False.elim h
  · exact ⟨rfl, h⟩
theorem dp_okc {L : List Nat} {kd : Nat → Nat} {v : Vl} {st : List Vl} (h : dp_ok L kd v) (hs : ∀ w, w ∈ st → dp_ok L kd w) : ∀ w, w ∈ v :: st → dp_ok L kd w := by
  intro w hw
  rcases List.mem_cons.mp hw with rfl | hw
  · exact h
  · exact hs w hw
theorem dp_okt {L : List Nat} {kd : Nat → Nat} {v : Vl} {st : List Vl} (hs : ∀ w, w ∈ v :: st → dp_ok L kd w) : ∀ w, w ∈ st → dp_ok L kd w := fun w hw => hs w (List.mem_cons_of_mem _ hw)
theorem dp_nth_as : ∀ (ls : dp_Lo) (b i : Nat) (v : Vl), dp_nth ls i = some v → (b + i, dp_tv v) ∈ dp_as b ls
  | [], _, _, _, h => by cases h
  | none :: l, b, 0, v, h => by cases h
  | some w :: l, b, 0, v, h => by
    cases h
    exact List.mem_cons_self
  | none :: l, b, i + 1, v, h => by
    have h1 := dp_nth_as l (b + 1) i v h
    rw [show b + (i + 1) = b + 1 + i from by omega]
    exact h1
  | some w :: l, b, i + 1, v, h => by
    have h1 := dp_nth_as l (b + 1) i v h
    rw [show b + (i + 1) = b + 1 + i from by omega]
    exact List.mem_cons_of_mem _ h1
theorem dp_as_nth : ∀ (ls : dp_Lo) (b : Nat) (q : Nat × Value), q ∈ dp_as b ls → ∃ i v, dp_nth ls i = some v ∧ q = (b + i, dp_tv v)
  | [], _, _, h => by cases h
  | none :: l, b, q, h => by
    obtain ⟨i, v, h1, h2⟩ := dp_as_nth l (b + 1) q h
    exact ⟨i + 1, v, h1, by rw [h2, show b + (i + 1) = b + 1 + i from by omega]⟩
  | some w :: l, b, q, h => by
    rcases List.mem_cons.mp h with h | h
    · exact ⟨0, w, rfl, h⟩
    · obtain ⟨i, v, h1, h2⟩ := dp_as_nth l (b + 1) q h
      exact ⟨i + 1, v, h1, by rw [h2, show b + (i + 1) = b + 1 + i from by omega]⟩
theorem dp_nth_mem : ∀ (ls : dp_Lo) (i : Nat) (v : Vl), dp_nth ls i = some v → some v ∈ ls
  | [], _, _, h => by cases h
  | w :: l, 0, v, h => by
    have h : w = some v := h
    rw [h]; exact List.mem_cons_self
  | w :: l, i + 1, v, h => List.mem_cons_of_mem _ (dp_nth_mem l i v h)
theorem dp_upd_len : ∀ (ls : dp_Lo) (i : Nat) (v : Vl), (dp_upd ls i v).length = ls.length
  | [], _, _ => rfl
  | _ :: _, 0, _ => rfl
  | w :: l, i + 1, v => by
    show (dp_upd l i v).length + 1 = l.length + 1
    rw [dp_upd_len l i v]
theorem dp_upd_nth : ∀ (ls : dp_Lo) (i j : Nat) (v w : Vl), dp_nth (dp_upd ls i v) j = some w → (j = i ∧ w = v) ∨ (j ≠ i ∧ dp_nth ls j = some w)
  | [], _, _, _, _, h => by cases h
  | x :: l, 0, 0, v, w, h => by
    have h : some v = some w := h
    exact Or.inl ⟨rfl, (Option.some.inj h).symm⟩
  | x :: l, 0, j + 1, v, w, h => Or.inr ⟨by omega, h⟩
  | x :: l, i + 1, 0, v, w, h => Or.inr ⟨by omega, h⟩
  | x :: l, i + 1, j + 1, v, w, h => by
    rcases dp_upd_nth l i j v w h with ⟨h1, h2⟩ | ⟨h1, h2⟩
    · exact Or.inl ⟨by omega, h2⟩
    · exact Or.inr ⟨by omega, h2⟩
theorem dp_mem_nth : ∀ (ls : dp_Lo) (v : Vl), some v ∈ ls → ∃ i, dp_nth ls i = some v
  | [], _, h => by cases h
  | w :: l, v, h => by
    rcases List.mem_cons.mp h with h | h
    · exact ⟨0, h.symm⟩
    · obtain ⟨i, hi⟩ := dp_mem_nth l v h
      exact ⟨i + 1, hi⟩
theorem dp_upd_ok {L : List Nat} {kd : Nat → Nat} {ls : dp_Lo} {i : Nat} {v : Vl} (hv : dp_ok L kd v) (h : ∀ w, some w ∈ ls → dp_ok L kd w) : ∀ w, some w ∈ dp_upd ls i v → dp_ok L kd w := by
  intro w hw
  obtain ⟨j, hj⟩ := dp_mem_nth _ _ hw
  rcases dp_upd_nth _ _ _ _ _ hj with ⟨-, h2⟩ | ⟨-, h2⟩
  · rw [h2]; exact hv
  · exact h w (dp_nth_mem _ _ _ h2)
theorem dp_rd {lsM : Array Slot} {n : Nat} {ls : dp_Lo} {i : Nat} {v : Vl} (h : lv_has lsM n (dp_as 0 ls)) (hn : dp_nth ls i = some v) : lsM[i]? = some (.val (dp_tv v)) := by
  have h1 := h.2.2 _ (dp_nth_as ls 0 i v hn)
  rw [Nat.zero_add] at h1
  exact h1
theorem dp_st {lsM : Array Slot} {n : Nat} {ls : dp_Lo} {i : Nat} {v : Vl} (h : lv_has lsM n ((i, dp_tv v) :: (dp_as 0 ls).filter (fun q => !(q.1 == i) && !(q.1 + 1 == i && q.2.category == 2)))) : lv_has lsM n (dp_as 0 (dp_upd ls i v)) := by
  refine ⟨h.1, h.2.1, fun q hq => h.2.2 q ?_⟩
  obtain ⟨j, w, h1, h2⟩ := dp_as_nth _ _ _ hq
  rw [Nat.zero_add] at h2
  rcases dp_upd_nth _ _ _ _ _ h1 with ⟨h3, h4⟩ | ⟨h3, h4⟩
  · rw [h2, h3, h4]; exact List.mem_cons_self
  · refine List.mem_cons_of_mem _ (List.mem_filter.mpr ⟨?_, ?_⟩)
    · have h5 := dp_nth_as ls 0 j w h4
      rw [Nat.zero_add] at h5
      rw [h2]; exact h5
    · rw [h2]
      simp [h3, dp_tv1]
theorem dp_mget {n j : Nat} (f : Nat → Value) (h : j < n) : ((List.range n).map f)[j]? = some (f j) := by
  simp [List.getElem?_map, List.getElem?_range, h]
theorem dp_mset {n j : Nat} (f : Nat → Value) (v : Value) : ((List.range n).map f).set j v = (List.range n).map (fun i => if i = j then v else f i) := by
  apply List.ext_getElem
  · simp
  · intro i h1 h2
    simp only [List.getElem_set, List.getElem_map, List.getElem_range]
    by_cases hij : j = i
    · simp [hij]
    · rw [if_neg hij, if_neg (fun h => hij h.symm)]
theorem dp_ce_obj {aC kd : Nat → Nat} {G : Mm} {a t : Nat} (h : kd a = t) (ht : t < 9) : dp_ce aC kd G a = .inr (t, (List.range (dp_nf t)).map (fun j => dp_fv t j (G.1 a j) (G.2 a j))) := by
  subst h
  unfold dp_ce
  rw [if_pos ht]
theorem dp_ce_int {aC kd : Nat → Nat} {G : Mm} {a t : Nat} (h : kd a = t) (ht : ¬ t < 9) (hk : dp_ak t < 2) : dp_ce aC kd G a = .inl (aC (dp_ak t), dp_al t, .inl (G.1 a)) := by
  subst h
  unfold dp_ce
  rw [if_neg ht, if_pos hk]
theorem dp_ce_ref {aC kd : Nat → Nat} {G : Mm} {a t : Nat} (h : kd a = t) (ht : ¬ t < 9) (hk : ¬ dp_ak t < 2) : dp_ce aC kd G a = .inl (aC (dp_ak t), dp_al t, .inr (.inr (.inr (.inr (fun i => some (G.2 a i)))))) := by
  subst h
  unfold dp_ce
  rw [if_neg ht, if_neg hk]
theorem dp_ce_eq {aC kd : Nat → Nat} {G G' : Mm} {a : Nat} (h1 : G.1 a = G'.1 a) (h2 : G.2 a = G'.2 a) : dp_ce aC kd G a = dp_ce aC kd G' a := by
  unfold dp_ce
  rw [h1, h2]
theorem dp_ak_obj {t : Nat} (h : dp_ak t < 9) : ¬ t < 9 := by
  intro q
  rcases (show t = 0 ∨ t = 1 ∨ t = 2 ∨ t = 3 ∨ t = 4 ∨ t = 5 ∨ t = 6 ∨ t = 7 ∨ t = 8 by omega) with rfl | rfl | rfl | rfl | rfl | rfl | rfl | rfl | rfl <;> exact absurd h (by decide)
theorem dp_wI_ne {G : Mm} {a j : Nat} {x : Int32} {b : Nat} (h : ¬ b = a) : (wI G a j x).1 b = G.1 b := by
  funext i
  show (if b = a ∧ i = j then x else G.1 b i) = G.1 b i
  rw [if_neg (fun q => h q.1)]
theorem dp_wR_ne {G : Mm} {a j y : Nat} {b : Nat} (h : ¬ b = a) : (wR G a j y).2 b = G.2 b := by
  funext i
  show (if b = a ∧ i = j then y else G.2 b i) = G.2 b i
  rw [if_neg (fun q => h q.1)]
theorem dp_wC_ne {G : Mm} {a0 sp a d n : Nat} {b : Nat} (h : ¬ b = a) : (wC G a0 sp a d n).1 b = G.1 b := by
  funext i
  show (if b = a ∧ d ≤ i ∧ i < d + n then G.1 a0 (sp + (i - d)) else G.1 b i) = G.1 b i
  rw [if_neg (fun q => h q.1)]
/-- what is put into a world is what the memory then says -/
theorem dp_pls {L : List Nat} {aC kd : Nat → Nat} {G G' : Mm} {a q0 : Nat} {e : va_E} (hD : va_D (fun q => q ∈ L) (va_pl L (dp_ce aC kd G))) (ha : a ∈ L) (hq : (va_pl L (dp_ce aC kd G))[q0]? = some (a, dp_ce aC kd G a))
    (he : e = dp_ce aC kd G' a) (hn : ∀ b, ¬ b = a → G'.1 b = G.1 b ∧ G'.2 b = G.2 b) : (va_pl L (dp_ce aC kd G)).set q0 (a, e) = va_pl L (dp_ce aC kd G') := by
  have h := va_pl_set (X := []) (e := e) hD ha hq
  simp only [List.nil_append] at h
  rw [h]
  refine va_pl_congr (fun b => ?_)
  by_cases hb : b = a
  · rw [hb, va_up_self, he]
  · rw [va_up_ne _ _ hb]
    exact dp_ce_eq (hn b hb).1.symm (hn b hb).2.symm
theorem dp_e_put {aC kd : Nat → Nat} {G : Mm} {a t j : Nat} {x : Int32} (h : kd a = t) (ht : t < 9) (hf : dp_fr t j = none) : (.inr (t, ((List.range (dp_nf t)).map (fun i => dp_fv t i (G.1 a i) (G.2 a i))).set j (.int x)) : va_E) = dp_ce aC kd (wI G a j x) a := by
  rw [dp_ce_obj h ht, dp_mset]
  congr 2
  apply List.map_congr_left
  intro i _
  by_cases hij : i = j
  · rw [if_pos hij, hij]
    unfold dp_fv
    rw [hf]
    show Value.int x = Value.int (if a = a ∧ j = j then x else G.1 a j)
    rw [if_pos ⟨rfl, rfl⟩]
  · rw [if_neg hij]
    show dp_fv t i (G.1 a i) (G.2 a i) = dp_fv t i (if a = a ∧ i = j then x else G.1 a i) (G.2 a i)
    rw [if_neg (fun q => hij q.2)]
theorem dp_e_iast {aC kd : Nat → Nat} {G : Mm} {a t j : Nat} {x : Int32} (h : kd a = t) (ht : ¬ t < 9) (hk : dp_ak t < 2) : (.inl (aC (dp_ak t), dp_al t, .inl (upd (G.1 a) j x)) : va_E) = dp_ce aC kd (wI G a j x) a := by
  rw [dp_ce_int h ht hk]
  congr 4
  funext i
  show upd (G.1 a) j x i = if a = a ∧ i = j then x else G.1 a i
  unfold upd
  by_cases hij : i = j
  · rw [if_pos hij, if_pos ⟨rfl, hij⟩]
  · rw [if_neg hij, if_neg (fun q => hij q.2)]
theorem dp_e_acp {aC kd : Nat → Nat} {G : Mm} {a a0 t sp d n : Nat} (h : kd a = t) (ht : ¬ t < 9) (hk : dp_ak t < 2) : (.inl (aC (dp_ak t), dp_al t, .inl (va_cpy (G.1 a0) (G.1 a) sp d n)) : va_E) = dp_ce aC kd (wC G a0 sp a d n) a := by
  rw [dp_ce_int h ht hk]
  congr 4
  funext i
  show (if d ≤ i ∧ i < d + n then G.1 a0 (sp + (i - d)) else G.1 a i) = if a = a ∧ d ≤ i ∧ i < d + n then G.1 a0 (sp + (i - d)) else G.1 a i
  by_cases hij : d ≤ i ∧ i < d + n
  · rw [if_pos hij, if_pos ⟨rfl, hij⟩]
  · rw [if_neg hij, if_neg (fun q => hij q.2)]
theorem dp_e_aast {aC kd : Nat → Nat} {G : Mm} {a t j y : Nat} (h : kd a = t) (ht : ¬ t < 9) (hk : ¬ dp_ak t < 2) : (.inl (aC (dp_ak t), dp_al t, .inr (.inr (.inr (.inr (va_up (fun i => some (G.2 a i)) j (some y)))))) : va_E) = dp_ce aC kd (wR G a j y) a := by
  rw [dp_ce_ref h ht hk]
  congr 7
  funext i
  show (if i = j then some y else some (G.2 a i)) = some (if a = a ∧ i = j then y else G.2 a i)
  by_cases hij : i = j
  · rw [if_pos hij, if_pos ⟨rfl, hij⟩]
  · rw [if_neg hij, if_neg (fun q => hij q.2)]
theorem dp_WT_wR {L : List Nat} {kd : Nat → Nat} {G : Mm} {a i v : Nat} (h : dp_WT L kd G) (hv : v ∈ L) (ht : 13 ≤ kd a ∧ kd a ≤ 15) (hk : kd v = dp_et (kd a)) : dp_WT L kd (wR G a i v) := by
  intro b hb j u hu
  show (if b = a ∧ j = i then v else G.2 b j) ∈ L ∧ kd (if b = a ∧ j = i then v else G.2 b j) = u
  by_cases hc : b = a ∧ j = i
  · rw [if_pos hc]
    refine ⟨hv, ?_⟩
    rw [hc.1] at hu
    unfold dp_rt at hu
    rw [if_neg (by omega)] at hu
    split at hu
    · rw [hk]; exact Option.some.inj hu
    · cases hu
  · rw [if_neg hc]
    exact h b hb j u hu
theorem dp_as_ini : ∀ (n b : Nat) (args : List Vl), args.length ≤ n → dp_as b (dp_ini n args) = lv_args b (args.map dp_tv)
  | 0, b, [], _ => rfl
  | 0, b, v :: l, h => by simp at h
  | n + 1, b, [], _ => by
    have h := dp_as_ini n (b + 1) [] (Nat.zero_le _)
    exact h
  | n + 1, b, v :: l, h => by
    have h1 := dp_as_ini n (b + 1) l (by simpa using h)
    show (b, dp_tv v) :: dp_as (b + 1) (dp_ini n l) = (b, dp_tv v) :: lv_args (if (dp_tv v).category = 2 then b + 2 else b + 1) (l.map dp_tv)
    rw [h1, dp_tv1]
    rfl
theorem dp_ini_len : ∀ (n : Nat) (args : List Vl), (dp_ini n args).length = n
  | 0, _ => rfl
  | n + 1, [] => by
    show (dp_ini n []).length + 1 = n + 1
    rw [dp_ini_len n []]
  | n + 1, v :: l => by
    show (dp_ini n l).length + 1 = n + 1
    rw [dp_ini_len n l]
theorem dp_ini_mem : ∀ (n : Nat) (args : List Vl) (v : Vl), some v ∈ dp_ini n args → v ∈ args
  | 0, _, _, h => by cases h
  | n + 1, [], v, h => by
    rcases List.mem_cons.mp h with h | h
    · cases h
    · exact dp_ini_mem n [] v h
  | n + 1, w :: l, v, h => by
    rcases List.mem_cons.mp h with h | h
    · cases h; exact List.mem_cons_self
    · exact List.mem_cons_of_mem _ (dp_ini_mem n l v h)
theorem dp_sl : ∀ (vs : List Vl), (lg_sl (vs.map dp_tv)).length = vs.length
  | [] => rfl
  | v :: l => by
    have h := dp_sl l
    have e : lg_sl ((v :: l).map dp_tv) = (if (dp_tv v).category = 2 then [Slot.val (dp_tv v), .second] else [.val (dp_tv v)]) ++ lg_sl (l.map dp_tv) := by simp [lg_sl]
    rw [e, dp_tv1, List.length_append, h]
    show 1 + l.length = l.length + 1
    omega
theorem dp_cat : ∀ (vs : List Vl), ((vs.map dp_tv).map fun v => v.category).sum = vs.length
  | [] => rfl
  | v :: l => by
    show (dp_tv v).category + ((l.map dp_tv).map fun v => v.category).sum = l.length + 1
    rw [dp_cat l, dp_tv1]
    omega
theorem dp_Wm {p : Program} {l : Launch} {e : Env} {R : Room} {s : State} {m : MethodId} {args : Array Value} {below : List Frame} {meth : Method} {c : Code} {H : Heap} {locs : List Loc} {cells slots : Nat} {Q Q' : State → Prop} {g : JFrame}
    (h : W p l e R s m args below meth c H locs cells slots Q g) (hq : ∀ t, Q t → Q' t) : W p l e R s m args below meth c H locs cells slots Q' g := by
  intro T hT X
  obtain ⟨t, a, b⟩ := h T hT X
  exact ⟨t, a, hq t b⟩
theorem dp_Q_mono {D : va_G} {L : List Nat} {kd aC : Nat → Nat} {k : Nat} {Q Q' : dp_Ps} (hq : ∀ x G', Q x G' → Q' x G') {a : Array Value} {s : State} {oc : Outcome} {t : State} (h : dp_Q D L kd aC k Q a s oc t) : dp_Q D L kd aC k Q' a s oc t := by
  revert h
  unfold dp_Q
  cases mT k
  · intro h
    obtain ⟨⟨u, h1, h2, h3⟩, h4⟩ := h
    exact ⟨⟨u, h1, ⟨hq _ _ h2.1, h2.2⟩, h3⟩, h4⟩
  · intro h
    obtain ⟨⟨r, u, h1, h2, h3⟩, h4⟩ := h
    exact ⟨⟨r, u, h1, ⟨hq _ _ h2.1, h2.2⟩, h3⟩, h4⟩
theorem dp_X_mono {l : Launch} {D : va_G} {L : List Nat} {kd aC : Nat → Nat} : dp_Mono (dp_X l D L kd aC) := by
  intro k pc ls st G Q Q' hq h hw hl hst hls p e s m margs below meth c H locs lsM C hlv hP hD hS
  refine dp_Wm (h hw hl hst hls p e s m margs below meth c H locs lsM C hlv hP hD hS) (fun t ht => ?_)
  obtain ⟨oc, h1, h2, h3, h4⟩ := ht
  exact ⟨oc, h1, h2, dp_Q_mono hq h3, h4⟩
theorem dp_good : GoodIn lw_tb2 lw_tb2 := fun w hw => ⟨hw, good_of_word (List.mem_filter.mp hw).2⟩
/-- a method's contract out of the small machine's -/
theorem dp_met {l : Launch} {D : va_G} {L : List Nat} {kd aC : Nat → Nat} {k : Nat} {args : List Vl} {G : Mm} {Q : dp_Ps} (hp : plainName (mY k).cls = true) (hn : args.length ≤ mL k) (h : dp_X l D L kd aC k 0 (dp_ini (mL k) args) [] G Q) (hw : dp_WT L kd G) (ha : ∀ v, v ∈ args → dp_ok L kd v) :
    Met l (mY k) (mW k) (rm k) (va_Pc (args.map dp_tv) (dp_B D L kd aC G)) (dp_Q D L kd aC k Q) 0 0 (fun q => q ∈ L) := by
  refine Met.ofW (cc := mB k) (maxL := mL k) (ret := mT k) hp rfl ?_
  intro p e s m args' below meth c s₁ B hml hv
  obtain ⟨rfl, hP, hK, hD⟩ := hv
  have hts := atoms_spec (ws := mW k) B.pre
  have hl := lv_entry (args.map dp_tv) (n := mL k) (by rw [dp_sl]; exact hn)
  rw [lg_entry_eq]
  rw [← dp_as_ini (mL k) 0 args hn] at hl
  exact h hw (dp_ini_len _ _) (fun v hv => by cases hv) (fun v hv => ha v (dp_ini_mem _ _ _ hv)) p e s m _ below meth c s.heap [] _
    ⟨B.exec, B.bytes, B.returns, hml, findClass_of_methodNamed B.named, fun w hw => hts w (List.mem_cons_of_mem _ hw), B.notSynchronized, hK⟩ hl hP hD va_S.rf

theorem ok_iconst {k pc : Nat} {n : Int} {x : Int32} (hd : decode (mB k) pc = .ok (.iconst n, 1)) (hv : Int32.ofInt n = x) : dp_OK k pc (o_push x 1) := by
  intro l D L kd aC Y hY ls st G Q h hw hl hst hls p e s m margs below meth c H locs lsM C hlv hP hD hS
  refine lv_iconst C.1 C.2.1 hd hv ?_
  exact hY _ _ _ _ _ _ h hw hl (dp_okc trivial hst) hls p e s m margs below meth c H locs lsM C hlv hP hD hS
theorem ok_bipush {k pc : Nat} {n : Int} {x : Int32} (hd : decode (mB k) pc = .ok (.bipush n, 2)) (hv : (Int8.ofInt n).toInt32 = x) : dp_OK k pc (o_push x 2) := by
  intro l D L kd aC Y hY ls st G Q h hw hl hst hls p e s m margs below meth c H locs lsM C hlv hP hD hS
  refine lv_bipush C.1 C.2.1 hd hv ?_
  exact hY _ _ _ _ _ _ h hw hl (dp_okc trivial hst) hls p e s m margs below meth c H locs lsM C hlv hP hD hS
theorem ok_sipush {k pc : Nat} {n : Int} {x : Int32} (hd : decode (mB k) pc = .ok (.sipush n, 3)) (hv : (Int16.ofInt n).toInt32 = x) : dp_OK k pc (o_push x 3) := by
  intro l D L kd aC Y hY ls st G Q h hw hl hst hls p e s m margs below meth c H locs lsM C hlv hP hD hS
  refine lv_sipush C.1 C.2.1 hd hv ?_
  exact hY _ _ _ _ _ _ h hw hl (dp_okc trivial hst) hls p e s m margs below meth c H locs lsM C hlv hP hD hS
theorem ok_ldc {k pc idx : Nat} {x : Int32} (hc : Cond.constant (mY k).cls idx x ∈ lw_tb2) (hd : decode (mB k) pc = .ok (.ldc idx, 2)) : dp_OK k pc (o_push x 2) := by
  intro l D L kd aC Y hY ls st G Q h hw hl hst hls p e s m margs below meth c H locs lsM C hlv hP hD hS
  refine lv_ldc C.1 C.2.1 C.2.2.2.2.1 (C.2.2.2.2.2.1 _ hc) hd ?_
  exact hY _ _ _ _ _ _ h hw hl (dp_okc trivial hst) hls p e s m margs below meth c H locs lsM C hlv hP hD hS
theorem ok_iload_n {k pc i : Nat} {j : Fin 4} (hd : decode (mB k) pc = .ok (.iload_n j, 1)) (hi : (j : Nat) = i) : dp_OK k pc (o_iload i 1) := by
  intro l D L kd aC Y hY ls st G Q h hw hl hst hls p e s m margs below meth c H locs lsM C hlv hP hD hS
  unfold o_iload at h
  rcases hn : dp_nth ls i with _ | v
  · rw [hn] at h; exact False.elim h
  · rcases v with x | r
    · rw [hn] at h
      refine lv_iload_n C.1 C.2.1 hd hi (dp_rd hlv hn) ?_
      exact hY _ _ _ _ _ _ h hw hl (dp_okc (hls _ (dp_nth_mem _ _ _ hn)) hst) hls p e s m margs below meth c H locs lsM C hlv hP hD hS
    · rw [hn] at h; exact False.elim h
theorem ok_iload {k pc i : Nat} (hd : decode (mB k) pc = .ok (.iload i, 2)) : dp_OK k pc (o_iload i 2) := by
  intro l D L kd aC Y hY ls st G Q h hw hl hst hls p e s m margs below meth c H locs lsM C hlv hP hD hS
  unfold o_iload at h
  rcases hn : dp_nth ls i with _ | v
  · rw [hn] at h; exact False.elim h
  · rcases v with x | r
    · rw [hn] at h
      refine lv_iload C.1 C.2.1 hd (dp_rd hlv hn) ?_
      exact hY _ _ _ _ _ _ h hw hl (dp_okc (hls _ (dp_nth_mem _ _ _ hn)) hst) hls p e s m margs below meth c H locs lsM C hlv hP hD hS
    · rw [hn] at h; exact False.elim h
theorem ok_aload_n {k pc i : Nat} {j : Fin 4} (hd : decode (mB k) pc = .ok (.aload_n j, 1)) (hi : (j : Nat) = i) : dp_OK k pc (o_aload i 1) := by
  intro l D L kd aC Y hY ls st G Q h hw hl hst hls p e s m margs below meth c H locs lsM C hlv hP hD hS
  unfold o_aload at h
  rcases hn : dp_nth ls i with _ | v
  · rw [hn] at h; exact False.elim h
  · rcases v with x | r
    · rw [hn] at h; exact False.elim h
    · rw [hn] at h
      refine lv_aload_n C.1 C.2.1 hd hi (dp_rd hlv hn) ?_
      exact hY _ _ _ _ _ _ h hw hl (dp_okc (hls _ (dp_nth_mem _ _ _ hn)) hst) hls p e s m margs below meth c H locs lsM C hlv hP hD hS
theorem ok_aload {k pc i : Nat} (hd : decode (mB k) pc = .ok (.aload i, 2)) : dp_OK k pc (o_aload i 2) := by
  intro l D L kd aC Y hY ls st G Q h hw hl hst hls p e s m margs below meth c H locs lsM C hlv hP hD hS
  unfold o_aload at h
  rcases hn : dp_nth ls i with _ | v
  · rw [hn] at h; exact False.elim h
  · rcases v with x | r
    · rw [hn] at h; exact False.elim h
    · rw [hn] at h
      refine lv_aload C.1 C.2.1 hd (dp_rd hlv hn) ?_
      exact hY _ _ _ _ _ _ h hw hl (dp_okc (hls _ (dp_nth_mem _ _ _ hn)) hst) hls p e s m margs below meth c H locs lsM C hlv hP hD hS
theorem ok_istore_n {k pc i : Nat} {j : Fin 4} (hd : decode (mB k) pc = .ok (.istore_n j, 1)) (hi : (j : Nat) = i) (hn : i < mL k) : dp_OK k pc (o_istore i 1) := by
  intro l D L kd aC Y hY ls st G Q h hw hl hst hls p e s m margs below meth c H locs lsM C hlv hP hD hS
  rcases st with _ | ⟨v0, st⟩
  · exact False.elim h
  · rcases v0 with x0 | r0
    rotate_left
    · exact False.elim h
    · skip
      refine lv_istore_n (lv := dp_as 0 ls) C.1 C.2.1 hd hi hlv hn rfl (fun ls2 hl2 => ?_)
      exact hY _ _ _ _ _ _ h hw ((dp_upd_len _ _ _).trans hl) (dp_okt hst) (dp_upd_ok (hst _ List.mem_cons_self) hls) p e s m margs below meth c H locs ls2 C (dp_st (v := (.inl x0)) hl2) hP hD hS
theorem ok_istore {k pc i : Nat} (hd : decode (mB k) pc = .ok (.istore i, 2)) (hn : i < mL k) : dp_OK k pc (o_istore i 2) := by
  intro l D L kd aC Y hY ls st G Q h hw hl hst hls p e s m margs below meth c H locs lsM C hlv hP hD hS
  rcases st with _ | ⟨v0, st⟩
  · exact False.elim h
  · rcases v0 with x0 | r0
    rotate_left
    · exact False.elim h
    · skip
      refine lv_istore (lv := dp_as 0 ls) C.1 C.2.1 hd hlv hn rfl (fun ls2 hl2 => ?_)
      exact hY _ _ _ _ _ _ h hw ((dp_upd_len _ _ _).trans hl) (dp_okt hst) (dp_upd_ok (hst _ List.mem_cons_self) hls) p e s m margs below meth c H locs ls2 C (dp_st (v := (.inl x0)) hl2) hP hD hS
theorem ok_astore_n {k pc i : Nat} {j : Fin 4} (hd : decode (mB k) pc = .ok (.astore_n j, 1)) (hi : (j : Nat) = i) (hn : i < mL k) : dp_OK k pc (o_astore i 1) := by
  intro l D L kd aC Y hY ls st G Q h hw hl hst hls p e s m margs below meth c H locs lsM C hlv hP hD hS
  rcases st with _ | ⟨v0, st⟩
  · exact False.elim h
  · rcases v0 with x0 | r0
    · exact False.elim h
    · skip
      refine lv_astore_n (lv := dp_as 0 ls) C.1 C.2.1 hd hi hlv hn rfl (fun ls2 hl2 => ?_)
      exact hY _ _ _ _ _ _ h hw ((dp_upd_len _ _ _).trans hl) (dp_okt hst) (dp_upd_ok (hst _ List.mem_cons_self) hls) p e s m margs below meth c H locs ls2 C (dp_st (v := (.inr r0)) hl2) hP hD hS
theorem ok_astore {k pc i : Nat} (hd : decode (mB k) pc = .ok (.astore i, 2)) (hn : i < mL k) : dp_OK k pc (o_astore i 2) := by
  intro l D L kd aC Y hY ls st G Q h hw hl hst hls p e s m margs below meth c H locs lsM C hlv hP hD hS
  rcases st with _ | ⟨v0, st⟩
  · exact False.elim h
  · rcases v0 with x0 | r0
    · exact False.elim h
    · skip
      refine lv_astore (lv := dp_as 0 ls) C.1 C.2.1 hd hlv hn rfl (fun ls2 hl2 => ?_)
      exact hY _ _ _ _ _ _ h hw ((dp_upd_len _ _ _).trans hl) (dp_okt hst) (dp_upd_ok (hst _ List.mem_cons_self) hls) p e s m margs below meth c H locs ls2 C (dp_st (v := (.inr r0)) hl2) hP hD hS
theorem ok_iinc {k pc i : Nat} {n : Int} {d : Int32} (hd : decode (mB k) pc = .ok (.iinc i n, 3)) (hv : Int32.ofInt n = d) (hn : i < mL k) : dp_OK k pc (o_inc i d) := by
  intro l D L kd aC Y hY ls st G Q h hw hl hst hls p e s m margs below meth c H locs lsM C hlv hP hD hS
  unfold o_inc at h
  rcases hn2 : dp_nth ls i with _ | v
  · rw [hn2] at h; exact False.elim h
  · rcases v with x | r
    · rw [hn2] at h
      obtain ⟨q, hq⟩ := List.getElem?_of_mem (dp_nth_as ls 0 i _ hn2)
      rw [Nat.zero_add] at hq
      refine lv_iinc (lv := dp_as 0 ls) (k := q) (x := x) (v := x + d) C.1 C.2.1 hd hlv hq (by rw [hv]) hn rfl (fun ls2 hl2 => ?_)
      exact hY _ _ _ _ _ _ h hw ((dp_upd_len _ _ _).trans hl) hst (dp_upd_ok (v := vI (x + d)) trivial hls) p e s m margs below meth c H locs ls2 C (dp_st (v := vI (x + d)) hl2) hP hD hS
    · rw [hn2] at h; exact False.elim h
theorem ok_iadd {k pc : Nat} (hd : decode (mB k) pc = .ok (.iadd, 1)) : dp_OK k pc (o_bin (fun x y => x + y)) := by
  intro l D L kd aC Y hY ls st G Q h hw hl hst hls p e s m margs below meth c H locs lsM C hlv hP hD hS
  rcases st with _ | ⟨v0, st⟩
  · exact False.elim h
  · rcases v0 with x0 | r0
    rotate_left
    · exact False.elim h
    · skip
      rcases st with _ | ⟨v1, st⟩
      · exact False.elim h
      · rcases v1 with x1 | r1
        rotate_left
        · exact False.elim h
        · skip
          refine lv_iadd C.1 C.2.1 hd ?_
          exact hY _ _ _ _ _ _ h hw hl (dp_okc trivial (dp_okt (dp_okt hst))) hls p e s m margs below meth c H locs lsM C hlv hP hD hS
theorem ok_isub {k pc : Nat} (hd : decode (mB k) pc = .ok (.isub, 1)) : dp_OK k pc (o_bin (fun x y => x - y)) := by
  intro l D L kd aC Y hY ls st G Q h hw hl hst hls p e s m margs below meth c H locs lsM C hlv hP hD hS
  rcases st with _ | ⟨v0, st⟩
  · exact False.elim h
  · rcases v0 with x0 | r0
    rotate_left
    · exact False.elim h
    · skip
      rcases st with _ | ⟨v1, st⟩
      · exact False.elim h
      · rcases v1 with x1 | r1
        rotate_left
        · exact False.elim h
        · skip
          refine lv_isub C.1 C.2.1 hd ?_
          exact hY _ _ _ _ _ _ h hw hl (dp_okc trivial (dp_okt (dp_okt hst))) hls p e s m margs below meth c H locs lsM C hlv hP hD hS
theorem ok_imul {k pc : Nat} (hd : decode (mB k) pc = .ok (.imul, 1)) : dp_OK k pc (o_bin (fun x y => x * y)) := by
  intro l D L kd aC Y hY ls st G Q h hw hl hst hls p e s m margs below meth c H locs lsM C hlv hP hD hS
  rcases st with _ | ⟨v0, st⟩
  · exact False.elim h
  · rcases v0 with x0 | r0
    rotate_left
    · exact False.elim h
    · skip
      rcases st with _ | ⟨v1, st⟩
      · exact False.elim h
      · rcases v1 with x1 | r1
        rotate_left
        · exact False.elim h
        · skip
          refine lv_imul C.1 C.2.1 hd ?_
          exact hY _ _ _ _ _ _ h hw hl (dp_okc trivial (dp_okt (dp_okt hst))) hls p e s m margs below meth c H locs lsM C hlv hP hD hS
theorem ok_iand {k pc : Nat} (hd : decode (mB k) pc = .ok (.iand, 1)) : dp_OK k pc (o_bin (fun x y => x &&& y)) := by
  intro l D L kd aC Y hY ls st G Q h hw hl hst hls p e s m margs below meth c H locs lsM C hlv hP hD hS
  rcases st with _ | ⟨v0, st⟩
  · exact False.elim h
  · rcases v0 with x0 | r0
    rotate_left
    · exact False.elim h
    · skip
      rcases st with _ | ⟨v1, st⟩
      · exact False.elim h
      · rcases v1 with x1 | r1
        rotate_left
        · exact False.elim h
        · skip
          refine lv_iand C.1 C.2.1 hd ?_
          exact hY _ _ _ _ _ _ h hw hl (dp_okc trivial (dp_okt (dp_okt hst))) hls p e s m margs below meth c H locs lsM C hlv hP hD hS
theorem ok_idiv {k pc : Nat} (hd : decode (mB k) pc = .ok (.idiv, 1)) : dp_OK k pc o_div := by
  intro l D L kd aC Y hY ls st G Q h hw hl hst hls p e s m margs below meth c H locs lsM C hlv hP hD hS
  rcases st with _ | ⟨v0, st⟩
  · exact False.elim h
  · rcases v0 with x0 | r0
    rotate_left
    · exact False.elim h
    · skip
      rcases st with _ | ⟨v1, st⟩
      · exact False.elim h
      · rcases v1 with x1 | r1
        rotate_left
        · exact False.elim h
        · skip
          obtain ⟨h0, h⟩ := h
          refine lv_idiv C.1 C.2.1 hd h0 ?_
          exact hY _ _ _ _ _ _ h hw hl (dp_okc trivial (dp_okt (dp_okt hst))) hls p e s m margs below meth c H locs lsM C hlv hP hD hS
theorem ok_irem {k pc : Nat} (hd : decode (mB k) pc = .ok (.irem, 1)) : dp_OK k pc o_rem := by
  intro l D L kd aC Y hY ls st G Q h hw hl hst hls p e s m margs below meth c H locs lsM C hlv hP hD hS
  rcases st with _ | ⟨v0, st⟩
  · exact False.elim h
  · rcases v0 with x0 | r0
    rotate_left
    · exact False.elim h
    · skip
      rcases st with _ | ⟨v1, st⟩
      · exact False.elim h
      · rcases v1 with x1 | r1
        rotate_left
        · exact False.elim h
        · skip
          obtain ⟨h0, h⟩ := h
          refine lv_irem C.1 C.2.1 hd h0 ?_
          exact hY _ _ _ _ _ _ h hw hl (dp_okc trivial (dp_okt (dp_okt hst))) hls p e s m margs below meth c H locs lsM C hlv hP hD hS
theorem ok_if_eq {k pc tgt : Nat} {off : Int} (hd : decode (mB k) pc = .ok (.ifCond .eq off, 3)) (ht : (pc : Int) + off = (tgt : Int)) : dp_OK k pc (o_if (fun x => x = 0) tgt) := by
  intro l D L kd aC Y hY ls st G Q h hw hl hst hls p e s m margs below meth c H locs lsM C hlv hP hD hS
  rcases st with _ | ⟨v0, st⟩
  · exact False.elim h
  · rcases v0 with x0 | r0
    rotate_left
    · exact False.elim h
    · skip
      refine lv_if_eq C.1 C.2.1 hd ht (fun hc => ?_) (fun hc => ?_)
      · exact hY _ _ _ _ _ _ (h.1 hc) hw hl (dp_okt hst) hls p e s m margs below meth c H locs lsM C hlv hP hD hS
      · exact hY _ _ _ _ _ _ (h.2 hc) hw hl (dp_okt hst) hls p e s m margs below meth c H locs lsM C hlv hP hD hS
theorem ok_if_ne {k pc tgt : Nat} {off : Int} (hd : decode (mB k) pc = .ok (.ifCond .ne off, 3)) (ht : (pc : Int) + off = (tgt : Int)) : dp_OK k pc (o_if (fun x => ¬ x = 0) tgt) := by
  intro l D L kd aC Y hY ls st G Q h hw hl hst hls p e s m margs below meth c H locs lsM C hlv hP hD hS
  rcases st with _ | ⟨v0, st⟩
  · exact False.elim h
  · rcases v0 with x0 | r0
    rotate_left
    · exact False.elim h
    · skip
      refine lv_if_ne C.1 C.2.1 hd ht (fun hc => ?_) (fun hc => ?_)
      · exact hY _ _ _ _ _ _ (h.1 hc) hw hl (dp_okt hst) hls p e s m margs below meth c H locs lsM C hlv hP hD hS
      · exact hY _ _ _ _ _ _ (h.2 (fun q => q hc)) hw hl (dp_okt hst) hls p e s m margs below meth c H locs lsM C hlv hP hD hS
theorem ok_if_lt {k pc tgt : Nat} {off : Int} (hd : decode (mB k) pc = .ok (.ifCond .lt off, 3)) (ht : (pc : Int) + off = (tgt : Int)) : dp_OK k pc (o_if (fun x => x < 0) tgt) := by
  intro l D L kd aC Y hY ls st G Q h hw hl hst hls p e s m margs below meth c H locs lsM C hlv hP hD hS
  rcases st with _ | ⟨v0, st⟩
  · exact False.elim h
  · rcases v0 with x0 | r0
    rotate_left
    · exact False.elim h
    · skip
      refine lv_if_lt C.1 C.2.1 hd ht (fun hc => ?_) (fun hc => ?_)
      · exact hY _ _ _ _ _ _ (h.1 hc) hw hl (dp_okt hst) hls p e s m margs below meth c H locs lsM C hlv hP hD hS
      · exact hY _ _ _ _ _ _ (h.2 hc) hw hl (dp_okt hst) hls p e s m margs below meth c H locs lsM C hlv hP hD hS
theorem ok_if_ge {k pc tgt : Nat} {off : Int} (hd : decode (mB k) pc = .ok (.ifCond .ge off, 3)) (ht : (pc : Int) + off = (tgt : Int)) : dp_OK k pc (o_if (fun x => 0 ≤ x) tgt) := by
  intro l D L kd aC Y hY ls st G Q h hw hl hst hls p e s m margs below meth c H locs lsM C hlv hP hD hS
  rcases st with _ | ⟨v0, st⟩
  · exact False.elim h
  · rcases v0 with x0 | r0
    rotate_left
    · exact False.elim h
    · skip
      refine lv_if_ge C.1 C.2.1 hd ht (fun hc => ?_) (fun hc => ?_)
      · exact hY _ _ _ _ _ _ (h.1 hc) hw hl (dp_okt hst) hls p e s m margs below meth c H locs lsM C hlv hP hD hS
      · exact hY _ _ _ _ _ _ (h.2 hc) hw hl (dp_okt hst) hls p e s m margs below meth c H locs lsM C hlv hP hD hS
theorem ok_if_gt {k pc tgt : Nat} {off : Int} (hd : decode (mB k) pc = .ok (.ifCond .gt off, 3)) (ht : (pc : Int) + off = (tgt : Int)) : dp_OK k pc (o_if (fun x => 0 < x) tgt) := by
  intro l D L kd aC Y hY ls st G Q h hw hl hst hls p e s m margs below meth c H locs lsM C hlv hP hD hS
  rcases st with _ | ⟨v0, st⟩
  · exact False.elim h
  · rcases v0 with x0 | r0
    rotate_left
    · exact False.elim h
    · skip
      refine lv_if_gt C.1 C.2.1 hd ht (fun hc => ?_) (fun hc => ?_)
      · exact hY _ _ _ _ _ _ (h.1 hc) hw hl (dp_okt hst) hls p e s m margs below meth c H locs lsM C hlv hP hD hS
      · exact hY _ _ _ _ _ _ (h.2 hc) hw hl (dp_okt hst) hls p e s m margs below meth c H locs lsM C hlv hP hD hS
theorem ok_if_le {k pc tgt : Nat} {off : Int} (hd : decode (mB k) pc = .ok (.ifCond .le off, 3)) (ht : (pc : Int) + off = (tgt : Int)) : dp_OK k pc (o_if (fun x => x ≤ 0) tgt) := by
  intro l D L kd aC Y hY ls st G Q h hw hl hst hls p e s m margs below meth c H locs lsM C hlv hP hD hS
  rcases st with _ | ⟨v0, st⟩
  · exact False.elim h
  · rcases v0 with x0 | r0
    rotate_left
    · exact False.elim h
    · skip
      refine lv_if_le C.1 C.2.1 hd ht (fun hc => ?_) (fun hc => ?_)
      · exact hY _ _ _ _ _ _ (h.1 hc) hw hl (dp_okt hst) hls p e s m margs below meth c H locs lsM C hlv hP hD hS
      · exact hY _ _ _ _ _ _ (h.2 hc) hw hl (dp_okt hst) hls p e s m margs below meth c H locs lsM C hlv hP hD hS
theorem ok_cmp_eq {k pc tgt : Nat} {off : Int} (hd : decode (mB k) pc = .ok (.if_icmp .eq off, 3)) (ht : (pc : Int) + off = (tgt : Int)) : dp_OK k pc (o_cmp (fun x y => x = y) tgt) := by
  intro l D L kd aC Y hY ls st G Q h hw hl hst hls p e s m margs below meth c H locs lsM C hlv hP hD hS
  rcases st with _ | ⟨v0, st⟩
  · exact False.elim h
  · rcases v0 with x0 | r0
    rotate_left
    · exact False.elim h
    · skip
      rcases st with _ | ⟨v1, st⟩
      · exact False.elim h
      · rcases v1 with x1 | r1
        rotate_left
        · exact False.elim h
        · skip
          refine lv_icmp_eq C.1 C.2.1 hd ht (fun hc => ?_) (fun hc => ?_)
          · exact hY _ _ _ _ _ _ (h.1 hc) hw hl (dp_okt (dp_okt hst)) hls p e s m margs below meth c H locs lsM C hlv hP hD hS
          · exact hY _ _ _ _ _ _ (h.2 hc) hw hl (dp_okt (dp_okt hst)) hls p e s m margs below meth c H locs lsM C hlv hP hD hS
theorem ok_cmp_ne {k pc tgt : Nat} {off : Int} (hd : decode (mB k) pc = .ok (.if_icmp .ne off, 3)) (ht : (pc : Int) + off = (tgt : Int)) : dp_OK k pc (o_cmp (fun x y => ¬ x = y) tgt) := by
  intro l D L kd aC Y hY ls st G Q h hw hl hst hls p e s m margs below meth c H locs lsM C hlv hP hD hS
  rcases st with _ | ⟨v0, st⟩
  · exact False.elim h
  · rcases v0 with x0 | r0
    rotate_left
    · exact False.elim h
    · skip
      rcases st with _ | ⟨v1, st⟩
      · exact False.elim h
      · rcases v1 with x1 | r1
        rotate_left
        · exact False.elim h
        · skip
          refine lv_icmp_ne C.1 C.2.1 hd ht (fun hc => ?_) (fun hc => ?_)
          · exact hY _ _ _ _ _ _ (h.1 hc) hw hl (dp_okt (dp_okt hst)) hls p e s m margs below meth c H locs lsM C hlv hP hD hS
          · exact hY _ _ _ _ _ _ (h.2 (fun q => q hc)) hw hl (dp_okt (dp_okt hst)) hls p e s m margs below meth c H locs lsM C hlv hP hD hS
theorem ok_cmp_lt {k pc tgt : Nat} {off : Int} (hd : decode (mB k) pc = .ok (.if_icmp .lt off, 3)) (ht : (pc : Int) + off = (tgt : Int)) : dp_OK k pc (o_cmp (fun x y => x < y) tgt) := by
  intro l D L kd aC Y hY ls st G Q h hw hl hst hls p e s m margs below meth c H locs lsM C hlv hP hD hS
  rcases st with _ | ⟨v0, st⟩
  · exact False.elim h
  · rcases v0 with x0 | r0
    rotate_left
    · exact False.elim h
    · skip
      rcases st with _ | ⟨v1, st⟩
      · exact False.elim h
      · rcases v1 with x1 | r1
        rotate_left
        · exact False.elim h
        · skip
          refine lv_icmp_lt C.1 C.2.1 hd ht (fun hc => ?_) (fun hc => ?_)
          · exact hY _ _ _ _ _ _ (h.1 hc) hw hl (dp_okt (dp_okt hst)) hls p e s m margs below meth c H locs lsM C hlv hP hD hS
          · exact hY _ _ _ _ _ _ (h.2 hc) hw hl (dp_okt (dp_okt hst)) hls p e s m margs below meth c H locs lsM C hlv hP hD hS
theorem ok_cmp_ge {k pc tgt : Nat} {off : Int} (hd : decode (mB k) pc = .ok (.if_icmp .ge off, 3)) (ht : (pc : Int) + off = (tgt : Int)) : dp_OK k pc (o_cmp (fun x y => y ≤ x) tgt) := by
  intro l D L kd aC Y hY ls st G Q h hw hl hst hls p e s m margs below meth c H locs lsM C hlv hP hD hS
  rcases st with _ | ⟨v0, st⟩
  · exact False.elim h
  · rcases v0 with x0 | r0
    rotate_left
    · exact False.elim h
    · skip
      rcases st with _ | ⟨v1, st⟩
      · exact False.elim h
      · rcases v1 with x1 | r1
        rotate_left
        · exact False.elim h
        · skip
          refine lv_icmp_ge C.1 C.2.1 hd ht (fun hc => ?_) (fun hc => ?_)
          · exact hY _ _ _ _ _ _ (h.1 hc) hw hl (dp_okt (dp_okt hst)) hls p e s m margs below meth c H locs lsM C hlv hP hD hS
          · exact hY _ _ _ _ _ _ (h.2 hc) hw hl (dp_okt (dp_okt hst)) hls p e s m margs below meth c H locs lsM C hlv hP hD hS
theorem ok_cmp_gt {k pc tgt : Nat} {off : Int} (hd : decode (mB k) pc = .ok (.if_icmp .gt off, 3)) (ht : (pc : Int) + off = (tgt : Int)) : dp_OK k pc (o_cmp (fun x y => y < x) tgt) := by
  intro l D L kd aC Y hY ls st G Q h hw hl hst hls p e s m margs below meth c H locs lsM C hlv hP hD hS
  rcases st with _ | ⟨v0, st⟩
  · exact False.elim h
  · rcases v0 with x0 | r0
    rotate_left
    · exact False.elim h
    · skip
      rcases st with _ | ⟨v1, st⟩
      · exact False.elim h
      · rcases v1 with x1 | r1
        rotate_left
        · exact False.elim h
        · skip
          refine lv_icmp_gt C.1 C.2.1 hd ht (fun hc => ?_) (fun hc => ?_)
          · exact hY _ _ _ _ _ _ (h.1 hc) hw hl (dp_okt (dp_okt hst)) hls p e s m margs below meth c H locs lsM C hlv hP hD hS
          · exact hY _ _ _ _ _ _ (h.2 hc) hw hl (dp_okt (dp_okt hst)) hls p e s m margs below meth c H locs lsM C hlv hP hD hS
theorem ok_cmp_le {k pc tgt : Nat} {off : Int} (hd : decode (mB k) pc = .ok (.if_icmp .le off, 3)) (ht : (pc : Int) + off = (tgt : Int)) : dp_OK k pc (o_cmp (fun x y => x ≤ y) tgt) := by
  intro l D L kd aC Y hY ls st G Q h hw hl hst hls p e s m margs below meth c H locs lsM C hlv hP hD hS
  rcases st with _ | ⟨v0, st⟩
  · exact False.elim h
  · rcases v0 with x0 | r0
    rotate_left
    · exact False.elim h
    · skip
      rcases st with _ | ⟨v1, st⟩
      · exact False.elim h
      · rcases v1 with x1 | r1
        rotate_left
        · exact False.elim h
        · skip
          refine lv_icmp_le C.1 C.2.1 hd ht (fun hc => ?_) (fun hc => ?_)
          · exact hY _ _ _ _ _ _ (h.1 hc) hw hl (dp_okt (dp_okt hst)) hls p e s m margs below meth c H locs lsM C hlv hP hD hS
          · exact hY _ _ _ _ _ _ (h.2 hc) hw hl (dp_okt (dp_okt hst)) hls p e s m margs below meth c H locs lsM C hlv hP hD hS
theorem ok_goto {k pc tgt : Nat} {off : Int} (hd : decode (mB k) pc = .ok (.goto off, 3)) (ht : (pc : Int) + off = (tgt : Int)) : dp_OK k pc (o_goto tgt) := by
  intro l D L kd aC Y hY ls st G Q h hw hl hst hls p e s m margs below meth c H locs lsM C hlv hP hD hS
  refine lv_goto C.1 C.2.1 hd ht ?_
  exact hY _ _ _ _ _ _ h hw hl hst hls p e s m margs below meth c H locs lsM C hlv hP hD hS
theorem ok_dup {k pc : Nat} (hd : decode (mB k) pc = .ok (.dup, 1)) : dp_OK k pc o_dup := by
  intro l D L kd aC Y hY ls st G Q h hw hl hst hls p e s m margs below meth c H locs lsM C hlv hP hD hS
  rcases st with _ | ⟨v0, st⟩
  · exact False.elim h
  · skip
    refine lv_dup C.1 C.2.1 hd (dp_tv1 _) ?_
    exact hY _ _ _ _ _ _ h hw hl (dp_okc (hst _ List.mem_cons_self) hst) hls p e s m margs below meth c H locs lsM C hlv hP hD hS
theorem ok_dup2 {k pc : Nat} (hd : decode (mB k) pc = .ok (.dup2, 1)) : dp_OK k pc o_dup2 := by
  intro l D L kd aC Y hY ls st G Q h hw hl hst hls p e s m margs below meth c H locs lsM C hlv hP hD hS
  rcases st with _ | ⟨v0, st⟩
  · exact False.elim h
  · skip
    rcases st with _ | ⟨v1, st⟩
    · exact False.elim h
    · skip
      refine lv_dup2_11 C.1 C.2.1 hd (dp_tv1 _) (dp_tv1 _) ?_
      exact hY _ _ _ _ _ _ h hw hl (dp_okc (hst _ List.mem_cons_self) (dp_okc (hst _ (List.mem_cons_of_mem _ List.mem_cons_self)) hst)) hls p e s m margs below meth c H locs lsM C hlv hP hD hS
theorem ok_pop {k pc : Nat} (hd : decode (mB k) pc = .ok (.pop, 1)) : dp_OK k pc o_pop := by
  intro l D L kd aC Y hY ls st G Q h hw hl hst hls p e s m margs below meth c H locs lsM C hlv hP hD hS
  rcases st with _ | ⟨v0, st⟩
  · exact False.elim h
  · skip
    refine lv_pop C.1 C.2.1 hd (dp_tv1 _) ?_
    exact hY _ _ _ _ _ _ h hw hl (dp_okt hst) hls p e s m margs below meth c H locs lsM C hlv hP hD hS
theorem ok_getI {k pc t j idx N : Nat} {C : String} {T : u_T} (hcl : vwCl[t]? = some (C, T, N)) (hin : ∀ w ∈ u_ws C T N, w ∈ lw_tb2) (ht : t < 9) (hN : dp_nf t = N) (hj : j < N) (hf : dp_fr t j = none) (hlink : Cond.fieldLink (mY k).cls idx (T j).1 (T j).2.1 (T j).2.2.1 ∈ lw_tb2) (hd : decode (mB k) pc = .ok (.getfield idx, 3)) : dp_OK k pc (o_getI t j) := by
  intro l D L kd aC Y hY ls st G Q h hw hl hst hls p e s m margs below meth c H locs lsM C_ hlv hP hD hS
  rcases st with _ | ⟨v0, st⟩
  · exact False.elim h
  · rcases v0 with x0 | r0
    · exact False.elim h
    · skip
      obtain ⟨hbq, h⟩ := dp_cd h
      have hrt := Nat.eq_of_beq_eq_true hbq
      obtain ⟨hrL, hrk⟩ : r0.2 ∈ L ∧ kd r0.2 = r0.1 := hst (.inr r0) List.mem_cons_self
      rw [hrt] at hrk
      obtain ⟨q0, hq0⟩ := va_pl_get (X := []) (f := dp_ce aC kd G) hrL
      rw [List.nil_append] at hq0
      rw [dp_ce_obj hrk ht] at hq0
      refine va_get (D := D) (C := C) (T := T) (N := N) (Ts := lw_tb2) (v := (.int (G.1 r0.2 j))) C_.1 C_.2.1 C_.2.2.2.2.2.1 hin C_.2.2.2.2.1 C_.2.2.2.2.2.2.2 hP q0 hq0 hcl j hj (C_.2.2.2.2.2.1 _ hlink) (fun x h => h) ?_ hd ?_
      · rw [dp_mget _ (hN ▸ hj)]; unfold dp_fv; rw [hf]
      · exact hY _ _ _ _ _ _ h hw hl (dp_okc trivial (dp_okt hst)) hls p e s m margs below meth c H locs lsM C_ hlv hP hD hS
theorem ok_getR {k pc t j idx N : Nat} {C : String} {T : u_T} (hcl : vwCl[t]? = some (C, T, N)) (hin : ∀ w ∈ u_ws C T N, w ∈ lw_tb2) (ht : t < 9) (hN : dp_nf t = N) (hj : j < N) {u : Nat} (hf : dp_fr t j = some u) (hlink : Cond.fieldLink (mY k).cls idx (T j).1 (T j).2.1 (T j).2.2.1 ∈ lw_tb2) (hd : decode (mB k) pc = .ok (.getfield idx, 3)) : dp_OK k pc (o_getR t j u) := by
  intro l D L kd aC Y hY ls st G Q h hw hl hst hls p e s m margs below meth c H locs lsM C_ hlv hP hD hS
  rcases st with _ | ⟨v0, st⟩
  · exact False.elim h
  · rcases v0 with x0 | r0
    · exact False.elim h
    · skip
      obtain ⟨hbq, h⟩ := dp_cd h
      have hrt := Nat.eq_of_beq_eq_true hbq
      obtain ⟨hrL, hrk⟩ : r0.2 ∈ L ∧ kd r0.2 = r0.1 := hst (.inr r0) List.mem_cons_self
      rw [hrt] at hrk
      obtain ⟨q0, hq0⟩ := va_pl_get (X := []) (f := dp_ce aC kd G) hrL
      rw [List.nil_append] at hq0
      rw [dp_ce_obj hrk ht] at hq0
      refine va_get (D := D) (C := C) (T := T) (N := N) (Ts := lw_tb2) (v := (.ref (G.2 r0.2 j))) C_.1 C_.2.1 C_.2.2.2.2.2.1 hin C_.2.2.2.2.1 C_.2.2.2.2.2.2.2 hP q0 hq0 hcl j hj (C_.2.2.2.2.2.1 _ hlink) (fun x h => h) ?_ hd ?_
      · rw [dp_mget _ (hN ▸ hj)]; unfold dp_fv; rw [hf]
      · exact hY _ _ _ _ _ _ h hw hl (dp_okc (hw r0.2 hrL j u (by rw [hrk]; unfold dp_rt; rw [if_pos ht]; exact hf)) (dp_okt hst)) hls p e s m margs below meth c H locs lsM C_ hlv hP hD hS
theorem ok_putI {k pc t j idx N : Nat} {C : String} {T : u_T} (hcl : vwCl[t]? = some (C, T, N)) (hin : ∀ w ∈ u_ws C T N, w ∈ lw_tb2) (ht : t < 9) (hN : dp_nf t = N) (hj : j < N) (hf : dp_fr t j = none) (ty0 : Nat → FieldType) (hty : ∀ k, k < N → parseFieldDescriptor (T k).2.2.1 = some (ty0 k)) (hnm : ∀ a, a < N → ∀ b, b < N → a ≠ b → (T a).2.1 ≠ (T b).2.1) (hfin : (T j).2.2.2 = false) (hpd : parseFieldDescriptor (T j).2.2.1 = some .int) (hlink : Cond.fieldLink (mY k).cls idx (T j).1 (T j).2.1 (T j).2.2.1 ∈ lw_tb2) (hd : decode (mB k) pc = .ok (.putfield idx, 3)) : dp_OK k pc (o_putI t j) := by
  intro l D L kd aC Y hY ls st G Q h hw hl hst hls p e s m margs below meth c H locs lsM C_ hlv hP hD hS
  rcases st with _ | ⟨v0, st⟩
  · exact False.elim h
  · rcases v0 with x0 | r0
    rotate_left
    · exact False.elim h
    · skip
      rcases st with _ | ⟨v1, st⟩
      · exact False.elim h
      · rcases v1 with x1 | r1
        · exact False.elim h
        · skip
          obtain ⟨hbq, h⟩ := dp_cd h
          have hrt := Nat.eq_of_beq_eq_true hbq
          obtain ⟨hrL, hrk⟩ : r1.2 ∈ L ∧ kd r1.2 = r1.1 := hst (.inr r1) (List.mem_cons_of_mem _ List.mem_cons_self)
          rw [hrt] at hrk
          obtain ⟨q0, hq0⟩ := va_pl_get (X := []) (f := dp_ce aC kd G) hrL
          rw [List.nil_append] at hq0
          have hq1 := hq0
          rw [dp_ce_obj hrk ht] at hq0
          refine va_put (D := D) (C := C) (T := T) (N := N) (Ts := lw_tb2) (v := .int x0) (ty := .int) C_.1 C_.2.1 C_.2.2.2.2.2.1 hin ty0 hty hnm C_.2.2.2.2.1 C_.2.2.2.2.2.2.2 hP hD hS q0 hq0 hcl j hj (C_.2.2.2.2.2.1 _ hlink) (fun x h => h) hfin hpd rfl rfl (by rw [List.length_map, List.length_range, hN]; exact hj) hd (fun H1 locs1 hP1 hD1 hS1 => ?_)
          rw [dp_pls hD hrL hq1 (dp_e_put hrk ht hf) (fun b hb => ⟨dp_wI_ne hb, rfl⟩)] at hP1 hD1
          exact hY _ _ _ _ _ _ h hw hl (dp_okt (dp_okt hst)) hls p e s m margs below meth c H1 locs1 lsM C_ hlv hP1 hD1 hS1
theorem ok_putZ {k pc t j idx N : Nat} {C : String} {T : u_T} (hcl : vwCl[t]? = some (C, T, N)) (hin : ∀ w ∈ u_ws C T N, w ∈ lw_tb2) (ht : t < 9) (hN : dp_nf t = N) (hj : j < N) (hf : dp_fr t j = none) (ty0 : Nat → FieldType) (hty : ∀ k, k < N → parseFieldDescriptor (T k).2.2.1 = some (ty0 k)) (hnm : ∀ a, a < N → ∀ b, b < N → a ≠ b → (T a).2.1 ≠ (T b).2.1) (hfin : (T j).2.2.2 = false) (hpd : parseFieldDescriptor (T j).2.2.1 = some .boolean) (hlink : Cond.fieldLink (mY k).cls idx (T j).1 (T j).2.1 (T j).2.2.1 ∈ lw_tb2) (hd : decode (mB k) pc = .ok (.putfield idx, 3)) : dp_OK k pc (o_putZ t j) := by
  intro l D L kd aC Y hY ls st G Q h hw hl hst hls p e s m margs below meth c H locs lsM C_ hlv hP hD hS
  rcases st with _ | ⟨v0, st⟩
  · exact False.elim h
  · rcases v0 with x0 | r0
    rotate_left
    · exact False.elim h
    · skip
      rcases st with _ | ⟨v1, st⟩
      · exact False.elim h
      · rcases v1 with x1 | r1
        · exact False.elim h
        · skip
          obtain ⟨hbq, h⟩ := dp_cd h
          have hrt := Nat.eq_of_beq_eq_true hbq
          obtain ⟨hrL, hrk⟩ : r1.2 ∈ L ∧ kd r1.2 = r1.1 := hst (.inr r1) (List.mem_cons_of_mem _ List.mem_cons_self)
          rw [hrt] at hrk
          obtain ⟨q0, hq0⟩ := va_pl_get (X := []) (f := dp_ce aC kd G) hrL
          rw [List.nil_append] at hq0
          obtain ⟨hz, h⟩ := h
          have hq1 := hq0
          rw [dp_ce_obj hrk ht] at hq0
          refine va_put (D := D) (C := C) (T := T) (N := N) (Ts := lw_tb2) (v := .int x0) (ty := .boolean) C_.1 C_.2.1 C_.2.2.2.2.2.1 hin ty0 hty hnm C_.2.2.2.2.1 C_.2.2.2.2.2.2.2 hP hD hS q0 hq0 hcl j hj (C_.2.2.2.2.2.1 _ hlink) (fun x h => h) hfin hpd (by rcases hz with rfl | rfl <;> rfl) (by rcases hz with rfl | rfl <;> rfl) (by rw [List.length_map, List.length_range, hN]; exact hj) hd (fun H1 locs1 hP1 hD1 hS1 => ?_)
          rw [dp_pls hD hrL hq1 (dp_e_put hrk ht hf) (fun b hb => ⟨dp_wI_ne hb, rfl⟩)] at hP1 hD1
          exact hY _ _ _ _ _ _ h hw hl (dp_okt (dp_okt hst)) hls p e s m margs below meth c H1 locs1 lsM C_ hlv hP1 hD1 hS1
theorem ok_getIN {k pc t j idx N : Nat} {C : String} {T : u_T} (hcl : vwCl[t]? = some (C, T, N)) (hin : ∀ w ∈ u_ws C T N, w ∈ lw_tb2) (ht : t < 9) (hN : dp_nf t = N) (hj : j < N) {host : String} (hf : dp_fr t j = none) (hlink : Cond.fieldLinkNest (mY k).cls idx (T j).1 (T j).2.1 (T j).2.2.1 host ∈ lw_tb2) (hd : decode (mB k) pc = .ok (.getfield idx, 3)) : dp_OK k pc (o_getI t j) := by
  intro l D L kd aC Y hY ls st G Q h hw hl hst hls p e s m margs below meth c H locs lsM C_ hlv hP hD hS
  rcases st with _ | ⟨v0, st⟩
  · exact False.elim h
  · rcases v0 with x0 | r0
    · exact False.elim h
    · skip
      obtain ⟨hbq, h⟩ := dp_cd h
      have hrt := Nat.eq_of_beq_eq_true hbq
      obtain ⟨hrL, hrk⟩ : r0.2 ∈ L ∧ kd r0.2 = r0.1 := hst (.inr r0) List.mem_cons_self
      rw [hrt] at hrk
      obtain ⟨q0, hq0⟩ := va_pl_get (X := []) (f := dp_ce aC kd G) hrL
      rw [List.nil_append] at hq0
      rw [dp_ce_obj hrk ht] at hq0
      refine va_getN (D := D) (C := C) (T := T) (N := N) (Ts := lw_tb2) (v := (.int (G.1 r0.2 j))) C_.1 C_.2.1 C_.2.2.2.2.2.1 hin C_.2.2.2.2.1 C_.2.2.2.2.2.2.2 hP q0 hq0 hcl j hj (C_.2.2.2.2.2.1 _ hlink) (fun x h => h) ?_ hd ?_
      · rw [dp_mget _ (hN ▸ hj)]; unfold dp_fv; rw [hf]
      · exact hY _ _ _ _ _ _ h hw hl (dp_okc trivial (dp_okt hst)) hls p e s m margs below meth c H locs lsM C_ hlv hP hD hS
theorem ok_getRN {k pc t j idx N : Nat} {C : String} {T : u_T} (hcl : vwCl[t]? = some (C, T, N)) (hin : ∀ w ∈ u_ws C T N, w ∈ lw_tb2) (ht : t < 9) (hN : dp_nf t = N) (hj : j < N) {host : String} {u : Nat} (hf : dp_fr t j = some u) (hlink : Cond.fieldLinkNest (mY k).cls idx (T j).1 (T j).2.1 (T j).2.2.1 host ∈ lw_tb2) (hd : decode (mB k) pc = .ok (.getfield idx, 3)) : dp_OK k pc (o_getR t j u) := by
  intro l D L kd aC Y hY ls st G Q h hw hl hst hls p e s m margs below meth c H locs lsM C_ hlv hP hD hS
  rcases st with _ | ⟨v0, st⟩
  · exact False.elim h
  · rcases v0 with x0 | r0
    · exact False.elim h
    · skip
      obtain ⟨hbq, h⟩ := dp_cd h
      have hrt := Nat.eq_of_beq_eq_true hbq
      obtain ⟨hrL, hrk⟩ : r0.2 ∈ L ∧ kd r0.2 = r0.1 := hst (.inr r0) List.mem_cons_self
      rw [hrt] at hrk
      obtain ⟨q0, hq0⟩ := va_pl_get (X := []) (f := dp_ce aC kd G) hrL
      rw [List.nil_append] at hq0
      rw [dp_ce_obj hrk ht] at hq0
      refine va_getN (D := D) (C := C) (T := T) (N := N) (Ts := lw_tb2) (v := (.ref (G.2 r0.2 j))) C_.1 C_.2.1 C_.2.2.2.2.2.1 hin C_.2.2.2.2.1 C_.2.2.2.2.2.2.2 hP q0 hq0 hcl j hj (C_.2.2.2.2.2.1 _ hlink) (fun x h => h) ?_ hd ?_
      · rw [dp_mget _ (hN ▸ hj)]; unfold dp_fv; rw [hf]
      · exact hY _ _ _ _ _ _ h hw hl (dp_okc (hw r0.2 hrL j u (by rw [hrk]; unfold dp_rt; rw [if_pos ht]; exact hf)) (dp_okt hst)) hls p e s m margs below meth c H locs lsM C_ hlv hP hD hS
theorem ok_putIN {k pc t j idx N : Nat} {C : String} {T : u_T} (hcl : vwCl[t]? = some (C, T, N)) (hin : ∀ w ∈ u_ws C T N, w ∈ lw_tb2) (ht : t < 9) (hN : dp_nf t = N) (hj : j < N) {host : String} (hf : dp_fr t j = none) (ty0 : Nat → FieldType) (hty : ∀ k, k < N → parseFieldDescriptor (T k).2.2.1 = some (ty0 k)) (hnm : ∀ a, a < N → ∀ b, b < N → a ≠ b → (T a).2.1 ≠ (T b).2.1) (hfin : (T j).2.2.2 = false) (hpd : parseFieldDescriptor (T j).2.2.1 = some .int) (hlink : Cond.fieldLinkNest (mY k).cls idx (T j).1 (T j).2.1 (T j).2.2.1 host ∈ lw_tb2) (hd : decode (mB k) pc = .ok (.putfield idx, 3)) : dp_OK k pc (o_putI t j) := by
  intro l D L kd aC Y hY ls st G Q h hw hl hst hls p e s m margs below meth c H locs lsM C_ hlv hP hD hS
  rcases st with _ | ⟨v0, st⟩
  · exact False.elim h
  · rcases v0 with x0 | r0
    rotate_left
    · exact False.elim h
    · skip
      rcases st with _ | ⟨v1, st⟩
      · exact False.elim h
      · rcases v1 with x1 | r1
        · exact False.elim h
        · skip
          obtain ⟨hbq, h⟩ := dp_cd h
          have hrt := Nat.eq_of_beq_eq_true hbq
          obtain ⟨hrL, hrk⟩ : r1.2 ∈ L ∧ kd r1.2 = r1.1 := hst (.inr r1) (List.mem_cons_of_mem _ List.mem_cons_self)
          rw [hrt] at hrk
          obtain ⟨q0, hq0⟩ := va_pl_get (X := []) (f := dp_ce aC kd G) hrL
          rw [List.nil_append] at hq0
          have hq1 := hq0
          rw [dp_ce_obj hrk ht] at hq0
          refine va_putN (D := D) (C := C) (T := T) (N := N) (Ts := lw_tb2) (v := .int x0) (ty := .int) C_.1 C_.2.1 C_.2.2.2.2.2.1 hin ty0 hty hnm C_.2.2.2.2.1 C_.2.2.2.2.2.2.2 hP hD hS q0 hq0 hcl j hj (C_.2.2.2.2.2.1 _ hlink) (fun x h => h) hfin hpd rfl rfl (by rw [List.length_map, List.length_range, hN]; exact hj) hd (fun H1 locs1 hP1 hD1 hS1 => ?_)
          rw [dp_pls hD hrL hq1 (dp_e_put hrk ht hf) (fun b hb => ⟨dp_wI_ne hb, rfl⟩)] at hP1 hD1
          exact hY _ _ _ _ _ _ h hw hl (dp_okt (dp_okt hst)) hls p e s m margs below meth c H1 locs1 lsM C_ hlv hP1 hD1 hS1
theorem ok_putZN {k pc t j idx N : Nat} {C : String} {T : u_T} (hcl : vwCl[t]? = some (C, T, N)) (hin : ∀ w ∈ u_ws C T N, w ∈ lw_tb2) (ht : t < 9) (hN : dp_nf t = N) (hj : j < N) {host : String} (hf : dp_fr t j = none) (ty0 : Nat → FieldType) (hty : ∀ k, k < N → parseFieldDescriptor (T k).2.2.1 = some (ty0 k)) (hnm : ∀ a, a < N → ∀ b, b < N → a ≠ b → (T a).2.1 ≠ (T b).2.1) (hfin : (T j).2.2.2 = false) (hpd : parseFieldDescriptor (T j).2.2.1 = some .boolean) (hlink : Cond.fieldLinkNest (mY k).cls idx (T j).1 (T j).2.1 (T j).2.2.1 host ∈ lw_tb2) (hd : decode (mB k) pc = .ok (.putfield idx, 3)) : dp_OK k pc (o_putZ t j) := by
  intro l D L kd aC Y hY ls st G Q h hw hl hst hls p e s m margs below meth c H locs lsM C_ hlv hP hD hS
  rcases st with _ | ⟨v0, st⟩
  · exact False.elim h
  · rcases v0 with x0 | r0
    rotate_left
    · exact False.elim h
    · skip
      rcases st with _ | ⟨v1, st⟩
      · exact False.elim h
      · rcases v1 with x1 | r1
        · exact False.elim h
        · skip
          obtain ⟨hbq, h⟩ := dp_cd h
          have hrt := Nat.eq_of_beq_eq_true hbq
          obtain ⟨hrL, hrk⟩ : r1.2 ∈ L ∧ kd r1.2 = r1.1 := hst (.inr r1) (List.mem_cons_of_mem _ List.mem_cons_self)
          rw [hrt] at hrk
          obtain ⟨q0, hq0⟩ := va_pl_get (X := []) (f := dp_ce aC kd G) hrL
          rw [List.nil_append] at hq0
          obtain ⟨hz, h⟩ := h
          have hq1 := hq0
          rw [dp_ce_obj hrk ht] at hq0
          refine va_putN (D := D) (C := C) (T := T) (N := N) (Ts := lw_tb2) (v := .int x0) (ty := .boolean) C_.1 C_.2.1 C_.2.2.2.2.2.1 hin ty0 hty hnm C_.2.2.2.2.1 C_.2.2.2.2.2.2.2 hP hD hS q0 hq0 hcl j hj (C_.2.2.2.2.2.1 _ hlink) (fun x h => h) hfin hpd (by rcases hz with rfl | rfl <;> rfl) (by rcases hz with rfl | rfl <;> rfl) (by rw [List.length_map, List.length_range, hN]; exact hj) hd (fun H1 locs1 hP1 hD1 hS1 => ?_)
          rw [dp_pls hD hrL hq1 (dp_e_put hrk ht hf) (fun b hb => ⟨dp_wI_ne hb, rfl⟩)] at hP1 hD1
          exact hY _ _ _ _ _ _ h hw hl (dp_okt (dp_okt hst)) hls p e s m margs below meth c H1 locs1 lsM C_ hlv hP1 hD1 hS1
theorem ok_iald {k pc : Nat} (hd : decode (mB k) pc = .ok (.iaload, 1)) : dp_OK k pc o_iald := by
  intro l D L kd aC Y hY ls st G Q h hw hl hst hls p e s m margs below meth c H locs lsM C hlv hP hD hS
  rcases st with _ | ⟨v0, st⟩
  · exact False.elim h
  · rcases v0 with x0 | r0
    rotate_left
    · exact False.elim h
    · skip
      rcases st with _ | ⟨v1, st⟩
      · exact False.elim h
      · rcases v1 with x1 | r1
        · exact False.elim h
        · skip
          obtain ⟨hbq, h⟩ := dp_cd h
          have hak := Nat.eq_of_beq_eq_true hbq
          obtain ⟨hrL, hrk⟩ : r1.2 ∈ L ∧ kd r1.2 = r1.1 := hst (.inr r1) (List.mem_cons_of_mem _ List.mem_cons_self)
          obtain ⟨q0, hq0⟩ := va_pl_get (X := []) (f := dp_ce aC kd G) hrL
          rw [List.nil_append, dp_ce_int hrk (dp_ak_obj (by omega)) (by omega), hak] at hq0
          refine va_iald C.1 C.2.1 C.2.2.2.2.2.2.2 hP q0 0 hq0 rfl h.1 hd ?_
          exact hY _ _ _ _ _ _ h.2 hw hl (dp_okc trivial (dp_okt (dp_okt hst))) hls p e s m margs below meth c H locs lsM C hlv hP hD hS
theorem ok_cald {k pc : Nat} (hd : decode (mB k) pc = .ok (.caload, 1)) : dp_OK k pc o_cald := by
  intro l D L kd aC Y hY ls st G Q h hw hl hst hls p e s m margs below meth c H locs lsM C hlv hP hD hS
  rcases st with _ | ⟨v0, st⟩
  · exact False.elim h
  · rcases v0 with x0 | r0
    rotate_left
    · exact False.elim h
    · skip
      rcases st with _ | ⟨v1, st⟩
      · exact False.elim h
      · rcases v1 with x1 | r1
        · exact False.elim h
        · skip
          obtain ⟨hbq, h⟩ := dp_cd h
          have hak := Nat.eq_of_beq_eq_true hbq
          obtain ⟨hrL, hrk⟩ : r1.2 ∈ L ∧ kd r1.2 = r1.1 := hst (.inr r1) (List.mem_cons_of_mem _ List.mem_cons_self)
          obtain ⟨q0, hq0⟩ := va_pl_get (X := []) (f := dp_ce aC kd G) hrL
          rw [List.nil_append, dp_ce_int hrk (dp_ak_obj (by omega)) (by omega), hak] at hq0
          refine va_cald C.1 C.2.1 C.2.2.2.2.2.2.2 hP q0 1 hq0 rfl h.1 hd ?_
          exact hY _ _ _ _ _ _ h.2 hw hl (dp_okc trivial (dp_okt (dp_okt hst))) hls p e s m margs below meth c H locs lsM C hlv hP hD hS
theorem ok_iast {k pc : Nat} (hd : decode (mB k) pc = .ok (.iastore, 1)) : dp_OK k pc o_iast := by
  intro l D L kd aC Y hY ls st G Q h hw hl hst hls p e s m margs below meth c H locs lsM C hlv hP hD hS
  rcases st with _ | ⟨v0, st⟩
  · exact False.elim h
  · rcases v0 with x0 | r0
    rotate_left
    · exact False.elim h
    · skip
      rcases st with _ | ⟨v1, st⟩
      · exact False.elim h
      · rcases v1 with x1 | r1
        rotate_left
        · exact False.elim h
        · skip
          rcases st with _ | ⟨v2, st⟩
          · exact False.elim h
          · rcases v2 with x2 | r2
            · exact False.elim h
            · skip
              obtain ⟨hbq, h⟩ := dp_cd h
              have hak := Nat.eq_of_beq_eq_true hbq
              obtain ⟨hrL, hrk⟩ : r2.2 ∈ L ∧ kd r2.2 = r2.1 := hst (.inr r2) (List.mem_cons_of_mem _ (List.mem_cons_of_mem _ List.mem_cons_self))
              obtain ⟨q0, hq0⟩ := va_pl_get (X := []) (f := dp_ce aC kd G) hrL
              rw [List.nil_append] at hq0
              have hq1 := hq0
              rw [dp_ce_int hrk (dp_ak_obj (by omega)) (by omega)] at hq0
              rw [hak] at hq0
              refine va_iast C.1 C.2.1 C.2.2.2.2.2.2.2 hP hD hS q0 0 hq0 rfl h.1 hd (fun H1 locs1 hP1 hD1 hS1 => ?_)
              rw [← hak] at hP1 hD1
              rw [dp_pls hD hrL hq1 (dp_e_iast hrk (dp_ak_obj (by omega)) (by omega)) (fun b hb => ⟨dp_wI_ne hb, rfl⟩)] at hP1 hD1
              exact hY _ _ _ _ _ _ h.2 hw hl (dp_okt (dp_okt (dp_okt hst))) hls p e s m margs below meth c H1 locs1 lsM C hlv hP1 hD1 hS1
theorem ok_cast {k pc : Nat} (hd : decode (mB k) pc = .ok (.castore, 1)) : dp_OK k pc o_cast := by
  intro l D L kd aC Y hY ls st G Q h hw hl hst hls p e s m margs below meth c H locs lsM C hlv hP hD hS
  rcases st with _ | ⟨v0, st⟩
  · exact False.elim h
  · rcases v0 with x0 | r0
    rotate_left
    · exact False.elim h
    · skip
      rcases st with _ | ⟨v1, st⟩
      · exact False.elim h
      · rcases v1 with x1 | r1
        rotate_left
        · exact False.elim h
        · skip
          rcases st with _ | ⟨v2, st⟩
          · exact False.elim h
          · rcases v2 with x2 | r2
            · exact False.elim h
            · skip
              obtain ⟨hbq, h⟩ := dp_cd h
              have hak := Nat.eq_of_beq_eq_true hbq
              obtain ⟨hrL, hrk⟩ : r2.2 ∈ L ∧ kd r2.2 = r2.1 := hst (.inr r2) (List.mem_cons_of_mem _ (List.mem_cons_of_mem _ List.mem_cons_self))
              obtain ⟨q0, hq0⟩ := va_pl_get (X := []) (f := dp_ce aC kd G) hrL
              rw [List.nil_append] at hq0
              have hq1 := hq0
              rw [dp_ce_int hrk (dp_ak_obj (by omega)) (by omega)] at hq0
              rw [hak] at hq0
              refine va_cast C.1 C.2.1 C.2.2.2.2.2.2.2 hP hD hS q0 1 hq0 rfl h.1 hd (fun H1 locs1 hP1 hD1 hS1 => ?_)
              rw [h.2.1] at hP1 hD1
              rw [← hak] at hP1 hD1
              rw [dp_pls hD hrL hq1 (dp_e_iast hrk (dp_ak_obj (by omega)) (by omega)) (fun b hb => ⟨dp_wI_ne hb, rfl⟩)] at hP1 hD1
              exact hY _ _ _ _ _ _ h.2.2 hw hl (dp_okt (dp_okt (dp_okt hst))) hls p e s m margs below meth c H1 locs1 lsM C hlv hP1 hD1 hS1
theorem ok_aald {k pc : Nat} (hd : decode (mB k) pc = .ok (.aaload, 1)) : dp_OK k pc o_aald := by
  intro l D L kd aC Y hY ls st G Q h hw hl hst hls p e s m margs below meth c H locs lsM C hlv hP hD hS
  rcases st with _ | ⟨v0, st⟩
  · exact False.elim h
  · rcases v0 with x0 | r0
    rotate_left
    · exact False.elim h
    · skip
      rcases st with _ | ⟨v1, st⟩
      · exact False.elim h
      · rcases v1 with x1 | r1
        · exact False.elim h
        · skip
          obtain ⟨hbq, h⟩ := dp_cd h
          rw [Bool.and_eq_true] at hbq
          obtain ⟨h13, h15⟩ := hbq
          have h13 := Nat.le_of_ble_eq_true h13
          have h15 := Nat.le_of_ble_eq_true h15
          obtain ⟨hin, h⟩ := h
          obtain ⟨hrL, hrk⟩ : r1.2 ∈ L ∧ kd r1.2 = r1.1 := hst (.inr r1) (List.mem_cons_of_mem _ List.mem_cons_self)
          obtain ⟨q0, hq0⟩ := va_pl_get (X := []) (f := dp_ce aC kd G) hrL
          rw [List.nil_append] at hq0
          have hlt : x0.toNatClampNeg < dp_al r1.1 := Nat.not_le.mp fun q => hin (Or.inr q)
          have hwt : ∀ u, dp_rt (kd r1.2) x0.toNatClampNeg = some u → G.2 r1.2 x0.toNatClampNeg ∈ L ∧ kd (G.2 r1.2 x0.toNatClampNeg) = u := fun u hu => hw r1.2 hrL _ u hu
          obtain ⟨t, a⟩ := r1
          dsimp only at hrk h13 h15 hin h hq0 hlt hwt ⊢
          rw [hrk] at hwt
          rcases (show t = 13 ∨ t = 14 ∨ t = 15 by omega) with rfl | rfl | rfl
          · rw [dp_ce_ref hrk (by decide) (by decide)] at hq0
            refine va_aldq C.1 C.2.1 C.2.2.2.2.2.2.2 hP q0 2 hq0 rfl hin hd ?_
            exact hY _ _ _ _ _ _ h hw hl (dp_okc (hwt 0 (by unfold dp_rt; rw [if_neg (by decide), if_pos ⟨by decide, by decide, hlt⟩]; rfl)) (dp_okt (dp_okt hst))) hls p e s m margs below meth c H locs lsM C hlv hP hD hS
          · rw [dp_ce_ref hrk (by decide) (by decide)] at hq0
            refine va_aldq C.1 C.2.1 C.2.2.2.2.2.2.2 hP q0 3 hq0 rfl hin hd ?_
            exact hY _ _ _ _ _ _ h hw hl (dp_okc (hwt 3 (by unfold dp_rt; rw [if_neg (by decide), if_pos ⟨by decide, by decide, hlt⟩]; rfl)) (dp_okt (dp_okt hst))) hls p e s m margs below meth c H locs lsM C hlv hP hD hS
          · rw [dp_ce_ref hrk (by decide) (by decide)] at hq0
            refine va_aldq C.1 C.2.1 C.2.2.2.2.2.2.2 hP q0 4 hq0 rfl hin hd ?_
            exact hY _ _ _ _ _ _ h hw hl (dp_okc (hwt 2 (by unfold dp_rt; rw [if_neg (by decide), if_pos ⟨by decide, by decide, hlt⟩]; rfl)) (dp_okt (dp_okt hst))) hls p e s m margs below meth c H locs lsM C hlv hP hD hS
theorem ok_aast {k pc : Nat} (hd : decode (mB k) pc = .ok (.aastore, 1)) : dp_OK k pc o_aast := by
  intro l D L kd aC Y hY ls st G Q h hw hl hst hls p e s m margs below meth c H locs lsM C hlv hP hD hS
  rcases st with _ | ⟨v0, st⟩
  · exact False.elim h
  · rcases v0 with x0 | r0
    · exact False.elim h
    · skip
      rcases st with _ | ⟨v1, st⟩
      · exact False.elim h
      · rcases v1 with x1 | r1
        rotate_left
        · exact False.elim h
        · skip
          rcases st with _ | ⟨v2, st⟩
          · exact False.elim h
          · rcases v2 with x2 | r2
            · exact False.elim h
            · skip
              obtain ⟨hbq, h⟩ := dp_cd h
              rw [Bool.and_eq_true, Bool.and_eq_true] at hbq
              obtain ⟨⟨h13, h15⟩, het⟩ := hbq
              have h13 := Nat.le_of_ble_eq_true h13
              have h15 := Nat.le_of_ble_eq_true h15
              have het := Nat.eq_of_beq_eq_true het
              obtain ⟨hin, hh⟩ := h
              obtain ⟨hrL, hrk⟩ : r2.2 ∈ L ∧ kd r2.2 = r2.1 := hst (.inr r2) (List.mem_cons_of_mem _ (List.mem_cons_of_mem _ List.mem_cons_self))
              obtain ⟨hvL, hvk⟩ : r0.2 ∈ L ∧ kd r0.2 = r0.1 := hst (.inr r0) List.mem_cons_self
              obtain ⟨q0, hq0⟩ := va_pl_get (X := []) (f := dp_ce aC kd G) hrL
              rw [List.nil_append] at hq0
              have hq1 := hq0
              obtain ⟨q2, hq2⟩ := va_pl_get (X := []) (f := dp_ce aC kd G) hvL
              rw [List.nil_append] at hq2
              have hWT : dp_WT L kd (wR G r2.2 x1.toNatClampNeg r0.2) := dp_WT_wR hw hvL (by rw [hrk]; exact ⟨h13, h15⟩) (by rw [hvk, hrk, het])
              rw [het] at hvk
              obtain ⟨t, a⟩ := r2
              dsimp only at hrk h13 h15 hin hh hq0 hq1 hWT hrL hvk ⊢
              rcases (show t = 13 ∨ t = 14 ∨ t = 15 by omega) with rfl | rfl | rfl
              · rw [dp_ce_ref hrk (by decide) (by decide)] at hq0
                rw [dp_ce_obj (t := 0) hvk (by decide)] at hq2
                refine va_astq (r := (RX0, TX0, 8)) C.1 C.2.1 C.2.2.2.2.2.2.2 hP hD hS q0 2 q2 0 hq0 rfl hq2 rfl hin hd (fun H1 locs1 hP1 hD1 hS1 => ?_)
                rw [dp_pls hD hrL hq1 (dp_e_aast hrk (by decide) (by decide)) (fun b hb => ⟨rfl, dp_wR_ne hb⟩)] at hP1 hD1
                exact hY _ _ _ _ _ _ hh hWT hl (dp_okt (dp_okt (dp_okt hst))) hls p e s m margs below meth c H1 locs1 lsM C hlv hP1 hD1 hS1
              · rw [dp_ce_ref hrk (by decide) (by decide)] at hq0
                rw [dp_ce_obj (t := 3) hvk (by decide)] at hq2
                refine va_astq (r := (RX3, TX3, 4)) C.1 C.2.1 C.2.2.2.2.2.2.2 hP hD hS q0 3 q2 3 hq0 rfl hq2 rfl hin hd (fun H1 locs1 hP1 hD1 hS1 => ?_)
                rw [dp_pls hD hrL hq1 (dp_e_aast hrk (by decide) (by decide)) (fun b hb => ⟨rfl, dp_wR_ne hb⟩)] at hP1 hD1
                exact hY _ _ _ _ _ _ hh hWT hl (dp_okt (dp_okt (dp_okt hst))) hls p e s m margs below meth c H1 locs1 lsM C hlv hP1 hD1 hS1
              · rw [dp_ce_ref hrk (by decide) (by decide)] at hq0
                rw [dp_ce_obj (t := 2) hvk (by decide)] at hq2
                refine va_astq (r := (RX2, TX2, 12)) C.1 C.2.1 C.2.2.2.2.2.2.2 hP hD hS q0 4 q2 2 hq0 rfl hq2 rfl hin hd (fun H1 locs1 hP1 hD1 hS1 => ?_)
                rw [dp_pls hD hrL hq1 (dp_e_aast hrk (by decide) (by decide)) (fun b hb => ⟨rfl, dp_wR_ne hb⟩)] at hP1 hD1
                exact hY _ _ _ _ _ _ hh hWT hl (dp_okt (dp_okt (dp_okt hst))) hls p e s m margs below meth c H1 locs1 lsM C hlv hP1 hD1 hS1
theorem ok_max {k pc idx : Nat} (h1 : Cond.methodLink (mY k).cls idx Lib.Math.max.name ∈ lw_tb2) (h2 : Cond.static Lib.Math.max.name ∈ lw_tb2) (h3 : Cond.initialized "java/lang/Math" ∈ lw_tb2) (h4 : Cond.code Lib.Math.max.name Lib.Math.max.code 2 (some .int) ∈ lw_tb2) (h5 : 1 ≤ (rm k).frames) (h6 : 21 ≤ (rm k).locals) (hd : decode (mB k) pc = .ok (.invokestatic idx, 3)) : dp_OK k pc o_max := by
  intro l D L kd aC Y hY ls st G Q h hw hl hst hls p e s m margs below meth c H locs lsM C hlv hP hD hS
  rcases st with _ | ⟨v0, st⟩
  · exact False.elim h
  · rcases v0 with x0 | r0
    rotate_left
    · exact False.elim h
    · skip
      rcases st with _ | ⟨v1, st⟩
      · exact False.elim h
      · rcases v1 with x1 | r1
        rotate_left
        · exact False.elim h
        · skip
          obtain ⟨hbq, h⟩ := dp_cd h
          have hle := Nat.le_of_ble_eq_true hbq
          refine va_mmax C.1 C.2.1 (C.2.2.2.1.trans hlv.1.symm) C.2.2.2.2.1 (C.2.2.2.2.2.1 _ h1) (C.2.2.2.2.2.1 _ h2) (C.2.2.2.2.2.1 _ h3) (C.2.2.2.2.2.1 _ h4) h5 (by rw [dp_cat]; omega) (Nat.zero_le _) (Nat.zero_le _) hd ?_
          exact hY _ _ _ _ _ _ h hw hl (dp_okc trivial (dp_okt (dp_okt hst))) hls p e s m margs below meth c H locs lsM C hlv hP hD hS
theorem ok_min {k pc idx : Nat} (h1 : Cond.methodLink (mY k).cls idx Lib.Math.min.name ∈ lw_tb2) (h2 : Cond.static Lib.Math.min.name ∈ lw_tb2) (h3 : Cond.initialized "java/lang/Math" ∈ lw_tb2) (h4 : Cond.code Lib.Math.min.name Lib.Math.min.code 2 (some .int) ∈ lw_tb2) (h5 : 1 ≤ (rm k).frames) (h6 : 21 ≤ (rm k).locals) (hd : decode (mB k) pc = .ok (.invokestatic idx, 3)) : dp_OK k pc o_min := by
  intro l D L kd aC Y hY ls st G Q h hw hl hst hls p e s m margs below meth c H locs lsM C hlv hP hD hS
  rcases st with _ | ⟨v0, st⟩
  · exact False.elim h
  · rcases v0 with x0 | r0
    rotate_left
    · exact False.elim h
    · skip
      rcases st with _ | ⟨v1, st⟩
      · exact False.elim h
      · rcases v1 with x1 | r1
        rotate_left
        · exact False.elim h
        · skip
          obtain ⟨hbq, h⟩ := dp_cd h
          have hle := Nat.le_of_ble_eq_true hbq
          refine va_mmin C.1 C.2.1 (C.2.2.2.1.trans hlv.1.symm) C.2.2.2.2.1 (C.2.2.2.2.2.1 _ h1) (C.2.2.2.2.2.1 _ h2) (C.2.2.2.2.2.1 _ h3) (C.2.2.2.2.2.1 _ h4) h5 (by rw [dp_cat]; omega) (Nat.zero_le _) (Nat.zero_le _) hd ?_
          exact hY _ _ _ _ _ _ h hw hl (dp_okc trivial (dp_okt (dp_okt hst))) hls p e s m margs below meth c H locs lsM C hlv hP hD hS
theorem ok_acp {k pc idx : Nat} (h1 : Cond.methodLink (mY k).cls idx arraycopyName ∈ lw_tb2) (h2 : Cond.native arraycopyName ∈ lw_tb2) (h3 : Cond.static arraycopyName ∈ lw_tb2) (h4 : Cond.initialized "java/lang/System" ∈ lw_tb2) (h5 : 1 ≤ (rm k).frames) (h6 : 8 + (nativeFrameWords "java/lang/System" "arraycopy" 5 + 11) ≤ (rm k).locals) (hd : decode (mB k) pc = .ok (.invokestatic idx, 3)) : dp_OK k pc o_acp := by
  intro l D L kd aC Y hY ls st G Q h hw hl hst hls p e s m margs below meth c H locs lsM C hlv hP hD hS
  rcases st with _ | ⟨v0, st⟩
  · exact False.elim h
  · rcases v0 with x0 | r0
    rotate_left
    · exact False.elim h
    · skip
      rcases st with _ | ⟨v1, st⟩
      · exact False.elim h
      · rcases v1 with x1 | r1
        rotate_left
        · exact False.elim h
        · skip
          rcases st with _ | ⟨v2, st⟩
          · exact False.elim h
          · rcases v2 with x2 | r2
            · exact False.elim h
            · skip
              rcases st with _ | ⟨v3, st⟩
              · exact False.elim h
              · rcases v3 with x3 | r3
                rotate_left
                · exact False.elim h
                · skip
                  rcases st with _ | ⟨v4, st⟩
                  · exact False.elim h
                  · rcases v4 with x4 | r4
                    · exact False.elim h
                    · skip
                      obtain ⟨hbq, h⟩ := dp_cd h
                      rw [Bool.and_eq_true, Bool.and_eq_true] at hbq
                      obtain ⟨⟨hr, hq⟩, hle⟩ := hbq
                      have hr := Nat.eq_of_beq_eq_true hr
                      have hq := Nat.eq_of_beq_eq_true hq
                      have hle := Nat.le_of_ble_eq_true hle
                      obtain ⟨⟨g1, g2, g3, g4, g5⟩, h⟩ := h
                      obtain ⟨hrL, hrk⟩ : r2.2 ∈ L ∧ kd r2.2 = r2.1 := hst (.inr r2) (List.mem_cons_of_mem _ (List.mem_cons_of_mem _ List.mem_cons_self))
                      obtain ⟨hqL, hqk⟩ : r4.2 ∈ L ∧ kd r4.2 = r4.1 := hst (.inr r4) (List.mem_cons_of_mem _ (List.mem_cons_of_mem _ (List.mem_cons_of_mem _ (List.mem_cons_of_mem _ List.mem_cons_self))))
                      obtain ⟨q0, hq0⟩ := va_pl_get (X := []) (f := dp_ce aC kd G) hqL
                      rw [List.nil_append, dp_ce_int hqk (dp_ak_obj (by omega)) (by omega), hq] at hq0
                      obtain ⟨q1, hq1⟩ := va_pl_get (X := []) (f := dp_ce aC kd G) hrL
                      rw [List.nil_append] at hq1
                      have hq3 := hq1
                      rw [dp_ce_int hrk (dp_ak_obj (by omega)) (by omega), hr] at hq1
                      refine va_copyi (ty := .int) C.1 C.2.1 (C.2.2.2.1.trans hlv.1.symm) C.2.2.2.2.1 (C.2.2.2.2.2.1 _ h1) (C.2.2.2.2.2.1 _ h2) (C.2.2.2.2.2.1 _ h3) (C.2.2.2.2.2.1 _ h4) C.2.2.2.2.2.2.2 hP hD hS q0 q1 0 0 hq0 hq1 rfl rfl rfl g1 g2 g3 g4 g5 (fun i hi => rfl) h5 (by rw [dp_cat]; omega) hd (fun H1 locs1 hP1 hD1 hS1 => ?_)
                      rw [← hr] at hP1 hD1
                      rw [dp_pls hD hrL hq3 (dp_e_acp hrk (dp_ak_obj (by omega)) (by omega)) (fun b hb => ⟨dp_wC_ne hb, rfl⟩)] at hP1 hD1
                      exact hY _ _ _ _ _ _ h hw hl (dp_okt (dp_okt (dp_okt (dp_okt (dp_okt hst))))) hls p e s m margs below meth c H1 locs1 lsM C hlv hP1 hD1 hS1
theorem dp_swIn {f : Nat → Prop} {d : Nat} {x : Int32} : ∀ (ts : List Nat) (lo : Int), dp_sw f ts lo x d → (∃ j t : Nat, ts[j]? = some t ∧ x.toInt = lo + j ∧ f t) ∨ ((∀ j : Nat, j < ts.length → ¬ x.toInt = lo + j) ∧ f d)
  | [], lo, h => Or.inr ⟨fun j hj => by simp at hj, h⟩
  | t :: ts, lo, h => by
    by_cases hx : x.toInt = lo
    · exact Or.inl ⟨0, t, rfl, by omega, h.1 hx⟩
    · rcases dp_swIn ts (lo + 1) (h.2 hx) with ⟨j, t', h1, h2, h3⟩ | ⟨h1, h2⟩
      · exact Or.inl ⟨j + 1, t', h1, by omega, h3⟩
      · refine Or.inr ⟨fun j hj => ?_, h2⟩
        cases j with
        | zero => omega
        | succ j =>
          have := h1 j (by simpa using hj)
          omega
def dp_offs (pc : Nat) : List Int → List Nat → Prop
  | [], [] => True
  | o :: os, t :: ts => (pc : Int) + o = (t : Int) ∧ dp_offs pc os ts
  | _, _ => False
theorem dp_offs_at {pc : Nat} : ∀ (os : List Int) (ts : List Nat), dp_offs pc os ts → os.length = ts.length ∧ ∀ j t : Nat, ts[j]? = some t → ∃ o : Int, os[j]? = some o ∧ (pc : Int) + o = (t : Int)
  | [], [], _ => ⟨rfl, fun j t h => by simp at h⟩
  | [], t :: ts, h => False.elim h
  | o :: os, [], h => False.elim h
  | o :: os, t :: ts, h => by
    obtain ⟨h1, h2⟩ := dp_offs_at os ts h.2
    refine ⟨by simp [h1], fun j t' hj => ?_⟩
    cases j with
    | zero =>
      have : t = t' := by simpa using hj
      exact ⟨o, rfl, by rw [← this]; exact h.1⟩
    | succ j => exact h2 j t' hj
theorem ok_tsw {k pc d len : Nat} {dflt lo hi : Int} {offs : Array Int} {ts : List Nat} (hd : decode (mB k) pc = .ok (.tableswitch dflt lo hi offs, len)) (ho : (hi = lo + offs.toList.length - 1) ∧ dp_offs pc offs.toList ts) (hdf : (pc : Int) + dflt = (d : Int)) : dp_OK k pc (o_tsw lo ts d) := by
  intro l D L kd aC Y hY ls st G Q h hw hl hst hls p e s m margs below meth c H locs lsM C hlv hP hD hS
  rcases st with _ | ⟨v0, st⟩
  · exact False.elim h
  · rcases v0 with x0 | r0
    rotate_left
    · exact False.elim h
    · skip
      obtain ⟨hlen, hat⟩ := dp_offs_at _ _ ho.2
      rcases dp_swIn ts lo h with ⟨j, t, h1, h2, h3⟩ | ⟨h1, h2⟩
      · have hj : j < ts.length := (List.getElem?_eq_some_iff.mp h1).1
        obtain ⟨off, g1, g2⟩ := hat j t h1
        have hh := ho.1
        refine lv_tableIn C.1 C.2.1 hd (by omega) (by omega) (off := off) ?_ g2 ?_
        · rw [show (x0.toInt - lo).toNat = j from by omega, ← Array.getElem?_toList]; exact g1
        · exact hY _ _ _ _ _ _ h3 hw hl (dp_okt hst) hls p e s m margs below meth c H locs lsM C hlv hP hD hS
      · have hh := ho.1
        refine lv_tableOut C.1 C.2.1 hd ?_ hdf ?_
        · by_cases hlo : x0.toInt < lo
          · exact Or.inl hlo
          · refine Or.inr ?_
            by_cases hhi : hi < x0.toInt
            · exact hhi
            · exfalso
              refine h1 (x0.toInt - lo).toNat (by omega) (by omega)
        · exact hY _ _ _ _ _ _ h2 hw hl (dp_okt hst) hls p e s m margs below meth c H locs lsM C hlv hP hD hS
theorem ok_vret {k pc : Nat} (hT : mT k = none) (hd : decode (mB k) pc = .ok (.return_, 1)) : dp_OK k pc o_vret := by
  intro l D L kd aC Y hY ls st G Q h hw hl hst hls p e s m margs below meth c H locs lsM C hlv hP hD hS
  rcases st with _ | ⟨v0, st⟩
  rotate_left
  · exact False.elim h
  have hr := C.2.2.1
  rw [hT] at hr
  unfold dp_Q
  rw [hT]
  exact W.vret C.1 C.2.1 hr (fun t ht hW => ⟨⟨G, rfl, ⟨h, hw⟩, by rw [ht]; exact hP, va_K.moved hW.alike C.2.2.2.2.2.2.2, hD⟩, hS.F ht⟩) hS.2.2 hd (hlocks := C.2.2.2.2.2.2.1)
theorem ok_iret {k pc : Nat} (hT : mT k = some .int) (hd : decode (mB k) pc = .ok (.ireturn, 1)) : dp_OK k pc o_iret := by
  intro l D L kd aC Y hY ls st G Q h hw hl hst hls p e s m margs below meth c H locs lsM C hlv hP hD hS
  rcases st with _ | ⟨v0, st⟩
  · exact False.elim h
  · rcases v0 with x0 | r0
    rotate_left
    · exact False.elim h
    · skip
      rcases st with _ | ⟨v1, st⟩
      rotate_left
      · exact False.elim h
      have hr := C.2.2.1
      rw [hT] at hr
      unfold dp_Q
      rw [hT]
      exact W.iret C.1 C.2.1 hr (fun t ht hW => ⟨⟨x0, G, rfl, ⟨h, hw⟩, by rw [ht]; exact hP, va_K.moved hW.alike C.2.2.2.2.2.2.2, hD⟩, hS.F ht⟩) hS.2.2 hd (hlocks := C.2.2.2.2.2.2.1)
theorem ok_zret {k pc : Nat} (hT : mT k = some .boolean) (hd : decode (mB k) pc = .ok (.ireturn, 1)) : dp_OK k pc o_zret := by
  intro l D L kd aC Y hY ls st G Q h hw hl hst hls p e s m margs below meth c H locs lsM C hlv hP hD hS
  rcases st with _ | ⟨v0, st⟩
  · exact False.elim h
  · rcases v0 with x0 | r0
    rotate_left
    · exact False.elim h
    · skip
      rcases st with _ | ⟨v1, st⟩
      rotate_left
      · exact False.elim h
      have hr := C.2.2.1
      rw [hT] at hr
      unfold dp_Q
      rw [hT]
      exact W.zret C.1 C.2.1 hr (by rcases h.1 with rfl | rfl <;> rfl) (fun t ht hW => ⟨⟨x0, G, rfl, ⟨h.2, hw⟩, by rw [ht]; exact hP, va_K.moved hW.alike C.2.2.2.2.2.2.2, hD⟩, hS.F ht⟩) hS.2.2 hd (hlocks := C.2.2.2.2.2.2.1)
theorem dp_FB {D : va_G} {L : List Nat} {kd aC : Nat → Nat} {G : Mm} {as : List Value} : FrameBlind (va_Pc as (dp_B D L kd aC G)) := fun a U g mk q => ⟨q.1, q.2.1, va_K.moved (u := U) (U := U.calling g mk a) (Vm.Alike.refl U.vm) q.2.2.1, q.2.2.2⟩
theorem dp_mWc (k : Nat) (h : Cond.code (mY k) (mB k) (mL k) (mT k) ∈ lw_tb2) (hg : goodWord (Cond.code (mY k) (mB k) (mL k) (mT k)) = true) : GoodIn lw_tb2 (mW k) := by
  intro w hw
  rcases List.mem_cons.mp hw with rfl | hw
  · exact ⟨h, good_of_word hg⟩
  · exact dp_good w hw
theorem dp_wsIn {ws ws' : List Cond} (h1 : GoodIn lw_tb2 ws) (h2 : GoodIn lw_tb2 ws') : GoodIn lw_tb2 (ws ++ ws') := fun w h => (List.mem_append.mp h).elim (h1 w) (h2 w)
theorem dp_drop_split {n : Nat} {st : List Vl} {r : Vl} {rest : List Vl} (h : st.drop n = r :: rest) : st = (st.take n).reverse.reverse ++ r :: rest ∧ (st.take n).reverse.length = n := by
  have h1 := List.take_append_drop n st
  rw [h] at h1
  refine ⟨by rw [List.reverse_reverse]; exact h1.symm, ?_⟩
  rw [List.length_reverse, List.length_take]
  have : (st.drop n).length = rest.length + 1 := by rw [h]; rfl
  rw [List.length_drop] at this
  omega
theorem ok_callv {k k' pc idx n mLl : Nat} (h1 : Cond.methodLink (mY k).cls idx (mY k') ∈ lw_tb2) (h2 : Cond.static (mY k') ∈ lw_tb2) (h4 : Cond.initialized (mY k').cls ∈ lw_tb2) (h5 : Cond.code (mY k') (mB k') (mL k') (mT k') ∈ lw_tb2) (hpn : plainName (mY k').cls = true) (hml : n ≤ mL k') (hd0 : (mY k').cls ≠ "java/lang/invoke/MethodHandle" ∧ (mY k').cls ≠ "java/lang/invoke/VarHandle" ∧ (parseMethodDescriptor (mY k').desc).map (fun d => d.parameters.length) = some n) (hR : (rm k').frames + 1 ≤ (rm k).frames ∧ 8 + (mL k' + 11) + (rm k').locals ≤ (rm k).locals) (hT : mT k' = none) (hd : decode (mB k) pc = .ok (.invokestatic idx, 3)) (hmm : mL k' = mLl := by rfl) (hown : (mY k').cls = (mY k).cls := by rfl) : dp_OK k pc (o_call k' mLl n true) := by
  intro l D L kd aC Y hY ls st G Q h hw hl hst hls p e s m margs below meth c H locs lsM C hlv hP hD hS
  subst hmm
  obtain ⟨hbq, h⟩ := dp_cd h
  rw [Bool.and_eq_true] at hbq
  have hn := Nat.le_of_ble_eq_true hbq.1
  have hle := Nat.le_of_ble_eq_true hbq.2
  have hsp : st.map dp_tv = ((st.take n).reverse.map dp_tv).reverse ++ (st.drop n).map dp_tv := by rw [← List.map_reverse, List.reverse_reverse, ← List.map_append, List.take_append_drop]
  have hlen : (st.take n).reverse.length = n := by rw [List.length_reverse, List.length_take]; omega
  have hM := dp_met hpn (by rw [hlen]; exact hml) (hY _ _ _ _ _ _ h) hw (fun v hv => hst v (List.mem_of_mem_take (List.mem_reverse.mp hv)))
  have hx1 : dp_Q D L kd aC k' (fun x G' => Y k (pc + 3) ls (cond true (st.drop n) (vI x :: st.drop n)) G' Q) = va_Qv (fun G' : Mm => Y k (pc + 3) ls (st.drop n) G' Q ∧ dp_WT L kd G') (fun G' t => dp_B D L kd aC G' t) (fun q => q ∈ L) := by unfold dp_Q; rw [hT]; rfl
  rw [hx1] at hM
  refine va_callv (va_runS (As := (st.take n).reverse.map dp_tv) (rest := (st.drop n).map dp_tv) ⟨C.1, C.2.1, C.2.2.2.1, C.2.2.2.2.1, C.2.2.2.2.2.1⟩ hM (cwS n C.2.2.2.2.2.1 ?_ rfl rfl rfl ?_ hR) ⟨dp_FB, fun U hU hW => ⟨rfl, by rw [hU]; exact hP, va_K.moved hW.alike C.2.2.2.2.2.2.2, hD⟩⟩ rfl (by rw [List.length_map]; exact hlen) hlv.1 hsp (lv_room (by rw [dp_cat]; exact hle)) hd ⟨Nat.zero_le _, Nat.zero_le _⟩) hS (fun q _ h => h) (fun q h => h) (fun u t H1 locs1 ht hvm hw1 hB1 hz1 hk1 hS1 => ?_)
  · rw [← hown]
    refine dp_wsIn ?_ (dp_mWc k' h5 rfl)
    intro w hw
    simp only [List.mem_cons, List.mem_nil_iff, or_false] at hw
    rcases hw with rfl | rfl | rfl
    · rw [hown]; exact dp_good _ h1
    · exact dp_good _ h2
    · exact dp_good _ h4
  · exact ⟨hown, hd0⟩
  · obtain ⟨hP1, hK1, hD1⟩ := hB1
    rw [ht] at hP1
    exact hY _ _ _ _ _ _ hw1.1 hw1.2 hl (fun w hw => hst w (List.mem_of_mem_drop hw)) hls p e s m margs below meth c H1 locs1 lsM C hlv hP1 hD1 hS1
theorem ok_callVv {k k' pc idx n t N mLl : Nat} {C : String} {T : u_T} (hcl : vwCl[t]? = some (C, T, N)) (hcc : (mY k').cls = C) (ht : t < 9) (h1 : Cond.methodLink (mY k).cls idx (mY k') ∈ lw_tb2) (h2 : Cond.instanceMethod (mY k') ∈ lw_tb2) (h3 : Cond.selects C (mY k') (mY k') ∈ lw_tb2) (h4 : Cond.initialized (mY k').cls ∈ lw_tb2) (h5 : Cond.code (mY k') (mB k') (mL k') (mT k') ∈ lw_tb2) (hpn : plainName (mY k').cls = true) (hml : n + 1 ≤ mL k') (hd0 : (mY k').cls ≠ "java/lang/invoke/MethodHandle" ∧ (mY k').cls ≠ "java/lang/invoke/VarHandle" ∧ (parseMethodDescriptor (mY k').desc).map (fun d => d.parameters.length) = some n) (hR : (rm k').frames + 1 ≤ (rm k).frames ∧ 8 + (mL k' + 11) + (rm k').locals ≤ (rm k).locals) (hT : mT k' = none) (hd : decode (mB k) pc = .ok (.invokevirtual idx, 3)) (hmm : mL k' = mLl := by rfl) : dp_OK k pc (o_callV k' mLl t n true) := by
  intro l D L kd aC Y hY ls st G Q h hw hl hst hls p e s m margs below meth c H locs lsM C_ hlv hP hD hS
  subst hmm
  unfold o_callV at h
  rcases hdr : st.drop n with _ | ⟨v0, rest⟩
  · rw [hdr] at h; exact False.elim h
  rw [hdr] at h
  rcases v0 with x0 | r
  · exact False.elim h
  obtain ⟨hbq, h⟩ := dp_cd h
  rw [Bool.and_eq_true] at hbq
  have hrt := Nat.eq_of_beq_eq_true hbq.1
  have hle := Nat.le_of_ble_eq_true hbq.2
  obtain ⟨hsp0, hlen⟩ := dp_drop_split hdr
  have hmr : Sum.inr r ∈ st := List.mem_of_mem_drop (i := n) (by rw [hdr]; exact List.mem_cons_self)
  have hrs : ∀ w, w ∈ rest → dp_ok L kd w := fun w hw => hst w (List.mem_of_mem_drop (i := n) (by rw [hdr]; exact List.mem_cons_of_mem _ hw))
  obtain ⟨hrL, hrk⟩ : r.2 ∈ L ∧ kd r.2 = r.1 := hst (.inr r) hmr
  rw [hrt] at hrk
  obtain ⟨q0, hq0⟩ := va_pl_get (X := []) (f := dp_ce aC kd G) hrL
  rw [List.nil_append, dp_ce_obj hrk ht] at hq0
  have hsp : st.map dp_tv = ((st.take n).reverse.map dp_tv).reverse ++ .ref r.2 :: rest.map dp_tv := by
    have e := congrArg (List.map dp_tv) hsp0
    rw [List.map_append, List.map_reverse] at e
    exact e
  have hM := dp_met hpn (by rw [List.length_cons, hlen]; exact hml) (hY _ _ _ _ _ _ h) hw (dp_okc (hst (.inr r) hmr) (fun v hv => hst v (List.mem_of_mem_take (List.mem_reverse.mp hv))))
  have hx1 : dp_Q D L kd aC k' (fun x G' => Y k (pc + 3) ls (cond true rest (vI x :: rest)) G' Q) = va_Qv (fun G' : Mm => Y k (pc + 3) ls rest G' Q ∧ dp_WT L kd G') (fun G' t => dp_B D L kd aC G' t) (fun q => q ∈ L) := by unfold dp_Q; rw [hT]; rfl
  rw [hx1] at hM
  refine va_callv (va_runV (C := C) (As := (st.take n).reverse.map dp_tv) (rest := rest.map dp_tv) ⟨C_.1, C_.2.1, C_.2.2.2.1, C_.2.2.2.2.1, C_.2.2.2.2.2.1⟩ hM (cwV n C_.2.2.2.2.2.1 ?_ rfl rfl rfl ⟨hcc, hd0⟩ hR) ⟨dp_FB, va_recv C_.2.2.2.2.2.2.2 hP hcl hq0, fun U hU hW => ⟨rfl, by rw [hU]; exact hP, va_K.moved hW.alike C_.2.2.2.2.2.2.2, hD⟩⟩ rfl (by rw [List.length_map]; exact hlen) hlv.1 hsp (lv_room (by rw [dp_cat]; exact hle)) hd ⟨Nat.zero_le _, Nat.zero_le _⟩) hS (fun q _ h => h) (fun q h => h) (fun u t H1 locs1 ht hvm hw1 hB1 hz1 hk1 hS1 => ?_)
  · refine dp_wsIn ?_ (dp_mWc k' h5 rfl)
    intro w hw
    simp only [List.mem_cons, List.mem_nil_iff, or_false] at hw
    rcases hw with rfl | rfl | rfl | rfl
    · exact dp_good _ h1
    · exact dp_good _ h2
    · exact dp_good _ h3
    · rw [← hcc]; exact dp_good _ h4
  · obtain ⟨hP1, hK1, hD1⟩ := hB1
    rw [ht] at hP1
    exact hY _ _ _ _ _ _ hw1.1 hw1.2 hl hrs hls p e s m margs below meth c H1 locs1 lsM C_ hlv hP1 hD1 hS1
theorem ok_callVvN {k k' pc idx n t N mLl : Nat} {C : String} {T : u_T} {host : String} (hcl : vwCl[t]? = some (C, T, N)) (hcc : (mY k').cls = C) (ht : t < 9) (h1 : Cond.methodLinkNest (mY k).cls idx (mY k') host ∈ lw_tb2) (h2 : Cond.instanceMethod (mY k') ∈ lw_tb2) (h3 : Cond.selects C (mY k') (mY k') ∈ lw_tb2) (h4 : Cond.initialized (mY k').cls ∈ lw_tb2) (h5 : Cond.code (mY k') (mB k') (mL k') (mT k') ∈ lw_tb2) (hpn : plainName (mY k').cls = true) (hml : n + 1 ≤ mL k') (hd0 : (mY k').cls ≠ "java/lang/invoke/MethodHandle" ∧ (mY k').cls ≠ "java/lang/invoke/VarHandle" ∧ (parseMethodDescriptor (mY k').desc).map (fun d => d.parameters.length) = some n) (hR : (rm k').frames + 1 ≤ (rm k).frames ∧ 8 + (mL k' + 11) + (rm k').locals ≤ (rm k).locals) (hT : mT k' = none) (hd : decode (mB k) pc = .ok (.invokevirtual idx, 3)) (hmm : mL k' = mLl := by rfl) : dp_OK k pc (o_callV k' mLl t n true) := by
  intro l D L kd aC Y hY ls st G Q h hw hl hst hls p e s m margs below meth c H locs lsM C_ hlv hP hD hS
  subst hmm
  unfold o_callV at h
  rcases hdr : st.drop n with _ | ⟨v0, rest⟩
  · rw [hdr] at h; exact False.elim h
  rw [hdr] at h
  rcases v0 with x0 | r
  · exact False.elim h
  obtain ⟨hbq, h⟩ := dp_cd h
  rw [Bool.and_eq_true] at hbq
  have hrt := Nat.eq_of_beq_eq_true hbq.1
  have hle := Nat.le_of_ble_eq_true hbq.2
  obtain ⟨hsp0, hlen⟩ := dp_drop_split hdr
  have hmr : Sum.inr r ∈ st := List.mem_of_mem_drop (i := n) (by rw [hdr]; exact List.mem_cons_self)
  have hrs : ∀ w, w ∈ rest → dp_ok L kd w := fun w hw => hst w (List.mem_of_mem_drop (i := n) (by rw [hdr]; exact List.mem_cons_of_mem _ hw))
  obtain ⟨hrL, hrk⟩ : r.2 ∈ L ∧ kd r.2 = r.1 := hst (.inr r) hmr
  rw [hrt] at hrk
  obtain ⟨q0, hq0⟩ := va_pl_get (X := []) (f := dp_ce aC kd G) hrL
  rw [List.nil_append, dp_ce_obj hrk ht] at hq0
  have hsp : st.map dp_tv = ((st.take n).reverse.map dp_tv).reverse ++ .ref r.2 :: rest.map dp_tv := by
    have e := congrArg (List.map dp_tv) hsp0
    rw [List.map_append, List.map_reverse] at e
    exact e
  have hM := dp_met hpn (by rw [List.length_cons, hlen]; exact hml) (hY _ _ _ _ _ _ h) hw (dp_okc (hst (.inr r) hmr) (fun v hv => hst v (List.mem_of_mem_take (List.mem_reverse.mp hv))))
  have hx1 : dp_Q D L kd aC k' (fun x G' => Y k (pc + 3) ls (cond true rest (vI x :: rest)) G' Q) = va_Qv (fun G' : Mm => Y k (pc + 3) ls rest G' Q ∧ dp_WT L kd G') (fun G' t => dp_B D L kd aC G' t) (fun q => q ∈ L) := by unfold dp_Q; rw [hT]; rfl
  rw [hx1] at hM
  refine va_callv (va_runVN (C := C) (As := (st.take n).reverse.map dp_tv) (rest := rest.map dp_tv) ⟨C_.1, C_.2.1, C_.2.2.2.1, C_.2.2.2.2.1, C_.2.2.2.2.2.1⟩ hM ⟨va_cnB n C_.2.2.2.2.2.1 (dp_mWc k' h5 rfl) rfl rfl rfl (C_.2.2.2.2.2.1 _ h1) (C_.2.2.2.2.2.1 _ h4) hd0 hR, C_.2.2.2.2.2.1 _ h2, C_.2.2.2.2.2.1 _ h3⟩ ⟨dp_FB, va_recv C_.2.2.2.2.2.2.2 hP hcl hq0, fun U hU hW => ⟨rfl, by rw [hU]; exact hP, va_K.moved hW.alike C_.2.2.2.2.2.2.2, hD⟩⟩ rfl (by rw [List.length_map]; exact hlen) hlv.1 hsp (lv_room (by rw [dp_cat]; exact hle)) hd ⟨Nat.zero_le _, Nat.zero_le _⟩) hS (fun q _ h => h) (fun q h => h) (fun u t H1 locs1 ht hvm hw1 hB1 hz1 hk1 hS1 => ?_)
  · obtain ⟨hP1, hK1, hD1⟩ := hB1
    rw [ht] at hP1
    exact hY _ _ _ _ _ _ hw1.1 hw1.2 hl hrs hls p e s m margs below meth c H1 locs1 lsM C_ hlv hP1 hD1 hS1
theorem ok_calli {k k' pc idx n mLl : Nat} (h1 : Cond.methodLink (mY k).cls idx (mY k') ∈ lw_tb2) (h2 : Cond.static (mY k') ∈ lw_tb2) (h4 : Cond.initialized (mY k').cls ∈ lw_tb2) (h5 : Cond.code (mY k') (mB k') (mL k') (mT k') ∈ lw_tb2) (hpn : plainName (mY k').cls = true) (hml : n ≤ mL k') (hd0 : (mY k').cls ≠ "java/lang/invoke/MethodHandle" ∧ (mY k').cls ≠ "java/lang/invoke/VarHandle" ∧ (parseMethodDescriptor (mY k').desc).map (fun d => d.parameters.length) = some n) (hR : (rm k').frames + 1 ≤ (rm k).frames ∧ 8 + (mL k' + 11) + (rm k').locals ≤ (rm k).locals) {ty : FieldType} (hT : mT k' = some ty) (hd : decode (mB k) pc = .ok (.invokestatic idx, 3)) (hmm : mL k' = mLl := by rfl) (hown : (mY k').cls = (mY k).cls := by rfl) : dp_OK k pc (o_call k' mLl n false) := by
  intro l D L kd aC Y hY ls st G Q h hw hl hst hls p e s m margs below meth c H locs lsM C hlv hP hD hS
  subst hmm
  obtain ⟨hbq, h⟩ := dp_cd h
  rw [Bool.and_eq_true] at hbq
  have hn := Nat.le_of_ble_eq_true hbq.1
  have hle := Nat.le_of_ble_eq_true hbq.2
  have hsp : st.map dp_tv = ((st.take n).reverse.map dp_tv).reverse ++ (st.drop n).map dp_tv := by rw [← List.map_reverse, List.reverse_reverse, ← List.map_append, List.take_append_drop]
  have hlen : (st.take n).reverse.length = n := by rw [List.length_reverse, List.length_take]; omega
  have hM := dp_met hpn (by rw [hlen]; exact hml) (hY _ _ _ _ _ _ h) hw (fun v hv => hst v (List.mem_of_mem_take (List.mem_reverse.mp hv)))
  have hx1 : dp_Q D L kd aC k' (fun x G' => Y k (pc + 3) ls (cond false (st.drop n) (vI x :: st.drop n)) G' Q) = va_Qi (fun (x : Int32) (G' : Mm) => Y k (pc + 3) ls (vI x :: st.drop n) G' Q ∧ dp_WT L kd G') (fun G' t => dp_B D L kd aC G' t) (fun q => q ∈ L) := by unfold dp_Q; rw [hT]; rfl
  rw [hx1] at hM
  refine va_calli (va_runS (As := (st.take n).reverse.map dp_tv) (rest := (st.drop n).map dp_tv) ⟨C.1, C.2.1, C.2.2.2.1, C.2.2.2.2.1, C.2.2.2.2.2.1⟩ hM (cwS n C.2.2.2.2.2.1 ?_ rfl rfl rfl ?_ hR) ⟨dp_FB, fun U hU hW => ⟨rfl, by rw [hU]; exact hP, va_K.moved hW.alike C.2.2.2.2.2.2.2, hD⟩⟩ rfl (by rw [List.length_map]; exact hlen) hlv.1 hsp (lv_room (by rw [dp_cat]; exact hle)) hd ⟨Nat.zero_le _, Nat.zero_le _⟩) hS (fun q _ h => h) (fun q h => h) (fun x u t H1 locs1 ht hvm hw1 hB1 hz1 hk1 hS1 => ?_)
  · rw [← hown]
    refine dp_wsIn ?_ (dp_mWc k' h5 rfl)
    intro w hw
    simp only [List.mem_cons, List.mem_nil_iff, or_false] at hw
    rcases hw with rfl | rfl | rfl
    · rw [hown]; exact dp_good _ h1
    · exact dp_good _ h2
    · exact dp_good _ h4
  · exact ⟨hown, hd0⟩
  · obtain ⟨hP1, hK1, hD1⟩ := hB1
    rw [ht] at hP1
    exact hY _ _ _ _ _ _ hw1.1 hw1.2 hl (dp_okc trivial (fun w hw => hst w (List.mem_of_mem_drop hw))) hls p e s m margs below meth c H1 locs1 lsM C hlv hP1 hD1 hS1
theorem ok_callVi {k k' pc idx n t N mLl : Nat} {C : String} {T : u_T} (hcl : vwCl[t]? = some (C, T, N)) (hcc : (mY k').cls = C) (ht : t < 9) (h1 : Cond.methodLink (mY k).cls idx (mY k') ∈ lw_tb2) (h2 : Cond.instanceMethod (mY k') ∈ lw_tb2) (h3 : Cond.selects C (mY k') (mY k') ∈ lw_tb2) (h4 : Cond.initialized (mY k').cls ∈ lw_tb2) (h5 : Cond.code (mY k') (mB k') (mL k') (mT k') ∈ lw_tb2) (hpn : plainName (mY k').cls = true) (hml : n + 1 ≤ mL k') (hd0 : (mY k').cls ≠ "java/lang/invoke/MethodHandle" ∧ (mY k').cls ≠ "java/lang/invoke/VarHandle" ∧ (parseMethodDescriptor (mY k').desc).map (fun d => d.parameters.length) = some n) (hR : (rm k').frames + 1 ≤ (rm k).frames ∧ 8 + (mL k' + 11) + (rm k').locals ≤ (rm k).locals) {ty : FieldType} (hT : mT k' = some ty) (hd : decode (mB k) pc = .ok (.invokevirtual idx, 3)) (hmm : mL k' = mLl := by rfl) : dp_OK k pc (o_callV k' mLl t n false) := by
  intro l D L kd aC Y hY ls st G Q h hw hl hst hls p e s m margs below meth c H locs lsM C_ hlv hP hD hS
  subst hmm
  unfold o_callV at h
  rcases hdr : st.drop n with _ | ⟨v0, rest⟩
  · rw [hdr] at h; exact False.elim h
  rw [hdr] at h
  rcases v0 with x0 | r
  · exact False.elim h
  obtain ⟨hbq, h⟩ := dp_cd h
  rw [Bool.and_eq_true] at hbq
  have hrt := Nat.eq_of_beq_eq_true hbq.1
  have hle := Nat.le_of_ble_eq_true hbq.2
  obtain ⟨hsp0, hlen⟩ := dp_drop_split hdr
  have hmr : Sum.inr r ∈ st := List.mem_of_mem_drop (i := n) (by rw [hdr]; exact List.mem_cons_self)
  have hrs : ∀ w, w ∈ rest → dp_ok L kd w := fun w hw => hst w (List.mem_of_mem_drop (i := n) (by rw [hdr]; exact List.mem_cons_of_mem _ hw))
  obtain ⟨hrL, hrk⟩ : r.2 ∈ L ∧ kd r.2 = r.1 := hst (.inr r) hmr
  rw [hrt] at hrk
  obtain ⟨q0, hq0⟩ := va_pl_get (X := []) (f := dp_ce aC kd G) hrL
  rw [List.nil_append, dp_ce_obj hrk ht] at hq0
  have hsp : st.map dp_tv = ((st.take n).reverse.map dp_tv).reverse ++ .ref r.2 :: rest.map dp_tv := by
    have e := congrArg (List.map dp_tv) hsp0
    rw [List.map_append, List.map_reverse] at e
    exact e
  have hM := dp_met hpn (by rw [List.length_cons, hlen]; exact hml) (hY _ _ _ _ _ _ h) hw (dp_okc (hst (.inr r) hmr) (fun v hv => hst v (List.mem_of_mem_take (List.mem_reverse.mp hv))))
  have hx1 : dp_Q D L kd aC k' (fun x G' => Y k (pc + 3) ls (cond false rest (vI x :: rest)) G' Q) = va_Qi (fun (x : Int32) (G' : Mm) => Y k (pc + 3) ls (vI x :: rest) G' Q ∧ dp_WT L kd G') (fun G' t => dp_B D L kd aC G' t) (fun q => q ∈ L) := by unfold dp_Q; rw [hT]; rfl
  rw [hx1] at hM
  refine va_calli (va_runV (C := C) (As := (st.take n).reverse.map dp_tv) (rest := rest.map dp_tv) ⟨C_.1, C_.2.1, C_.2.2.2.1, C_.2.2.2.2.1, C_.2.2.2.2.2.1⟩ hM (cwV n C_.2.2.2.2.2.1 ?_ rfl rfl rfl ⟨hcc, hd0⟩ hR) ⟨dp_FB, va_recv C_.2.2.2.2.2.2.2 hP hcl hq0, fun U hU hW => ⟨rfl, by rw [hU]; exact hP, va_K.moved hW.alike C_.2.2.2.2.2.2.2, hD⟩⟩ rfl (by rw [List.length_map]; exact hlen) hlv.1 hsp (lv_room (by rw [dp_cat]; exact hle)) hd ⟨Nat.zero_le _, Nat.zero_le _⟩) hS (fun q _ h => h) (fun q h => h) (fun x u t H1 locs1 ht hvm hw1 hB1 hz1 hk1 hS1 => ?_)
  · refine dp_wsIn ?_ (dp_mWc k' h5 rfl)
    intro w hw
    simp only [List.mem_cons, List.mem_nil_iff, or_false] at hw
    rcases hw with rfl | rfl | rfl | rfl
    · exact dp_good _ h1
    · exact dp_good _ h2
    · exact dp_good _ h3
    · rw [← hcc]; exact dp_good _ h4
  · obtain ⟨hP1, hK1, hD1⟩ := hB1
    rw [ht] at hP1
    exact hY _ _ _ _ _ _ hw1.1 hw1.2 hl (dp_okc trivial hrs) hls p e s m margs below meth c H1 locs1 lsM C_ hlv hP1 hD1 hS1
theorem ok_callViN {k k' pc idx n t N mLl : Nat} {C : String} {T : u_T} {host : String} (hcl : vwCl[t]? = some (C, T, N)) (hcc : (mY k').cls = C) (ht : t < 9) (h1 : Cond.methodLinkNest (mY k).cls idx (mY k') host ∈ lw_tb2) (h2 : Cond.instanceMethod (mY k') ∈ lw_tb2) (h3 : Cond.selects C (mY k') (mY k') ∈ lw_tb2) (h4 : Cond.initialized (mY k').cls ∈ lw_tb2) (h5 : Cond.code (mY k') (mB k') (mL k') (mT k') ∈ lw_tb2) (hpn : plainName (mY k').cls = true) (hml : n + 1 ≤ mL k') (hd0 : (mY k').cls ≠ "java/lang/invoke/MethodHandle" ∧ (mY k').cls ≠ "java/lang/invoke/VarHandle" ∧ (parseMethodDescriptor (mY k').desc).map (fun d => d.parameters.length) = some n) (hR : (rm k').frames + 1 ≤ (rm k).frames ∧ 8 + (mL k' + 11) + (rm k').locals ≤ (rm k).locals) {ty : FieldType} (hT : mT k' = some ty) (hd : decode (mB k) pc = .ok (.invokevirtual idx, 3)) (hmm : mL k' = mLl := by rfl) : dp_OK k pc (o_callV k' mLl t n false) := by
  intro l D L kd aC Y hY ls st G Q h hw hl hst hls p e s m margs below meth c H locs lsM C_ hlv hP hD hS
  subst hmm
  unfold o_callV at h
  rcases hdr : st.drop n with _ | ⟨v0, rest⟩
  · rw [hdr] at h; exact False.elim h
  rw [hdr] at h
  rcases v0 with x0 | r
  · exact False.elim h
  obtain ⟨hbq, h⟩ := dp_cd h
  rw [Bool.and_eq_true] at hbq
  have hrt := Nat.eq_of_beq_eq_true hbq.1
  have hle := Nat.le_of_ble_eq_true hbq.2
  obtain ⟨hsp0, hlen⟩ := dp_drop_split hdr
  have hmr : Sum.inr r ∈ st := List.mem_of_mem_drop (i := n) (by rw [hdr]; exact List.mem_cons_self)
  have hrs : ∀ w, w ∈ rest → dp_ok L kd w := fun w hw => hst w (List.mem_of_mem_drop (i := n) (by rw [hdr]; exact List.mem_cons_of_mem _ hw))
  obtain ⟨hrL, hrk⟩ : r.2 ∈ L ∧ kd r.2 = r.1 := hst (.inr r) hmr
  rw [hrt] at hrk
  obtain ⟨q0, hq0⟩ := va_pl_get (X := []) (f := dp_ce aC kd G) hrL
  rw [List.nil_append, dp_ce_obj hrk ht] at hq0
  have hsp : st.map dp_tv = ((st.take n).reverse.map dp_tv).reverse ++ .ref r.2 :: rest.map dp_tv := by
    have e := congrArg (List.map dp_tv) hsp0
    rw [List.map_append, List.map_reverse] at e
    exact e
  have hM := dp_met hpn (by rw [List.length_cons, hlen]; exact hml) (hY _ _ _ _ _ _ h) hw (dp_okc (hst (.inr r) hmr) (fun v hv => hst v (List.mem_of_mem_take (List.mem_reverse.mp hv))))
  have hx1 : dp_Q D L kd aC k' (fun x G' => Y k (pc + 3) ls (cond false rest (vI x :: rest)) G' Q) = va_Qi (fun (x : Int32) (G' : Mm) => Y k (pc + 3) ls (vI x :: rest) G' Q ∧ dp_WT L kd G') (fun G' t => dp_B D L kd aC G' t) (fun q => q ∈ L) := by unfold dp_Q; rw [hT]; rfl
  rw [hx1] at hM
  refine va_calli (va_runVN (C := C) (As := (st.take n).reverse.map dp_tv) (rest := rest.map dp_tv) ⟨C_.1, C_.2.1, C_.2.2.2.1, C_.2.2.2.2.1, C_.2.2.2.2.2.1⟩ hM ⟨va_cnB n C_.2.2.2.2.2.1 (dp_mWc k' h5 rfl) rfl rfl rfl (C_.2.2.2.2.2.1 _ h1) (C_.2.2.2.2.2.1 _ h4) hd0 hR, C_.2.2.2.2.2.1 _ h2, C_.2.2.2.2.2.1 _ h3⟩ ⟨dp_FB, va_recv C_.2.2.2.2.2.2.2 hP hcl hq0, fun U hU hW => ⟨rfl, by rw [hU]; exact hP, va_K.moved hW.alike C_.2.2.2.2.2.2.2, hD⟩⟩ rfl (by rw [List.length_map]; exact hlen) hlv.1 hsp (lv_room (by rw [dp_cat]; exact hle)) hd ⟨Nat.zero_le _, Nat.zero_le _⟩) hS (fun q _ h => h) (fun q h => h) (fun x u t H1 locs1 ht hvm hw1 hB1 hz1 hk1 hS1 => ?_)
  · obtain ⟨hP1, hK1, hD1⟩ := hB1
    rw [ht] at hP1
    exact hY _ _ _ _ _ _ hw1.1 hw1.2 hl (dp_okc trivial hrs) hls p e s m margs below meth c H1 locs1 lsM C_ hlv hP1 hD1 hS1
end
section
theorem zz_end : True := trivial
end
