section
-- ===== PART A: goes FIRST, ahead of the names: the tables' words, and 'selects' of the private methods out of them =====
/-- a private method of a class that the tables say can be made, by its rows of tables_1 -/
def lw_okq (q : MethodName × Nat) : Prop := (q.1.cls ≠ "java/lang/invoke/MethodHandle" ∧ q.1.cls ≠ "java/lang/invoke/VarHandle") ∧ Cond.instantiable q.1.cls q.2 ∈ tables_1 ∧ Cond.privateMethod q.1 ∈ tables_1 ∧ Cond.instanceMethod q.1 ∈ tables_1
theorem lw_p0 : lw_okq (⟨"WareHall", "dayOfCount", "(I)I"⟩, 8) := ⟨⟨by decide +kernel, by decide +kernel⟩, List.mem_of_getElem? (i := 19) (by decide +kernel), List.mem_of_getElem? (i := 211) (by decide +kernel), List.mem_of_getElem? (i := 212) (by decide +kernel)⟩
theorem lw_p1 : lw_okq (⟨"WareHall$Items", "intervalOf", "(I)I"⟩, 3) := ⟨⟨by decide +kernel, by decide +kernel⟩, List.mem_of_getElem? (i := 27) (by decide +kernel), List.mem_of_getElem? (i := 215) (by decide +kernel), List.mem_of_getElem? (i := 216) (by decide +kernel)⟩
theorem lw_p2 : lw_okq (⟨"java/lang/Throwable", "fillInStackTrace", "(I)Ljava/lang/Throwable;"⟩, 6) := ⟨⟨by decide +kernel, by decide +kernel⟩, List.mem_of_getElem? (i := 279) (by decide +kernel), List.mem_of_getElem? (i := 277) (by decide +kernel), List.mem_of_getElem? (i := 278) (by decide +kernel)⟩
theorem lw_p3 : lw_okq (⟨"WareHall$Items", "append", "(C)I"⟩, 3) := ⟨⟨by decide +kernel, by decide +kernel⟩, List.mem_of_getElem? (i := 27) (by decide +kernel), List.mem_of_getElem? (i := 325) (by decide +kernel), List.mem_of_getElem? (i := 326) (by decide +kernel)⟩
theorem lw_p4 : lw_okq (⟨"WareHall", "requireItem", "(I)V"⟩, 8) := ⟨⟨by decide +kernel, by decide +kernel⟩, List.mem_of_getElem? (i := 19) (by decide +kernel), List.mem_of_getElem? (i := 338) (by decide +kernel), List.mem_of_getElem? (i := 339) (by decide +kernel)⟩
theorem lw_p5 : lw_okq (⟨"WareHall", "requireBetween", "(III)V"⟩, 8) := ⟨⟨by decide +kernel, by decide +kernel⟩, List.mem_of_getElem? (i := 19) (by decide +kernel), List.mem_of_getElem? (i := 358) (by decide +kernel), List.mem_of_getElem? (i := 359) (by decide +kernel)⟩
theorem lw_p6 : lw_okq (⟨"WareHall$Items", "substitutesOf", "(I)I"⟩, 3) := ⟨⟨by decide +kernel, by decide +kernel⟩, List.mem_of_getElem? (i := 27) (by decide +kernel), List.mem_of_getElem? (i := 380) (by decide +kernel), List.mem_of_getElem? (i := 381) (by decide +kernel)⟩
theorem lw_p7 : lw_okq (⟨"WareHall", "requireBin", "(I)V"⟩, 8) := ⟨⟨by decide +kernel, by decide +kernel⟩, List.mem_of_getElem? (i := 19) (by decide +kernel), List.mem_of_getElem? (i := 391) (by decide +kernel), List.mem_of_getElem? (i := 392) (by decide +kernel)⟩
theorem lw_p8 : lw_okq (⟨"WareHall", "requireEntrySpace", "(I)V"⟩, 8) := ⟨⟨by decide +kernel, by decide +kernel⟩, List.mem_of_getElem? (i := 19) (by decide +kernel), List.mem_of_getElem? (i := 397) (by decide +kernel), List.mem_of_getElem? (i := 398) (by decide +kernel)⟩
theorem lw_p9 : lw_okq (⟨"WareHall", "requireBinSpace", "(II)V"⟩, 8) := ⟨⟨by decide +kernel, by decide +kernel⟩, List.mem_of_getElem? (i := 19) (by decide +kernel), List.mem_of_getElem? (i := 402) (by decide +kernel), List.mem_of_getElem? (i := 403) (by decide +kernel)⟩
theorem lw_p10 : lw_okq (⟨"WareHall$Goods", "appendLot", "(II)I"⟩, 8) := ⟨⟨by decide +kernel, by decide +kernel⟩, List.mem_of_getElem? (i := 49) (by decide +kernel), List.mem_of_getElem? (i := 407) (by decide +kernel), List.mem_of_getElem? (i := 408) (by decide +kernel)⟩
theorem lw_p11 : lw_okq (⟨"WareHall$Goods", "change", "(III)V"⟩, 8) := ⟨⟨by decide +kernel, by decide +kernel⟩, List.mem_of_getElem? (i := 49) (by decide +kernel), List.mem_of_getElem? (i := 411) (by decide +kernel), List.mem_of_getElem? (i := 412) (by decide +kernel)⟩
theorem lw_p12 : lw_okq (⟨"WareHall$Journal", "write", "(CIIIII)V"⟩, 7) := ⟨⟨by decide +kernel, by decide +kernel⟩, List.mem_of_getElem? (i := 121) (by decide +kernel), List.mem_of_getElem? (i := 415) (by decide +kernel), List.mem_of_getElem? (i := 416) (by decide +kernel)⟩
theorem lw_p13 : lw_okq (⟨"WareHall", "requireLot", "(I)V"⟩, 8) := ⟨⟨by decide +kernel, by decide +kernel⟩, List.mem_of_getElem? (i := 19) (by decide +kernel), List.mem_of_getElem? (i := 427) (by decide +kernel), List.mem_of_getElem? (i := 428) (by decide +kernel)⟩
theorem lw_p14 : lw_okq (⟨"WareHall$Goods", "binsWith", "(I)I"⟩, 8) := ⟨⟨by decide +kernel, by decide +kernel⟩, List.mem_of_getElem? (i := 49) (by decide +kernel), List.mem_of_getElem? (i := 458) (by decide +kernel), List.mem_of_getElem? (i := 459) (by decide +kernel)⟩
theorem lw_p15 : lw_okq (⟨"WareHall", "takeOut", "(CIII)V"⟩, 8) := ⟨⟨by decide +kernel, by decide +kernel⟩, List.mem_of_getElem? (i := 19) (by decide +kernel), List.mem_of_getElem? (i := 465) (by decide +kernel), List.mem_of_getElem? (i := 466) (by decide +kernel)⟩
def lw_privs_1 : List (MethodName × Nat) := [(⟨"WareHall", "dayOfCount", "(I)I"⟩, 8), (⟨"WareHall$Items", "intervalOf", "(I)I"⟩, 3), (⟨"java/lang/Throwable", "fillInStackTrace", "(I)Ljava/lang/Throwable;"⟩, 6), (⟨"WareHall$Items", "append", "(C)I"⟩, 3), (⟨"WareHall", "requireItem", "(I)V"⟩, 8), (⟨"WareHall", "requireBetween", "(III)V"⟩, 8), (⟨"WareHall$Items", "substitutesOf", "(I)I"⟩, 3), (⟨"WareHall", "requireBin", "(I)V"⟩, 8), (⟨"WareHall", "requireEntrySpace", "(I)V"⟩, 8), (⟨"WareHall", "requireBinSpace", "(II)V"⟩, 8), (⟨"WareHall$Goods", "appendLot", "(II)I"⟩, 8), (⟨"WareHall$Goods", "change", "(III)V"⟩, 8), (⟨"WareHall$Journal", "write", "(CIIIII)V"⟩, 7), (⟨"WareHall", "requireLot", "(I)V"⟩, 8), (⟨"WareHall$Goods", "binsWith", "(I)I"⟩, 8), (⟨"WareHall", "takeOut", "(CIII)V"⟩, 8)]
theorem lw_r1 : ∀ q ∈ lw_privs_1, lw_okq q := List.forall_mem_cons.mpr ⟨lw_p0, List.forall_mem_cons.mpr ⟨lw_p1, List.forall_mem_cons.mpr ⟨lw_p2, List.forall_mem_cons.mpr ⟨lw_p3, List.forall_mem_cons.mpr ⟨lw_p4, List.forall_mem_cons.mpr ⟨lw_p5, List.forall_mem_cons.mpr ⟨lw_p6, List.forall_mem_cons.mpr ⟨lw_p7, List.forall_mem_cons.mpr ⟨lw_p8, List.forall_mem_cons.mpr ⟨lw_p9, List.forall_mem_cons.mpr ⟨lw_p10, List.forall_mem_cons.mpr ⟨lw_p11, List.forall_mem_cons.mpr ⟨lw_p12, List.forall_mem_cons.mpr ⟨lw_p13, List.forall_mem_cons.mpr ⟨lw_p14, List.forall_mem_cons.mpr ⟨lw_p15, fun _ h => absurd h List.not_mem_nil⟩⟩⟩⟩⟩⟩⟩⟩⟩⟩⟩⟩⟩⟩⟩⟩
theorem lw_p16 : lw_okq (⟨"WareHall", "breakPromises", "(I)I"⟩, 8) := ⟨⟨by decide +kernel, by decide +kernel⟩, List.mem_of_getElem? (i := 19) (by decide +kernel), List.mem_of_getElem? (i := 476) (by decide +kernel), List.mem_of_getElem? (i := 477) (by decide +kernel)⟩
theorem lw_p17 : lw_okq (⟨"WareHall", "lastDayTooShort", "(I)I"⟩, 8) := ⟨⟨by decide +kernel, by decide +kernel⟩, List.mem_of_getElem? (i := 19) (by decide +kernel), List.mem_of_getElem? (i := 480) (by decide +kernel), List.mem_of_getElem? (i := 481) (by decide +kernel)⟩
theorem lw_p18 : lw_okq (⟨"WareHall", "difference", "(II)I"⟩, 8) := ⟨⟨by decide +kernel, by decide +kernel⟩, List.mem_of_getElem? (i := 19) (by decide +kernel), List.mem_of_getElem? (i := 484) (by decide +kernel), List.mem_of_getElem? (i := 485) (by decide +kernel)⟩
theorem lw_p19 : lw_okq (⟨"WareHall$Goods", "unitsFrom", "(II)I"⟩, 8) := ⟨⟨by decide +kernel, by decide +kernel⟩, List.mem_of_getElem? (i := 49) (by decide +kernel), List.mem_of_getElem? (i := 488) (by decide +kernel), List.mem_of_getElem? (i := 489) (by decide +kernel)⟩
theorem lw_p20 : lw_okq (⟨"WareHall$Goods", "lasts", "(III)Z"⟩, 8) := ⟨⟨by decide +kernel, by decide +kernel⟩, List.mem_of_getElem? (i := 49) (by decide +kernel), List.mem_of_getElem? (i := 492) (by decide +kernel), List.mem_of_getElem? (i := 493) (by decide +kernel)⟩
theorem lw_p21 : lw_okq (⟨"WareHall$Promises", "promisedFrom", "(II)I"⟩, 6) := ⟨⟨by decide +kernel, by decide +kernel⟩, List.mem_of_getElem? (i := 89) (by decide +kernel), List.mem_of_getElem? (i := 496) (by decide +kernel), List.mem_of_getElem? (i := 497) (by decide +kernel)⟩
theorem lw_p22 : lw_okq (⟨"WareHall$Promises", "isOpenFrom", "(II)Z"⟩, 6) := ⟨⟨by decide +kernel, by decide +kernel⟩, List.mem_of_getElem? (i := 89) (by decide +kernel), List.mem_of_getElem? (i := 500) (by decide +kernel), List.mem_of_getElem? (i := 501) (by decide +kernel)⟩
theorem lw_p23 : lw_okq (⟨"WareHall$Promises", "lastOpenFor", "(II)I"⟩, 6) := ⟨⟨by decide +kernel, by decide +kernel⟩, List.mem_of_getElem? (i := 89) (by decide +kernel), List.mem_of_getElem? (i := 504) (by decide +kernel), List.mem_of_getElem? (i := 505) (by decide +kernel)⟩
theorem lw_p24 : lw_okq (⟨"WareHall", "planPromise", "(IIIZ)I"⟩, 8) := ⟨⟨by decide +kernel, by decide +kernel⟩, List.mem_of_getElem? (i := 19) (by decide +kernel), List.mem_of_getElem? (i := 516) (by decide +kernel), List.mem_of_getElem? (i := 517) (by decide +kernel)⟩
theorem lw_p25 : lw_okq (⟨"WareHall", "planPart", "(III)I"⟩, 8) := ⟨⟨by decide +kernel, by decide +kernel⟩, List.mem_of_getElem? (i := 19) (by decide +kernel), List.mem_of_getElem? (i := 520) (by decide +kernel), List.mem_of_getElem? (i := 521) (by decide +kernel)⟩
theorem lw_p26 : lw_okq (⟨"WareHall", "leastDifference", "(II)I"⟩, 8) := ⟨⟨by decide +kernel, by decide +kernel⟩, List.mem_of_getElem? (i := 19) (by decide +kernel), List.mem_of_getElem? (i := 524) (by decide +kernel), List.mem_of_getElem? (i := 525) (by decide +kernel)⟩
theorem lw_p27 : lw_okq (⟨"WareHall$Promises", "append", "(I[I)I"⟩, 6) := ⟨⟨by decide +kernel, by decide +kernel⟩, List.mem_of_getElem? (i := 89) (by decide +kernel), List.mem_of_getElem? (i := 529) (by decide +kernel), List.mem_of_getElem? (i := 530) (by decide +kernel)⟩
theorem lw_p28 : lw_okq (⟨"WareHall", "requirePromise", "(I)V"⟩, 8) := ⟨⟨by decide +kernel, by decide +kernel⟩, List.mem_of_getElem? (i := 19) (by decide +kernel), List.mem_of_getElem? (i := 543) (by decide +kernel), List.mem_of_getElem? (i := 544) (by decide +kernel)⟩
theorem lw_p29 : lw_okq (⟨"WareHall", "requireOpen", "(I)V"⟩, 8) := ⟨⟨by decide +kernel, by decide +kernel⟩, List.mem_of_getElem? (i := 19) (by decide +kernel), List.mem_of_getElem? (i := 548) (by decide +kernel), List.mem_of_getElem? (i := 549) (by decide +kernel)⟩
theorem lw_p30 : lw_okq (⟨"WareHall$Promises", "sumOf", "(I)I"⟩, 6) := ⟨⟨by decide +kernel, by decide +kernel⟩, List.mem_of_getElem? (i := 89) (by decide +kernel), List.mem_of_getElem? (i := 553) (by decide +kernel), List.mem_of_getElem? (i := 554) (by decide +kernel)⟩
theorem lw_p31 : lw_okq (⟨"WareHall", "findLines", "(I)V"⟩, 8) := ⟨⟨by decide +kernel, by decide +kernel⟩, List.mem_of_getElem? (i := 19) (by decide +kernel), List.mem_of_getElem? (i := 564) (by decide +kernel), List.mem_of_getElem? (i := 565) (by decide +kernel)⟩
def lw_privs_2 : List (MethodName × Nat) := [(⟨"WareHall", "breakPromises", "(I)I"⟩, 8), (⟨"WareHall", "lastDayTooShort", "(I)I"⟩, 8), (⟨"WareHall", "difference", "(II)I"⟩, 8), (⟨"WareHall$Goods", "unitsFrom", "(II)I"⟩, 8), (⟨"WareHall$Goods", "lasts", "(III)Z"⟩, 8), (⟨"WareHall$Promises", "promisedFrom", "(II)I"⟩, 6), (⟨"WareHall$Promises", "isOpenFrom", "(II)Z"⟩, 6), (⟨"WareHall$Promises", "lastOpenFor", "(II)I"⟩, 6), (⟨"WareHall", "planPromise", "(IIIZ)I"⟩, 8), (⟨"WareHall", "planPart", "(III)I"⟩, 8), (⟨"WareHall", "leastDifference", "(II)I"⟩, 8), (⟨"WareHall$Promises", "append", "(I[I)I"⟩, 6), (⟨"WareHall", "requirePromise", "(I)V"⟩, 8), (⟨"WareHall", "requireOpen", "(I)V"⟩, 8), (⟨"WareHall$Promises", "sumOf", "(I)I"⟩, 6), (⟨"WareHall", "findLines", "(I)V"⟩, 8)]
theorem lw_r2 : ∀ q ∈ lw_privs_2, lw_okq q := List.forall_mem_cons.mpr ⟨lw_p16, List.forall_mem_cons.mpr ⟨lw_p17, List.forall_mem_cons.mpr ⟨lw_p18, List.forall_mem_cons.mpr ⟨lw_p19, List.forall_mem_cons.mpr ⟨lw_p20, List.forall_mem_cons.mpr ⟨lw_p21, List.forall_mem_cons.mpr ⟨lw_p22, List.forall_mem_cons.mpr ⟨lw_p23, List.forall_mem_cons.mpr ⟨lw_p24, List.forall_mem_cons.mpr ⟨lw_p25, List.forall_mem_cons.mpr ⟨lw_p26, List.forall_mem_cons.mpr ⟨lw_p27, List.forall_mem_cons.mpr ⟨lw_p28, List.forall_mem_cons.mpr ⟨lw_p29, List.forall_mem_cons.mpr ⟨lw_p30, List.forall_mem_cons.mpr ⟨lw_p31, fun _ h => absurd h List.not_mem_nil⟩⟩⟩⟩⟩⟩⟩⟩⟩⟩⟩⟩⟩⟩⟩⟩
theorem lw_p32 : lw_okq (⟨"WareHall", "findLinesOfItem", "(III)V"⟩, 8) := ⟨⟨by decide +kernel, by decide +kernel⟩, List.mem_of_getElem? (i := 19) (by decide +kernel), List.mem_of_getElem? (i := 568) (by decide +kernel), List.mem_of_getElem? (i := 569) (by decide +kernel)⟩
theorem lw_p33 : lw_okq (⟨"WareHall", "findLinesOfLot", "(II)I"⟩, 8) := ⟨⟨by decide +kernel, by decide +kernel⟩, List.mem_of_getElem? (i := 19) (by decide +kernel), List.mem_of_getElem? (i := 573) (by decide +kernel), List.mem_of_getElem? (i := 574) (by decide +kernel)⟩
theorem lw_p34 : lw_okq (⟨"WareHall$Lines", "insert", "(III)V"⟩, 4) := ⟨⟨by decide +kernel, by decide +kernel⟩, List.mem_of_getElem? (i := 155) (by decide +kernel), List.mem_of_getElem? (i := 577) (by decide +kernel), List.mem_of_getElem? (i := 578) (by decide +kernel)⟩
theorem lw_p35 : lw_okq (⟨"WareHall$Lines", "isAfter", "(III)Z"⟩, 4) := ⟨⟨by decide +kernel, by decide +kernel⟩, List.mem_of_getElem? (i := 155) (by decide +kernel), List.mem_of_getElem? (i := 581) (by decide +kernel), List.mem_of_getElem? (i := 582) (by decide +kernel)⟩
theorem lw_p36 : lw_okq (⟨"WareHall", "canGive", "(III)Z"⟩, 8) := ⟨⟨by decide +kernel, by decide +kernel⟩, List.mem_of_getElem? (i := 19) (by decide +kernel), List.mem_of_getElem? (i := 614) (by decide +kernel), List.mem_of_getElem? (i := 615) (by decide +kernel)⟩
theorem lw_p37 : lw_okq (⟨"WareHall", "give", "(III)Z"⟩, 8) := ⟨⟨by decide +kernel, by decide +kernel⟩, List.mem_of_getElem? (i := 19) (by decide +kernel), List.mem_of_getElem? (i := 619) (by decide +kernel), List.mem_of_getElem? (i := 620) (by decide +kernel)⟩
theorem lw_p38 : lw_okq (⟨"WareHall", "loadLines", "(I)V"⟩, 8) := ⟨⟨by decide +kernel, by decide +kernel⟩, List.mem_of_getElem? (i := 19) (by decide +kernel), List.mem_of_getElem? (i := 630) (by decide +kernel), List.mem_of_getElem? (i := 631) (by decide +kernel)⟩
theorem lw_p39 : lw_okq (⟨"WareHall", "recallLines", "(I)V"⟩, 8) := ⟨⟨by decide +kernel, by decide +kernel⟩, List.mem_of_getElem? (i := 19) (by decide +kernel), List.mem_of_getElem? (i := 635) (by decide +kernel), List.mem_of_getElem? (i := 636) (by decide +kernel)⟩
theorem lw_p40 : lw_okq (⟨"WareHall", "requireLine", "(I)V"⟩, 8) := ⟨⟨by decide +kernel, by decide +kernel⟩, List.mem_of_getElem? (i := 19) (by decide +kernel), List.mem_of_getElem? (i := 646) (by decide +kernel), List.mem_of_getElem? (i := 647) (by decide +kernel)⟩
theorem lw_p41 : lw_okq (⟨"WareHall$Lines", "shortestWalk", "()I"⟩, 4) := ⟨⟨by decide +kernel, by decide +kernel⟩, List.mem_of_getElem? (i := 155) (by decide +kernel), List.mem_of_getElem? (i := 672) (by decide +kernel), List.mem_of_getElem? (i := 673) (by decide +kernel)⟩
theorem lw_p42 : lw_okq (⟨"WareHall$Lines", "lastAisle", "()I"⟩, 4) := ⟨⟨by decide +kernel, by decide +kernel⟩, List.mem_of_getElem? (i := 155) (by decide +kernel), List.mem_of_getElem? (i := 676) (by decide +kernel), List.mem_of_getElem? (i := 677) (by decide +kernel)⟩
theorem lw_p43 : lw_okq (⟨"WareHall$Lines", "reach", "(IZ)I"⟩, 4) := ⟨⟨by decide +kernel, by decide +kernel⟩, List.mem_of_getElem? (i := 155) (by decide +kernel), List.mem_of_getElem? (i := 684) (by decide +kernel), List.mem_of_getElem? (i := 685) (by decide +kernel)⟩
theorem lw_p44 : lw_okq (⟨"WareHall$Lines", "shortestWalkByTrying", "()I"⟩, 4) := ⟨⟨by decide +kernel, by decide +kernel⟩, List.mem_of_getElem? (i := 155) (by decide +kernel), List.mem_of_getElem? (i := 696) (by decide +kernel), List.mem_of_getElem? (i := 697) (by decide +kernel)⟩
theorem lw_p45 : lw_okq (⟨"WareHall$Lines", "walkOf", "(II)I"⟩, 4) := ⟨⟨by decide +kernel, by decide +kernel⟩, List.mem_of_getElem? (i := 155) (by decide +kernel), List.mem_of_getElem? (i := 700) (by decide +kernel), List.mem_of_getElem? (i := 701) (by decide +kernel)⟩
theorem lw_p46 : lw_okq (⟨"WareHall$Promises", "lapseBefore", "(I)I"⟩, 6) := ⟨⟨by decide +kernel, by decide +kernel⟩, List.mem_of_getElem? (i := 89) (by decide +kernel), List.mem_of_getElem? (i := 711) (by decide +kernel), List.mem_of_getElem? (i := 712) (by decide +kernel)⟩
theorem lw_p47 : lw_okq (⟨"WareHall$Journal", "unitsIn", "(II)I"⟩, 7) := ⟨⟨by decide +kernel, by decide +kernel⟩, List.mem_of_getElem? (i := 121) (by decide +kernel), List.mem_of_getElem? (i := 745) (by decide +kernel), List.mem_of_getElem? (i := 746) (by decide +kernel)⟩
def lw_privs_3 : List (MethodName × Nat) := [(⟨"WareHall", "findLinesOfItem", "(III)V"⟩, 8), (⟨"WareHall", "findLinesOfLot", "(II)I"⟩, 8), (⟨"WareHall$Lines", "insert", "(III)V"⟩, 4), (⟨"WareHall$Lines", "isAfter", "(III)Z"⟩, 4), (⟨"WareHall", "canGive", "(III)Z"⟩, 8), (⟨"WareHall", "give", "(III)Z"⟩, 8), (⟨"WareHall", "loadLines", "(I)V"⟩, 8), (⟨"WareHall", "recallLines", "(I)V"⟩, 8), (⟨"WareHall", "requireLine", "(I)V"⟩, 8), (⟨"WareHall$Lines", "shortestWalk", "()I"⟩, 4), (⟨"WareHall$Lines", "lastAisle", "()I"⟩, 4), (⟨"WareHall$Lines", "reach", "(IZ)I"⟩, 4), (⟨"WareHall$Lines", "shortestWalkByTrying", "()I"⟩, 4), (⟨"WareHall$Lines", "walkOf", "(II)I"⟩, 4), (⟨"WareHall$Promises", "lapseBefore", "(I)I"⟩, 6), (⟨"WareHall$Journal", "unitsIn", "(II)I"⟩, 7)]
theorem lw_r3 : ∀ q ∈ lw_privs_3, lw_okq q := List.forall_mem_cons.mpr ⟨lw_p32, List.forall_mem_cons.mpr ⟨lw_p33, List.forall_mem_cons.mpr ⟨lw_p34, List.forall_mem_cons.mpr ⟨lw_p35, List.forall_mem_cons.mpr ⟨lw_p36, List.forall_mem_cons.mpr ⟨lw_p37, List.forall_mem_cons.mpr ⟨lw_p38, List.forall_mem_cons.mpr ⟨lw_p39, List.forall_mem_cons.mpr ⟨lw_p40, List.forall_mem_cons.mpr ⟨lw_p41, List.forall_mem_cons.mpr ⟨lw_p42, List.forall_mem_cons.mpr ⟨lw_p43, List.forall_mem_cons.mpr ⟨lw_p44, List.forall_mem_cons.mpr ⟨lw_p45, List.forall_mem_cons.mpr ⟨lw_p46, List.forall_mem_cons.mpr ⟨lw_p47, fun _ h => absurd h List.not_mem_nil⟩⟩⟩⟩⟩⟩⟩⟩⟩⟩⟩⟩⟩⟩⟩⟩
theorem lw_p48 : lw_okq (⟨"WareHall$Goods", "firstLot", "(II)I"⟩, 8) := ⟨⟨by decide +kernel, by decide +kernel⟩, List.mem_of_getElem? (i := 49) (by decide +kernel), List.mem_of_getElem? (i := 763) (by decide +kernel), List.mem_of_getElem? (i := 764) (by decide +kernel)⟩
theorem lw_p49 : lw_okq (⟨"WareHall$Goods", "unitsBefore", "(II)I"⟩, 8) := ⟨⟨by decide +kernel, by decide +kernel⟩, List.mem_of_getElem? (i := 49) (by decide +kernel), List.mem_of_getElem? (i := 781) (by decide +kernel), List.mem_of_getElem? (i := 782) (by decide +kernel)⟩
theorem lw_p50 : lw_okq (⟨"WareHall", "requireEntry", "(I)V"⟩, 8) := ⟨⟨by decide +kernel, by decide +kernel⟩, List.mem_of_getElem? (i := 19) (by decide +kernel), List.mem_of_getElem? (i := 792) (by decide +kernel), List.mem_of_getElem? (i := 793) (by decide +kernel)⟩
theorem lw_p51 : lw_okq (⟨"WareHall$Journal", "unitsAtEndOf", "(II)I"⟩, 7) := ⟨⟨by decide +kernel, by decide +kernel⟩, List.mem_of_getElem? (i := 121) (by decide +kernel), List.mem_of_getElem? (i := 832) (by decide +kernel), List.mem_of_getElem? (i := 833) (by decide +kernel)⟩
theorem lw_p52 : lw_okq (⟨"WareHall$Journal", "unitsGained", "(I)I"⟩, 7) := ⟨⟨by decide +kernel, by decide +kernel⟩, List.mem_of_getElem? (i := 121) (by decide +kernel), List.mem_of_getElem? (i := 836) (by decide +kernel), List.mem_of_getElem? (i := 837) (by decide +kernel)⟩
theorem lw_p53 : lw_okq (⟨"WareHall$Promises", "countIn", "(C)I"⟩, 6) := ⟨⟨by decide +kernel, by decide +kernel⟩, List.mem_of_getElem? (i := 89) (by decide +kernel), List.mem_of_getElem? (i := 847) (by decide +kernel), List.mem_of_getElem? (i := 848) (by decide +kernel)⟩
theorem lw_p54 : lw_okq (⟨"WareHallModel", "isItem", "(I)Z"⟩, 33) := ⟨⟨by decide +kernel, by decide +kernel⟩, List.mem_of_getElem? (i := 852) (by decide +kernel), List.mem_of_getElem? (i := 971) (by decide +kernel), List.mem_of_getElem? (i := 972) (by decide +kernel)⟩
theorem lw_p55 : lw_okq (⟨"WareHallModel", "raises", "(I)I"⟩, 33) := ⟨⟨by decide +kernel, by decide +kernel⟩, List.mem_of_getElem? (i := 852) (by decide +kernel), List.mem_of_getElem? (i := 985) (by decide +kernel), List.mem_of_getElem? (i := 986) (by decide +kernel)⟩
theorem lw_p56 : lw_okq (⟨"WareHallModel", "load0", "(I)I"⟩, 33) := ⟨⟨by decide +kernel, by decide +kernel⟩, List.mem_of_getElem? (i := 852) (by decide +kernel), List.mem_of_getElem? (i := 989) (by decide +kernel), List.mem_of_getElem? (i := 990) (by decide +kernel)⟩
theorem lw_p57 : lw_okq (⟨"WareHallModel", "puts", "(III)V"⟩, 33) := ⟨⟨by decide +kernel, by decide +kernel⟩, List.mem_of_getElem? (i := 852) (by decide +kernel), List.mem_of_getElem? (i := 993) (by decide +kernel), List.mem_of_getElem? (i := 994) (by decide +kernel)⟩
theorem lw_p58 : lw_okq (⟨"WareHallModel", "writes", "(CIIII)V"⟩, 33) := ⟨⟨by decide +kernel, by decide +kernel⟩, List.mem_of_getElem? (i := 852) (by decide +kernel), List.mem_of_getElem? (i := 997) (by decide +kernel), List.mem_of_getElem? (i := 998) (by decide +kernel)⟩
theorem lw_p59 : lw_okq (⟨"WareHallModel", "isLot", "(I)Z"⟩, 33) := ⟨⟨by decide +kernel, by decide +kernel⟩, List.mem_of_getElem? (i := 852) (by decide +kernel), List.mem_of_getElem? (i := 1005) (by decide +kernel), List.mem_of_getElem? (i := 1006) (by decide +kernel)⟩
theorem lw_p60 : lw_okq (⟨"WareHallModel", "breaks", "(I)I"⟩, 33) := ⟨⟨by decide +kernel, by decide +kernel⟩, List.mem_of_getElem? (i := 852) (by decide +kernel), List.mem_of_getElem? (i := 1023) (by decide +kernel), List.mem_of_getElem? (i := 1024) (by decide +kernel)⟩
theorem lw_p61 : lw_okq (⟨"WareHallModel", "shortDay", "(I)I"⟩, 33) := ⟨⟨by decide +kernel, by decide +kernel⟩, List.mem_of_getElem? (i := 852) (by decide +kernel), List.mem_of_getElem? (i := 1027) (by decide +kernel), List.mem_of_getElem? (i := 1028) (by decide +kernel)⟩
theorem lw_p62 : lw_okq (⟨"WareHallModel", "stockFor", "(II)I"⟩, 33) := ⟨⟨by decide +kernel, by decide +kernel⟩, List.mem_of_getElem? (i := 852) (by decide +kernel), List.mem_of_getElem? (i := 1032) (by decide +kernel), List.mem_of_getElem? (i := 1033) (by decide +kernel)⟩
theorem lw_p63 : lw_okq (⟨"WareHallModel", "promisedFor", "(II)I"⟩, 33) := ⟨⟨by decide +kernel, by decide +kernel⟩, List.mem_of_getElem? (i := 852) (by decide +kernel), List.mem_of_getElem? (i := 1036) (by decide +kernel), List.mem_of_getElem? (i := 1037) (by decide +kernel)⟩
def lw_privs_4 : List (MethodName × Nat) := [(⟨"WareHall$Goods", "firstLot", "(II)I"⟩, 8), (⟨"WareHall$Goods", "unitsBefore", "(II)I"⟩, 8), (⟨"WareHall", "requireEntry", "(I)V"⟩, 8), (⟨"WareHall$Journal", "unitsAtEndOf", "(II)I"⟩, 7), (⟨"WareHall$Journal", "unitsGained", "(I)I"⟩, 7), (⟨"WareHall$Promises", "countIn", "(C)I"⟩, 6), (⟨"WareHallModel", "isItem", "(I)Z"⟩, 33), (⟨"WareHallModel", "raises", "(I)I"⟩, 33), (⟨"WareHallModel", "load0", "(I)I"⟩, 33), (⟨"WareHallModel", "puts", "(III)V"⟩, 33), (⟨"WareHallModel", "writes", "(CIIII)V"⟩, 33), (⟨"WareHallModel", "isLot", "(I)Z"⟩, 33), (⟨"WareHallModel", "breaks", "(I)I"⟩, 33), (⟨"WareHallModel", "shortDay", "(I)I"⟩, 33), (⟨"WareHallModel", "stockFor", "(II)I"⟩, 33), (⟨"WareHallModel", "promisedFor", "(II)I"⟩, 33)]
theorem lw_r4 : ∀ q ∈ lw_privs_4, lw_okq q := List.forall_mem_cons.mpr ⟨lw_p48, List.forall_mem_cons.mpr ⟨lw_p49, List.forall_mem_cons.mpr ⟨lw_p50, List.forall_mem_cons.mpr ⟨lw_p51, List.forall_mem_cons.mpr ⟨lw_p52, List.forall_mem_cons.mpr ⟨lw_p53, List.forall_mem_cons.mpr ⟨lw_p54, List.forall_mem_cons.mpr ⟨lw_p55, List.forall_mem_cons.mpr ⟨lw_p56, List.forall_mem_cons.mpr ⟨lw_p57, List.forall_mem_cons.mpr ⟨lw_p58, List.forall_mem_cons.mpr ⟨lw_p59, List.forall_mem_cons.mpr ⟨lw_p60, List.forall_mem_cons.mpr ⟨lw_p61, List.forall_mem_cons.mpr ⟨lw_p62, List.forall_mem_cons.mpr ⟨lw_p63, fun _ h => absurd h List.not_mem_nil⟩⟩⟩⟩⟩⟩⟩⟩⟩⟩⟩⟩⟩⟩⟩⟩
theorem lw_p64 : lw_okq (⟨"WareHallModel", "gives", "(III)I"⟩, 33) := ⟨⟨by decide +kernel, by decide +kernel⟩, List.mem_of_getElem? (i := 852) (by decide +kernel), List.mem_of_getElem? (i := 1044) (by decide +kernel), List.mem_of_getElem? (i := 1045) (by decide +kernel)⟩
theorem lw_p65 : lw_okq (⟨"WareHallModel", "availableFor", "(II)I"⟩, 33) := ⟨⟨by decide +kernel, by decide +kernel⟩, List.mem_of_getElem? (i := 852) (by decide +kernel), List.mem_of_getElem? (i := 1048) (by decide +kernel), List.mem_of_getElem? (i := 1049) (by decide +kernel)⟩
theorem lw_p66 : lw_okq (⟨"WareHallModel", "isNotOpen", "(I)Z"⟩, 33) := ⟨⟨by decide +kernel, by decide +kernel⟩, List.mem_of_getElem? (i := 852) (by decide +kernel), List.mem_of_getElem? (i := 1058) (by decide +kernel), List.mem_of_getElem? (i := 1059) (by decide +kernel)⟩
theorem lw_p67 : lw_okq (⟨"WareHallModel", "isPromise", "(I)Z"⟩, 33) := ⟨⟨by decide +kernel, by decide +kernel⟩, List.mem_of_getElem? (i := 852) (by decide +kernel), List.mem_of_getElem? (i := 1062) (by decide +kernel), List.mem_of_getElem? (i := 1063) (by decide +kernel)⟩
theorem lw_p68 : lw_okq (⟨"WareHallModel", "findsLines", "(I)V"⟩, 33) := ⟨⟨by decide +kernel, by decide +kernel⟩, List.mem_of_getElem? (i := 852) (by decide +kernel), List.mem_of_getElem? (i := 1070) (by decide +kernel), List.mem_of_getElem? (i := 1071) (by decide +kernel)⟩
theorem lw_p69 : lw_okq (⟨"WareHallModel", "lacksLines", "(I)Z"⟩, 33) := ⟨⟨by decide +kernel, by decide +kernel⟩, List.mem_of_getElem? (i := 852) (by decide +kernel), List.mem_of_getElem? (i := 1095) (by decide +kernel), List.mem_of_getElem? (i := 1096) (by decide +kernel)⟩
theorem lw_p70 : lw_okq (⟨"WareHallModel", "lacksLine", "(II)Z"⟩, 33) := ⟨⟨by decide +kernel, by decide +kernel⟩, List.mem_of_getElem? (i := 852) (by decide +kernel), List.mem_of_getElem? (i := 1103) (by decide +kernel), List.mem_of_getElem? (i := 1104) (by decide +kernel)⟩
theorem lw_p71 : lw_okq (⟨"WareHallModel", "dueDay", "(I)I"⟩, 33) := ⟨⟨by decide +kernel, by decide +kernel⟩, List.mem_of_getElem? (i := 852) (by decide +kernel), List.mem_of_getElem? (i := 1136) (by decide +kernel), List.mem_of_getElem? (i := 1137) (by decide +kernel)⟩
theorem lw_p72 : lw_okq (⟨"WareHallModel", "sum", "(IZ)I"⟩, 33) := ⟨⟨by decide +kernel, by decide +kernel⟩, List.mem_of_getElem? (i := 852) (by decide +kernel), List.mem_of_getElem? (i := 1174) (by decide +kernel), List.mem_of_getElem? (i := 1175) (by decide +kernel)⟩
theorem lw_p73 : lw_okq (⟨"WareHallModel", "lacksEntry", "(I)Z"⟩, 33) := ⟨⟨by decide +kernel, by decide +kernel⟩, List.mem_of_getElem? (i := 852) (by decide +kernel), List.mem_of_getElem? (i := 1190) (by decide +kernel), List.mem_of_getElem? (i := 1191) (by decide +kernel)⟩
def lw_privs_5 : List (MethodName × Nat) := [(⟨"WareHallModel", "gives", "(III)I"⟩, 33), (⟨"WareHallModel", "availableFor", "(II)I"⟩, 33), (⟨"WareHallModel", "isNotOpen", "(I)Z"⟩, 33), (⟨"WareHallModel", "isPromise", "(I)Z"⟩, 33), (⟨"WareHallModel", "findsLines", "(I)V"⟩, 33), (⟨"WareHallModel", "lacksLines", "(I)Z"⟩, 33), (⟨"WareHallModel", "lacksLine", "(II)Z"⟩, 33), (⟨"WareHallModel", "dueDay", "(I)I"⟩, 33), (⟨"WareHallModel", "sum", "(IZ)I"⟩, 33), (⟨"WareHallModel", "lacksEntry", "(I)Z"⟩, 33)]
theorem lw_r5 : ∀ q ∈ lw_privs_5, lw_okq q := List.forall_mem_cons.mpr ⟨lw_p64, List.forall_mem_cons.mpr ⟨lw_p65, List.forall_mem_cons.mpr ⟨lw_p66, List.forall_mem_cons.mpr ⟨lw_p67, List.forall_mem_cons.mpr ⟨lw_p68, List.forall_mem_cons.mpr ⟨lw_p69, List.forall_mem_cons.mpr ⟨lw_p70, List.forall_mem_cons.mpr ⟨lw_p71, List.forall_mem_cons.mpr ⟨lw_p72, List.forall_mem_cons.mpr ⟨lw_p73, fun _ h => absurd h List.not_mem_nil⟩⟩⟩⟩⟩⟩⟩⟩⟩⟩
def lw_privs : List (MethodName × Nat) := lw_privs_1 ++ (lw_privs_2 ++ (lw_privs_3 ++ (lw_privs_4 ++ (lw_privs_5))))
def lw_tbl : List Cond := k2_sels lw_privs ++ tables_1
theorem lw_privs_ok : ∀ q ∈ lw_privs, lw_okq q := by
  show ∀ q ∈ lw_privs_1 ++ (lw_privs_2 ++ (lw_privs_3 ++ (lw_privs_4 ++ (lw_privs_5)))), lw_okq q
  exact List.forall_mem_append.mpr ⟨lw_r1, List.forall_mem_append.mpr ⟨lw_r2, List.forall_mem_append.mpr ⟨lw_r3, List.forall_mem_append.mpr ⟨lw_r4, lw_r5⟩⟩⟩⟩
/-- the streams that the claim lets the run draw from -/
abbrev lw_cs : List Choice := [Jvm.Choice.named "NaN.bits"]
theorem lw_bits : nanBits ∈ lw_cs := by first | decide | exact List.mem_cons_self | simp [lw_cs, nanBits]

/-! ===== BEGIN words of one list among another's, by their places ===== -/
theorem goodIn_r {big : List Cond} (ws : List Cond) (ps : List Nat) (hp : ws = ps.filterMap (fun i => big[i]?)) (h : ws.all goodWord = true) : GoodIn big ws := by
  intro w hw
  have h1 := List.all_eq_true.mp h w hw
  rw [hp] at hw
  obtain ⟨i, -, hi⟩ := List.mem_filterMap.mp hw
  have hm : w ∈ big := by first | exact List.mem_of_getElem? hi | exact List.getElem?_mem hi
  exact ⟨hm, good_of_word h1⟩
theorem goodIn_app {big a b : List Cond} (ha : GoodIn big a) (hb : GoodIn big b) : GoodIn big (a ++ b) := fun w h => (List.mem_append.mp h).elim (ha w) (hb w)
theorem goodIn_ca {big a b : List Cond} {c : Cond} (ha : GoodIn big (c :: a)) (hb : GoodIn big b) : GoodIn big (c :: (a ++ b)) := fun w h => (List.mem_cons.mp h).elim (fun e => ha w (List.mem_cons.mpr (Or.inl e))) (fun h => (List.mem_append.mp h).elim (fun h => ha w (List.mem_cons.mpr (Or.inr h))) (hb w))
theorem goodIn_sub {big ws : List Cond} (hm : ∀ w ∈ ws, w ∈ big) (h : ws.all goodWord = true) : GoodIn big ws := fun w hw => ⟨hm w hw, good_of_word (List.all_eq_true.mp h w hw)⟩
/-! ===== END ===== -/

/-! ===== BEGIN new T[n][m]: the outer array a place, the inner ones among the pooled ===== -/
/-- f, but v at every address of l -/
def vr_up {α : Type} (f : Nat → α) (l : List Nat) (v : α) : Nat → α := fun a => if a ∈ l then v else f a
theorem vr_up_in {α : Type} {f : Nat → α} {l : List Nat} {v : α} {a : Nat} (h : a ∈ l) : vr_up f l v a = v := if_pos h
theorem vr_up_ne {α : Type} {f : Nat → α} {l : List Nat} {v : α} {a : Nat} (h : a ∉ l) : vr_up f l v a = f a := if_neg h
theorem vr_rows {L l : List Nat} {f : Nat → va_E} {e : va_E} (h : ∀ a, a ∈ l → a ∉ L) : va_pl L f ++ l.map (fun a => (a, e)) = va_pl (L ++ l) (vr_up f l e) := by
  unfold va_pl
  rw [List.map_append]
  congr 1
  · apply List.map_congr_left
    intro a ha
    rw [vr_up_ne (fun q => h a q ha)]
  · apply List.map_congr_left
    intro a ha
    rw [vr_up_in ha]
theorem vr_lay {X rows : va_W} {x : Nat × va_E} {pl : va_W} {D : va_G} {cl : List vw_C} {H : Heap} (hP : va_P D cl (((X ++ pl) ++ [x]) ++ rows) H) : va_P D cl ((X ++ [x]) ++ (pl ++ rows)) H := by
  rw [List.append_assoc (X ++ pl)] at hP
  have h := va_P.swap hP
  rw [← List.append_assoc X] at h
  have h2 := va_P.swap h
  rw [List.append_assoc (X ++ [x])] at h2
  exact h2
theorem vr_layD {X rows : va_W} {x : Nat × va_E} {pl : va_W} {A : Nat → Prop} (hD : va_D A (((X ++ pl) ++ [x]) ++ rows)) : va_D A ((X ++ [x]) ++ (pl ++ rows)) := by
  rw [List.append_assoc (X ++ pl)] at hD
  have h := va_D.swap hD
  rw [← List.append_assoc X] at h
  have h2 := va_D.swap h
  rw [List.append_assoc (X ++ [x])] at h2
  exact h2
theorem vr_outer (c : ClassId) (N h0 : Nat) : ∀ i : Nat, Jvm.Free.Multi.outerC c N h0 i = arrV c N (fun j => va_rf (if j < i then some (h0 + 1 + j) else none))
  | 0 => by
    show ({ cls := c, slots := Array.replicate N .null, vm := .none } : Cell) = _
    rw [arrV_new]
    refine congrArg (arrV c N) (funext fun j => ?_)
    simp [va_rf]
  | i + 1 => by
    show (Jvm.Free.Multi.outerC c N h0 i).setSlot i (.ref (h0 + 1 + i)) = _
    rw [vr_outer c N h0 i, arrV_store]
    refine congrArg (arrV c N) (funext fun j => ?_)
    by_cases e : j = i
    · subst e
      simp [updV, va_rf]
    · by_cases h : j < i
      · simp [updV, e, h, Nat.lt_succ_of_lt h]
      · simp [updV, e, h, show ¬ j < i + 1 by omega]
section VGM
variable {p : Program} {l : Launch} {e : Env} {R : Room} {s : State} {m : MethodId} {args : Array Value} {below : List Frame} {meth : Method} {c : Code} {H : Heap} {locs : List Loc} {cells slots : Nat} {Q : State → Prop}
variable {cc : ByteArray} {pc : Nat} {ls : Array Slot} {rest : List Value} {D : va_G} {cl : List vw_C} {A : Nat → Prop} {a : Nat} {tys : List (ClassId × FieldType)} {ws : va_W} {H0 : Heap}
theorem va_mna {X : va_W} {L : List Nat} {f : Nat → va_E} {cc : ByteArray} (hexec : p.tables.exec = Jvm.exec) (hb : c.code = cc) {own : String} {index : Nat} {ty : FieldType} {cy : ClassId} (hown : s.vm.findClass own = some m.cls) (hclink : (Cond.classLink own index ("[" ++ (FieldType.array ty).toString)).before args s = true) (hover : (Cond.arrayOver (.array ty)).before args s = true) (harr : (Cond.arrayClass ty).before args s = true) (hcy : s.vm.findClass (FieldType.array ty).toString = some cy)
    (hK : va_K D cl tys s) (hP : va_P D cl (X ++ va_pl L f) H) (hD : va_D A (X ++ va_pl L f)) (hS : va_S A H0 H locs) (hA : ∀ q, H0.size ≤ q → A q) {n k : Int32} {N' K' : Nat} {z : vp_A} (hn : ¬ n < 0) (hk : ¬ k < 0) (hN : n.toNatClampNeg = N') (hM : k.toNatClampNeg = K')
    (hb1 : N' * 4 ≤ 536870912) (hb2 : K' * componentBytes ty ≤ 536870912) (hb3 : K' ≤ 536870912) (hdf : fits ty (defaultValue ty) = true) (hdd : (defaultValue ty).isDefault = true) (hcells : cells + (1 + N') ≤ R.cells) (hslots : slots + (N' + N' * K') ≤ R.slots) (hz : ∀ c : ClassId, Jvm.Free.Multi.innerC c K' (defaultValue ty) = vp_cell c z) (hdg : decode cc pc = .ok (.multianewarray index 2, 4))
    (kk : ∀ (q : Nat) (r : Nat → Nat) (cA : ClassId) (H1 : Heap), (∀ i j : Nat, i < N' → j < N' → r i = r j → i = j) → (∀ i : Nat, i < N' → r i ∉ L) → va_K D cl (tys ++ [(cA, .array ty)]) s →
      va_P D cl ((X ++ [(q, .inl (cA, N', .inr (.inr (.inr (.inr (fun i => if i < N' then some (r i) else none))))))]) ++ va_pl (L ++ (List.range N').map r) (vr_up f ((List.range N').map r) (.inl (cy, z)))) H1 → va_D A ((X ++ [(q, .inl (cA, N', .inr (.inr (.inr (.inr (fun i => if i < N' then some (r i) else none))))))]) ++ va_pl (L ++ (List.range N').map r) (vr_up f ((List.range N').map r) (.inl (cy, z)))) → va_S A H0 H1 locs →
      W p l e R s m args below meth c H1 locs (cells + 1 + N') (slots + N' + N' * K') Q (F0 m (pc + 4) ls (.ref q :: rest))) : W p l e R s m args below meth c H locs cells slots Q (F0 m pc ls (.int k :: .int n :: rest)) := by
  subst hN
  subst hM
  intro T hT Xs
  obtain ⟨vm₁, cA, comp, -, fA, fC, hO, -, X', step⟩ := Xs.multianewarray2F hexec hown hclink hover harr (g := F0 m pc ls (.int k :: .int n :: rest)) rfl (by rw [hb]; exact hdg) rfl hn hk hb1 hb2 hb3 hdf hdd hcells hslots
  have ec : some cy = some comp := hcy.symm.trans fC
  cases ec
  generalize hF : Jvm.Free.Multi.fill (T.setVm vm₁) cA cy n.toNatClampNeg k.toNatClampNeg (defaultValue ty) n.toNatClampNeg = F at X' step
  have hTh : (T.setVm vm₁).heap = H := hT
  obtain ⟨f1, f2, -, -⟩ := Jvm.Free.Multi.fill_facts (T.setVm vm₁) cA cy n.toNatClampNeg k.toNatClampNeg (defaultValue ty) n.toNatClampNeg
  rw [hF, hTh] at f1 f2
  have hold : ∀ x : Nat, x < H.size → F.heap[x]? = H[x]? := fun x hx => by
    have := Jvm.Free.Multi.fill_old (T.setVm vm₁) cA cy n.toNatClampNeg k.toNatClampNeg (defaultValue ty) (a := x) (by rw [hTh]; exact hx) n.toNatClampNeg
    rw [hF, hTh] at this
    exact this
  have hrow : ∀ j : Nat, j < n.toNatClampNeg → F.heap[H.size + 1 + j]? = some (vp_cell cy z) := fun j hj => by
    have := Jvm.Free.Multi.fill_inner (T.setVm vm₁) cA cy n.toNatClampNeg k.toNatClampNeg (defaultValue ty) n.toNatClampNeg j hj
    rw [hF, hTh, hz] at this
    exact this
  have hout : Jvm.Free.Multi.outerC cA n.toNatClampNeg H.size n.toNatClampNeg = vp_cell cA (n.toNatClampNeg, .inr (.inr (.inr (.inr (fun i => if i < n.toNatClampNeg then some (H.size + 1 + i) else none))))) := by
    rw [vp_cell_q]
    exact vr_outer cA n.toNatClampNeg H.size n.toNatClampNeg
  rw [hout] at f2
  have hlt : ∀ a, a ∈ L → a < H.size := fun a ha => by
    obtain ⟨k9, hk9⟩ := va_pl_get (X := X) (f := f) ha
    exact (hP k9 _ hk9).lt
  have hnl : ∀ i : Nat, i < n.toNatClampNeg → H.size + 1 + i ∉ L := fun i _ h => by
    have := hlt _ h
    omega
  have hnm : ∀ a, a ∈ (List.range n.toNatClampNeg).map (fun i => H.size + 1 + i) → a ∉ L := fun a ha h => by
    obtain ⟨i, -, rfl⟩ := List.mem_map.mp ha
    have := hlt _ h
    omega
  have hP0 : va_P D cl (X ++ va_pl L f) F.heap := hP.kept (fun k9 x hx => hold x.1 ((hP k9 x hx).lt))
  have hP1 : va_P D cl ((X ++ va_pl L f) ++ [(H.size, .inl (cA, n.toNatClampNeg, .inr (.inr (.inr (.inr (fun i => if i < n.toNatClampNeg then some (H.size + 1 + i) else none))))))]) F.heap := hP0.app (fun k9 x hx => by
    have h0 : k9 < 1 := (List.getElem?_eq_some_iff.mp hx).1
    rw [show k9 = 0 by omega] at hx
    cases hx
    exact f2)
  have hP2 : va_P D cl (((X ++ va_pl L f) ++ [(H.size, .inl (cA, n.toNatClampNeg, .inr (.inr (.inr (.inr (fun i => if i < n.toNatClampNeg then some (H.size + 1 + i) else none))))))]) ++ ((List.range n.toNatClampNeg).map (fun i => H.size + 1 + i)).map (fun a => (a, .inl (cy, z)))) F.heap := hP1.app (fun k9 x hx => by
    obtain ⟨a, ha, rfl⟩ := List.mem_map.mp (List.mem_of_getElem? hx)
    obtain ⟨i, hi, rfl⟩ := List.mem_map.mp ha
    exact hrow i (List.mem_range.mp hi))
  have hD2 : va_D A (((X ++ va_pl L f) ++ [(H.size, .inl (cA, n.toNatClampNeg, .inr (.inr (.inr (.inr (fun i => if i < n.toNatClampNeg then some (H.size + 1 + i) else none))))))]) ++ ((List.range n.toNatClampNeg).map (fun i => H.size + 1 + i)).map (fun a => (a, .inl (cy, z)))) := by
    have hD1 := hD.push (e := .inl (cA, n.toNatClampNeg, .inr (.inr (.inr (.inr (fun i => if i < n.toNatClampNeg then some (H.size + 1 + i) else none)))))) hP rfl (hA _ hS.1)
    generalize hW1 : (X ++ va_pl L f) ++ [(H.size, .inl (cA, n.toNatClampNeg, .inr (.inr (.inr (.inr (fun i => if i < n.toNatClampNeg then some (H.size + 1 + i) else none))))))] = W1 at hD1 hP1 ⊢
    have hle : ∀ (k9 : Nat) (x : Nat × va_E), W1[k9]? = some x → x.1 ≤ H.size := fun k9 x hx => by
      rw [← hW1] at hx
      by_cases hl : k9 < (X ++ va_pl L f).length
      · rw [List.getElem?_append_left hl] at hx
        exact Nat.le_of_lt ((hP k9 x hx).lt)
      · rw [List.getElem?_append_right (by omega)] at hx
        have h0 : k9 - (X ++ va_pl L f).length < 1 := (List.getElem?_eq_some_iff.mp hx).1
        rw [show k9 - (X ++ va_pl L f).length = 0 by omega] at hx
        cases hx
        exact Nat.le_refl _
    have hr : ∀ (k9 : Nat) (x : Nat × va_E), (((List.range n.toNatClampNeg).map (fun i => H.size + 1 + i)).map (fun a => ((a, .inl (cy, z)) : Nat × va_E)))[k9]? = some x → x.1 = H.size + 1 + k9 := fun k9 x hx => by
      rw [List.getElem?_map, List.getElem?_map] at hx
      by_cases h9 : k9 < n.toNatClampNeg
      · rw [List.getElem?_range h9] at hx
        cases hx
        rfl
      · have hn0 : (List.range n.toNatClampNeg)[k9]? = none := List.getElem?_eq_none (by rw [List.length_range]; omega)
        rw [hn0] at hx
        cases hx
    refine ⟨fun i j x y hi hj hxy => ?_, fun k9 x hx => ?_⟩
    · by_cases h1 : i < W1.length <;> by_cases h2 : j < W1.length
      · rw [List.getElem?_append_left h1] at hi
        rw [List.getElem?_append_left h2] at hj
        exact hD1.1 i j x y hi hj hxy
      · rw [List.getElem?_append_left h1] at hi
        rw [List.getElem?_append_right (by omega)] at hj
        have := hle _ _ hi
        have := hr _ _ hj
        omega
      · rw [List.getElem?_append_right (by omega)] at hi
        rw [List.getElem?_append_left h2] at hj
        have := hle _ _ hj
        have := hr _ _ hi
        omega
      · rw [List.getElem?_append_right (by omega)] at hi hj
        have := hr _ _ hi
        have := hr _ _ hj
        omega
    · by_cases h1 : k9 < W1.length
      · rw [List.getElem?_append_left h1] at hx
        exact hD1.2 k9 x hx
      · rw [List.getElem?_append_right (by omega)] at hx
        have := hr _ _ hx
        exact hA _ (by have := hS.1; omega)
  have hAr : ArrOfT s cA (.array ty) := fun N9 z9 => by
    obtain ⟨-, k9, hk9, cm9, hkk9⟩ := (hO 0 0 0).1
    exact ⟨(fun q hq => by cases hq), k9, hk9, cm9, hkk9⟩
  have hK2 : va_K D cl (tys ++ [(cA, .array ty)]) s := ⟨hK.1, fun k9 x hx => by
    by_cases hl : k9 < tys.length
    · rw [List.getElem?_append_left hl] at hx
      exact hK.2 k9 x hx
    · rw [List.getElem?_append_right (by omega)] at hx
      have h0 : k9 - tys.length < 1 := (List.getElem?_eq_some_iff.mp hx).1
      rw [show k9 - tys.length = 0 by omega] at hx
      cases hx
      exact ⟨hAr, fA⟩⟩
  obtain ⟨t, a1, b1⟩ := kk H.size (fun i => H.size + 1 + i) cA F.heap (fun i j _ _ h => by have h9 : H.size + 1 + i = H.size + 1 + j := h; omega) hnl hK2 (by rw [← vr_rows hnm]; exact vr_lay hP2) (by rw [← vr_rows hnm]; exact vr_layD hD2) ⟨by rw [f1]; have := hS.1; omega, fun x h1 h2 => (hold x (Nat.lt_of_lt_of_le h1 hS.1)).trans (hS.2.1 x h1 h2), hS.2.2⟩ F rfl X'
  refine ⟨t, step t ?_, b1⟩
  have e : T.heap.size = H.size := by rw [hT]
  rw [e]
  exact a1
end VGM
/-! ===== END ===== -/

/-! ===== BEGIN exceptions that leave a method, and their catching by the caller (launches without stack traces) ===== -/
section VXA
/-! The laws vx_back, vx_callV, vx_callS, vx_callSW, vx_throw0, vx_throwS follow proofs of the library, with one case more: JvmDerived/Free/Laws.lean (Back.of_free), Shelf42/LK1.lean (callV, callS), Shelf/KitTraced.lean (throwNew0V, throwNewS). -/
/-- where a method has thrown q: the class by its name, the cell, what was written, the world -/
def vx_T (XC : String → State → State → Prop) (st : State) (q : Addr) (t : State) (mc ms : Nat) (free : Addr → Prop) : Prop :=
  ∃ (E : String) (ce : Cell) (L : List Loc), XC E st t ∧ t.heap[q]? = some ce ∧ ce.vm = .none ∧ st.vm.findClass E = some ce.cls ∧ st.WarmedH t.vm ∧ st.sameButNew ({ t with vm := st.vm } : State) L mc ms ∧ ∀ z ∈ L, free z.base
def vx_Q (Qc : Array Value → State → Outcome → State → Prop) (XC : String → State → State → Prop) (mc ms : Nat) (free : Addr → Prop) : Array Value → State → Outcome → State → Prop := fun a st o t =>
  (Qc a st o t ∧ ∃ L, FrameEnd st o t L mc ms ∧ ∀ q ∈ L, free q.base) ∨ ∃ q, o = .threw q ∧ vx_T XC st q t mc ms free
/-- a callee that returns or throws -/
def vx_Met (l : Launch) (y : MethodName) (ws : List Cond) (rm : Room) (Pc : Array Value → State → Prop) (Qc : Array Value → State → Outcome → State → Prop) (XC : String → State → State → Prop) (mc ms : Nat) (free : Addr → Prop) : Prop :=
  MetFree l y (headSpec ws rm) Pc (fun _ _ _ _ _ => True) (vx_Q Qc XC mc ms free)
def vx_Post (XC : String → State → State → Prop) (mc ms : Nat) (free : Addr → Prop) : Pt → Array Value → Addr → Pt → Prop := fun A a q B =>
  ∃ (g : JFrame) (mk : MethodId) (t : State) (L : List Loc) (E : String) (ce : Cell), B.U.heap = t.heap ∧ B.U.vm = t.vm ∧ XC E (A.U.calling g mk a) t ∧ t.heap[q]? = some ce ∧ ce.vm = .none ∧ A.U.vm.findClass E = some ce.cls ∧ B.locs = A.locs ++ L ∧ (∀ z ∈ L, free z.base) ∧ B.cells = A.cells + mc ∧ B.slots = A.slots + ms
def vx_Back (l : Launch) (R : Room) (p : Program) (e : Env) (below : List Frame) (s : State) (sargs : Array Value) (y : MethodName) (len W9 : Nat)
    (Pre : Pt → Array Value → Prop) (Post : Pt → Array Value → Option Value → Pt → Prop) (PostX : Pt → Array Value → Addr → Pt → Prop) : Prop :=
  ∀ (m : MethodId) (meth : Method) (c : Code) (A : Pt) (g : JFrame) (ig : Instr) (mk : MethodId) (a : Array Value),
    Stand p l e R s m sargs below meth c A.U A.locs A.cells A.slots → g.method = m → g.locals.size = c.maxLocals → decode c.code g.pc = .ok (ig, len) →
    2 * g.monitorRoom + (g.stack.map fun v => v.category).sum ≤ W9 → A.U.methodNamed? y = some mk → Pre A a →
    (∃ (v : Option Value) (B : Pt), Stand p l e R s m sargs below meth c B.U B.locs B.cells B.slots ∧ Post A a v B ∧
      Steps p.tables e below (doInvoke e (A.U.setTop g) [] mk a).1 (B.U.setTop { g with pc := g.pc + len, stack := v.toList ++ g.stack })) ∨
    (∃ (q : Addr) (B : Pt), Stand p l e R s m sargs below meth c B.U B.locs B.cells B.slots ∧ PostX A a q B ∧
      Steps p.tables e below (doInvoke e (A.U.setTop g) [] mk a).1 ((B.U.setTop g).pushFrame (.throwing q)))
section Payer
variable {l : Launch} {R : Room} {p : Program} {e : Env} {below : List Frame} {s : State} {sargs : Array Value} {y : MethodName} {len W9 : Nat}
theorem vx_back {ws : List Cond} {rm : Room} {Pc : Array Value → State → Prop} {Qc : Array Value → State → Outcome → State → Prop} {XC : String → State → State → Prop} {mc ms : Nat} {free : Addr → Prop} {bytes : ByteArray} {maxL : Nat} {ret : Option FieldType}
    (hM : vx_Met l y ws rm Pc Qc XC mc ms free) (hblind : FrameBlind Pc) (hrc : rm.cells = mc) (hrs : rm.slots = ms)
    (hframes : rm.frames + 1 ≤ R.frames) (hlocals : W9 + (maxL + 11) + rm.locals ≤ R.locals)
    (hws : ∀ w ∈ ws, ∀ a' U, s.WarmedH U.vm → w.before a' U = true) (hcode : Cond.code y bytes maxL ret ∈ ws) (hinit : ∀ a' U, s.WarmedH U.vm → (Cond.initialized y.cls).before a' U = true) :
    vx_Back l R p e below s sargs y len W9 (PreOf R mc ms Pc) (PostOf Qc mc ms free) (vx_Post XC mc ms free) := by
  intro m meth c A g ig mk a X hg hsize hdg hW hn hp
  have h1 : (headSpec ws rm).pre.before a A.U = true := atoms_intro fun w hw => hws w hw _ _ X.warmed
  have h2 : (Cond.code y bytes maxL ret).before a A.U = true := hws _ hcode _ _ X.warmed
  have h3 : (Cond.initialized y.cls).before a A.U = true := hinit _ _ X.warmed
  have h4 : A.cells + (headSpec ws rm).room.cells ≤ R.cells := by rw [show (headSpec ws rm).room.cells = mc from hrc]; exact hp.1
  have h5 : A.slots + (headSpec ws rm).room.slots ≤ R.slots := by rw [show (headSpec ws rm).room.slots = ms from hrs]; exact hp.2.1
  have hPc : Pc a (A.U.calling g mk a) := hblind _ _ _ _ hp.2.2
  obtain ⟨U, Ls, c0, s0⟩ := A
  dsimp only [Pt.U, Pt.locs, Pt.cells, Pt.slots] at h1 h2 h3 h4 h5 X hn hPc ⊢
  obtain ⟨methY, cY, hmY, hcY, -, hlY, -, -, -, -⟩ := Cond.code_spec hn h2
  obtain ⟨kY, hkY, -⟩ := className_of_methodNamed hn
  have hinitY : kY.init = .initialized := Cond.initialized_spec (findClass_of_methodNamed hn) hkY h3
  have h : At U g.method c below := by rw [hg]; exact X.here
  have hlocals9 : W9 + (maxL + 11) + (headSpec ws rm).room.locals ≤ R.locals := hlocals
  have happ : (headSpec ws rm).appliesLoose y e.platform (U.calling g mk a) = true :=
    Spec.appliesLoose_calling (g := g) h hdg hn hkY hinitY
      (X.room_calling (g := g) (R' := (headSpec ws rm).room) hsize hmY hcY hframes (by rw [hlY]; omega) h4 h5) h1
  obtain ⟨mid, hmid⟩ := h.above
  have hfr : (U.setTop g).frames = (.java g :: mid) ++ below := by rw [State.frames_setTop' g h.top, hmid]; rfl
  obtain ⟨o, s₂, hsteps, -, hend, hq⟩ := Steps.callFree hM p X.admits X.cas X.clock (acts := []) hfr happ hPc trivial
  have hq' : vx_Q Qc XC mc ms free a (U.calling g mk a) o s₂ := hq
  rw [State.frames_setTop' g h.top] at hend
  obtain ⟨g₀, hg0⟩ := Option.isSome_iff_exists.mp h.top
  obtain ⟨r, hr⟩ := State.topJava?_eq_some.mp hg0
  have hr' : (({ U with heap := s₂.heap, slotsUsed := s₂.slotsUsed } : State).setVm s₂.vm).frames = .java g₀ :: r := hr
  rcases hq' with ⟨hqc, L, hfe, hL⟩ | ⟨q, rfl, E, ce, L, hx, hce, hcv, hcl, hW₂, hsm, hL⟩
  · obtain ⟨⟨v, rfl⟩, hW₂, e2, q2, q3, q4, q5, q6⟩ := id hfe
    have e3 : s₂ = ({ (U.calling g mk a).setFrames s₂.frames with heap := s₂.heap, slotsUsed := s₂.slotsUsed } : State).setVm s₂.vm := by
      have : s₂ = ({ s₂ with vm := (U.calling g mk a).vm } : State).setVm s₂.vm := rfl
      rw [e2] at this
      exact this
    obtain ⟨c₂, i₂, len₂, hc₂, hd₂, hf₂⟩ := hend
    have hW' : U.WarmedH s₂.vm := hW₂
    have hcc : c₂ = c := by
      have h1 : s₂.code? g.method = U.code? g.method := by
        rw [State.code?_eq, State.code?_eq, hW'.alike.method?]
      exact Option.some.inj (hc₂.symm.trans (h1.trans h.code))
    subst hcc
    have hlen : len₂ = len := by rw [hdg] at hd₂; cases hd₂; rfl
    subst hlen
    have hs₂ : s₂ = (({ U with heap := s₂.heap, slotsUsed := s₂.slotsUsed } : State).setVm s₂.vm).setTop { g with pc := g.pc + len₂, stack := v.toList ++ g.stack } := by
      refine e3.trans ?_
      rw [hf₂, State.calling_eq h.top, State.setFrames_setFrames, State.setTop_of_frames _ hr', hr]
      rfl
    have hsame : U.sameButNew ({ U with heap := s₂.heap, slotsUsed := s₂.slotsUsed } : State) L mc ms := by
      refine ⟨?_, q2, q3, q4, q5, q6⟩
      obtain ⟨t, ht, -⟩ := State.frames_cons hr
      show ({ U with heap := s₂.heap, slotsUsed := s₂.slotsUsed } : State) = { U.setFrames U.frames with heap := s₂.heap, slotsUsed := s₂.slotsUsed }
      rw [State.setFrames_self ht]
    subst hg
    refine Or.inl ⟨v, ⟨(({ U with heap := s₂.heap, slotsUsed := s₂.slotsUsed } : State).setVm s₂.vm), Ls ++ L, c0 + mc, s0 + ms⟩,
      ⟨X.admits, X.cas, X.clock, X.frames, X.room, X.hears, X.method, X.code, (X.here.setHeapUsed s₂.heap s₂.slotsUsed).setVm hW'.alike, X.tail, State.WarmedH.trans X.warmed hW', X.limits, X.bytes, X.same.trans (hsame.setVm s.vm)⟩,
      ⟨g, mk, s₂, L, rfl, rfl, hqc, rfl, hL, rfl, rfl⟩, ?_⟩
    show Steps p.tables e below _ ((({ U with heap := s₂.heap, slotsUsed := s₂.slotsUsed } : State).setVm s₂.vm).setTop { g with pc := g.pc + len₂, stack := v.toList ++ g.stack })
    rw [← hs₂]
    exact hsteps
  · obtain ⟨e2, q2, q3, q4, q5, q6⟩ := id hsm
    have e3 : s₂ = ({ (U.calling g mk a).setFrames s₂.frames with heap := s₂.heap, slotsUsed := s₂.slotsUsed } : State).setVm s₂.vm := by
      have : s₂ = ({ s₂ with vm := (U.calling g mk a).vm } : State).setVm s₂.vm := rfl
      rw [e2] at this
      exact this
    have hf₂ : s₂.frames = .throwing q :: .java g :: U.frames.tail := hend
    have hW' : U.WarmedH s₂.vm := hW₂
    have hs₂ : s₂ = ((({ U with heap := s₂.heap, slotsUsed := s₂.slotsUsed } : State).setVm s₂.vm).setTop g).pushFrame (.throwing q) := by
      refine e3.trans ?_
      rw [hf₂, State.calling_eq h.top, State.setFrames_setFrames, State.pushFrame, State.frames_setTop _ hr', State.setTop_of_frames _ hr', State.setFrames_setFrames, hr]
      rfl
    have hsame : U.sameButNew ({ U with heap := s₂.heap, slotsUsed := s₂.slotsUsed } : State) L mc ms := by
      refine ⟨?_, q2, q3, q4, q5, q6⟩
      obtain ⟨t, ht, -⟩ := State.frames_cons hr
      show ({ U with heap := s₂.heap, slotsUsed := s₂.slotsUsed } : State) = { U.setFrames U.frames with heap := s₂.heap, slotsUsed := s₂.slotsUsed }
      rw [State.setFrames_self ht]
    subst hg
    refine Or.inr ⟨q, ⟨(({ U with heap := s₂.heap, slotsUsed := s₂.slotsUsed } : State).setVm s₂.vm), Ls ++ L, c0 + mc, s0 + ms⟩,
      ⟨X.admits, X.cas, X.clock, X.frames, X.room, X.hears, X.method, X.code, (X.here.setHeapUsed s₂.heap s₂.slotsUsed).setVm hW'.alike, X.tail, State.WarmedH.trans X.warmed hW', X.limits, X.bytes, X.same.trans (hsame.setVm s.vm)⟩,
      ⟨g, mk, s₂, L, E, ce, rfl, rfl, hx, hce, hcv, hcl, rfl, hL, rfl, rfl⟩, ?_⟩
    show Steps p.tables e below _ (((({ U with heap := s₂.heap, slotsUsed := s₂.slotsUsed } : State).setVm s₂.vm).setTop g).pushFrame (.throwing q))
    rw [← hs₂]
    exact hsteps
end Payer
section Calls
variable {p : Program} {l : Launch} {e : Env} {R : Room} {s : State} {m : MethodId} {args : Array Value} {below : List Frame} {meth : Method} {c : Code} {T : State} {locs : List Loc} {cells slots : Nat}
theorem vx_callV (X : Stand p l e R s m args below meth c T locs cells slots) (hexec : p.tables.exec = Jvm.exec) {own C : String} {index : Nat} {y : MethodName} {bytes : ByteArray} {maxL : Nat} {ret : Option FieldType}
    (hown : s.vm.findClass own = some m.cls) (hlink : (Cond.methodLink own index y).before args s = true) (hinst : (Cond.instanceMethod y).before args s = true) (hsel : (Cond.selects C y y).before args s = true)
    (hcode : (Cond.code y bytes maxL ret).before args s = true) (hy : y.cls ≠ "java/lang/invoke/MethodHandle" ∧ y.cls ≠ "java/lang/invoke/VarHandle")
    {W9 : Nat} {Pre : Pt → Array Value → Prop} {Post : Pt → Array Value → Option Value → Pt → Prop} {PostX : Pt → Array Value → Addr → Pt → Prop} (hK : vx_Back l R p e below s args y 3 W9 Pre Post PostX)
    {b : Addr} {cellB : Cell} (hcell : T.heap[b]? = some cellB) (hobj : cellB.vm.isStatics = false) (hcls : s.vm.findClass C = some cellB.cls)
    {g : JFrame} (hg : g.method = m) (hsize : g.locals.size = c.maxLocals) {argsL rest : List Value} (hlen : ∀ sig, parseMethodDescriptor y.desc = some sig → argsL.length = sig.parameters.length)
    (hstack : g.stack = argsL.reverse ++ .ref b :: rest) (hW : 2 * g.monitorRoom + (rest.map fun v => v.category).sum ≤ W9) (hdg : decode c.code g.pc = .ok (.invokevirtual index, 3))
    (hpre : ∀ vm₁, s.WarmedH vm₁ → Pre ⟨T.setVm vm₁, locs, cells, slots⟩ (Value.ref b :: argsL).toArray) :
    (∃ (v : Option Value) (vm₁ : Vm) (B : Pt), s.WarmedH vm₁ ∧ Stand p l e R s m args below meth c B.U B.locs B.cells B.slots ∧ Post ⟨T.setVm vm₁, locs, cells, slots⟩ (Value.ref b :: argsL).toArray v B ∧
      ∀ target, Steps p.tables e below (B.U.setTop { g with pc := g.pc + 3, stack := v.toList ++ rest }) target → Steps p.tables e below (T.setTop g) target) ∨
    (∃ (q : Addr) (vm₁ : Vm) (B : Pt), s.WarmedH vm₁ ∧ Stand p l e R s m args below meth c B.U B.locs B.cells B.slots ∧ PostX ⟨T.setVm vm₁, locs, cells, slots⟩ (Value.ref b :: argsL).toArray q B ∧
      Steps p.tables e below (T.setTop g) ((B.U.setTop { g with stack := rest }).pushFrame (.throwing q))) := by
  obtain ⟨mk, methM, hnamed, hmethM, hstM, habM⟩ := Cond.instanceMethod_spec hinst
  obtain ⟨methM', cM, hmethM', -, -, -, -, -, -, hsigM⟩ := Cond.code_spec hnamed hcode
  cases hmethM.symm.trans hmethM'
  obtain ⟨c2, r2, m2, q1, q2, q3, q4, kP, hkP, hkPi⟩ := Cond.selects_spec hsel
  cases hcls.symm.trans q1
  cases (State.methodFound?_of_named hnamed hy).symm.trans q2
  cases hnamed.symm.trans q3
  have hselP : selectMethod e.platform s.vm cellB.cls mk = .method mk := by rw [Launch.admits_selectMethod X.admits]; exact q4
  obtain ⟨vm₁, X₁, hstep₁⟩ := X.invokevirtual hexec hown hlink hnamed hmethM hstM hkP hkPi hy (a := b) (cell := cellB) hcell
    (fun z h => by rw [h] at hobj; cases hobj) hselP hmethM habM hkP hkPi (g := g) hg (argsL := argsL) (rest := rest) (hlen _ hsigM) hstack hdg
  rcases hK m meth c ⟨T.setVm vm₁, locs, cells, slots⟩ { g with stack := rest } (.invokevirtual index) mk (Value.ref b :: argsL).toArray X₁ hg hsize hdg hW (X₁.named hnamed) (hpre vm₁ X₁.warmed) with ⟨v, B, X', hpost, hsteps⟩ | ⟨q, B, X', hpost, hsteps⟩
  · exact Or.inl ⟨v, vm₁, B, X₁.warmed, X', hpost, fun target h => hstep₁ _ fun acts => by rw [doInvoke_state]; exact hsteps.trans h⟩
  · exact Or.inr ⟨q, vm₁, B, X₁.warmed, X', hpost, hstep₁ _ fun acts => by rw [doInvoke_state]; exact hsteps⟩
theorem vx_callS (X : Stand p l e R s m args below meth c T locs cells slots) (hexec : p.tables.exec = Jvm.exec) {own : String} {index : Nat} {y : MethodName} {bytes : ByteArray} {maxL : Nat} {ret : Option FieldType}
    (hown : s.vm.findClass own = some m.cls) (hlink : (Cond.methodLink own index y).before args s = true) (hstat : (Cond.static y).before args s = true) (hinit : (Cond.initialized y.cls).before args s = true)
    (hcode : (Cond.code y bytes maxL ret).before args s = true) (hy : y.cls ≠ "java/lang/invoke/MethodHandle" ∧ y.cls ≠ "java/lang/invoke/VarHandle")
    {W9 : Nat} {Pre : Pt → Array Value → Prop} {Post : Pt → Array Value → Option Value → Pt → Prop} {PostX : Pt → Array Value → Addr → Pt → Prop} (hK : vx_Back l R p e below s args y 3 W9 Pre Post PostX)
    {g : JFrame} (hg : g.method = m) (hsize : g.locals.size = c.maxLocals) {argsL rest : List Value} (hlen : ∀ sig, parseMethodDescriptor y.desc = some sig → argsL.length = sig.parameters.length)
    (hstack : g.stack = argsL.reverse ++ rest) (hW : 2 * g.monitorRoom + (rest.map fun v => v.category).sum ≤ W9) (hdg : decode c.code g.pc = .ok (.invokestatic index, 3))
    (hpre : ∀ vm₁, s.WarmedH vm₁ → Pre ⟨T.setVm vm₁, locs, cells, slots⟩ argsL.toArray) :
    (∃ (v : Option Value) (vm₁ : Vm) (B : Pt), s.WarmedH vm₁ ∧ Stand p l e R s m args below meth c B.U B.locs B.cells B.slots ∧ Post ⟨T.setVm vm₁, locs, cells, slots⟩ argsL.toArray v B ∧
      ∀ target, Steps p.tables e below (B.U.setTop { g with pc := g.pc + 3, stack := v.toList ++ rest }) target → Steps p.tables e below (T.setTop g) target) ∨
    (∃ (q : Addr) (vm₁ : Vm) (B : Pt), s.WarmedH vm₁ ∧ Stand p l e R s m args below meth c B.U B.locs B.cells B.slots ∧ PostX ⟨T.setVm vm₁, locs, cells, slots⟩ argsL.toArray q B ∧
      Steps p.tables e below (T.setTop g) ((B.U.setTop { g with stack := rest }).pushFrame (.throwing q))) := by
  obtain ⟨mk, hnamed⟩ := Cond.code_named hcode
  obtain ⟨methM, cM, hmethM, -, -, -, -, -, -, hsigM⟩ := Cond.code_spec hnamed hcode
  have hstatic : methM.isStatic = true := Cond.static_spec hnamed hmethM hstat
  obtain ⟨kP, hkP, -⟩ := className_of_methodNamed hnamed
  have hinitP : kP.init = .initialized := Cond.initialized_spec (findClass_of_methodNamed hnamed) hkP hinit
  obtain ⟨vm₁, X₁, hstep₁⟩ := X.invokestatic hexec hown hlink hnamed hmethM hstatic hkP hinitP hy (g := g) hg (argsL := argsL) (rest := rest) (hlen _ hsigM) hstack hdg
  rcases hK m meth c ⟨T.setVm vm₁, locs, cells, slots⟩ { g with stack := rest } (.invokestatic index) mk argsL.toArray X₁ hg hsize hdg hW (X₁.named hnamed) (hpre vm₁ X₁.warmed) with ⟨v, B, X', hpost, hsteps⟩ | ⟨q, B, X', hpost, hsteps⟩
  · exact Or.inl ⟨v, vm₁, B, X₁.warmed, X', hpost, fun target h => hstep₁ _ fun acts => by rw [doInvoke_state]; exact hsteps.trans h⟩
  · exact Or.inr ⟨q, vm₁, B, X₁.warmed, X', hpost, hstep₁ _ fun acts => by rw [doInvoke_state]; exact hsteps⟩
end Calls
theorem vx_cls {s : State} {T : State} {vm₁ : Vm} {E : String} {k : ClassId} (hW : s.WarmedH vm₁) (h : (T.setVm vm₁).vm.findClass E = some k) : s.vm.findClass E = some k := by
  have h1 : vm₁.findClass E = some k := h
  rw [hW.alike.findClass] at h1
  exact h1
/-- the method's frame g, with q thrown over it -/
def vx_W (p : Program) (l : Launch) (e : Env) (R : Room) (s : State) (m : MethodId) (args : Array Value) (below : List Frame) (meth : Method) (c : Code) (H : Heap) (locs : List Loc) (cells slots : Nat) (Q : State → Prop) (g : JFrame) (q : Addr) : Prop :=
  ∀ T : State, T.heap = H → Stand p l e R s m args below meth c T locs cells slots → ∃ t, Steps p.tables e below ((T.setTop g).pushFrame (.throwing q)) t ∧ Q t
def vx_Run (p : Program) (l : Launch) (e : Env) (R : Room) (s : State) (m : MethodId) (args : Array Value) (below : List Frame) (meth : Method) (c : Code) (H : Heap) (locs : List Loc) (cells slots mc ms : Nat) (g : JFrame) (rest : List Value) (Qa : State → Outcome → State → Prop) (XC : String → State → State → Prop) (free : Addr → Prop) : Prop :=
  ∀ T : State, T.heap = H → Stand p l e R s m args below meth c T locs cells slots →
    (∃ (v : Option Value) (st₀ t T' : State) (L : List Loc), st₀.heap = H ∧ Stand p l e R s m args below meth c T' (locs ++ L) (cells + mc) (slots + ms) ∧ (∀ q ∈ L, free q.base) ∧ T'.heap = t.heap ∧ T'.vm = t.vm ∧ Qa st₀ (.returned v) t ∧
      Goes p e below T g T' { g with pc := g.pc + 3, stack := v.toList ++ rest }) ∨
    (∃ (q : Addr) (st₀ t T' : State) (L : List Loc) (E : String) (ce : Cell), st₀.heap = H ∧ Stand p l e R s m args below meth c T' (locs ++ L) (cells + mc) (slots + ms) ∧ (∀ z ∈ L, free z.base) ∧ T'.heap = t.heap ∧ T'.vm = t.vm ∧ XC E st₀ t ∧ t.heap[q]? = some ce ∧ ce.vm = .none ∧ s.vm.findClass E = some ce.cls ∧
      Steps p.tables e below (T.setTop g) ((T'.setTop { g with stack := rest }).pushFrame (.throwing q)))
def vx_X {S : Type} (px : S → Prop) (B : String → S → State → Prop) (A : Nat → Prop) : String → State → State → Prop := fun E st t => ∃ u : S, px u ∧ B E u t ∧ va_F A st t
section Runs
variable {p : Program} {l : Launch} {e : Env} {R : Room} {s : State} {m : MethodId} {args : Array Value} {below : List Frame} {meth : Method} {c : Code} {H : Heap} {locs : List Loc} {cells slots : Nat}
variable {y : MethodName} {bytes cc : ByteArray} {maxL nL mc ms n index : Nat} {ret : Option FieldType} {ws : List Cond} {rm : Room} {Pc : Array Value → State → Prop} {Qc : Array Value → State → Outcome → State → Prop} {XC : String → State → State → Prop} {free : Addr → Prop} {Ts : List Cond} {own C : String} {b : Addr} {As rest : List Value} {g : JFrame}
theorem vx_callBack (cb : CallB R s args own index y bytes maxL ret ws rm mc ms n) (hM : vx_Met l y ws rm Pc Qc XC mc ms free) (hbl : FrameBlind Pc) : vx_Back l R p e below s args y 3 8 (PreOf R mc ms Pc) (PostOf Qc mc ms free) (vx_Post XC mc ms free) := by
  obtain ⟨hrc, hrs, hfr, hlo, hws, hcw, -, hini, -⟩ := cb
  exact vx_back (bytes := bytes) (maxL := maxL) (ret := ret) hM hbl hrc hrs hfr hlo hws hcw (fun a' U hW => word_at hW (Or.inl (by first | rfl | simp [Cond.onTables, Cond.keeps, Cond.steady])) hini)
theorem vx_runV (S : CallFix p m c cc nL s args Ts own) (hM : vx_Met l y ws rm Pc Qc XC mc ms free) (cw : CallW R s args own C index y bytes maxL ret ws rm mc ms n) (hp : PreV s H C b Pc As)
    (hg : g.method = m) (hn : As.length = n) (hsize : g.locals.size = nL) (hstack : g.stack = As.reverse ++ .ref b :: rest) (hW : 2 * g.monitorRoom + (rest.map fun v => v.category).sum ≤ 8) (hdg : decode cc g.pc = .ok (.invokevirtual index, 3)) (hf : cells + mc ≤ R.cells ∧ slots + ms ≤ R.slots) :
    vx_Run p l e R s m args below meth c H locs cells slots mc ms g rest (Qc (Value.ref b :: As).toArray) XC free := by
  have hK : vx_Back l R p e below s args y 3 8 (PreOf R mc ms Pc) (PostOf Qc mc ms free) (vx_Post XC mc ms free) := vx_callBack cw.1 hM hp.1
  obtain ⟨⟨-, -, -, -, -, -, hcode, -, hy, hlen, hl⟩, hin, hse⟩ := cw
  obtain ⟨hx, hb, hml, ho, -⟩ := S
  obtain ⟨-, ⟨cellB, hcB, hoB, hclB⟩, hPc⟩ := hp
  intro T hT X
  rcases vx_callV X hx (C := C) (bytes := bytes) (maxL := maxL) (ret := ret) ho hl hin hse hcode hy hK (by rw [hT]; exact hcB) hoB hclB hg (hsize.trans hml.symm) (argsL := As) (rest := rest) (fun sig h => hn.trans (hlen sig h)) hstack hW (by rw [hb]; exact hdg)
    (fun vm₁ hW₁ => ⟨hf.1, hf.2, hPc (T.setVm vm₁) hT hW₁⟩) with ⟨v, vm₁, ⟨U', l2, c2, s2⟩, hW₁, X', ⟨g', mk, t, L, e1, e2, hq, h1, hL, h2, h3⟩, st⟩ | ⟨q, vm₁, ⟨U', l2, c2, s2⟩, hW₁, X', ⟨g', mk, t, L, E, ce, e1, e2, hq, hce, hcv, hcl, h1, hL, h2, h3⟩, st⟩
  · dsimp only [Pt.U, Pt.locs, Pt.cells, Pt.slots] at X' e1 e2 h1 h2 h3 st
    subst h1; subst h2; subst h3
    exact Or.inl ⟨v, (T.setVm vm₁).calling g' mk (Value.ref b :: As).toArray, t, U', L, hT, X', hL, e1, e2, hq, st⟩
  · dsimp only [Pt.U, Pt.locs, Pt.cells, Pt.slots] at X' e1 e2 h1 h2 h3 st hcl
    subst h1; subst h2; subst h3
    exact Or.inr ⟨q, (T.setVm vm₁).calling g' mk (Value.ref b :: As).toArray, t, U', L, E, ce, hT, X', hL, e1, e2, hq, hce, hcv, vx_cls hW₁ hcl, st⟩
theorem vx_runS (S : CallFix p m c cc nL s args Ts own) (hM : vx_Met l y ws rm Pc Qc XC mc ms free) (cw : CallB R s args own index y bytes maxL ret ws rm mc ms n ∧ (Cond.static y).before args s = true) (hp : PreS s H Pc As)
    (hg : g.method = m) (hn : As.length = n) (hsize : g.locals.size = nL) (hstack : g.stack = As.reverse ++ rest) (hW : 2 * g.monitorRoom + (rest.map fun v => v.category).sum ≤ 8) (hdg : decode cc g.pc = .ok (.invokestatic index, 3)) (hf : cells + mc ≤ R.cells ∧ slots + ms ≤ R.slots) :
    vx_Run p l e R s m args below meth c H locs cells slots mc ms g rest (Qc As.toArray) XC free := by
  have hK : vx_Back l R p e below s args y 3 8 (PreOf R mc ms Pc) (PostOf Qc mc ms free) (vx_Post XC mc ms free) := vx_callBack cw.1 hM hp.1
  obtain ⟨⟨-, -, -, -, -, -, hcode, hini, hy, hlen, hl⟩, hstt⟩ := cw
  obtain ⟨hx, hb, hml, ho, -⟩ := S
  intro T hT X
  rcases vx_callS X hx (bytes := bytes) (maxL := maxL) (ret := ret) ho hl hstt hini hcode hy hK hg (hsize.trans hml.symm) (argsL := As) (rest := rest) (fun sig h => hn.trans (hlen sig h)) hstack hW (by rw [hb]; exact hdg)
    (fun vm₁ hW₁ => ⟨hf.1, hf.2, hp.2 (T.setVm vm₁) hT hW₁⟩) with ⟨v, vm₁, ⟨U', l2, c2, s2⟩, hW₁, X', ⟨g', mk, t, L, e1, e2, hq, h1, hL, h2, h3⟩, st⟩ | ⟨q, vm₁, ⟨U', l2, c2, s2⟩, hW₁, X', ⟨g', mk, t, L, E, ce, e1, e2, hq, hce, hcv, hcl, h1, hL, h2, h3⟩, st⟩
  · dsimp only [Pt.U, Pt.locs, Pt.cells, Pt.slots] at X' e1 e2 h1 h2 h3 st
    subst h1; subst h2; subst h3
    exact Or.inl ⟨v, (T.setVm vm₁).calling g' mk As.toArray, t, U', L, hT, X', hL, e1, e2, hq, st⟩
  · dsimp only [Pt.U, Pt.locs, Pt.cells, Pt.slots] at X' e1 e2 h1 h2 h3 st hcl
    subst h1; subst h2; subst h3
    exact Or.inr ⟨q, (T.setVm vm₁).calling g' mk As.toArray, t, U', L, E, ce, hT, X', hL, e1, e2, hq, hce, hcv, vx_cls hW₁ hcl, st⟩
end Runs
section Rows
variable {p : Program} {l : Launch} {e : Env} {R : Room} {s : State} {m : MethodId} {args : Array Value} {below : List Frame} {meth : Method} {c : Code} {H : Heap} {locs : List Loc} {cells slots : Nat} {Q : State → Prop}
variable {mc ms : Nat} {free : Addr → Prop} {A0 A1 : Nat → Prop} {H0 : Heap} {a : Array Value} {pc : Nat} {ls : Array Slot} {st0 rest : List Value}
theorem vx_keep {st₀ t T' : State} {L : List Loc} (h0 : st₀.heap = H) (e1 : T'.heap = t.heap) (hS : va_S A0 H0 H locs) (hA : ∀ q, q < H.size → A1 q → A0 q) (hf : ∀ q, free q → A0 q) (hL : ∀ q ∈ L, free q.base) (hF : va_F A1 st₀ t) :
    H.size ≤ T'.heap.size ∧ (∀ q : Nat, q < H.size → ¬ A1 q → T'.heap[q]? = H[q]?) ∧ va_S A0 H0 T'.heap (locs ++ L) := by
  obtain ⟨hz, hk⟩ := hF
  rw [h0] at hz hk
  exact ⟨by rw [e1]; exact hz, fun q h1 h2 => by rw [e1]; exact hk q h1 h2,
    ⟨Nat.le_trans hS.1 (by rw [e1]; exact hz), fun q h1 h2 => by rw [e1, hk q (Nat.lt_of_lt_of_le h1 hS.1) (fun z => h2 (hA q (Nat.lt_of_lt_of_le h1 hS.1) z))]; exact hS.2.1 q h1 h2, fun q hq => by
      rcases List.mem_append.mp hq with h | h
      · exact hS.2.2 q h
      · exact hf _ (hL q h)⟩⟩
theorem vx_calli {S SX : Type} {post : Int32 → S → Prop} {px : SX → Prop} {B : S → State → Prop} {BX : String → SX → State → Prop} {AX : Nat → Prop} (hr : vx_Run p l e R s m args below meth c H locs cells slots mc ms (F0 m pc ls st0) rest (va_Qi post B A1 a) (vx_X px BX AX) free) (hS : va_S A0 H0 H locs) (hA : ∀ q, q < H.size → A1 q → A0 q) (hf : ∀ q, free q → A0 q) (hAX : ∀ q, q < H.size → AX q → A0 q)
    (kx : ∀ (E : String) (ce : Cell) (q9 : Addr) (u : SX) (t : State) (H1 : Heap) (locs1 : List Loc), t.heap = H1 → s.vm.Alike t.vm → px u → BX E u t → H.size ≤ H1.size → (∀ q : Nat, q < H.size → ¬ AX q → H1[q]? = H[q]?) → va_S A0 H0 H1 locs1 → H1[q9]? = some ce → ce.vm = .none → s.vm.findClass E = some ce.cls → vx_W p l e R s m args below meth c H1 locs1 (cells + mc) (slots + ms) Q (F0 m pc ls rest) q9)
    (kk : ∀ (r : Int32) (u : S) (t : State) (H1 : Heap) (locs1 : List Loc), t.heap = H1 → s.vm.Alike t.vm → post r u → B u t → H.size ≤ H1.size → (∀ q : Nat, q < H.size → ¬ A1 q → H1[q]? = H[q]?) → va_S A0 H0 H1 locs1 → W p l e R s m args below meth c H1 locs1 (cells + mc) (slots + ms) Q (F0 m (pc + 3) ls (.int r :: rest))) : W p l e R s m args below meth c H locs cells slots Q (F0 m pc ls st0) := by
  intro T hT X
  rcases hr T hT X with ⟨v, st₀, t, T', L, h0, X', hL, e1, e2, ⟨⟨r, u, hv, hp, hb⟩, hF⟩, st⟩ | ⟨q, st₀, t, T', L, E, ce, h0, X', hL, e1, e2, ⟨u, hp, hb, hF⟩, hce, hcv, hcl, st⟩
  · cases hv
    obtain ⟨k1, k2, k3⟩ := vx_keep h0 e1 hS hA hf hL hF
    obtain ⟨t2, a1, b1⟩ := kk r u t T'.heap (locs ++ L) e1.symm (by rw [← e2]; exact X'.warmed.alike) hp hb k1 k2 k3 T' rfl X'
    exact ⟨t2, st t2 a1, b1⟩
  · obtain ⟨k1, k2, k3⟩ := vx_keep h0 e1 hS hAX hf hL hF
    obtain ⟨t2, a1, b1⟩ := kx E ce q u t T'.heap (locs ++ L) e1.symm (by rw [← e2]; exact X'.warmed.alike) hp hb k1 k2 k3 (by rw [e1]; exact hce) hcv hcl T' rfl X'
    exact ⟨t2, st.trans a1, b1⟩
theorem vx_calll {S SX : Type} {post : Int64 → S → Prop} {px : SX → Prop} {B : S → State → Prop} {BX : String → SX → State → Prop} {AX : Nat → Prop} (hr : vx_Run p l e R s m args below meth c H locs cells slots mc ms (F0 m pc ls st0) rest (va_Ql post B A1 a) (vx_X px BX AX) free) (hS : va_S A0 H0 H locs) (hA : ∀ q, q < H.size → A1 q → A0 q) (hf : ∀ q, free q → A0 q) (hAX : ∀ q, q < H.size → AX q → A0 q)
    (kx : ∀ (E : String) (ce : Cell) (q9 : Addr) (u : SX) (t : State) (H1 : Heap) (locs1 : List Loc), t.heap = H1 → s.vm.Alike t.vm → px u → BX E u t → H.size ≤ H1.size → (∀ q : Nat, q < H.size → ¬ AX q → H1[q]? = H[q]?) → va_S A0 H0 H1 locs1 → H1[q9]? = some ce → ce.vm = .none → s.vm.findClass E = some ce.cls → vx_W p l e R s m args below meth c H1 locs1 (cells + mc) (slots + ms) Q (F0 m pc ls rest) q9)
    (kk : ∀ (r : Int64) (u : S) (t : State) (H1 : Heap) (locs1 : List Loc), t.heap = H1 → s.vm.Alike t.vm → post r u → B u t → H.size ≤ H1.size → (∀ q : Nat, q < H.size → ¬ A1 q → H1[q]? = H[q]?) → va_S A0 H0 H1 locs1 → W p l e R s m args below meth c H1 locs1 (cells + mc) (slots + ms) Q (F0 m (pc + 3) ls (.long r :: rest))) : W p l e R s m args below meth c H locs cells slots Q (F0 m pc ls st0) := by
  intro T hT X
  rcases hr T hT X with ⟨v, st₀, t, T', L, h0, X', hL, e1, e2, ⟨⟨r, u, hv, hp, hb⟩, hF⟩, st⟩ | ⟨q, st₀, t, T', L, E, ce, h0, X', hL, e1, e2, ⟨u, hp, hb, hF⟩, hce, hcv, hcl, st⟩
  · cases hv
    obtain ⟨k1, k2, k3⟩ := vx_keep h0 e1 hS hA hf hL hF
    obtain ⟨t2, a1, b1⟩ := kk r u t T'.heap (locs ++ L) e1.symm (by rw [← e2]; exact X'.warmed.alike) hp hb k1 k2 k3 T' rfl X'
    exact ⟨t2, st t2 a1, b1⟩
  · obtain ⟨k1, k2, k3⟩ := vx_keep h0 e1 hS hAX hf hL hF
    obtain ⟨t2, a1, b1⟩ := kx E ce q u t T'.heap (locs ++ L) e1.symm (by rw [← e2]; exact X'.warmed.alike) hp hb k1 k2 k3 (by rw [e1]; exact hce) hcv hcl T' rfl X'
    exact ⟨t2, st.trans a1, b1⟩
theorem vx_callf {S SX : Type} {post : UInt32 → S → Prop} {px : SX → Prop} {B : S → State → Prop} {BX : String → SX → State → Prop} {AX : Nat → Prop} (hr : vx_Run p l e R s m args below meth c H locs cells slots mc ms (F0 m pc ls st0) rest (va_Qf post B A1 a) (vx_X px BX AX) free) (hS : va_S A0 H0 H locs) (hA : ∀ q, q < H.size → A1 q → A0 q) (hf : ∀ q, free q → A0 q) (hAX : ∀ q, q < H.size → AX q → A0 q)
    (kx : ∀ (E : String) (ce : Cell) (q9 : Addr) (u : SX) (t : State) (H1 : Heap) (locs1 : List Loc), t.heap = H1 → s.vm.Alike t.vm → px u → BX E u t → H.size ≤ H1.size → (∀ q : Nat, q < H.size → ¬ AX q → H1[q]? = H[q]?) → va_S A0 H0 H1 locs1 → H1[q9]? = some ce → ce.vm = .none → s.vm.findClass E = some ce.cls → vx_W p l e R s m args below meth c H1 locs1 (cells + mc) (slots + ms) Q (F0 m pc ls rest) q9)
    (kk : ∀ (r : UInt32) (u : S) (t : State) (H1 : Heap) (locs1 : List Loc), t.heap = H1 → s.vm.Alike t.vm → post r u → B u t → H.size ≤ H1.size → (∀ q : Nat, q < H.size → ¬ A1 q → H1[q]? = H[q]?) → va_S A0 H0 H1 locs1 → W p l e R s m args below meth c H1 locs1 (cells + mc) (slots + ms) Q (F0 m (pc + 3) ls (.float r :: rest))) : W p l e R s m args below meth c H locs cells slots Q (F0 m pc ls st0) := by
  intro T hT X
  rcases hr T hT X with ⟨v, st₀, t, T', L, h0, X', hL, e1, e2, ⟨⟨r, u, hv, hp, hb⟩, hF⟩, st⟩ | ⟨q, st₀, t, T', L, E, ce, h0, X', hL, e1, e2, ⟨u, hp, hb, hF⟩, hce, hcv, hcl, st⟩
  · cases hv
    obtain ⟨k1, k2, k3⟩ := vx_keep h0 e1 hS hA hf hL hF
    obtain ⟨t2, a1, b1⟩ := kk r u t T'.heap (locs ++ L) e1.symm (by rw [← e2]; exact X'.warmed.alike) hp hb k1 k2 k3 T' rfl X'
    exact ⟨t2, st t2 a1, b1⟩
  · obtain ⟨k1, k2, k3⟩ := vx_keep h0 e1 hS hAX hf hL hF
    obtain ⟨t2, a1, b1⟩ := kx E ce q u t T'.heap (locs ++ L) e1.symm (by rw [← e2]; exact X'.warmed.alike) hp hb k1 k2 k3 (by rw [e1]; exact hce) hcv hcl T' rfl X'
    exact ⟨t2, st.trans a1, b1⟩
theorem vx_calld {S SX : Type} {post : UInt64 → S → Prop} {px : SX → Prop} {B : S → State → Prop} {BX : String → SX → State → Prop} {AX : Nat → Prop} (hr : vx_Run p l e R s m args below meth c H locs cells slots mc ms (F0 m pc ls st0) rest (va_Qd post B A1 a) (vx_X px BX AX) free) (hS : va_S A0 H0 H locs) (hA : ∀ q, q < H.size → A1 q → A0 q) (hf : ∀ q, free q → A0 q) (hAX : ∀ q, q < H.size → AX q → A0 q)
    (kx : ∀ (E : String) (ce : Cell) (q9 : Addr) (u : SX) (t : State) (H1 : Heap) (locs1 : List Loc), t.heap = H1 → s.vm.Alike t.vm → px u → BX E u t → H.size ≤ H1.size → (∀ q : Nat, q < H.size → ¬ AX q → H1[q]? = H[q]?) → va_S A0 H0 H1 locs1 → H1[q9]? = some ce → ce.vm = .none → s.vm.findClass E = some ce.cls → vx_W p l e R s m args below meth c H1 locs1 (cells + mc) (slots + ms) Q (F0 m pc ls rest) q9)
    (kk : ∀ (r : UInt64) (u : S) (t : State) (H1 : Heap) (locs1 : List Loc), t.heap = H1 → s.vm.Alike t.vm → post r u → B u t → H.size ≤ H1.size → (∀ q : Nat, q < H.size → ¬ A1 q → H1[q]? = H[q]?) → va_S A0 H0 H1 locs1 → W p l e R s m args below meth c H1 locs1 (cells + mc) (slots + ms) Q (F0 m (pc + 3) ls (.double r :: rest))) : W p l e R s m args below meth c H locs cells slots Q (F0 m pc ls st0) := by
  intro T hT X
  rcases hr T hT X with ⟨v, st₀, t, T', L, h0, X', hL, e1, e2, ⟨⟨r, u, hv, hp, hb⟩, hF⟩, st⟩ | ⟨q, st₀, t, T', L, E, ce, h0, X', hL, e1, e2, ⟨u, hp, hb, hF⟩, hce, hcv, hcl, st⟩
  · cases hv
    obtain ⟨k1, k2, k3⟩ := vx_keep h0 e1 hS hA hf hL hF
    obtain ⟨t2, a1, b1⟩ := kk r u t T'.heap (locs ++ L) e1.symm (by rw [← e2]; exact X'.warmed.alike) hp hb k1 k2 k3 T' rfl X'
    exact ⟨t2, st t2 a1, b1⟩
  · obtain ⟨k1, k2, k3⟩ := vx_keep h0 e1 hS hAX hf hL hF
    obtain ⟨t2, a1, b1⟩ := kx E ce q u t T'.heap (locs ++ L) e1.symm (by rw [← e2]; exact X'.warmed.alike) hp hb k1 k2 k3 (by rw [e1]; exact hce) hcv hcl T' rfl X'
    exact ⟨t2, st.trans a1, b1⟩
theorem vx_callv {S SX : Type} {post : S → Prop} {px : SX → Prop} {B : S → State → Prop} {BX : String → SX → State → Prop} {AX : Nat → Prop} (hr : vx_Run p l e R s m args below meth c H locs cells slots mc ms (F0 m pc ls st0) rest (va_Qv post B A1 a) (vx_X px BX AX) free) (hS : va_S A0 H0 H locs) (hA : ∀ q, q < H.size → A1 q → A0 q) (hf : ∀ q, free q → A0 q) (hAX : ∀ q, q < H.size → AX q → A0 q)
    (kx : ∀ (E : String) (ce : Cell) (q9 : Addr) (u : SX) (t : State) (H1 : Heap) (locs1 : List Loc), t.heap = H1 → s.vm.Alike t.vm → px u → BX E u t → H.size ≤ H1.size → (∀ q : Nat, q < H.size → ¬ AX q → H1[q]? = H[q]?) → va_S A0 H0 H1 locs1 → H1[q9]? = some ce → ce.vm = .none → s.vm.findClass E = some ce.cls → vx_W p l e R s m args below meth c H1 locs1 (cells + mc) (slots + ms) Q (F0 m pc ls rest) q9)
    (kk : ∀ (u : S) (t : State) (H1 : Heap) (locs1 : List Loc), t.heap = H1 → s.vm.Alike t.vm → post u → B u t → H.size ≤ H1.size → (∀ q : Nat, q < H.size → ¬ A1 q → H1[q]? = H[q]?) → va_S A0 H0 H1 locs1 → W p l e R s m args below meth c H1 locs1 (cells + mc) (slots + ms) Q (F0 m (pc + 3) ls (rest))) : W p l e R s m args below meth c H locs cells slots Q (F0 m pc ls st0) := by
  intro T hT X
  rcases hr T hT X with ⟨v, st₀, t, T', L, h0, X', hL, e1, e2, ⟨⟨u, hv, hp, hb⟩, hF⟩, st⟩ | ⟨q, st₀, t, T', L, E, ce, h0, X', hL, e1, e2, ⟨u, hp, hb, hF⟩, hce, hcv, hcl, st⟩
  · cases hv
    obtain ⟨k1, k2, k3⟩ := vx_keep h0 e1 hS hA hf hL hF
    obtain ⟨t2, a1, b1⟩ := kk u t T'.heap (locs ++ L) e1.symm (by rw [← e2]; exact X'.warmed.alike) hp hb k1 k2 k3 T' rfl X'
    exact ⟨t2, st t2 a1, b1⟩
  · obtain ⟨k1, k2, k3⟩ := vx_keep h0 e1 hS hAX hf hL hF
    obtain ⟨t2, a1, b1⟩ := kx E ce q u t T'.heap (locs ++ L) e1.symm (by rw [← e2]; exact X'.warmed.alike) hp hb k1 k2 k3 (by rw [e1]; exact hce) hcv hcl T' rfl X'
    exact ⟨t2, st.trans a1, b1⟩
/-- caught by the row x of this method's table; the rows ahead don't take it -/
theorem vx_catch {own name : String} {E : String} {ce : Cell} {q : Addr} (hown : s.vm.findClass own = some m.cls) (pre : List ExceptionTableEntry) (x : ExceptionTableEntry) (suf : List ExceptionTableEntry) (hsplit : c.exceptionTable.toList = pre ++ x :: suf)
    (hpass : ∀ z ∈ pre, covers z pc = false ∨ (z.catchType ≠ 0 ∧ ∃ nm : String, (Cond.classLink own z.catchType nm).before args s = true ∧ va_Nc E nm s)) (hx : covers x pc = true) (h0 : x.catchType ≠ 0)
    (hlink : (Cond.classLink own x.catchType name).before args s = true) (hcast : (Cond.castable E name).before args s = true) (hcell : H[q]? = some ce) (hv : ce.vm = .none) (hcl : s.vm.findClass E = some ce.cls)
    (kk : W p l e R s m args below meth c H locs cells slots Q (F0 m x.handlerPc ls [.ref q])) : vx_W p l e R s m args below meth c H locs cells slots Q (F0 m pc ls rest) q := by
  intro T hT X
  have hpl : e.platform.magicAccessors = ({} : Platform).magicAccessors := by rw [X.admits.platform]
  obtain ⟨c3, c4, hc3, hc4, hasg⟩ := Cond.castable_spec hcast
  cases Option.some.inj (hc3.symm.trans hcl)
  obtain ⟨c5, hc5, hcl5⟩ := Cond.classLink_spec hown hlink e.platform hpl
  cases Option.some.inj (hc4.symm.trans hc5)
  obtain ⟨vm', X', st⟩ := X.thenCaughtThrough q (g := F0 m pc ls rest) rfl (Steps.refl _) (by rw [hT]; exact hcell) (by rw [hv]; rfl) (by obtain ⟨k9, h9, -⟩ := Vm.findClass_spec hcl; exact ⟨k9, h9⟩) pre x suf hsplit
    (fun z hz => by
      rcases hpass z hz with h | ⟨hz0, nm, hl1, hn1⟩
      · exact Or.inl h
      · obtain ⟨c6, hc6, hcl6⟩ := Cond.classLink_spec hown hl1 e.platform hpl
        obtain ⟨a8, b8, h1, h2, h3⟩ := hn1
        cases Option.some.inj (h1.symm.trans hcl)
        cases Option.some.inj (h2.symm.trans hc6)
        exact Or.inr ⟨hz0, _, hcl6, h3⟩) hx (Or.inr ⟨h0, c4, hcl5, hasg⟩)
  obtain ⟨t, a1, b1⟩ := kk (T.setVm vm') hT X'
  exact ⟨t, st.trans a1, b1⟩
end Rows
section Ends
variable {p : Program} {l : Launch} {e : Env} {R : Room} {s : State} {m : MethodId} {args : Array Value} {below : List Frame} {meth : Method} {c : Code} {H : Heap} {locs : List Loc} {cells slots : Nat} {Q : State → Prop}
variable {mc ms : Nat} {free : Addr → Prop} {A0 A1 : Nat → Prop} {H0 : Heap} {a : Array Value} {ls : Array Slot} {st0 rest : List Value}
variable {Qc : Array Value → State → Outcome → State → Prop} {XC : String → State → State → Prop}
/-- what a body that may throw owes at its end -/
def vx_MQ (below : List Frame) (Qc : Array Value → State → Outcome → State → Prop) (XC : String → State → State → Prop) (a : Array Value) (s : State) (mc ms : Nat) (free : Addr → Prop) : State → Prop := fun t =>
  ∃ o, t.status = .running ∧ Ended t below o ∧ vx_Q Qc XC mc ms free a s o t
theorem vx_ret {g : JFrame} {mc ms : Nat} (k : W p l e R s m args below meth c H locs cells slots (MQ below Qc args s mc ms free) g) : W p l e R s m args below meth c H locs cells slots (vx_MQ below Qc XC args s mc ms free) g := by
  intro T hT X
  obtain ⟨t, a1, o, b1, b2, b3, b4⟩ := k T hT X
  exact ⟨t, a1, o, b1, b2, Or.inl ⟨b3, b4⟩⟩
/-- not caught here: it goes on to the caller -/
theorem vx_widen {g : JFrame} {q : Addr} {k n : Nat} (h1 : cells ≤ k) (h2 : slots ≤ n) (kk : vx_W p l e R s m args below meth c H locs k n Q g q) : vx_W p l e R s m args below meth c H locs cells slots Q g q := fun T hT X => kk T hT (stand_widen X h1 h2)
theorem vx_out {pc : Nat} {E : String} {ce : Cell} {q : Addr} {mc ms : Nat} (hout : ∀ x ∈ c.exceptionTable.toList, covers x pc = false) (hlocks : meth.locks = false) (hcell : H[q]? = some ce) (hv : ce.vm = .none) (hcl : s.vm.findClass E = some ce.cls)
    (hx : ∀ t : State, t.heap = H → s.vm.Alike t.vm → XC E s t) (hf : ∀ z ∈ locs, free z.base) (hc : cells ≤ mc) (hs : slots ≤ ms) :
    vx_W p l e R s m args below meth c H locs cells slots (vx_MQ below Qc XC args s mc ms free) (F0 m pc ls rest) q := by
  intro T hT X
  obtain ⟨st1, hrun, hend, hW, hsm⟩ := X.leaveThrown q (g := F0 m pc ls rest) rfl rfl rfl hout hlocks
  have hcell9 : (T.setFrames (.throwing q :: below)).heap[q]? = some ce := by
    show T.heap[q]? = some ce
    rw [hT]; exact hcell
  exact ⟨_, st1, .threw q, hrun, hend, Or.inr ⟨q, rfl, E, ce, locs, hx _ hT hW.alike, hcell9, hv, hcl, hW, hsm.mono hc hs, hf⟩⟩
theorem vx_frame {U : State} {k n : Nat} (h : s.sameButNew ({ U with vm := s.vm } : State) locs k n) : s.heap.size ≤ U.heap.size ∧ ∀ q : Nat, q < s.heap.size → (∀ z ∈ locs, z.base ≠ q) → U.heap[q]? = s.heap[q]? := by
  obtain ⟨-, h2, -, -, -, h6⟩ := h
  refine ⟨h2, fun q hq hz => ?_⟩
  obtain ⟨c9, e1, e2, e3, e4⟩ := h6 q _ (Array.getElem?_eq_getElem hq)
  have hs : c9.slots = (s.heap[q]).slots := Array.ext_getElem? fun i => e4 i fun hm => hz _ hm rfl
  have h9 : c9 = s.heap[q] := by
    rw [hs] at e2
    exact e2
  have e5 : U.heap[q]? = some c9 := e1
  rw [e5, h9, Array.getElem?_eq_getElem hq]
/-- the words of a throw but the four that speak of the heap -/
def vx_no (w : Cond) : Bool := decide (w ≠ .isRef (.static Bundle.tN "UNASSIGNED_STACK" Bundle.steD)) && decide (w ≠ .isRef (.static Bundle.tN "SUPPRESSED_SENTINEL" Bundle.listD)) && decide (w ≠ .laysStatic Bundle.tN "UNASSIGNED_STACK" Bundle.steD) && decide (w ≠ .laysStatic Bundle.tN "SUPPRESSED_SENTINEL" Bundle.listD)
def vx_at0 (own : String) (ic : Nat) (X : String) (names : List String) : List Cond := (Bundle.ownAtoms0 own ic X names).filter vx_no
def vx_atS (own : String) (ic : Nat) (X : String) (names : List String) : List Cond := (Bundle.ownAtoms own ic X names).filter vx_no
/-- a word that the tables alone decide, or a good one -/
def vx_ot (w : Cond) : Bool := w.onTables || goodWord w
theorem vx_ot_at {args a' : Array Value} {s U : State} {w : Cond} (hW : s.WarmedH U.vm) (hvm : s.vm = U.vm) (hg : vx_ot w = true) (h : w.before args s = true) : w.before a' U = true := by
  simp only [vx_ot, Bool.or_eq_true] at hg
  rcases hg with hg | hg
  · exact va_tabs hg hvm h
  · exact word_at hW (good_of_word hg) h
/-- a list's words: the good ones out of the method's own list, the others by premises of their own -/
theorem vx_hat {args : Array Value} {s : State} {L B : List Cond} (h1 : ∀ w ∈ L.filter goodWord, w.before args s = true) (h2 : ∀ w ∈ L.filter (fun w => !goodWord w), w ∈ B) (h3 : ∀ w ∈ B, w.before args s = true) : ∀ w ∈ L, w.before args s = true := by
  intro w hw
  by_cases g : goodWord w = true
  · exact h1 w (List.mem_filter.mpr ⟨hw, g⟩)
  · refine h3 w (h2 w (List.mem_filter.mpr ⟨hw, ?_⟩))
    show (!goodWord w) = true
    cases hgw : goodWord w
    · rfl
    · exact absurd hgw g
theorem vx_c {args : Array Value} {s : State} {w : Cond} {B : List Cond} (h : w.before args s = true) (t : ∀ w ∈ B, w.before args s = true) : ∀ w' ∈ w :: B, w'.before args s = true := fun w' h' => (List.mem_cons.mp h').elim (fun e => by rw [e]; exact h) (t w')
theorem vx_n {args : Array Value} {s : State} : ∀ w ∈ ([] : List Cond), w.before args s = true := fun _ h => nomatch h
theorem vx_own {args : Array Value} {s : State} {L : List Cond} (h1 : ∀ w ∈ L.filter vx_no, w.before args s = true)
    (hU : (Cond.isRef (.static Bundle.tN "UNASSIGNED_STACK" Bundle.steD)).before args s = true) (hN : (Cond.isRef (.static Bundle.tN "SUPPRESSED_SENTINEL" Bundle.listD)).before args s = true)
    (lU : (Cond.laysStatic Bundle.tN "UNASSIGNED_STACK" Bundle.steD).before args s = true) (lN : (Cond.laysStatic Bundle.tN "SUPPRESSED_SENTINEL" Bundle.listD).before args s = true) : ∀ w ∈ L, w.before args s = true := by
  intro w hw
  by_cases e1 : w = .isRef (.static Bundle.tN "UNASSIGNED_STACK" Bundle.steD)
  · rw [e1]; exact hU
  · by_cases e2 : w = .isRef (.static Bundle.tN "SUPPRESSED_SENTINEL" Bundle.listD)
    · rw [e2]; exact hN
    · by_cases e3 : w = .laysStatic Bundle.tN "UNASSIGNED_STACK" Bundle.steD
      · rw [e3]; exact lU
      · by_cases e4 : w = .laysStatic Bundle.tN "SUPPRESSED_SENTINEL" Bundle.listD
        · rw [e4]; exact lN
        · exact h1 w (List.mem_filter.mpr ⟨hw, by unfold vx_no; rw [decide_eq_true e1, decide_eq_true e2, decide_eq_true e3, decide_eq_true e4]; rfl⟩)
/-- where a static field lies, its class's statics cell in H -/
def vx_L (C n d : String) (A : Nat → Prop) (U : State) (H : Heap) : Prop := ∃ (c : ClassId) (k : Class) (i : Nat) (f : Field) (a : Nat) (cell : Cell), U.vm.findClass C = some c ∧ U.fieldFound? C n d = some (c, k, i, f) ∧ f.isStatic = true ∧ k.statics = some a ∧ H[a]? = some cell ∧ cell.vm.isStatics = true ∧ cell.cls = c ∧ f.slot < cell.slots.size ∧ k.staticTypes[f.slot]? = some f.type ∧ ¬ A a
theorem vx_L.moved {C n d : String} {A : Nat → Prop} {u U : State} {H : Heap} (hvm : u.vm.Alike U.vm) (h : vx_L C n d A u H) : vx_L C n d A U H := by
  obtain ⟨c, k, i, f, a, cell, h1, h2, h3, h4, h5, h6, h7, h8, h9, h10⟩ := h
  obtain ⟨k', hi', he⟩ := State.fieldFound?_setVm hvm h2
  exact ⟨c, k', i, f, a, cell, by rw [hvm.findClass]; exact h1, hi', h3, by rw [he]; exact h4, h5, h6, h7, h8, by rw [he]; exact h9, h10⟩
theorem vx_L.kept {C n d : String} {A : Nat → Prop} {U : State} {H H1 : Heap} (h : vx_L C n d A U H) (hq : ∀ a : Nat, a < H.size → ¬ A a → H1[a]? = H[a]?) : vx_L C n d A U H1 := by
  obtain ⟨c, k, i, f, a, cell, h1, h2, h3, h4, h5, h6, h7, h8, h9, h10⟩ := h
  exact ⟨c, k, i, f, a, cell, h1, h2, h3, h4, by rw [hq a (Array.getElem?_eq_some_iff.mp h5).1 h10]; exact h5, h6, h7, h8, h9, h10⟩
theorem vx_L.narrow {C n d : String} {A B : Nat → Prop} {U : State} {H : Heap} (h : vx_L C n d A U H) (hAB : ∀ q, B q → A q) : vx_L C n d B U H := by
  obtain ⟨c, k, i, f, a, cell, h1, h2, h3, h4, h5, h6, h7, h8, h9, h10⟩ := h
  exact ⟨c, k, i, f, a, cell, h1, h2, h3, h4, h5, h6, h7, h8, h9, fun z => h10 (hAB _ z)⟩
theorem vx_L.word {C n d : String} {A : Nat → Prop} {s : State} {args : Array Value} (h : vx_L C n d A s s.heap) : (Cond.laysStatic C n d).before args s = true := by
  obtain ⟨c, k, i, f, a, cell, h1, h2, h3, h4, h5, h6, h7, h8, h9, -⟩ := h
  show (Cond.laysStatic C n d).holds args s none s [] = true
  exact Cond.laysStatic_of h1 h2 h3 h4 h5 h6 h7 h8 h9
/-- .. and what it holds: null or some reference -/
def vx_Zq (C n d : String) (A : Nat → Prop) (U : State) (H : Heap) : Prop := va_Zq C n d A U H ∧ vx_L C n d A U H
theorem vx_Zq.moved {C n d : String} {A : Nat → Prop} {u U : State} {H : Heap} (hvm : u.vm.Alike U.vm) (h : vx_Zq C n d A u H) : vx_Zq C n d A U H := ⟨va_Zq.moved hvm h.1, vx_L.moved hvm h.2⟩
theorem vx_Zq.kept {C n d : String} {A : Nat → Prop} {U : State} {H H1 : Heap} (h : vx_Zq C n d A U H) (hq : ∀ a : Nat, a < H.size → ¬ A a → H1[a]? = H[a]?) : vx_Zq C n d A U H1 := ⟨va_Zq.kept h.1 hq, vx_L.kept h.2 hq⟩
theorem vx_Zq.narrow {C n d : String} {A B : Nat → Prop} {U : State} {H : Heap} (h : vx_Zq C n d A U H) (hAB : ∀ q, B q → A q) : vx_Zq C n d B U H := ⟨va_Zq.narrow h.1 hAB, vx_L.narrow h.2 hAB⟩
theorem vx_Zqof {args : Array Value} {s : State} {C n d : String} {A : Nat → Prop} (hl : (Cond.laysStatic C n d).before args s = true) (hini : (Cond.initialized C).before args s = true) (h : (Cond.isRef (.static C n d)).before args s = true) (hA : ∀ a : Nat, a < s.heap.size → ¬ A a) : vx_Zq C n d A s s.heap := by
  refine ⟨va_Zqof hl hini h hA, ?_⟩
  obtain ⟨c, k, i, f, a, cell, h1, h2, h3, h4, h5, h6, h7, h8, h9⟩ := Cond.laysStatic_spec hl
  exact ⟨c, k, i, f, a, cell, h1, h2, h3, h4, h5, h6, h7, h8, h9, hA a (Array.getElem?_eq_some_iff.mp h5).1⟩
theorem vx_isRef {C n d : String} {v : Value} {A : Nat → Prop} {s : State} {args : Array Value} (h : va_Z C n d v A s s.heap) (hv : v.isRef = true) : (Cond.isRef (.static C n d)).before args s = true := by
  obtain ⟨cf, kf, fi, f, a, cell, h1, h2, h3, h4, h5, h6, h7, -⟩ := h
  have he : (Term.static C n d).eval args s none [] s = some v := by
    simp [Term.eval, State.fieldNamed?, h1, h2, h4, h5, h6, h7]
  simp only [Cond.before, Cond.holds, Cond.value, he]
  cases v <;> simp_all [Value.isRef]
theorem vx_isRefq {C n d : String} {A : Nat → Prop} {s : State} {args : Array Value} (h : va_Zq C n d A s s.heap) : (Cond.isRef (.static C n d)).before args s = true := by
  rcases h with h | ⟨t, h⟩
  · exact vx_isRef h rfl
  · exact vx_isRef h rfl
/-- the same frame, seen from here: as if the method were called anew in this heap -/
theorem vx_rebase {T : State} (X : Stand p l e R s m args below meth c T locs cells slots) {R' : Room} (hf : R'.frames ≤ R.frames) (hl : R'.locals ≤ R.locals) (hc : cells + R'.cells ≤ R.cells) (hs : slots + R'.slots ≤ R.slots) :
    Stand p l e R' ((T.setVm s.vm).setFrames (.invoking m args :: below)) m args below meth c T [] 0 0 := by
  have htop : (T.setVm s.vm).topJava?.isSome := X.here.top
  have hF : ((T.setVm s.vm).setFrames (.invoking m args :: below)).frames = .invoking m args :: below := State.frames_setFrames _ (State.cur_lt_of_top htop)
  obtain ⟨g₀, hg0⟩ := Option.isSome_iff_exists.mp htop
  obtain ⟨r, hr⟩ := State.topJava?_eq_some.mp hg0
  have hl9 : e.platform.stackLimits (T.setVm s.vm).me = e.platform.stackLimits s.me := X.limits
  have hb9 : (T.setVm s.vm).me.stackBytes = s.me.stackBytes := X.bytes
  refine ⟨X.admits, X.cas, X.clock, hF, ?_, X.hears, X.method, X.code, X.here, X.tail, X.warmed, ?_, ?_, ?_⟩
  · have h := X.room
    have hU : ((T.setVm s.vm).setFrames (.invoking m args :: below)).localsInUse = s.localsInUse := by
      rw [State.localsInUse_invoking hF (meth := meth) (c := c) X.method X.code, State.localsInUse_invoking X.frames X.method X.code]
    simp only [State.hasRoom, Bool.and_eq_true, decide_eq_true_eq] at h ⊢
    obtain ⟨⟨⟨⟨h1, h2, h3, h4, h5, h6⟩, h7⟩, h8⟩, h9⟩ := h
    rw [X.frames, List.length_cons] at h2 h3
    have q1 := X.heapSize
    have q2 := X.used
    simp only [hF, hU, List.length_cons, State.stackLimits_setFrames, State.stackBytes_setFrames, hl9, hb9]
    refine ⟨⟨⟨⟨by omega, by omega, by omega, by omega, by omega, h6⟩, ?_⟩, ?_⟩, X.book⟩
    · show T.heap.size + R'.cells ≤ e.platform.maxCells
      omega
    · show T.slotsUsed + R'.slots ≤ e.platform.maxSlots
      omega
  · rw [State.stackLimits_setFrames]; rfl
  · rw [State.stackBytes_setFrames]; rfl
  · refine ⟨?_, Nat.le_refl _, Nat.le_refl _, ?_, ?_, fun a c9 h9 => ⟨c9, h9, rfl, rfl, fun _ _ => rfl⟩⟩
    · obtain ⟨t, ht, -⟩ := State.frames_cons hr
      show T.setVm s.vm = { ((T.setVm s.vm).setFrames (.invoking m args :: below)).setFrames (T.setVm s.vm).frames with heap := T.heap, slotsUsed := T.slotsUsed }
      rw [State.setFrames_setFrames, State.setFrames_self ht]
      rfl
    · show T.slotsUsed = T.slotsUsed + ((T.heap.toList.drop T.heap.size).map (·.slots.size)).sum
      rw [List.drop_eq_nil_of_le (Nat.le_of_eq Array.length_toList)]
      rfl
    · show ((T.heap.toList.drop T.heap.size).map (·.slots.size)).sum ≤ 0
      rw [List.drop_eq_nil_of_le (Nat.le_of_eq Array.length_toList)]
      exact Nat.le_refl _
/-- 'throw new E()': new; dup; invokespecial; athrow -/
theorem vx_throw0 {cc : ByteArray} {pc : Nat} (hexec : p.tables.exec = Jvm.exec) (hb : c.code = cc) (hl : l.stackTraces = false) {own cls : String} {names : List String} {ik ic mc ms : Nat} {A : Nat → Prop}
    (hown : s.vm.findClass own = some m.cls) (hcls : Bundle.fit cls = true) (hnames : ∀ n ∈ names, Bundle.fit n = true)
    (hk : (Cond.classLink own ik cls).before args s = true) (hini : (Cond.initialized cls).before args s = true) (hat : ∀ w ∈ vx_at0 own ic cls names, w.before args s = true)
    (hgood : ∀ w ∈ Cond.classLink own ik cls :: Cond.initialized cls :: vx_at0 own ic cls names, vx_ot w = true)
    (hU : vx_Zq Bundle.tN "UNASSIGNED_STACK" Bundle.steD A s s.heap) (hN : vx_Zq Bundle.tN "SUPPRESSED_SENTINEL" Bundle.listD A s s.heap) (hS : va_S A s.heap H locs) (hsize : ls.size = c.maxLocals)
    (d0 : decode cc pc = .ok (.new ik, 3)) (d3 : decode cc (pc + 3) = .ok (.dup, 1)) (d4 : decode cc (pc + 4) = .ok (.invokespecial ic, 3)) (d7 : decode cc (pc + 7) = .ok (.athrow, 1))
    (hout : ∀ x ∈ c.exceptionTable.toList, covers x (pc + 7) = false)
    (hRframes : names.length + 3 < R.frames) (hRlocals : (rest.map fun v => v.category).sum + (13 * (names.length + 1) + 42) ≤ R.locals) (hRcells : cells + 1 ≤ R.cells) (hRslots : slots + 6 ≤ R.slots) (hlocks : meth.locks = false)
    (hx : ∀ t : State, s.vm.Alike t.vm → H.size ≤ t.heap.size → (∀ q : Nat, q < H.size → t.heap[q]? = H[q]?) → XC cls s t)
    (hf : ∀ z ∈ locs, free z.base) (hc : cells + 1 ≤ mc) (hs : slots + 6 ≤ ms) :
    W p l e R s m args below meth c H locs cells slots (vx_MQ below Qc XC args s mc ms free) (F0 m pc ls rest) := by
  intro T hT X
  have htr : e.platform.stackTraces = false := (show e.platform.stackTraces = l.stackTraces by rw [X.admits.platform]).trans hl
  have Y := vx_rebase X (R' := { frames := R.frames, locals := R.locals, cells := 1, slots := 6 }) (Nat.le_refl _) (Nat.le_refl _) hRcells hRslots
  obtain ⟨s', hA⟩ : ∃ z, z = (T.setVm s.vm).setFrames (.invoking m args :: below) := ⟨_, rfl⟩
  rw [← hA] at Y
  have hvm : s'.vm = s.vm := by rw [hA]; rfl
  have hhp : s'.heap = H := by rw [hA]; exact hT
  have hW0 : s.WarmedH s'.vm := by rw [hvm]; exact State.WarmedH.refl s
  have hat' : ∀ w ∈ vx_at0 own ic cls names, w.before args s' = true := fun w hw => vx_ot_at hW0 hvm.symm (hgood w (List.mem_cons_of_mem _ (List.mem_cons_of_mem _ hw))) (hat w hw)
  have hk' : (Cond.classLink own ik cls).before args s' = true := vx_ot_at hW0 hvm.symm (hgood _ List.mem_cons_self) hk
  have hini' : (Cond.initialized cls).before args s' = true := vx_ot_at hW0 hvm.symm (hgood _ (List.mem_cons_of_mem _ List.mem_cons_self)) hini
  have hU' : vx_Zq Bundle.tN "UNASSIGNED_STACK" Bundle.steD A s' s'.heap := by rw [hhp]; exact vx_Zq.moved hW0.alike (hU.kept hS.2.1)
  have hN' : vx_Zq Bundle.tN "SUPPRESSED_SENTINEL" Bundle.listD A s' s'.heap := by rw [hhp]; exact vx_Zq.moved hW0.alike (hN.kept hS.2.1)
  have h : ∀ w ∈ Bundle.ownAtoms0 own ic cls names, w.before args s' = true := vx_own hat' (vx_isRefq hU'.1) (vx_isRefq hN'.1) hU'.2.word hN'.2.word
  have hown' : s'.vm.findClass own = some m.cls := by rw [hvm]; exact hown
  have hins : (Cond.instantiable cls 6).before args s' = true := h _ (by simp [Bundle.ownAtoms0])
  obtain ⟨vm₁, cX, kX, hfX, hkX, -, -, X₁, st1⟩ := Y.newCold hexec (own := own) (C := cls) (index := ik) (n := 6) hown' hk' hins hini'
    (g := F0 m pc ls rest) rfl (by rw [hb]; exact d0) (Nat.le_refl _) (Nat.le_refl _)
  generalize hT1 : (T.setVm vm₁).pushCell { cls := cX, slots := kX.instanceTypes.map defaultValue, vm := .none } = T1 at X₁ st1
  have hcat : (Value.ref T.heap.size).category = 1 := rfl
  have hcellA : T1.heap[T.heap.size]? = some (freshCell cX kX) := by rw [← hT1]; exact State.heap_pushCell_size _ _
  have d3' : decode c.code (pc + 3) = .ok (.dup, 1) := by rw [hb]; exact d3
  obtain ⟨U, hsteps, hrun, hend, hW, hsame, ce, hce, hO⟩ := X₁.ctorThrow0 hexec htr (own := own) (cls := cls) (names := names) (ic := ic) hown' hcls hnames h (fun x hx => nomatch hx) hfX hkX hcellA (by rw [hhp, hT]; exact Nat.le_refl _)
    (g := { method := m, pc := pc + 4, locals := ls, stack := .ref T.heap.size :: .ref T.heap.size :: rest, locked := none }) rfl hsize rfl rfl (rest := rest) rfl
    (by rw [hb]; exact d4) (by rw [hb]; exact d7) hout hRframes (by simp only [List.map_cons, List.sum_cons, hcat]; omega) hlocks
  obtain ⟨f1, f2⟩ := vx_frame hsame
  rw [hhp] at f1 f2
  have hWs : s.WarmedH U.vm := State.WarmedH.trans hW0 hW
  have hcl : s.vm.findClass cls = some ce.cls := by
    have h9 := hO.cls
    rw [hvm] at h9
    exact h9
  have hall : s.sameButNew ({ U with vm := s.vm } : State) locs mc ms := by
    subst hA
    obtain ⟨e1, e2⟩ := hsame
    rw [State.setFrames_setFrames] at e1
    have h2 : (T.setVm s.vm).sameButNew ({ U with vm := s.vm } : State) [] (0 + 1) (0 + 6) := ⟨e1, e2⟩
    have h3 := X.same.trans h2
    rw [List.append_nil] at h3
    exact h3.mono hc hs
  refine ⟨U, ?_, .threw T.heap.size, hrun, hend, Or.inr ⟨T.heap.size, rfl, cls, ce, locs, hx U hWs.alike f1 (fun q hq => f2 q hq (fun z hz => nomatch hz)), hce, hO.vm, hcl, hWs, hall, hf⟩⟩
  refine st1 _ ?_
  show Steps p.tables e below (T1.setTop { method := m, pc := pc + 3, locals := ls, stack := .ref T.heap.size :: rest, locked := none }) _
  jvm_step X₁.here [X₁.here.top, hexec, d3', Value.category]
  exact hsteps
/-- 'throw new E("text")': new; dup; ldc; invokespecial; athrow -/
theorem vx_throwS {cc : ByteArray} {pc : Nat} (hexec : p.tables.exec = Jvm.exec) (hb : c.code = cc) (hl : l.stackTraces = false) {own cls text : String} {names : List String} {ik is ic mc ms sa : Nat} {A : Nat → Prop}
    (hown : s.vm.findClass own = some m.cls) (hcls : Bundle.fit cls = true) (hnames : ∀ n ∈ names, Bundle.fit n = true)
    (hk : (Cond.classLink own ik cls).before args s = true) (hini : (Cond.initialized cls).before args s = true) (hstr : vk_R own is text sa s) (hat : ∀ w ∈ vx_atS own ic cls names, w.before args s = true)
    (hgood : ∀ w ∈ Cond.classLink own ik cls :: Cond.initialized cls :: vx_atS own ic cls names, vx_ot w = true)
    (hU : vx_Zq Bundle.tN "UNASSIGNED_STACK" Bundle.steD A s s.heap) (hN : vx_Zq Bundle.tN "SUPPRESSED_SENTINEL" Bundle.listD A s s.heap) (hS : va_S A s.heap H locs) (hsize : ls.size = c.maxLocals)
    (d0 : decode cc pc = .ok (.new ik, 3)) (d3 : decode cc (pc + 3) = .ok (.dup, 1)) (d4 : decode cc (pc + 4) = .ok (.ldc is, 2)) (d6 : decode cc (pc + 6) = .ok (.invokespecial ic, 3)) (d9 : decode cc (pc + 9) = .ok (.athrow, 1))
    (hout : ∀ x ∈ c.exceptionTable.toList, covers x (pc + 9) = false)
    (hRframes : names.length + 3 < R.frames) (hRlocals : (rest.map fun v => v.category).sum + (13 * (names.length + 1) + 43) ≤ R.locals) (hRcells : cells + 1 ≤ R.cells) (hRslots : slots + 6 ≤ R.slots) (hlocks : meth.locks = false)
    (hx : ∀ t : State, s.vm.Alike t.vm → H.size ≤ t.heap.size → (∀ q : Nat, q < H.size → t.heap[q]? = H[q]?) → XC cls s t)
    (hf : ∀ z ∈ locs, free z.base) (hc : cells + 1 ≤ mc) (hs : slots + 6 ≤ ms) :
    W p l e R s m args below meth c H locs cells slots (vx_MQ below Qc XC args s mc ms free) (F0 m pc ls rest) := by
  intro T hT X
  have htr : e.platform.stackTraces = false := (show e.platform.stackTraces = l.stackTraces by rw [X.admits.platform]).trans hl
  have Y := vx_rebase X (R' := { frames := R.frames, locals := R.locals, cells := 1, slots := 6 }) (Nat.le_refl _) (Nat.le_refl _) hRcells hRslots
  obtain ⟨s', hA⟩ : ∃ z, z = (T.setVm s.vm).setFrames (.invoking m args :: below) := ⟨_, rfl⟩
  rw [← hA] at Y
  have hvm : s'.vm = s.vm := by rw [hA]; rfl
  have hhp : s'.heap = H := by rw [hA]; exact hT
  have hW0 : s.WarmedH s'.vm := by rw [hvm]; exact State.WarmedH.refl s
  have hat' : ∀ w ∈ vx_atS own ic cls names, w.before args s' = true := fun w hw => vx_ot_at hW0 hvm.symm (hgood w (List.mem_cons_of_mem _ (List.mem_cons_of_mem _ hw))) (hat w hw)
  have hk' : (Cond.classLink own ik cls).before args s' = true := vx_ot_at hW0 hvm.symm (hgood _ List.mem_cons_self) hk
  have hini' : (Cond.initialized cls).before args s' = true := vx_ot_at hW0 hvm.symm (hgood _ (List.mem_cons_of_mem _ List.mem_cons_self)) hini
  have hU' : vx_Zq Bundle.tN "UNASSIGNED_STACK" Bundle.steD A s' s'.heap := by rw [hhp]; exact vx_Zq.moved hW0.alike (hU.kept hS.2.1)
  have hN' : vx_Zq Bundle.tN "SUPPRESSED_SENTINEL" Bundle.listD A s' s'.heap := by rw [hhp]; exact vx_Zq.moved hW0.alike (hN.kept hS.2.1)
  have h : ∀ w ∈ Bundle.ownAtoms own ic cls names, w.before args s' = true := vx_own hat' (vx_isRefq hU'.1) (vx_isRefq hN'.1) hU'.2.word hN'.2.word
  have hown' : s'.vm.findClass own = some m.cls := by rw [hvm]; exact hown
  have hins : (Cond.instantiable cls 6).before args s' = true := h _ (by simp [Bundle.ownAtoms])
  obtain ⟨vm₁, cX, kX, hfX, hkX, -, -, X₁, st1⟩ := Y.newCold hexec (own := own) (C := cls) (index := ik) (n := 6) hown' hk' hins hini'
    (g := F0 m pc ls rest) rfl (by rw [hb]; exact d0) (Nat.le_refl _) (Nat.le_refl _)
  generalize hT1 : (T.setVm vm₁).pushCell { cls := cX, slots := kX.instanceTypes.map defaultValue, vm := .none } = T1 at X₁ st1
  have hcat : (Value.ref T.heap.size).category = 1 := rfl
  have hcellA : T1.heap[T.heap.size]? = some (freshCell cX kX) := by rw [← hT1]; exact State.heap_pushCell_size _ _
  have d3' : decode c.code (pc + 3) = .ok (.dup, 1) := by rw [hb]; exact d3
  have d4' : decode c.code (pc + 4) = .ok (.ldc is, 2) := by rw [hb]; exact d4
  have hstr' : vk_R own is text sa s' := vk_R.warm hW0 hstr
  obtain ⟨U, hsteps, hrun, hend, hW, hsame, ce, hce, hO⟩ := X₁.ctorThrowS hexec htr (own := own) (cls := cls) (names := names) (ic := ic) hown' hcls hnames h (fun x hx => nomatch hx) hfX hkX hcellA (by rw [hhp, hT]; exact Nat.le_refl _) (msg := .ref sa) rfl
    (g := { method := m, pc := pc + 6, locals := ls, stack := .ref sa :: .ref T.heap.size :: .ref T.heap.size :: rest, locked := none }) rfl hsize rfl rfl (rest := rest) rfl
    (by rw [hb]; exact d6) (by rw [hb]; exact d9) hout hRframes (by simp only [List.map_cons, List.sum_cons, hcat]; omega) hlocks
  obtain ⟨f1, f2⟩ := vx_frame hsame
  rw [hhp] at f1 f2
  have hWs : s.WarmedH U.vm := State.WarmedH.trans hW0 hW
  have hcl : s.vm.findClass cls = some ce.cls := by
    have h9 := hO.cls
    rw [hvm] at h9
    exact h9
  have hall : s.sameButNew ({ U with vm := s.vm } : State) locs mc ms := by
    subst hA
    obtain ⟨e1, e2⟩ := hsame
    rw [State.setFrames_setFrames] at e1
    have h2 : (T.setVm s.vm).sameButNew ({ U with vm := s.vm } : State) [] (0 + 1) (0 + 6) := ⟨e1, e2⟩
    have h3 := X.same.trans h2
    rw [List.append_nil] at h3
    exact h3.mono hc hs
  refine ⟨U, ?_, .threw T.heap.size, hrun, hend, Or.inr ⟨T.heap.size, rfl, cls, ce, locs, hx U hWs.alike f1 (fun q hq => f2 q hq (fun z hz => nomatch hz)), hce, hO.vm, hcl, hWs, hall, hf⟩⟩
  refine st1 _ ?_
  show Steps p.tables e below (T1.setTop { method := m, pc := pc + 3, locals := ls, stack := .ref T.heap.size :: rest, locked := none }) _
  jvm_step X₁.here [X₁.here.top, hexec, d3', Value.category]
  exact X₁.ldcString hexec (own := own) (text := text) (index := is) (a := sa) hown' hstr'.1 hstr'.2
    (g := { method := m, pc := pc + 4, locals := ls, stack := .ref T.heap.size :: .ref T.heap.size :: rest, locked := none }) rfl d4' _ hsteps
/-- 'throw new E("text")', the text by a wide index -/
theorem vx_throwSW {cc : ByteArray} {pc : Nat} (hexec : p.tables.exec = Jvm.exec) (hb : c.code = cc) (hl : l.stackTraces = false) {own cls text : String} {names : List String} {ik is ic mc ms sa : Nat} {A : Nat → Prop}
    (hown : s.vm.findClass own = some m.cls) (hcls : Bundle.fit cls = true) (hnames : ∀ n ∈ names, Bundle.fit n = true)
    (hk : (Cond.classLink own ik cls).before args s = true) (hini : (Cond.initialized cls).before args s = true) (hstr : vk_R own is text sa s) (hat : ∀ w ∈ vx_atS own ic cls names, w.before args s = true)
    (hgood : ∀ w ∈ Cond.classLink own ik cls :: Cond.initialized cls :: vx_atS own ic cls names, vx_ot w = true)
    (hU : vx_Zq Bundle.tN "UNASSIGNED_STACK" Bundle.steD A s s.heap) (hN : vx_Zq Bundle.tN "SUPPRESSED_SENTINEL" Bundle.listD A s s.heap) (hS : va_S A s.heap H locs) (hsize : ls.size = c.maxLocals)
    (d0 : decode cc pc = .ok (.new ik, 3)) (d3 : decode cc (pc + 3) = .ok (.dup, 1)) (d4 : decode cc (pc + 4) = .ok (.ldc_w is, 3)) (d7 : decode cc (pc + 7) = .ok (.invokespecial ic, 3)) (d10 : decode cc (pc + 10) = .ok (.athrow, 1))
    (hout : ∀ x ∈ c.exceptionTable.toList, covers x (pc + 10) = false)
    (hRframes : names.length + 3 < R.frames) (hRlocals : (rest.map fun v => v.category).sum + (13 * (names.length + 1) + 43) ≤ R.locals) (hRcells : cells + 1 ≤ R.cells) (hRslots : slots + 6 ≤ R.slots) (hlocks : meth.locks = false)
    (hx : ∀ t : State, s.vm.Alike t.vm → H.size ≤ t.heap.size → (∀ q : Nat, q < H.size → t.heap[q]? = H[q]?) → XC cls s t)
    (hf : ∀ z ∈ locs, free z.base) (hc : cells + 1 ≤ mc) (hs : slots + 6 ≤ ms) :
    W p l e R s m args below meth c H locs cells slots (vx_MQ below Qc XC args s mc ms free) (F0 m pc ls rest) := by
  intro T hT X
  have htr : e.platform.stackTraces = false := (show e.platform.stackTraces = l.stackTraces by rw [X.admits.platform]).trans hl
  have Y := vx_rebase X (R' := { frames := R.frames, locals := R.locals, cells := 1, slots := 6 }) (Nat.le_refl _) (Nat.le_refl _) hRcells hRslots
  obtain ⟨s', hA⟩ : ∃ z, z = (T.setVm s.vm).setFrames (.invoking m args :: below) := ⟨_, rfl⟩
  rw [← hA] at Y
  have hvm : s'.vm = s.vm := by rw [hA]; rfl
  have hhp : s'.heap = H := by rw [hA]; exact hT
  have hW0 : s.WarmedH s'.vm := by rw [hvm]; exact State.WarmedH.refl s
  have hat' : ∀ w ∈ vx_atS own ic cls names, w.before args s' = true := fun w hw => vx_ot_at hW0 hvm.symm (hgood w (List.mem_cons_of_mem _ (List.mem_cons_of_mem _ hw))) (hat w hw)
  have hk' : (Cond.classLink own ik cls).before args s' = true := vx_ot_at hW0 hvm.symm (hgood _ List.mem_cons_self) hk
  have hini' : (Cond.initialized cls).before args s' = true := vx_ot_at hW0 hvm.symm (hgood _ (List.mem_cons_of_mem _ List.mem_cons_self)) hini
  have hU' : vx_Zq Bundle.tN "UNASSIGNED_STACK" Bundle.steD A s' s'.heap := by rw [hhp]; exact vx_Zq.moved hW0.alike (hU.kept hS.2.1)
  have hN' : vx_Zq Bundle.tN "SUPPRESSED_SENTINEL" Bundle.listD A s' s'.heap := by rw [hhp]; exact vx_Zq.moved hW0.alike (hN.kept hS.2.1)
  have h : ∀ w ∈ Bundle.ownAtoms own ic cls names, w.before args s' = true := vx_own hat' (vx_isRefq hU'.1) (vx_isRefq hN'.1) hU'.2.word hN'.2.word
  have hown' : s'.vm.findClass own = some m.cls := by rw [hvm]; exact hown
  have hins : (Cond.instantiable cls 6).before args s' = true := h _ (by simp [Bundle.ownAtoms])
  obtain ⟨vm₁, cX, kX, hfX, hkX, -, -, X₁, st1⟩ := Y.newCold hexec (own := own) (C := cls) (index := ik) (n := 6) hown' hk' hins hini'
    (g := F0 m pc ls rest) rfl (by rw [hb]; exact d0) (Nat.le_refl _) (Nat.le_refl _)
  generalize hT1 : (T.setVm vm₁).pushCell { cls := cX, slots := kX.instanceTypes.map defaultValue, vm := .none } = T1 at X₁ st1
  have hcat : (Value.ref T.heap.size).category = 1 := rfl
  have hcellA : T1.heap[T.heap.size]? = some (freshCell cX kX) := by rw [← hT1]; exact State.heap_pushCell_size _ _
  have d3' : decode c.code (pc + 3) = .ok (.dup, 1) := by rw [hb]; exact d3
  have d4' : decode c.code (pc + 4) = .ok (.ldc_w is, 3) := by rw [hb]; exact d4
  have hstr' : vk_R own is text sa s' := vk_R.warm hW0 hstr
  obtain ⟨U, hsteps, hrun, hend, hW, hsame, ce, hce, hO⟩ := X₁.ctorThrowS hexec htr (own := own) (cls := cls) (names := names) (ic := ic) hown' hcls hnames h (fun x hx => nomatch hx) hfX hkX hcellA (by rw [hhp, hT]; exact Nat.le_refl _) (msg := .ref sa) rfl
    (g := { method := m, pc := pc + 7, locals := ls, stack := .ref sa :: .ref T.heap.size :: .ref T.heap.size :: rest, locked := none }) rfl hsize rfl rfl (rest := rest) rfl
    (by rw [hb]; exact d7) (by rw [hb]; exact d10) hout hRframes (by simp only [List.map_cons, List.sum_cons, hcat]; omega) hlocks
  obtain ⟨f1, f2⟩ := vx_frame hsame
  rw [hhp] at f1 f2
  have hWs : s.WarmedH U.vm := State.WarmedH.trans hW0 hW
  have hcl : s.vm.findClass cls = some ce.cls := by
    have h9 := hO.cls
    rw [hvm] at h9
    exact h9
  have hall : s.sameButNew ({ U with vm := s.vm } : State) locs mc ms := by
    subst hA
    obtain ⟨e1, e2⟩ := hsame
    rw [State.setFrames_setFrames] at e1
    have h2 : (T.setVm s.vm).sameButNew ({ U with vm := s.vm } : State) [] (0 + 1) (0 + 6) := ⟨e1, e2⟩
    have h3 := X.same.trans h2
    rw [List.append_nil] at h3
    exact h3.mono hc hs
  refine ⟨U, ?_, .threw T.heap.size, hrun, hend, Or.inr ⟨T.heap.size, rfl, cls, ce, locs, hx U hWs.alike f1 (fun q hq => f2 q hq (fun z hz => nomatch hz)), hce, hO.vm, hcl, hWs, hall, hf⟩⟩
  refine st1 _ ?_
  show Steps p.tables e below (T1.setTop { method := m, pc := pc + 3, locals := ls, stack := .ref T.heap.size :: rest, locked := none }) _
  jvm_step X₁.here [X₁.here.top, hexec, d3', Value.category]
  exact X₁.ldcStringW hexec (own := own) (text := text) (index := is) (a := sa) hown' hstr'.1 hstr'.2
    (g := { method := m, pc := pc + 4, locals := ls, stack := .ref T.heap.size :: .ref T.heap.size :: rest, locked := none }) rfl d4' _ hsteps
end Ends
section Bodies
variable {l : Launch}
theorem vx_ofW {y : MethodName} {ws ws' : List Cond} {rm : Room} {Pc : Array Value → State → Prop} {Qc : Array Value → State → Outcome → State → Prop} {XC : String → State → State → Prop} {mc ms : Nat} {free : Addr → Prop} {cc : ByteArray} {maxL : Nat} {ret : Option FieldType}
    (hy : plainName y.cls = true) (hw : ws = Cond.code y cc maxL ret :: ws')
    (body : ∀ p e s m args below meth c s₁, BodyLoose p l y (headSpec ws rm) cc maxL ret e s m args below meth c s₁ → c.maxLocals = maxL → (∀ x ∈ c.exceptionTable.toList, False) → Pc args s →
      W p l e (headSpec ws rm).room s m args below meth c s.heap [] 0 0 (vx_MQ below Qc XC args s mc ms free) (entryFrame m args maxL)) : vx_Met l y ws rm Pc Qc XC mc ms free := by
  refine MetFree.of_bodyS (code := cc) (maxLocals := maxL) (ret := ret) hy ?_ ?_
  · intro args s m h hn
    obtain ⟨meth, c, h1, h2, h3, h4, h5, h6, -, -⟩ := Cond.code_spec hn (atoms_spec (ws := ws) h _ (by rw [hw]; exact List.mem_cons_self))
    exact ⟨meth, c, h1, h2, h3, h4, h5, h6⟩
  · intro p e s m args below meth c s₁ B hml hP _
    have hh0 : s₁.heap = s.heap := by rw [B.state]; rfl
    have ht : ∀ x ∈ c.exceptionTable.toList, False := by
      obtain ⟨meth9, c9, h1, h2, -, -, -, -, h7, -⟩ := Cond.code_spec B.named (atoms_spec (ws := ws) B.pre _ (by rw [hw]; exact List.mem_cons_self))
      cases Option.some.inj (h1.symm.trans B.method)
      cases Option.some.inj (h2.symm.trans (Stand.of_body B).code)
      intro x hx
      rw [Array.isEmpty_iff.mp h7] at hx
      cases hx
    obtain ⟨t, a1, o, b1, b2, b3⟩ := body p e s m args below meth c s₁ B hml ht hP s₁ hh0 (Stand.of_body B)
    exact ⟨t, o, a1, b1, b2, b3⟩
/-- the table of a body with handlers -/
theorem vx_table {p : Program} {x y : MethodName} {S : Spec} {cc bytes : ByteArray} {maxL maxL' : Nat} {ret ret' : Option FieldType} {e : Env} {s s₁ : State} {m : MethodId} {args : Array Value} {below : List Frame} {meth : Method} {c : Code} {hh : List (Nat × Nat × Nat × Nat)}
    (B : BodyLoose p l y S cc maxL ret e s m args below meth c s₁) (h : (Cond.codeWith y bytes maxL' ret' hh).before args s = true) : c.exceptionTable.toList = tableOf hh := by
  obtain ⟨m9, meth9, c9, hn9, h1, h2, -, -, h6, -⟩ := Cond.codeWith_spec h
  cases Option.some.inj (hn9.symm.trans B.named)
  cases Option.some.inj (h1.symm.trans B.method)
  cases Option.some.inj (h2.symm.trans (Stand.of_body B).code)
  rw [← h6, table_eq]
end Bodies
end VXA
/-! ===== END ===== -/
/-! ===== BEGIN a static call of a method with an exception table ===== -/
section VXS
variable {p : Program} {l : Launch} {e : Env} {R : Room} {s : State} {m : MethodId} {args : Array Value} {below : List Frame} {meth : Method} {c : Code} {T : State} {H : Heap} {locs : List Loc} {cells slots : Nat}
abbrev vx_CSW (R : Room) (s : State) (args : Array Value) (own : String) (index : Nat) (y : MethodName) (bytes : ByteArray) (maxL : Nat) (ret : Option FieldType) (hh : List (Nat × Nat × Nat × Nat)) (ws : List Cond) (rm : Room) (mc ms n : Nat) : Prop :=
  (rm.cells = mc ∧ rm.slots = ms ∧ rm.frames + 1 ≤ R.frames ∧ 8 + (maxL + 11) + rm.locals ≤ R.locals ∧ (∀ w ∈ ws, ∀ (a' : Array Value) (U : State), s.WarmedH U.vm → w.before a' U = true) ∧ Cond.codeWith y bytes maxL ret hh ∈ ws) ∧
  (Cond.codeWith y bytes maxL ret hh).before args s = true ∧ (Cond.initialized y.cls).before args s = true ∧ (y.cls ≠ "java/lang/invoke/MethodHandle" ∧ y.cls ≠ "java/lang/invoke/VarHandle") ∧
  (∀ sig, parseMethodDescriptor y.desc = some sig → n = sig.parameters.length) ∧ (Cond.methodLink own index y).before args s = true ∧ (Cond.static y).before args s = true
theorem vx_cwSW {own : String} {index maxL mc ms : Nat} {y : MethodName} {bytes : ByteArray} {ret : Option FieldType} {hh : List (Nat × Nat × Nat × Nat)} {Ts ws ws' : List Cond} {rm : Room} (n : Nat) (ht : ∀ w ∈ Ts, w.before args s = true) (hT : GoodIn Ts (va_wsS own index y ws)) (hw : ws = Cond.codeWith y bytes maxL ret hh :: ws') (hrc : rm.cells = mc) (hrs : rm.slots = ms)
    (hd : y.cls ≠ "java/lang/invoke/MethodHandle" ∧ y.cls ≠ "java/lang/invoke/VarHandle" ∧ (parseMethodDescriptor y.desc).map (fun d => d.parameters.length) = some n) (hR : rm.frames + 1 ≤ R.frames ∧ 8 + (maxL + 11) + rm.locals ≤ R.locals) :
    vx_CSW R s args own index y bytes maxL ret hh ws rm mc ms n := by
  have ok : ∀ w ∈ va_wsS own index y ws, w.before args s = true := fun w h => ht w (hT w h).1
  have hG : GoodIn Ts ws := fun w h => hT w (by unfold va_wsS; exact List.mem_append_right _ h)
  have hc : Cond.codeWith y bytes maxL ret hh ∈ ws := by rw [hw]; exact List.mem_cons_self
  refine ⟨⟨hrc, hrs, hR.1, hR.2, pay_in ht hG, hc⟩, ht _ (hG _ hc).1, ok _ (by simp [va_wsS]), ⟨hd.1, hd.2.1⟩, fun sig h => ?_, ok _ (by simp [va_wsS]), ok _ (by simp [va_wsS])⟩
  have h2 := hd.2.2
  rw [h] at h2
  exact (Option.some.inj h2).symm
theorem vx_callSW (X : Stand p l e R s m args below meth c T locs cells slots) (hexec : p.tables.exec = Jvm.exec) {own : String} {index : Nat} {y : MethodName} {bytes : ByteArray} {maxL : Nat} {ret : Option FieldType} {hh : List (Nat × Nat × Nat × Nat)}
    (hown : s.vm.findClass own = some m.cls) (hlink : (Cond.methodLink own index y).before args s = true) (hstat : (Cond.static y).before args s = true) (hinit : (Cond.initialized y.cls).before args s = true)
    (hcode : (Cond.codeWith y bytes maxL ret hh).before args s = true) (hy : y.cls ≠ "java/lang/invoke/MethodHandle" ∧ y.cls ≠ "java/lang/invoke/VarHandle")
    {W9 : Nat} {Pre : Pt → Array Value → Prop} {Post : Pt → Array Value → Option Value → Pt → Prop} (hK : Back l R p e below s args y 3 W9 Pre Post)
    {g : JFrame} (hg : g.method = m) (hsize : g.locals.size = c.maxLocals) {argsL rest : List Value} (hlen : ∀ sig, parseMethodDescriptor y.desc = some sig → argsL.length = sig.parameters.length)
    (hstack : g.stack = argsL.reverse ++ rest) (hW : 2 * g.monitorRoom + (rest.map fun v => v.category).sum ≤ W9) (hdg : decode c.code g.pc = .ok (.invokestatic index, 3))
    (hpre : ∀ vm₁, s.WarmedH vm₁ → Pre ⟨T.setVm vm₁, locs, cells, slots⟩ argsL.toArray) :
    ∃ (v : Option Value) (vm₁ : Vm) (B : Pt), s.WarmedH vm₁ ∧ Stand p l e R s m args below meth c B.U B.locs B.cells B.slots ∧ Post ⟨T.setVm vm₁, locs, cells, slots⟩ argsL.toArray v B ∧
      ∀ target, Steps p.tables e below (B.U.setTop { g with pc := g.pc + 3, stack := v.toList ++ rest }) target → Steps p.tables e below (T.setTop g) target := by
  obtain ⟨mk, methM, cM, hnamed, hmethM, -, -, -, -, -, -, hsigM⟩ := Cond.codeWith_spec hcode
  have hstatic : methM.isStatic = true := Cond.static_spec hnamed hmethM hstat
  obtain ⟨kP, hkP, -⟩ := className_of_methodNamed hnamed
  have hinitP : kP.init = .initialized := Cond.initialized_spec (findClass_of_methodNamed hnamed) hkP hinit
  obtain ⟨vm₁, X₁, hstep₁⟩ := X.invokestatic hexec hown hlink hnamed hmethM hstatic hkP hinitP hy (g := g) hg (argsL := argsL) (rest := rest) (hlen _ hsigM) hstack hdg
  obtain ⟨v, B, X', hpost, hsteps⟩ := hK m meth c ⟨T.setVm vm₁, locs, cells, slots⟩ { g with stack := rest } (.invokestatic index) mk argsL.toArray X₁ hg hsize hdg hW (X₁.named hnamed) (hpre vm₁ X₁.warmed)
  exact ⟨v, vm₁, B, X₁.warmed, X', hpost, fun target h => hstep₁ _ fun acts => by rw [doInvoke_state]; exact hsteps.trans h⟩
theorem vx_runSW {y : MethodName} {bytes cc : ByteArray} {maxL nL mc ms n index : Nat} {ret : Option FieldType} {hh : List (Nat × Nat × Nat × Nat)} {ws : List Cond} {rm : Room} {Pc : Array Value → State → Prop} {Qc : Array Value → State → Outcome → State → Prop} {free : Addr → Prop} {Ts : List Cond} {own : String} {As rest : List Value} {g : JFrame}
    (S : CallFix p m c cc nL s args Ts own) (hM : Met l y ws rm Pc Qc mc ms free) (cw : vx_CSW R s args own index y bytes maxL ret hh ws rm mc ms n) (hp : PreS s H Pc As)
    (hg : g.method = m) (hn : As.length = n) (hsize : g.locals.size = nL) (hstack : g.stack = As.reverse ++ rest) (hW : 2 * g.monitorRoom + (rest.map fun v => v.category).sum ≤ 8) (hdg : decode cc g.pc = .ok (.invokestatic index, 3)) (hf : cells + mc ≤ R.cells ∧ slots + ms ≤ R.slots) :
    va_Run p l e R s m args below meth c H locs cells slots mc ms g rest (Qc As.toArray) (free) := by
  obtain ⟨⟨hrc, hrs, hfr, hlo, hws, hcw⟩, hcode, hini, hy, hlen, hl, hstt⟩ := cw
  have hK : Back l R p e below s args y 3 8 (PreOf R mc ms Pc) (PostOf Qc mc ms free) := va_backW (hh := hh) (bytes := bytes) (maxL := maxL) (ret := ret) hM hp.1 hrc hrs hfr hlo hws hcw (fun a' U hW => word_at hW (Or.inl (by first | rfl | simp [Cond.onTables, Cond.keeps, Cond.steady])) hini)
  obtain ⟨hx, hb, hml, ho, -⟩ := S
  intro T hT X
  obtain ⟨v, vm₁, ⟨U', l2, c2, s2⟩, hW₁, X', ⟨g', mk, t, L, e1, e2, hq, h1, hL, h2, h3⟩, st⟩ := vx_callSW X hx (hh := hh) (bytes := bytes) (maxL := maxL) (ret := ret) ho hl hstt hini hcode hy hK hg (hsize.trans hml.symm) (argsL := As) (rest := rest) (fun sig h => hn.trans (hlen sig h)) hstack hW (by rw [hb]; exact hdg)
    (fun vm₁ hW₁ => ⟨hf.1, hf.2, hp.2 (T.setVm vm₁) hT hW₁⟩)
  dsimp only [Pt.U, Pt.locs, Pt.cells, Pt.slots] at X' e1 e2 h1 h2 h3 st
  subst h1; subst h2; subst h3
  exact ⟨v, (T.setVm vm₁).calling g' mk As.toArray, t, U', L, hT, X', hL, e1, e2, hq, st⟩
/-- not caught here, past rows that name other classes: it goes on to the caller -/
theorem vx_outP {p : Program} {l : Launch} {e : Env} {R : Room} {s : State} {m : MethodId} {args : Array Value} {below : List Frame} {meth : Method} {c : Code} {H : Heap} {locs : List Loc} {cells slots : Nat} {free : Addr → Prop} {ls : Array Slot} {rest : List Value} {Qc : Array Value → State → Outcome → State → Prop} {XC : String → State → State → Prop}
    {pc : Nat} {own E : String} {ce : Cell} {q : Addr} {mc ms : Nat} (hown : s.vm.findClass own = some m.cls) (hlocks : meth.locks = false)
    (hpass : ∀ z ∈ c.exceptionTable.toList, covers z pc = false ∨ (z.catchType ≠ 0 ∧ ∃ nm : String, (Cond.classLink own z.catchType nm).before args s = true ∧ va_Nc E nm s)) (hcell : H[q]? = some ce) (hv : ce.vm = .none) (hcl : s.vm.findClass E = some ce.cls)
    (hx : ∀ t : State, t.heap = H → s.vm.Alike t.vm → XC E s t) (hf : ∀ z ∈ locs, free z.base) (hc : cells ≤ mc) (hs : slots ≤ ms) :
    vx_W p l e R s m args below meth c H locs cells slots (vx_MQ below Qc XC args s mc ms free) (F0 m pc ls rest) q := by
  intro T hT X
  have hpl : e.platform.magicAccessors = ({} : Platform).magicAccessors := by rw [X.admits.platform]
  obtain ⟨vm', hW', X', st⟩ := X.outThrough hlocks q (g := F0 m pc ls rest) rfl rfl rfl (cell := ce) (by rw [hT]; exact hcell) (by rw [hv]; rfl)
    (by obtain ⟨k9, h9, -⟩ := Vm.findClass_spec hcl; exact ⟨k9, h9⟩) (fun z hz => by
      rcases hpass z hz with h | ⟨hz0, nm, hl1, hn1⟩
      · exact Or.inl h
      · obtain ⟨c6, hc6, hcl6⟩ := Cond.classLink_spec hown hl1 e.platform hpl
        obtain ⟨a8, b8, h1, h2, h3⟩ := hn1
        cases Option.some.inj (h1.symm.trans hcl)
        cases Option.some.inj (h2.symm.trans hc6)
        exact Or.inr ⟨hz0, _, hcl6, h3⟩)
  obtain ⟨g₀, hfr⟩ := X'.frames_eq
  have hcell9 : ((T.setVm vm').setFrames (.throwing q :: below)).heap[q]? = some ce := by
    show T.heap[q]? = some ce
    rw [hT]; exact hcell
  have hend : Ended ((T.setVm vm').setFrames (.throwing q :: below)) below (.threw q) := State.frames_setFrames _ (State.cur_lt_of_frames hfr)
  refine ⟨(T.setVm vm').setFrames (.throwing q :: below), ?_, .threw q, X'.here.running, hend, Or.inr ⟨q, rfl, E, ce, locs, hx _ hT (X'.ends _).1.alike, hcell9, hv, hcl, (X'.ends _).1, (X'.ends _).2.mono hc hs, hf⟩⟩
  rw [X.pushThrowing_eq]
  exact st
/-- a thing of a world lies in the heap -/
theorem vx_lt {D : va_G} {cl : List vw_C} {ws : va_W} {H1 : Heap} (h : va_P D cl ws H1) {k : Nat} {q : Nat × va_E} (hk : ws[k]? = some q) : q.1 < H1.size := (h k q hk).lt
end VXS
/-! ===== END ===== -/
/-! ===== BEGIN methods with a table of their own: called by a name, returning or throwing ===== -/
section VXH
/-! vx_backW, vx_callVX, vx_callSX, vx_callVW, vx_runVW, vx_runVX, vx_runSX, vx_ofWH follow the same proofs as their sisters above (Free/Laws.lean, Shelf42/LK1.lean); vx_outP calls Shelf42/NT130.lean (outThrough). -/
section
variable {l : Launch} {R : Room} {p : Program} {e : Env} {below : List Frame} {s : State} {sargs : Array Value} {y : MethodName} {len W9 : Nat}
theorem vx_backW {ws : List Cond} {rm : Room} {Pc : Array Value → State → Prop} {Qc : Array Value → State → Outcome → State → Prop} {XC : String → State → State → Prop} {mc ms : Nat} {free : Addr → Prop} {bytes : ByteArray} {maxL : Nat} {ret : Option FieldType} {hh : List (Nat × Nat × Nat × Nat)}
    (hM : vx_Met l y ws rm Pc Qc XC mc ms free) (hblind : FrameBlind Pc) (hrc : rm.cells = mc) (hrs : rm.slots = ms)
    (hframes : rm.frames + 1 ≤ R.frames) (hlocals : W9 + (maxL + 11) + rm.locals ≤ R.locals)
    (hws : ∀ w ∈ ws, ∀ a' U, s.WarmedH U.vm → w.before a' U = true) (hcode : Cond.codeWith y bytes maxL ret hh ∈ ws) (hinit : ∀ a' U, s.WarmedH U.vm → (Cond.initialized y.cls).before a' U = true) :
    vx_Back l R p e below s sargs y len W9 (PreOf R mc ms Pc) (PostOf Qc mc ms free) (vx_Post XC mc ms free) := by
  intro m meth c A g ig mk a X hg hsize hdg hW hn hp
  have h1 : (headSpec ws rm).pre.before a A.U = true := atoms_intro fun w hw => hws w hw _ _ X.warmed
  have h2 : (Cond.codeWith y bytes maxL ret hh).before a A.U = true := hws _ hcode _ _ X.warmed
  have h3 : (Cond.initialized y.cls).before a A.U = true := hinit _ _ X.warmed
  have h4 : A.cells + (headSpec ws rm).room.cells ≤ R.cells := by rw [show (headSpec ws rm).room.cells = mc from hrc]; exact hp.1
  have h5 : A.slots + (headSpec ws rm).room.slots ≤ R.slots := by rw [show (headSpec ws rm).room.slots = ms from hrs]; exact hp.2.1
  have hPc : Pc a (A.U.calling g mk a) := hblind _ _ _ _ hp.2.2
  obtain ⟨U, Ls, c0, s0⟩ := A
  dsimp only [Pt.U, Pt.locs, Pt.cells, Pt.slots] at h1 h2 h3 h4 h5 X hn hPc ⊢
  obtain ⟨m9, methY, cY, hn9, hmY, hcY, -, hlY, -⟩ := Cond.codeWith_spec h2
  cases Option.some.inj (hn9.symm.trans hn)
  obtain ⟨kY, hkY, -⟩ := className_of_methodNamed hn
  have hinitY : kY.init = .initialized := Cond.initialized_spec (findClass_of_methodNamed hn) hkY h3
  have h : At U g.method c below := by rw [hg]; exact X.here
  have hlocals9 : W9 + (maxL + 11) + (headSpec ws rm).room.locals ≤ R.locals := hlocals
  have happ : (headSpec ws rm).appliesLoose y e.platform (U.calling g mk a) = true :=
    Spec.appliesLoose_calling (g := g) h hdg hn hkY hinitY
      (X.room_calling (g := g) (R' := (headSpec ws rm).room) hsize hmY hcY hframes (by rw [hlY]; omega) h4 h5) h1
  obtain ⟨mid, hmid⟩ := h.above
  have hfr : (U.setTop g).frames = (.java g :: mid) ++ below := by rw [State.frames_setTop' g h.top, hmid]; rfl
  obtain ⟨o, s₂, hsteps, -, hend, hq⟩ := Steps.callFree hM p X.admits X.cas X.clock (acts := []) hfr happ hPc trivial
  have hq' : vx_Q Qc XC mc ms free a (U.calling g mk a) o s₂ := hq
  rw [State.frames_setTop' g h.top] at hend
  obtain ⟨g₀, hg0⟩ := Option.isSome_iff_exists.mp h.top
  obtain ⟨r, hr⟩ := State.topJava?_eq_some.mp hg0
  have hr' : (({ U with heap := s₂.heap, slotsUsed := s₂.slotsUsed } : State).setVm s₂.vm).frames = .java g₀ :: r := hr
  rcases hq' with ⟨hqc, L, hfe, hL⟩ | ⟨q, rfl, E, ce, L, hx, hce, hcv, hcl, hW₂, hsm, hL⟩
  · obtain ⟨⟨v, rfl⟩, hW₂, e2, q2, q3, q4, q5, q6⟩ := id hfe
    have e3 : s₂ = ({ (U.calling g mk a).setFrames s₂.frames with heap := s₂.heap, slotsUsed := s₂.slotsUsed } : State).setVm s₂.vm := by
      have : s₂ = ({ s₂ with vm := (U.calling g mk a).vm } : State).setVm s₂.vm := rfl
      rw [e2] at this
      exact this
    obtain ⟨c₂, i₂, len₂, hc₂, hd₂, hf₂⟩ := hend
    have hW' : U.WarmedH s₂.vm := hW₂
    have hcc : c₂ = c := by
      have h1 : s₂.code? g.method = U.code? g.method := by
        rw [State.code?_eq, State.code?_eq, hW'.alike.method?]
      exact Option.some.inj (hc₂.symm.trans (h1.trans h.code))
    subst hcc
    have hlen : len₂ = len := by rw [hdg] at hd₂; cases hd₂; rfl
    subst hlen
    have hs₂ : s₂ = (({ U with heap := s₂.heap, slotsUsed := s₂.slotsUsed } : State).setVm s₂.vm).setTop { g with pc := g.pc + len₂, stack := v.toList ++ g.stack } := by
      refine e3.trans ?_
      rw [hf₂, State.calling_eq h.top, State.setFrames_setFrames, State.setTop_of_frames _ hr', hr]
      rfl
    have hsame : U.sameButNew ({ U with heap := s₂.heap, slotsUsed := s₂.slotsUsed } : State) L mc ms := by
      refine ⟨?_, q2, q3, q4, q5, q6⟩
      obtain ⟨t, ht, -⟩ := State.frames_cons hr
      show ({ U with heap := s₂.heap, slotsUsed := s₂.slotsUsed } : State) = { U.setFrames U.frames with heap := s₂.heap, slotsUsed := s₂.slotsUsed }
      rw [State.setFrames_self ht]
    subst hg
    refine Or.inl ⟨v, ⟨(({ U with heap := s₂.heap, slotsUsed := s₂.slotsUsed } : State).setVm s₂.vm), Ls ++ L, c0 + mc, s0 + ms⟩,
      ⟨X.admits, X.cas, X.clock, X.frames, X.room, X.hears, X.method, X.code, (X.here.setHeapUsed s₂.heap s₂.slotsUsed).setVm hW'.alike, X.tail, State.WarmedH.trans X.warmed hW', X.limits, X.bytes, X.same.trans (hsame.setVm s.vm)⟩,
      ⟨g, mk, s₂, L, rfl, rfl, hqc, rfl, hL, rfl, rfl⟩, ?_⟩
    show Steps p.tables e below _ ((({ U with heap := s₂.heap, slotsUsed := s₂.slotsUsed } : State).setVm s₂.vm).setTop { g with pc := g.pc + len₂, stack := v.toList ++ g.stack })
    rw [← hs₂]
    exact hsteps
  · obtain ⟨e2, q2, q3, q4, q5, q6⟩ := id hsm
    have e3 : s₂ = ({ (U.calling g mk a).setFrames s₂.frames with heap := s₂.heap, slotsUsed := s₂.slotsUsed } : State).setVm s₂.vm := by
      have : s₂ = ({ s₂ with vm := (U.calling g mk a).vm } : State).setVm s₂.vm := rfl
      rw [e2] at this
      exact this
    have hf₂ : s₂.frames = .throwing q :: .java g :: U.frames.tail := hend
    have hW' : U.WarmedH s₂.vm := hW₂
    have hs₂ : s₂ = ((({ U with heap := s₂.heap, slotsUsed := s₂.slotsUsed } : State).setVm s₂.vm).setTop g).pushFrame (.throwing q) := by
      refine e3.trans ?_
      rw [hf₂, State.calling_eq h.top, State.setFrames_setFrames, State.pushFrame, State.frames_setTop _ hr', State.setTop_of_frames _ hr', State.setFrames_setFrames, hr]
      rfl
    have hsame : U.sameButNew ({ U with heap := s₂.heap, slotsUsed := s₂.slotsUsed } : State) L mc ms := by
      refine ⟨?_, q2, q3, q4, q5, q6⟩
      obtain ⟨t, ht, -⟩ := State.frames_cons hr
      show ({ U with heap := s₂.heap, slotsUsed := s₂.slotsUsed } : State) = { U.setFrames U.frames with heap := s₂.heap, slotsUsed := s₂.slotsUsed }
      rw [State.setFrames_self ht]
    subst hg
    refine Or.inr ⟨q, ⟨(({ U with heap := s₂.heap, slotsUsed := s₂.slotsUsed } : State).setVm s₂.vm), Ls ++ L, c0 + mc, s0 + ms⟩,
      ⟨X.admits, X.cas, X.clock, X.frames, X.room, X.hears, X.method, X.code, (X.here.setHeapUsed s₂.heap s₂.slotsUsed).setVm hW'.alike, X.tail, State.WarmedH.trans X.warmed hW', X.limits, X.bytes, X.same.trans (hsame.setVm s.vm)⟩,
      ⟨g, mk, s₂, L, E, ce, rfl, rfl, hx, hce, hcv, hcl, rfl, hL, rfl, rfl⟩, ?_⟩
    show Steps p.tables e below _ (((({ U with heap := s₂.heap, slotsUsed := s₂.slotsUsed } : State).setVm s₂.vm).setTop g).pushFrame (.throwing q))
    rw [← hs₂]
    exact hsteps
end
variable {p : Program} {l : Launch} {e : Env} {R : Room} {s : State} {m : MethodId} {args : Array Value} {below : List Frame} {meth : Method} {c : Code} {T : State} {H : Heap} {locs : List Loc} {cells slots : Nat}
theorem vx_callVX (X : Stand p l e R s m args below meth c T locs cells slots) (hexec : p.tables.exec = Jvm.exec) {own C : String} {index : Nat} {y : MethodName} {bytes : ByteArray} {maxL : Nat} {ret : Option FieldType} {hh : List (Nat × Nat × Nat × Nat)}
    (hown : s.vm.findClass own = some m.cls) (hlink : (Cond.methodLink own index y).before args s = true) (hinst : (Cond.instanceMethod y).before args s = true) (hsel : (Cond.selects C y y).before args s = true)
    (hcode : (Cond.codeWith y bytes maxL ret hh).before args s = true) (hy : y.cls ≠ "java/lang/invoke/MethodHandle" ∧ y.cls ≠ "java/lang/invoke/VarHandle")
    {W9 : Nat} {Pre : Pt → Array Value → Prop} {Post : Pt → Array Value → Option Value → Pt → Prop} {PostX : Pt → Array Value → Addr → Pt → Prop} (hK : vx_Back l R p e below s args y 3 W9 Pre Post PostX)
    {b : Addr} {cellB : Cell} (hcell : T.heap[b]? = some cellB) (hobj : cellB.vm.isStatics = false) (hcls : s.vm.findClass C = some cellB.cls)
    {g : JFrame} (hg : g.method = m) (hsize : g.locals.size = c.maxLocals) {argsL rest : List Value} (hlen : ∀ sig, parseMethodDescriptor y.desc = some sig → argsL.length = sig.parameters.length)
    (hstack : g.stack = argsL.reverse ++ .ref b :: rest) (hW : 2 * g.monitorRoom + (rest.map fun v => v.category).sum ≤ W9) (hdg : decode c.code g.pc = .ok (.invokevirtual index, 3))
    (hpre : ∀ vm₁, s.WarmedH vm₁ → Pre ⟨T.setVm vm₁, locs, cells, slots⟩ (Value.ref b :: argsL).toArray) :
    (∃ (v : Option Value) (vm₁ : Vm) (B : Pt), s.WarmedH vm₁ ∧ Stand p l e R s m args below meth c B.U B.locs B.cells B.slots ∧ Post ⟨T.setVm vm₁, locs, cells, slots⟩ (Value.ref b :: argsL).toArray v B ∧
      ∀ target, Steps p.tables e below (B.U.setTop { g with pc := g.pc + 3, stack := v.toList ++ rest }) target → Steps p.tables e below (T.setTop g) target) ∨
    (∃ (q : Addr) (vm₁ : Vm) (B : Pt), s.WarmedH vm₁ ∧ Stand p l e R s m args below meth c B.U B.locs B.cells B.slots ∧ PostX ⟨T.setVm vm₁, locs, cells, slots⟩ (Value.ref b :: argsL).toArray q B ∧
      Steps p.tables e below (T.setTop g) ((B.U.setTop { g with stack := rest }).pushFrame (.throwing q))) := by
  obtain ⟨mk, methM, hnamed, hmethM, hstM, habM⟩ := Cond.instanceMethod_spec hinst
  obtain ⟨m8, methM', cM, hn8, hmethM', -, -, -, -, -, -, hsigM⟩ := Cond.codeWith_spec hcode
  cases Option.some.inj (hn8.symm.trans hnamed)
  cases hmethM.symm.trans hmethM'
  obtain ⟨c2, r2, m2, q1, q2, q3, q4, kP, hkP, hkPi⟩ := Cond.selects_spec hsel
  cases hcls.symm.trans q1
  cases (State.methodFound?_of_named hnamed hy).symm.trans q2
  cases hnamed.symm.trans q3
  have hselP : selectMethod e.platform s.vm cellB.cls mk = .method mk := by rw [Launch.admits_selectMethod X.admits]; exact q4
  obtain ⟨vm₁, X₁, hstep₁⟩ := X.invokevirtual hexec hown hlink hnamed hmethM hstM hkP hkPi hy (a := b) (cell := cellB) hcell
    (fun z h => by rw [h] at hobj; cases hobj) hselP hmethM habM hkP hkPi (g := g) hg (argsL := argsL) (rest := rest) (hlen _ hsigM) hstack hdg
  rcases hK m meth c ⟨T.setVm vm₁, locs, cells, slots⟩ { g with stack := rest } (.invokevirtual index) mk (Value.ref b :: argsL).toArray X₁ hg hsize hdg hW (X₁.named hnamed) (hpre vm₁ X₁.warmed) with ⟨v, B, X', hpost, hsteps⟩ | ⟨q, B, X', hpost, hsteps⟩
  · exact Or.inl ⟨v, vm₁, B, X₁.warmed, X', hpost, fun target h => hstep₁ _ fun acts => by rw [doInvoke_state]; exact hsteps.trans h⟩
  · exact Or.inr ⟨q, vm₁, B, X₁.warmed, X', hpost, hstep₁ _ fun acts => by rw [doInvoke_state]; exact hsteps⟩
theorem vx_callSX (X : Stand p l e R s m args below meth c T locs cells slots) (hexec : p.tables.exec = Jvm.exec) {own : String} {index : Nat} {y : MethodName} {bytes : ByteArray} {maxL : Nat} {ret : Option FieldType} {hh : List (Nat × Nat × Nat × Nat)}
    (hown : s.vm.findClass own = some m.cls) (hlink : (Cond.methodLink own index y).before args s = true) (hstat : (Cond.static y).before args s = true) (hinit : (Cond.initialized y.cls).before args s = true)
    (hcode : (Cond.codeWith y bytes maxL ret hh).before args s = true) (hy : y.cls ≠ "java/lang/invoke/MethodHandle" ∧ y.cls ≠ "java/lang/invoke/VarHandle")
    {W9 : Nat} {Pre : Pt → Array Value → Prop} {Post : Pt → Array Value → Option Value → Pt → Prop} {PostX : Pt → Array Value → Addr → Pt → Prop} (hK : vx_Back l R p e below s args y 3 W9 Pre Post PostX)
    {g : JFrame} (hg : g.method = m) (hsize : g.locals.size = c.maxLocals) {argsL rest : List Value} (hlen : ∀ sig, parseMethodDescriptor y.desc = some sig → argsL.length = sig.parameters.length)
    (hstack : g.stack = argsL.reverse ++ rest) (hW : 2 * g.monitorRoom + (rest.map fun v => v.category).sum ≤ W9) (hdg : decode c.code g.pc = .ok (.invokestatic index, 3))
    (hpre : ∀ vm₁, s.WarmedH vm₁ → Pre ⟨T.setVm vm₁, locs, cells, slots⟩ argsL.toArray) :
    (∃ (v : Option Value) (vm₁ : Vm) (B : Pt), s.WarmedH vm₁ ∧ Stand p l e R s m args below meth c B.U B.locs B.cells B.slots ∧ Post ⟨T.setVm vm₁, locs, cells, slots⟩ argsL.toArray v B ∧
      ∀ target, Steps p.tables e below (B.U.setTop { g with pc := g.pc + 3, stack := v.toList ++ rest }) target → Steps p.tables e below (T.setTop g) target) ∨
    (∃ (q : Addr) (vm₁ : Vm) (B : Pt), s.WarmedH vm₁ ∧ Stand p l e R s m args below meth c B.U B.locs B.cells B.slots ∧ PostX ⟨T.setVm vm₁, locs, cells, slots⟩ argsL.toArray q B ∧
      Steps p.tables e below (T.setTop g) ((B.U.setTop { g with stack := rest }).pushFrame (.throwing q))) := by
  obtain ⟨mk, methM, cM, hnamed, hmethM, -, -, -, -, -, -, hsigM⟩ := Cond.codeWith_spec hcode
  have hstatic : methM.isStatic = true := Cond.static_spec hnamed hmethM hstat
  obtain ⟨kP, hkP, -⟩ := className_of_methodNamed hnamed
  have hinitP : kP.init = .initialized := Cond.initialized_spec (findClass_of_methodNamed hnamed) hkP hinit
  obtain ⟨vm₁, X₁, hstep₁⟩ := X.invokestatic hexec hown hlink hnamed hmethM hstatic hkP hinitP hy (g := g) hg (argsL := argsL) (rest := rest) (hlen _ hsigM) hstack hdg
  rcases hK m meth c ⟨T.setVm vm₁, locs, cells, slots⟩ { g with stack := rest } (.invokestatic index) mk argsL.toArray X₁ hg hsize hdg hW (X₁.named hnamed) (hpre vm₁ X₁.warmed) with ⟨v, B, X', hpost, hsteps⟩ | ⟨q, B, X', hpost, hsteps⟩
  · exact Or.inl ⟨v, vm₁, B, X₁.warmed, X', hpost, fun target h => hstep₁ _ fun acts => by rw [doInvoke_state]; exact hsteps.trans h⟩
  · exact Or.inr ⟨q, vm₁, B, X₁.warmed, X', hpost, hstep₁ _ fun acts => by rw [doInvoke_state]; exact hsteps⟩
theorem vx_callVW (X : Stand p l e R s m args below meth c T locs cells slots) (hexec : p.tables.exec = Jvm.exec) {own C : String} {index : Nat} {y : MethodName} {bytes : ByteArray} {maxL : Nat} {ret : Option FieldType} {hh : List (Nat × Nat × Nat × Nat)}
    (hown : s.vm.findClass own = some m.cls) (hlink : (Cond.methodLink own index y).before args s = true) (hinst : (Cond.instanceMethod y).before args s = true) (hsel : (Cond.selects C y y).before args s = true)
    (hcode : (Cond.codeWith y bytes maxL ret hh).before args s = true) (hy : y.cls ≠ "java/lang/invoke/MethodHandle" ∧ y.cls ≠ "java/lang/invoke/VarHandle")
    {W9 : Nat} {Pre : Pt → Array Value → Prop} {Post : Pt → Array Value → Option Value → Pt → Prop} (hK : Back l R p e below s args y 3 W9 Pre Post)
    {b : Addr} {cellB : Cell} (hcell : T.heap[b]? = some cellB) (hobj : cellB.vm.isStatics = false) (hcls : s.vm.findClass C = some cellB.cls)
    {g : JFrame} (hg : g.method = m) (hsize : g.locals.size = c.maxLocals) {argsL rest : List Value} (hlen : ∀ sig, parseMethodDescriptor y.desc = some sig → argsL.length = sig.parameters.length)
    (hstack : g.stack = argsL.reverse ++ .ref b :: rest) (hW : 2 * g.monitorRoom + (rest.map fun v => v.category).sum ≤ W9) (hdg : decode c.code g.pc = .ok (.invokevirtual index, 3))
    (hpre : ∀ vm₁, s.WarmedH vm₁ → Pre ⟨T.setVm vm₁, locs, cells, slots⟩ (Value.ref b :: argsL).toArray) :
    ∃ (v : Option Value) (vm₁ : Vm) (B : Pt), s.WarmedH vm₁ ∧ Stand p l e R s m args below meth c B.U B.locs B.cells B.slots ∧ Post ⟨T.setVm vm₁, locs, cells, slots⟩ (Value.ref b :: argsL).toArray v B ∧
      ∀ target, Steps p.tables e below (B.U.setTop { g with pc := g.pc + 3, stack := v.toList ++ rest }) target → Steps p.tables e below (T.setTop g) target := by
  obtain ⟨mk, methM, hnamed, hmethM, hstM, habM⟩ := Cond.instanceMethod_spec hinst
  obtain ⟨m8, methM', cM, hn8, hmethM', -, -, -, -, -, -, hsigM⟩ := Cond.codeWith_spec hcode
  cases Option.some.inj (hn8.symm.trans hnamed)
  cases hmethM.symm.trans hmethM'
  obtain ⟨c2, r2, m2, q1, q2, q3, q4, kP, hkP, hkPi⟩ := Cond.selects_spec hsel
  cases hcls.symm.trans q1
  cases (State.methodFound?_of_named hnamed hy).symm.trans q2
  cases hnamed.symm.trans q3
  have hselP : selectMethod e.platform s.vm cellB.cls mk = .method mk := by rw [Launch.admits_selectMethod X.admits]; exact q4
  obtain ⟨vm₁, X₁, hstep₁⟩ := X.invokevirtual hexec hown hlink hnamed hmethM hstM hkP hkPi hy (a := b) (cell := cellB) hcell
    (fun z h => by rw [h] at hobj; cases hobj) hselP hmethM habM hkP hkPi (g := g) hg (argsL := argsL) (rest := rest) (hlen _ hsigM) hstack hdg
  obtain ⟨v, B, X', hpost, hsteps⟩ := hK m meth c ⟨T.setVm vm₁, locs, cells, slots⟩ { g with stack := rest } (.invokevirtual index) mk (Value.ref b :: argsL).toArray X₁ hg hsize hdg hW (X₁.named hnamed) (hpre vm₁ X₁.warmed)
  exact ⟨v, vm₁, B, X₁.warmed, X', hpost, fun target h => hstep₁ _ fun acts => by rw [doInvoke_state]; exact hsteps.trans h⟩
abbrev vx_CVW (R : Room) (s : State) (args : Array Value) (own C : String) (index : Nat) (y : MethodName) (bytes : ByteArray) (maxL : Nat) (ret : Option FieldType) (hh : List (Nat × Nat × Nat × Nat)) (ws : List Cond) (rm : Room) (mc ms n : Nat) : Prop :=
  (rm.cells = mc ∧ rm.slots = ms ∧ rm.frames + 1 ≤ R.frames ∧ 8 + (maxL + 11) + rm.locals ≤ R.locals ∧ (∀ w ∈ ws, ∀ (a' : Array Value) (U : State), s.WarmedH U.vm → w.before a' U = true) ∧ Cond.codeWith y bytes maxL ret hh ∈ ws) ∧
  (Cond.codeWith y bytes maxL ret hh).before args s = true ∧ (Cond.initialized y.cls).before args s = true ∧ (y.cls ≠ "java/lang/invoke/MethodHandle" ∧ y.cls ≠ "java/lang/invoke/VarHandle") ∧
  (∀ sig, parseMethodDescriptor y.desc = some sig → n = sig.parameters.length) ∧ (Cond.methodLink own index y).before args s = true ∧ (Cond.instanceMethod y).before args s = true ∧ (Cond.selects C y y).before args s = true
theorem vx_cwVW {own C : String} {index maxL mc ms : Nat} {y : MethodName} {bytes : ByteArray} {ret : Option FieldType} {hh : List (Nat × Nat × Nat × Nat)} {Ts ws ws' : List Cond} {rm : Room} (n : Nat) (ht : ∀ w ∈ Ts, w.before args s = true) (hT : GoodIn Ts (wsV own index C y ws)) (hw : ws = Cond.codeWith y bytes maxL ret hh :: ws') (hrc : rm.cells = mc) (hrs : rm.slots = ms)
    (hd : y.cls = C ∧ y.cls ≠ "java/lang/invoke/MethodHandle" ∧ y.cls ≠ "java/lang/invoke/VarHandle" ∧ (parseMethodDescriptor y.desc).map (fun d => d.parameters.length) = some n) (hR : rm.frames + 1 ≤ R.frames ∧ 8 + (maxL + 11) + rm.locals ≤ R.locals) :
    vx_CVW R s args own C index y bytes maxL ret hh ws rm mc ms n := by
  obtain ⟨hC, hd⟩ := hd
  subst hC
  have ok : ∀ w ∈ wsV own index y.cls y ws, w.before args s = true := fun w h => ht w (hT w h).1
  have hG : GoodIn Ts ws := fun w h => hT w (by unfold wsV; exact List.mem_append_right _ h)
  have hc : Cond.codeWith y bytes maxL ret hh ∈ ws := by rw [hw]; exact List.mem_cons_self
  refine ⟨⟨hrc, hrs, hR.1, hR.2, pay_in ht hG, hc⟩, ht _ (hG _ hc).1, ok _ (by simp [wsV]), ⟨hd.1, hd.2.1⟩, fun sig h => ?_, ok _ (by simp [wsV]), ok _ (by simp [wsV]), ok _ (by simp [wsV])⟩
  have h2 := hd.2.2
  rw [h] at h2
  exact (Option.some.inj h2).symm
theorem vx_runVW {y : MethodName} {bytes cc : ByteArray} {maxL nL mc ms n index : Nat} {ret : Option FieldType} {hh : List (Nat × Nat × Nat × Nat)} {ws : List Cond} {rm : Room} {Pc : Array Value → State → Prop} {Qc : Array Value → State → Outcome → State → Prop} {free : Addr → Prop} {Ts : List Cond} {own C : String} {b : Addr} {As rest : List Value} {g : JFrame}
    (S : CallFix p m c cc nL s args Ts own) (hM : Met l y ws rm Pc Qc mc ms free) (cw : vx_CVW R s args own C index y bytes maxL ret hh ws rm mc ms n) (hp : PreV s H C b Pc As)
    (hg : g.method = m) (hn : As.length = n) (hsize : g.locals.size = nL) (hstack : g.stack = As.reverse ++ .ref b :: rest) (hW : 2 * g.monitorRoom + (rest.map fun v => v.category).sum ≤ 8) (hdg : decode cc g.pc = .ok (.invokevirtual index, 3)) (hf : cells + mc ≤ R.cells ∧ slots + ms ≤ R.slots) :
    va_Run p l e R s m args below meth c H locs cells slots mc ms g rest (Qc (Value.ref b :: As).toArray) free := by
  obtain ⟨⟨hrc, hrs, hfr, hlo, hws, hcw⟩, hcode, hini, hy, hlen, hl, hin, hse⟩ := cw
  have hK : Back l R p e below s args y 3 8 (PreOf R mc ms Pc) (PostOf Qc mc ms free) := va_backW (hh := hh) (bytes := bytes) (maxL := maxL) (ret := ret) hM hp.1 hrc hrs hfr hlo hws hcw (fun a' U hW => word_at hW (Or.inl (by first | rfl | simp [Cond.onTables, Cond.keeps, Cond.steady])) hini)
  obtain ⟨hx, hb, hml, ho, -⟩ := S
  obtain ⟨-, ⟨cellB, hcB, hoB, hclB⟩, hPc⟩ := hp
  intro T hT X
  obtain ⟨v, vm₁, ⟨U', l2, c2, s2⟩, hW₁, X', ⟨g', mk, t, L, e1, e2, hq, h1, hL, h2, h3⟩, st⟩ := vx_callVW X hx (C := C) (hh := hh) (bytes := bytes) (maxL := maxL) (ret := ret) ho hl hin hse hcode hy hK (by rw [hT]; exact hcB) hoB hclB hg (hsize.trans hml.symm) (argsL := As) (rest := rest) (fun sig h => hn.trans (hlen sig h)) hstack hW (by rw [hb]; exact hdg)
    (fun vm₁ hW₁ => ⟨hf.1, hf.2, hPc (T.setVm vm₁) hT hW₁⟩)
  dsimp only [Pt.U, Pt.locs, Pt.cells, Pt.slots] at X' e1 e2 h1 h2 h3 st
  subst h1; subst h2; subst h3
  exact ⟨v, (T.setVm vm₁).calling g' mk (Value.ref b :: As).toArray, t, U', L, hT, X', hL, e1, e2, hq, st⟩
section
variable {y : MethodName} {bytes cc : ByteArray} {maxL nL mc ms n index : Nat} {ret : Option FieldType} {ws : List Cond} {rm : Room} {Pc : Array Value → State → Prop} {Qc : Array Value → State → Outcome → State → Prop} {XC : String → State → State → Prop} {free : Addr → Prop} {Ts : List Cond} {own C : String} {b : Addr} {As rest : List Value} {g : JFrame}
theorem vx_runVX {hh : List (Nat × Nat × Nat × Nat)} (S : CallFix p m c cc nL s args Ts own) (hM : vx_Met l y ws rm Pc Qc XC mc ms free) (cw : vx_CVW R s args own C index y bytes maxL ret hh ws rm mc ms n) (hp : PreV s H C b Pc As)
    (hg : g.method = m) (hn : As.length = n) (hsize : g.locals.size = nL) (hstack : g.stack = As.reverse ++ .ref b :: rest) (hW : 2 * g.monitorRoom + (rest.map fun v => v.category).sum ≤ 8) (hdg : decode cc g.pc = .ok (.invokevirtual index, 3)) (hf : cells + mc ≤ R.cells ∧ slots + ms ≤ R.slots) :
    vx_Run p l e R s m args below meth c H locs cells slots mc ms g rest (Qc (Value.ref b :: As).toArray) XC free := by
  obtain ⟨⟨hrc, hrs, hfr, hlo, hws, hcw⟩, hcode, hini, hy, hlen, hl, hin, hse⟩ := cw
  have hK : vx_Back l R p e below s args y 3 8 (PreOf R mc ms Pc) (PostOf Qc mc ms free) (vx_Post XC mc ms free) := vx_backW (hh := hh) (bytes := bytes) (maxL := maxL) (ret := ret) hM hp.1 hrc hrs hfr hlo hws hcw (fun a' U hW => word_at hW (Or.inl (by first | rfl | simp [Cond.onTables, Cond.keeps, Cond.steady])) hini)
  obtain ⟨hx, hb, hml, ho, -⟩ := S
  obtain ⟨-, ⟨cellB, hcB, hoB, hclB⟩, hPc⟩ := hp
  intro T hT X
  rcases vx_callVX X hx (C := C) (hh := hh) (bytes := bytes) (maxL := maxL) (ret := ret) ho hl hin hse hcode hy hK (by rw [hT]; exact hcB) hoB hclB hg (hsize.trans hml.symm) (argsL := As) (rest := rest) (fun sig h => hn.trans (hlen sig h)) hstack hW (by rw [hb]; exact hdg)
    (fun vm₁ hW₁ => ⟨hf.1, hf.2, hPc (T.setVm vm₁) hT hW₁⟩) with ⟨v, vm₁, ⟨U', l2, c2, s2⟩, hW₁, X', ⟨g', mk, t, L, e1, e2, hq, h1, hL, h2, h3⟩, st⟩ | ⟨q, vm₁, ⟨U', l2, c2, s2⟩, hW₁, X', ⟨g', mk, t, L, E, ce, e1, e2, hq, hce, hcv, hcl, h1, hL, h2, h3⟩, st⟩
  · dsimp only [Pt.U, Pt.locs, Pt.cells, Pt.slots] at X' e1 e2 h1 h2 h3 st
    subst h1; subst h2; subst h3
    exact Or.inl ⟨v, (T.setVm vm₁).calling g' mk (Value.ref b :: As).toArray, t, U', L, hT, X', hL, e1, e2, hq, st⟩
  · dsimp only [Pt.U, Pt.locs, Pt.cells, Pt.slots] at X' e1 e2 h1 h2 h3 st hcl
    subst h1; subst h2; subst h3
    exact Or.inr ⟨q, (T.setVm vm₁).calling g' mk (Value.ref b :: As).toArray, t, U', L, E, ce, hT, X', hL, e1, e2, hq, hce, hcv, vx_cls hW₁ hcl, st⟩
theorem vx_runSX {hh : List (Nat × Nat × Nat × Nat)} (S : CallFix p m c cc nL s args Ts own) (hM : vx_Met l y ws rm Pc Qc XC mc ms free) (cw : vx_CSW R s args own index y bytes maxL ret hh ws rm mc ms n) (hp : PreS s H Pc As)
    (hg : g.method = m) (hn : As.length = n) (hsize : g.locals.size = nL) (hstack : g.stack = As.reverse ++ rest) (hW : 2 * g.monitorRoom + (rest.map fun v => v.category).sum ≤ 8) (hdg : decode cc g.pc = .ok (.invokestatic index, 3)) (hf : cells + mc ≤ R.cells ∧ slots + ms ≤ R.slots) :
    vx_Run p l e R s m args below meth c H locs cells slots mc ms g rest (Qc As.toArray) XC free := by
  obtain ⟨⟨hrc, hrs, hfr, hlo, hws, hcw⟩, hcode, hini, hy, hlen, hl, hstt⟩ := cw
  have hK : vx_Back l R p e below s args y 3 8 (PreOf R mc ms Pc) (PostOf Qc mc ms free) (vx_Post XC mc ms free) := vx_backW (hh := hh) (bytes := bytes) (maxL := maxL) (ret := ret) hM hp.1 hrc hrs hfr hlo hws hcw (fun a' U hW => word_at hW (Or.inl (by first | rfl | simp [Cond.onTables, Cond.keeps, Cond.steady])) hini)
  obtain ⟨hx, hb, hml, ho, -⟩ := S
  intro T hT X
  rcases vx_callSX X hx (hh := hh) (bytes := bytes) (maxL := maxL) (ret := ret) ho hl hstt hini hcode hy hK hg (hsize.trans hml.symm) (argsL := As) (rest := rest) (fun sig h => hn.trans (hlen sig h)) hstack hW (by rw [hb]; exact hdg)
    (fun vm₁ hW₁ => ⟨hf.1, hf.2, hp.2 (T.setVm vm₁) hT hW₁⟩) with ⟨v, vm₁, ⟨U', l2, c2, s2⟩, hW₁, X', ⟨g', mk, t, L, e1, e2, hq, h1, hL, h2, h3⟩, st⟩ | ⟨q, vm₁, ⟨U', l2, c2, s2⟩, hW₁, X', ⟨g', mk, t, L, E, ce, e1, e2, hq, hce, hcv, hcl, h1, hL, h2, h3⟩, st⟩
  · dsimp only [Pt.U, Pt.locs, Pt.cells, Pt.slots] at X' e1 e2 h1 h2 h3 st
    subst h1; subst h2; subst h3
    exact Or.inl ⟨v, (T.setVm vm₁).calling g' mk As.toArray, t, U', L, hT, X', hL, e1, e2, hq, st⟩
  · dsimp only [Pt.U, Pt.locs, Pt.cells, Pt.slots] at X' e1 e2 h1 h2 h3 st hcl
    subst h1; subst h2; subst h3
    exact Or.inr ⟨q, (T.setVm vm₁).calling g' mk As.toArray, t, U', L, E, ce, hT, X', hL, e1, e2, hq, hce, hcv, vx_cls hW₁ hcl, st⟩
end
end VXH
theorem vx_ofWH {l : Launch} {y : MethodName} {ws ws' : List Cond} {rm : Room} {Pc : Array Value → State → Prop} {Qc : Array Value → State → Outcome → State → Prop} {XC : String → State → State → Prop} {mc ms : Nat} {free : Addr → Prop} {cc : ByteArray} {maxL : Nat} {ret : Option FieldType} {hh : List (Nat × Nat × Nat × Nat)}
    (hy : plainName y.cls = true) (hw : ws = Cond.codeWith y cc maxL ret hh :: ws')
    (body : ∀ p e s m args below meth c s₁, BodyLoose p l y (headSpec ws rm) cc maxL ret e s m args below meth c s₁ → c.maxLocals = maxL → Pc args s →
      W p l e (headSpec ws rm).room s m args below meth c s.heap [] 0 0 (vx_MQ below Qc XC args s mc ms free) (entryFrame m args maxL)) : vx_Met l y ws rm Pc Qc XC mc ms free := by
  refine MetFree.of_bodyS (code := cc) (maxLocals := maxL) (ret := ret) hy ?_ ?_
  · intro args s m h hn
    obtain ⟨m9, meth, c, hn9, h1, h2, h3, h4, -, h5, h6, -⟩ := Cond.codeWith_spec (atoms_spec (ws := ws) h _ (by rw [hw]; exact List.mem_cons_self))
    cases hn.symm.trans hn9
    exact ⟨meth, c, h1, h2, h3, h4, h5, h6⟩
  · intro p e s m args below meth c s₁ B hml hP _
    have hh0 : s₁.heap = s.heap := by rw [B.state]; rfl
    obtain ⟨t, a1, o, b1, b2, b3⟩ := body p e s m args below meth c s₁ B hml hP s₁ hh0 (Stand.of_body B)
    exact ⟨t, o, a1, b1, b2, b3⟩
/-! ===== END ===== -/


/-! ===== BEGIN a private method of a nest mate that may throw (follows va_callVN, va_callSN, va_runVN, va_runSN) ===== -/
section
variable {p : Program} {l : Launch} {e : Env} {R : Room} {s : State} {m : MethodId} {args : Array Value} {below : List Frame} {meth : Method} {c : Code} {H : Heap} {locs : List Loc} {cells slots : Nat}
variable {T : State}
theorem vx_callVN (X : Stand p l e R s m args below meth c T locs cells slots) (hexec : p.tables.exec = Jvm.exec) {own C : String} {index : Nat} {host : String} {y : MethodName} {bytes : ByteArray} {maxL : Nat} {ret : Option FieldType}
    (hown : s.vm.findClass own = some m.cls) (hlink : (Cond.methodLinkNest own index y host).before args s = true) (hinst : (Cond.instanceMethod y).before args s = true) (hsel : (Cond.selects C y y).before args s = true)
    (hcode : (Cond.code y bytes maxL ret).before args s = true) (hy : y.cls ≠ "java/lang/invoke/MethodHandle" ∧ y.cls ≠ "java/lang/invoke/VarHandle")
    {W : Nat} {Pre : Pt → Array Value → Prop} {Post : Pt → Array Value → Option Value → Pt → Prop} {PostX : Pt → Array Value → Addr → Pt → Prop} (hK : vx_Back l R p e below s args y 3 W Pre Post PostX)
    {b : Addr} {cellB : Cell} (hcell : T.heap[b]? = some cellB) (hobj : cellB.vm.isStatics = false) (hcls : s.vm.findClass C = some cellB.cls)
    {g : JFrame} (hg : g.method = m) (hsize : g.locals.size = c.maxLocals) {argsL rest : List Value} (hlen : ∀ sig, parseMethodDescriptor y.desc = some sig → argsL.length = sig.parameters.length)
    (hstack : g.stack = argsL.reverse ++ .ref b :: rest) (hW : 2 * g.monitorRoom + (rest.map fun v => v.category).sum ≤ W) (hdg : decode c.code g.pc = .ok (.invokevirtual index, 3))
    (hpre : ∀ vm₁, s.WarmedH vm₁ → Pre ⟨T.setVm vm₁, locs, cells, slots⟩ (Value.ref b :: argsL).toArray) :
    (∃ (v : Option Value) (vm₁ : Vm) (B : Pt), s.WarmedH vm₁ ∧ Stand p l e R s m args below meth c B.U B.locs B.cells B.slots ∧ Post ⟨T.setVm vm₁, locs, cells, slots⟩ (Value.ref b :: argsL).toArray v B ∧
      ∀ target, Steps p.tables e below (B.U.setTop { g with pc := g.pc + 3, stack := v.toList ++ rest }) target → Steps p.tables e below (T.setTop g) target) ∨
    (∃ (q : Addr) (vm₁ : Vm) (B : Pt), s.WarmedH vm₁ ∧ Stand p l e R s m args below meth c B.U B.locs B.cells B.slots ∧ PostX ⟨T.setVm vm₁, locs, cells, slots⟩ (Value.ref b :: argsL).toArray q B ∧
      Steps p.tables e below (T.setTop g) ((B.U.setTop { g with stack := rest }).pushFrame (.throwing q))) := by
  obtain ⟨mk, methM, hnamed, hmethM, hstM, habM⟩ := Cond.instanceMethod_spec hinst
  obtain ⟨methM', cM, hmethM', -, -, -, -, -, -, hsigM⟩ := Cond.code_spec hnamed hcode
  cases hmethM.symm.trans hmethM'
  obtain ⟨c2, r2, m2, q1, q2, q3, q4, kP, hkP, hkPi⟩ := Cond.selects_spec hsel
  cases hcls.symm.trans q1
  cases (State.methodFound?_of_named hnamed hy).symm.trans q2
  cases hnamed.symm.trans q3
  have hselP : selectMethod e.platform s.vm cellB.cls mk = .method mk := by rw [Launch.admits_selectMethod X.admits]; exact q4
  obtain ⟨vm₁, X₁, hstep₁⟩ := X.invokevirtualNest hexec hown hlink hnamed hmethM hstM hkP hkPi hy (a := b) (cell := cellB) hcell
    (fun z h => by rw [h] at hobj; cases hobj) hselP hmethM habM hkP hkPi (g := g) hg (argsL := argsL) (rest := rest) (hlen _ hsigM) hstack hdg
  rcases hK m meth c ⟨T.setVm vm₁, locs, cells, slots⟩ { g with stack := rest } (.invokevirtual index) mk (Value.ref b :: argsL).toArray X₁ hg hsize hdg hW (X₁.named hnamed) (hpre vm₁ X₁.warmed) with ⟨v, B, X', hpost, hsteps⟩ | ⟨q, B, X', hpost, hsteps⟩
  · exact Or.inl ⟨v, vm₁, B, X₁.warmed, X', hpost, fun target h => hstep₁ _ fun acts => by rw [doInvoke_state]; exact hsteps.trans h⟩
  · exact Or.inr ⟨q, vm₁, B, X₁.warmed, X', hpost, hstep₁ _ fun acts => by rw [doInvoke_state]; exact hsteps⟩
theorem vx_callSN (X : Stand p l e R s m args below meth c T locs cells slots) (hexec : p.tables.exec = Jvm.exec) {own : String} {index : Nat} {host : String} {y : MethodName} {bytes : ByteArray} {maxL : Nat} {ret : Option FieldType}
    (hown : s.vm.findClass own = some m.cls) (hlink : (Cond.methodLinkNest own index y host).before args s = true) (hstat : (Cond.static y).before args s = true) (hinit : (Cond.initialized y.cls).before args s = true)
    (hcode : (Cond.code y bytes maxL ret).before args s = true) (hy : y.cls ≠ "java/lang/invoke/MethodHandle" ∧ y.cls ≠ "java/lang/invoke/VarHandle")
    {W : Nat} {Pre : Pt → Array Value → Prop} {Post : Pt → Array Value → Option Value → Pt → Prop} {PostX : Pt → Array Value → Addr → Pt → Prop} (hK : vx_Back l R p e below s args y 3 W Pre Post PostX)
    {g : JFrame} (hg : g.method = m) (hsize : g.locals.size = c.maxLocals) {argsL rest : List Value} (hlen : ∀ sig, parseMethodDescriptor y.desc = some sig → argsL.length = sig.parameters.length)
    (hstack : g.stack = argsL.reverse ++ rest) (hW : 2 * g.monitorRoom + (rest.map fun v => v.category).sum ≤ W) (hdg : decode c.code g.pc = .ok (.invokestatic index, 3))
    (hpre : ∀ vm₁, s.WarmedH vm₁ → Pre ⟨T.setVm vm₁, locs, cells, slots⟩ argsL.toArray) :
    (∃ (v : Option Value) (vm₁ : Vm) (B : Pt), s.WarmedH vm₁ ∧ Stand p l e R s m args below meth c B.U B.locs B.cells B.slots ∧ Post ⟨T.setVm vm₁, locs, cells, slots⟩ argsL.toArray v B ∧
      ∀ target, Steps p.tables e below (B.U.setTop { g with pc := g.pc + 3, stack := v.toList ++ rest }) target → Steps p.tables e below (T.setTop g) target) ∨
    (∃ (q : Addr) (vm₁ : Vm) (B : Pt), s.WarmedH vm₁ ∧ Stand p l e R s m args below meth c B.U B.locs B.cells B.slots ∧ PostX ⟨T.setVm vm₁, locs, cells, slots⟩ argsL.toArray q B ∧
      Steps p.tables e below (T.setTop g) ((B.U.setTop { g with stack := rest }).pushFrame (.throwing q))) := by
  obtain ⟨mk, hnamed⟩ := Cond.code_named hcode
  obtain ⟨methM, cM, hmethM, -, -, -, -, -, -, hsigM⟩ := Cond.code_spec hnamed hcode
  have hstatic : methM.isStatic = true := Cond.static_spec hnamed hmethM hstat
  obtain ⟨kP, hkP, -⟩ := className_of_methodNamed hnamed
  have hinitP : kP.init = .initialized := Cond.initialized_spec (findClass_of_methodNamed hnamed) hkP hinit
  obtain ⟨vm₁, X₁, hstep₁⟩ := X.invokestaticNest hexec hown hlink hnamed hmethM hstatic hkP hinitP hy (g := g) hg (argsL := argsL) (rest := rest) (hlen _ hsigM) hstack hdg
  rcases hK m meth c ⟨T.setVm vm₁, locs, cells, slots⟩ { g with stack := rest } (.invokestatic index) mk argsL.toArray X₁ hg hsize hdg hW (X₁.named hnamed) (hpre vm₁ X₁.warmed) with ⟨v, B, X', hpost, hsteps⟩ | ⟨q, B, X', hpost, hsteps⟩
  · exact Or.inl ⟨v, vm₁, B, X₁.warmed, X', hpost, fun target h => hstep₁ _ fun acts => by rw [doInvoke_state]; exact hsteps.trans h⟩
  · exact Or.inr ⟨q, vm₁, B, X₁.warmed, X', hpost, hstep₁ _ fun acts => by rw [doInvoke_state]; exact hsteps⟩
theorem vx_runVN {y : MethodName} {bytes cc : ByteArray} {maxL nL mc ms n index : Nat} {ret : Option FieldType} {ws : List Cond} {rm : Room} {Pc : Array Value → State → Prop} {Qc : Array Value → State → Outcome → State → Prop} {XC : String → State → State → Prop} {free : Addr → Prop} {Ts : List Cond} {own C host : String} {b : Addr} {As rest : List Value} {g : JFrame}
    (S : CallFix p m c cc nL s args Ts own) (hM : vx_Met l y ws rm Pc Qc XC mc ms free) (cw : va_CN R s args own index y host bytes maxL ret ws rm mc ms n ∧ (Cond.instanceMethod y).before args s = true ∧ (Cond.selects C y y).before args s = true) (hp : PreV s H C b Pc As)
    (hg : g.method = m) (hn : As.length = n) (hsize : g.locals.size = nL) (hstack : g.stack = As.reverse ++ .ref b :: rest) (hW : 2 * g.monitorRoom + (rest.map fun v => v.category).sum ≤ 8) (hdg : decode cc g.pc = .ok (.invokevirtual index, 3)) (hf : cells + mc ≤ R.cells ∧ slots + ms ≤ R.slots) :
    vx_Run p l e R s m args below meth c H locs cells slots mc ms g rest (Qc (Value.ref b :: As).toArray) XC free := by
  obtain ⟨⟨⟨hrc, hrs, hfr, hlo, hws, hcw⟩, hcode, hini, hy, hlen, hl⟩, hx1, hx2⟩ := cw
  have hK : vx_Back l R p e below s args y 3 8 (PreOf R mc ms Pc) (PostOf Qc mc ms free) (vx_Post XC mc ms free) := vx_back (bytes := bytes) (maxL := maxL) (ret := ret) hM hp.1 hrc hrs hfr hlo hws hcw (fun a' U hW => word_at hW (Or.inl (by first | rfl | simp [Cond.onTables, Cond.keeps, Cond.steady])) hini)
  obtain ⟨hx, hb, hml, ho, -⟩ := S
  obtain ⟨-, ⟨cellB, hcB, hoB, hclB⟩, hPc⟩ := hp
  intro T hT X
  rcases vx_callVN X hx (C := C) (bytes := bytes) (maxL := maxL) (ret := ret) ho hl hx1 hx2 hcode hy hK (by rw [hT]; exact hcB) hoB hclB hg (hsize.trans hml.symm) (argsL := As) (rest := rest) (fun sig h => hn.trans (hlen sig h)) hstack hW (by rw [hb]; exact hdg)
    (fun vm₁ hW₁ => ⟨hf.1, hf.2, hPc (T.setVm vm₁) hT hW₁⟩) with ⟨v, vm₁, ⟨U', l2, c2, s2⟩, hW₁, X', ⟨g', mk, t, L, e1, e2, hq, h1, hL, h2, h3⟩, st⟩ | ⟨q, vm₁, ⟨U', l2, c2, s2⟩, hW₁, X', ⟨g', mk, t, L, E, ce, e1, e2, hq, hce, hcv, hcl, h1, hL, h2, h3⟩, st⟩
  · dsimp only [Pt.U, Pt.locs, Pt.cells, Pt.slots] at X' e1 e2 h1 h2 h3 st
    subst h1; subst h2; subst h3
    exact Or.inl ⟨v, (T.setVm vm₁).calling g' mk (Value.ref b :: As).toArray, t, U', L, hT, X', hL, e1, e2, hq, st⟩
  · dsimp only [Pt.U, Pt.locs, Pt.cells, Pt.slots] at X' e1 e2 h1 h2 h3 st hcl
    subst h1; subst h2; subst h3
    exact Or.inr ⟨q, (T.setVm vm₁).calling g' mk (Value.ref b :: As).toArray, t, U', L, E, ce, hT, X', hL, e1, e2, hq, hce, hcv, vx_cls hW₁ hcl, st⟩
theorem vx_runSN {y : MethodName} {bytes cc : ByteArray} {maxL nL mc ms n index : Nat} {ret : Option FieldType} {ws : List Cond} {rm : Room} {Pc : Array Value → State → Prop} {Qc : Array Value → State → Outcome → State → Prop} {XC : String → State → State → Prop} {free : Addr → Prop} {Ts : List Cond} {own host : String} {As rest : List Value} {g : JFrame}
    (S : CallFix p m c cc nL s args Ts own) (hM : vx_Met l y ws rm Pc Qc XC mc ms free) (cw : va_CN R s args own index y host bytes maxL ret ws rm mc ms n ∧ (Cond.static y).before args s = true ∧ True) (hp : PreS s H Pc As)
    (hg : g.method = m) (hn : As.length = n) (hsize : g.locals.size = nL) (hstack : g.stack = As.reverse ++ rest) (hW : 2 * g.monitorRoom + (rest.map fun v => v.category).sum ≤ 8) (hdg : decode cc g.pc = .ok (.invokestatic index, 3)) (hf : cells + mc ≤ R.cells ∧ slots + ms ≤ R.slots) :
    vx_Run p l e R s m args below meth c H locs cells slots mc ms g rest (Qc As.toArray) XC free := by
  obtain ⟨⟨⟨hrc, hrs, hfr, hlo, hws, hcw⟩, hcode, hini, hy, hlen, hl⟩, hx1, hx2⟩ := cw
  have hK : vx_Back l R p e below s args y 3 8 (PreOf R mc ms Pc) (PostOf Qc mc ms free) (vx_Post XC mc ms free) := vx_back (bytes := bytes) (maxL := maxL) (ret := ret) hM hp.1 hrc hrs hfr hlo hws hcw (fun a' U hW => word_at hW (Or.inl (by first | rfl | simp [Cond.onTables, Cond.keeps, Cond.steady])) hini)
  obtain ⟨hx, hb, hml, ho, -⟩ := S
  have hPc := hp.2
  intro T hT X
  rcases vx_callSN X hx (bytes := bytes) (maxL := maxL) (ret := ret) ho hl hx1 hini hcode hy hK hg (hsize.trans hml.symm) (argsL := As) (rest := rest) (fun sig h => hn.trans (hlen sig h)) hstack hW (by rw [hb]; exact hdg)
    (fun vm₁ hW₁ => ⟨hf.1, hf.2, hPc (T.setVm vm₁) hT hW₁⟩) with ⟨v, vm₁, ⟨U', l2, c2, s2⟩, hW₁, X', ⟨g', mk, t, L, e1, e2, hq, h1, hL, h2, h3⟩, st⟩ | ⟨q, vm₁, ⟨U', l2, c2, s2⟩, hW₁, X', ⟨g', mk, t, L, E, ce, e1, e2, hq, hce, hcv, hcl, h1, hL, h2, h3⟩, st⟩
  · dsimp only [Pt.U, Pt.locs, Pt.cells, Pt.slots] at X' e1 e2 h1 h2 h3 st
    subst h1; subst h2; subst h3
    exact Or.inl ⟨v, (T.setVm vm₁).calling g' mk As.toArray, t, U', L, hT, X', hL, e1, e2, hq, st⟩
  · dsimp only [Pt.U, Pt.locs, Pt.cells, Pt.slots] at X' e1 e2 h1 h2 h3 st hcl
    subst h1; subst h2; subst h3
    exact Or.inr ⟨q, (T.setVm vm₁).calling g' mk As.toArray, t, U', L, E, ce, hT, X', hL, e1, e2, hq, hce, hcv, vx_cls hW₁ hcl, st⟩
end
/-! ===== END ===== -/
end
section
/-! ===== BEGIN printed: names, fields, word lists, decode rows ===== -/
def RX0 : String := "WareHall$Goods"
def TX0 : u_T := fun k => match k with
  | 0 => ("WareHall$Goods", "lotCount", "I", false)
  | 1 => ("WareHall$Goods", "lotItems", "[I", true)
  | 2 => ("WareHall$Goods", "expiries", "[I", true)
  | 3 => ("WareHall$Goods", "lotOrder", "[I", true)
  | 4 => ("WareHall$Goods", "units", "[[I", true)
  | 5 => ("WareHall$Goods", "lotUnits", "[I", true)
  | 6 => ("WareHall$Goods", "binLoads", "[I", true)
  | _ => ("WareHall$Goods", "countedOn", "[I", true)
def tyX0 : Nat → FieldType := fun k => match k with
  | 0 => .int
  | 1 => .array .int
  | 2 => .array .int
  | 3 => .array .int
  | 4 => .array (.array .int)
  | 5 => .array .int
  | 6 => .array .int
  | _ => .array .int
abbrev wsX00 : List Cond := u_ws RX0 TX0 8
theorem nmX0 : ∀ a, a < 8 → ∀ b, b < 8 → a ≠ b → (TX0 a).2.1 ≠ (TX0 b).2.1 := by decide +kernel
theorem tyX0_ok : ∀ k, k < 8 → parseFieldDescriptor (TX0 k).2.2.1 = some (tyX0 k) := by decide +kernel
abbrev cX0_init : ByteArray := prog_2_method_1_code
def yX0_init : MethodName := ⟨RX0, "<init>", "()V"⟩
abbrev cX0_appendLot : ByteArray := prog_2_method_2_code
def yX0_appendLot : MethodName := ⟨RX0, "appendLot", "(II)I"⟩
abbrev cX0_change : ByteArray := prog_2_method_3_code
def yX0_change : MethodName := ⟨RX0, "change", "(III)V"⟩
abbrev cX0_lasts : ByteArray := prog_2_method_4_code
def yX0_lasts : MethodName := ⟨RX0, "lasts", "(III)Z"⟩
abbrev cX0_unitsFrom : ByteArray := prog_2_method_5_code
def yX0_unitsFrom : MethodName := ⟨RX0, "unitsFrom", "(II)I"⟩
abbrev cX0_unitsBefore : ByteArray := prog_2_method_6_code
def yX0_unitsBefore : MethodName := ⟨RX0, "unitsBefore", "(II)I"⟩
abbrev cX0_firstLot : ByteArray := prog_2_method_7_code
def yX0_firstLot : MethodName := ⟨RX0, "firstLot", "(II)I"⟩
abbrev cX0_binsWith : ByteArray := prog_2_method_8_code
def yX0_binsWith : MethodName := ⟨RX0, "binsWith", "(I)I"⟩
def RX1 : String := "WareHall$Items"
def TX1 : u_T := fun k => match k with
  | 0 => ("WareHall$Items", "size", "I", false)
  | 1 => ("WareHall$Items", "categories", "[C", true)
  | _ => ("WareHall$Items", "ranks", "[[I", true)
def tyX1 : Nat → FieldType := fun k => match k with
  | 0 => .int
  | 1 => .array .char
  | _ => .array (.array .int)
abbrev wsX10 : List Cond := u_ws RX1 TX1 3
theorem nmX1 : ∀ a, a < 3 → ∀ b, b < 3 → a ≠ b → (TX1 a).2.1 ≠ (TX1 b).2.1 := by decide +kernel
theorem tyX1_ok : ∀ k, k < 3 → parseFieldDescriptor (TX1 k).2.2.1 = some (tyX1 k) := by decide +kernel
abbrev cX1_init : ByteArray := prog_3_method_1_code
def yX1_init : MethodName := ⟨RX1, "<init>", "()V"⟩
abbrev cX1_append : ByteArray := prog_3_method_2_code
def yX1_append : MethodName := ⟨RX1, "append", "(C)I"⟩
abbrev cX1_substitutesOf : ByteArray := prog_3_method_3_code
def yX1_substitutesOf : MethodName := ⟨RX1, "substitutesOf", "(I)I"⟩
abbrev cX1_intervalOf : ByteArray := prog_3_method_4_code
def yX1_intervalOf : MethodName := ⟨RX1, "intervalOf", "(I)I"⟩
def RX2 : String := "WareHall$Journal"
def TX2 : u_T := fun k => match k with
  | 0 => ("WareHall$Journal", "size", "I", false)
  | 1 => ("WareHall$Journal", "kinds", "[C", true)
  | 2 => ("WareHall$Journal", "lotsMoved", "[I", true)
  | 3 => ("WareHall$Journal", "binsFrom", "[I", true)
  | 4 => ("WareHall$Journal", "binsTo", "[I", true)
  | 5 => ("WareHall$Journal", "quantities", "[I", true)
  | _ => ("WareHall$Journal", "days", "[I", true)
def tyX2 : Nat → FieldType := fun k => match k with
  | 0 => .int
  | 1 => .array .char
  | 2 => .array .int
  | 3 => .array .int
  | 4 => .array .int
  | 5 => .array .int
  | _ => .array .int
abbrev wsX20 : List Cond := u_ws RX2 TX2 7
theorem nmX2 : ∀ a, a < 7 → ∀ b, b < 7 → a ≠ b → (TX2 a).2.1 ≠ (TX2 b).2.1 := by decide +kernel
theorem tyX2_ok : ∀ k, k < 7 → parseFieldDescriptor (TX2 k).2.2.1 = some (tyX2 k) := by decide +kernel
abbrev cX2_init : ByteArray := prog_4_method_1_code
def yX2_init : MethodName := ⟨RX2, "<init>", "()V"⟩
abbrev cX2_write : ByteArray := prog_4_method_2_code
def yX2_write : MethodName := ⟨RX2, "write", "(CIIIII)V"⟩
abbrev cX2_unitsIn : ByteArray := prog_4_method_3_code
def yX2_unitsIn : MethodName := ⟨RX2, "unitsIn", "(II)I"⟩
abbrev cX2_unitsAtEndOf : ByteArray := prog_4_method_4_code
def yX2_unitsAtEndOf : MethodName := ⟨RX2, "unitsAtEndOf", "(II)I"⟩
abbrev cX2_unitsGained : ByteArray := prog_4_method_5_code
def yX2_unitsGained : MethodName := ⟨RX2, "unitsGained", "(I)I"⟩
def RX3 : String := "WareHall$Lines"
def TX3 : u_T := fun k => match k with
  | 0 => ("WareHall$Lines", "size", "I", false)
  | 1 => ("WareHall$Lines", "bins", "[I", true)
  | 2 => ("WareHall$Lines", "lots", "[I", true)
  | _ => ("WareHall$Lines", "quantities", "[I", true)
def tyX3 : Nat → FieldType := fun k => match k with
  | 0 => .int
  | 1 => .array .int
  | 2 => .array .int
  | _ => .array .int
abbrev wsX30 : List Cond := u_ws RX3 TX3 4
theorem nmX3 : ∀ a, a < 4 → ∀ b, b < 4 → a ≠ b → (TX3 a).2.1 ≠ (TX3 b).2.1 := by decide +kernel
theorem tyX3_ok : ∀ k, k < 4 → parseFieldDescriptor (TX3 k).2.2.1 = some (tyX3 k) := by decide +kernel
abbrev cX3_init : ByteArray := prog_5_method_1_code
def yX3_init : MethodName := ⟨RX3, "<init>", "()V"⟩
abbrev cX3_insert : ByteArray := prog_5_method_2_code
def yX3_insert : MethodName := ⟨RX3, "insert", "(III)V"⟩
abbrev cX3_isAfter : ByteArray := prog_5_method_3_code
def yX3_isAfter : MethodName := ⟨RX3, "isAfter", "(III)Z"⟩
abbrev cX3_lastAisle : ByteArray := prog_5_method_4_code
def yX3_lastAisle : MethodName := ⟨RX3, "lastAisle", "()I"⟩
abbrev cX3_reach : ByteArray := prog_5_method_5_code
def yX3_reach : MethodName := ⟨RX3, "reach", "(IZ)I"⟩
abbrev cX3_shortestWalk : ByteArray := prog_5_method_6_code
def yX3_shortestWalk : MethodName := ⟨RX3, "shortestWalk", "()I"⟩
abbrev cX3_shortestWalkByTrying : ByteArray := prog_5_method_7_code
def yX3_shortestWalkByTrying : MethodName := ⟨RX3, "shortestWalkByTrying", "()I"⟩
abbrev cX3_walkOf : ByteArray := prog_5_method_8_code
def yX3_walkOf : MethodName := ⟨RX3, "walkOf", "(II)I"⟩
def RX4 : String := "WareHall$Promises"
def TX4 : u_T := fun k => match k with
  | 0 => ("WareHall$Promises", "size", "I", false)
  | 1 => ("WareHall$Promises", "dues", "[I", true)
  | 2 => ("WareHall$Promises", "states", "[C", true)
  | 3 => ("WareHall$Promises", "quantities", "[[I", true)
  | 4 => ("WareHall$Promises", "firstEntries", "[I", true)
  | _ => ("WareHall$Promises", "lineCounts", "[I", true)
def tyX4 : Nat → FieldType := fun k => match k with
  | 0 => .int
  | 1 => .array .int
  | 2 => .array .char
  | 3 => .array (.array .int)
  | 4 => .array .int
  | _ => .array .int
abbrev wsX40 : List Cond := u_ws RX4 TX4 6
theorem nmX4 : ∀ a, a < 6 → ∀ b, b < 6 → a ≠ b → (TX4 a).2.1 ≠ (TX4 b).2.1 := by decide +kernel
theorem tyX4_ok : ∀ k, k < 6 → parseFieldDescriptor (TX4 k).2.2.1 = some (tyX4 k) := by decide +kernel
abbrev cX4_init : ByteArray := prog_6_method_1_code
def yX4_init : MethodName := ⟨RX4, "<init>", "()V"⟩
abbrev cX4_append : ByteArray := prog_6_method_2_code
def yX4_append : MethodName := ⟨RX4, "append", "(I[I)I"⟩
abbrev cX4_isOpenFrom : ByteArray := prog_6_method_3_code
def yX4_isOpenFrom : MethodName := ⟨RX4, "isOpenFrom", "(II)Z"⟩
abbrev cX4_promisedFrom : ByteArray := prog_6_method_4_code
def yX4_promisedFrom : MethodName := ⟨RX4, "promisedFrom", "(II)I"⟩
abbrev cX4_lastOpenFor : ByteArray := prog_6_method_5_code
def yX4_lastOpenFor : MethodName := ⟨RX4, "lastOpenFor", "(II)I"⟩
abbrev cX4_sumOf : ByteArray := prog_6_method_6_code
def yX4_sumOf : MethodName := ⟨RX4, "sumOf", "(I)I"⟩
abbrev cX4_lapseBefore : ByteArray := prog_6_method_7_code
def yX4_lapseBefore : MethodName := ⟨RX4, "lapseBefore", "(I)I"⟩
abbrev cX4_countIn : ByteArray := prog_6_method_8_code
def yX4_countIn : MethodName := ⟨RX4, "countIn", "(C)I"⟩
def RX5 : String := "WareHall"
def TX5 : u_T := fun k => match k with
  | 0 => ("WareHall", "items", "LWareHall$Items;", true)
  | 1 => ("WareHall", "goods", "LWareHall$Goods;", true)
  | 2 => ("WareHall", "promises", "LWareHall$Promises;", true)
  | 3 => ("WareHall", "journal", "LWareHall$Journal;", true)
  | 4 => ("WareHall", "lines", "LWareHall$Lines;", true)
  | 5 => ("WareHall", "planned", "[I", true)
  | 6 => ("WareHall", "unitsLeft", "[I", true)
  | _ => ("WareHall", "today", "I", false)
def tyX5 : Nat → FieldType := fun k => match k with
  | 0 => .object "WareHall$Items"
  | 1 => .object "WareHall$Goods"
  | 2 => .object "WareHall$Promises"
  | 3 => .object "WareHall$Journal"
  | 4 => .object "WareHall$Lines"
  | 5 => .array .int
  | 6 => .array .int
  | _ => .int
abbrev wsX50 : List Cond := u_ws RX5 TX5 8
theorem nmX5 : ∀ a, a < 8 → ∀ b, b < 8 → a ≠ b → (TX5 a).2.1 ≠ (TX5 b).2.1 := by decide +kernel
theorem tyX5_ok : ∀ k, k < 8 → parseFieldDescriptor (TX5 k).2.2.1 = some (tyX5 k) := by decide +kernel
abbrev cX5_init : ByteArray := prog_1_method_1_code
def yX5_init : MethodName := ⟨RX5, "<init>", "()V"⟩
abbrev cX5_addItem : ByteArray := prog_1_method_2_code
def yX5_addItem : MethodName := ⟨RX5, "addItem", "(C)I"⟩
abbrev cX5_addSubstitute : ByteArray := prog_1_method_3_code
def yX5_addSubstitute : MethodName := ⟨RX5, "addSubstitute", "(III)I"⟩
abbrev cX5_receive : ByteArray := prog_1_method_4_code
def yX5_receive : MethodName := ⟨RX5, "receive", "(IIII)I"⟩
abbrev cX5_move : ByteArray := prog_1_method_5_code
def yX5_move : MethodName := ⟨RX5, "move", "(IIII)I"⟩
abbrev cX5_dispose : ByteArray := prog_1_method_6_code
def yX5_dispose : MethodName := ⟨RX5, "dispose", "(I)I"⟩
abbrev cX5_count : ByteArray := prog_1_method_7_code
def yX5_count : MethodName := ⟨RX5, "count", "(III)I"⟩
abbrev cX5_promise : ByteArray := prog_1_method_8_code
def yX5_promise : MethodName := ⟨RX5, "promise", "(IIIZ)I"⟩
abbrev cX5_cancel : ByteArray := prog_1_method_9_code
def yX5_cancel : MethodName := ⟨RX5, "cancel", "(I)I"⟩
abbrev cX5_pick : ByteArray := prog_1_method_10_code
def yX5_pick : MethodName := ⟨RX5, "pick", "(I)I"⟩
abbrev cX5_status : ByteArray := prog_1_method_11_code
def yX5_status : MethodName := ⟨RX5, "status", "(I)C"⟩
abbrev cX5_quantity : ByteArray := prog_1_method_12_code
def yX5_quantity : MethodName := ⟨RX5, "quantity", "(II)I"⟩
abbrev cX5_available : ByteArray := prog_1_method_13_code
def yX5_available : MethodName := ⟨RX5, "available", "(II)I"⟩
abbrev cX5_availableByTrying : ByteArray := prog_1_method_14_code
def yX5_availableByTrying : MethodName := ⟨RX5, "availableByTrying", "(II)I"⟩
abbrev cX5_pickLines : ByteArray := prog_1_method_15_code
def yX5_pickLines : MethodName := ⟨RX5, "pickLines", "(I)I"⟩
abbrev cX5_pickBin : ByteArray := prog_1_method_16_code
def yX5_pickBin : MethodName := ⟨RX5, "pickBin", "(II)I"⟩
abbrev cX5_pickLot : ByteArray := prog_1_method_17_code
def yX5_pickLot : MethodName := ⟨RX5, "pickLot", "(II)I"⟩
abbrev cX5_pickQuantity : ByteArray := prog_1_method_18_code
def yX5_pickQuantity : MethodName := ⟨RX5, "pickQuantity", "(II)I"⟩
abbrev cX5_walk : ByteArray := prog_1_method_19_code
def yX5_walk : MethodName := ⟨RX5, "walk", "(I)I"⟩
abbrev cX5_walkByTrying : ByteArray := prog_1_method_20_code
def yX5_walkByTrying : MethodName := ⟨RX5, "walkByTrying", "(I)I"⟩
abbrev cX5_pass : ByteArray := prog_1_method_21_code
def yX5_pass : MethodName := ⟨RX5, "pass", "(I)I"⟩
abbrev cX5_day : ByteArray := prog_1_method_22_code
def yX5_day : MethodName := ⟨RX5, "day", "()I"⟩
abbrev cX5_countsDue : ByteArray := prog_1_method_23_code
def yX5_countsDue : MethodName := ⟨RX5, "countsDue", "()I"⟩
abbrev cX5_nextCount : ByteArray := prog_1_method_24_code
def yX5_nextCount : MethodName := ⟨RX5, "nextCount", "()I"⟩
abbrev cX5_countDay : ByteArray := prog_1_method_25_code
def yX5_countDay : MethodName := ⟨RX5, "countDay", "(I)I"⟩
abbrev cX5_stock : ByteArray := prog_1_method_26_code
def yX5_stock : MethodName := ⟨RX5, "stock", "(II)I"⟩
abbrev cX5_stockByJournal : ByteArray := prog_1_method_27_code
def yX5_stockByJournal : MethodName := ⟨RX5, "stockByJournal", "(II)I"⟩
abbrev cX5_load : ByteArray := prog_1_method_28_code
def yX5_load : MethodName := ⟨RX5, "load", "(I)I"⟩
abbrev cX5_lots : ByteArray := prog_1_method_29_code
def yX5_lots : MethodName := ⟨RX5, "lots", "()I"⟩
abbrev cX5_nextLot : ByteArray := prog_1_method_30_code
def yX5_nextLot : MethodName := ⟨RX5, "nextLot", "(II)I"⟩
abbrev cX5_onHand : ByteArray := prog_1_method_31_code
def yX5_onHand : MethodName := ⟨RX5, "onHand", "(I)I"⟩
abbrev cX5_expired : ByteArray := prog_1_method_32_code
def yX5_expired : MethodName := ⟨RX5, "expired", "(I)I"⟩
abbrev cX5_entries : ByteArray := prog_1_method_33_code
def yX5_entries : MethodName := ⟨RX5, "entries", "()I"⟩
abbrev cX5_entryKind : ByteArray := prog_1_method_34_code
def yX5_entryKind : MethodName := ⟨RX5, "entryKind", "(I)C"⟩
abbrev cX5_entryLot : ByteArray := prog_1_method_35_code
def yX5_entryLot : MethodName := ⟨RX5, "entryLot", "(I)I"⟩
abbrev cX5_entryFrom : ByteArray := prog_1_method_36_code
def yX5_entryFrom : MethodName := ⟨RX5, "entryFrom", "(I)I"⟩
abbrev cX5_entryTo : ByteArray := prog_1_method_37_code
def yX5_entryTo : MethodName := ⟨RX5, "entryTo", "(I)I"⟩
abbrev cX5_entryQuantity : ByteArray := prog_1_method_38_code
def yX5_entryQuantity : MethodName := ⟨RX5, "entryQuantity", "(I)I"⟩
abbrev cX5_onHandOn : ByteArray := prog_1_method_39_code
def yX5_onHandOn : MethodName := ⟨RX5, "onHandOn", "(II)I"⟩
abbrev cX5_served : ByteArray := prog_1_method_40_code
def yX5_served : MethodName := ⟨RX5, "served", "()F"⟩
abbrev cX5_requireItem : ByteArray := prog_1_method_41_code
def yX5_requireItem : MethodName := ⟨RX5, "requireItem", "(I)V"⟩
abbrev cX5_requireBin : ByteArray := prog_1_method_42_code
def yX5_requireBin : MethodName := ⟨RX5, "requireBin", "(I)V"⟩
abbrev cX5_requireLot : ByteArray := prog_1_method_43_code
def yX5_requireLot : MethodName := ⟨RX5, "requireLot", "(I)V"⟩
abbrev cX5_requirePromise : ByteArray := prog_1_method_44_code
def yX5_requirePromise : MethodName := ⟨RX5, "requirePromise", "(I)V"⟩
abbrev cX5_requireEntry : ByteArray := prog_1_method_45_code
def yX5_requireEntry : MethodName := ⟨RX5, "requireEntry", "(I)V"⟩
abbrev cX5_requireLine : ByteArray := prog_1_method_46_code
def yX5_requireLine : MethodName := ⟨RX5, "requireLine", "(I)V"⟩
abbrev cX5_requireBetween : ByteArray := prog_1_method_47_code
def yX5_requireBetween : MethodName := ⟨RX5, "requireBetween", "(III)V"⟩
abbrev cX5_requireOpen : ByteArray := prog_1_method_48_code
def yX5_requireOpen : MethodName := ⟨RX5, "requireOpen", "(I)V"⟩
abbrev cX5_requireEntrySpace : ByteArray := prog_1_method_49_code
def yX5_requireEntrySpace : MethodName := ⟨RX5, "requireEntrySpace", "(I)V"⟩
abbrev cX5_requireBinSpace : ByteArray := prog_1_method_50_code
def yX5_requireBinSpace : MethodName := ⟨RX5, "requireBinSpace", "(II)V"⟩
abbrev cX5_alongRoute : ByteArray := prog_1_method_51_code
def yX5_alongRoute : MethodName := ⟨RX5, "alongRoute", "(I)I"⟩
abbrev cX5_takeOut : ByteArray := prog_1_method_52_code
def yX5_takeOut : MethodName := ⟨RX5, "takeOut", "(CIII)V"⟩
abbrev cX5_breakPromises : ByteArray := prog_1_method_53_code
def yX5_breakPromises : MethodName := ⟨RX5, "breakPromises", "(I)I"⟩
abbrev cX5_lastDayTooShort : ByteArray := prog_1_method_54_code
def yX5_lastDayTooShort : MethodName := ⟨RX5, "lastDayTooShort", "(I)I"⟩
abbrev cX5_difference : ByteArray := prog_1_method_55_code
def yX5_difference : MethodName := ⟨RX5, "difference", "(II)I"⟩
abbrev cX5_leastDifference : ByteArray := prog_1_method_56_code
def yX5_leastDifference : MethodName := ⟨RX5, "leastDifference", "(II)I"⟩
abbrev cX5_planPromise : ByteArray := prog_1_method_57_code
def yX5_planPromise : MethodName := ⟨RX5, "planPromise", "(IIIZ)I"⟩
abbrev cX5_planPart : ByteArray := prog_1_method_58_code
def yX5_planPart : MethodName := ⟨RX5, "planPart", "(III)I"⟩
abbrev cX5_canGive : ByteArray := prog_1_method_59_code
def yX5_canGive : MethodName := ⟨RX5, "canGive", "(III)Z"⟩
abbrev cX5_give : ByteArray := prog_1_method_60_code
def yX5_give : MethodName := ⟨RX5, "give", "(III)Z"⟩
abbrev cX5_loadLines : ByteArray := prog_1_method_61_code
def yX5_loadLines : MethodName := ⟨RX5, "loadLines", "(I)V"⟩
abbrev cX5_findLines : ByteArray := prog_1_method_62_code
def yX5_findLines : MethodName := ⟨RX5, "findLines", "(I)V"⟩
abbrev cX5_findLinesOfItem : ByteArray := prog_1_method_63_code
def yX5_findLinesOfItem : MethodName := ⟨RX5, "findLinesOfItem", "(III)V"⟩
abbrev cX5_findLinesOfLot : ByteArray := prog_1_method_64_code
def yX5_findLinesOfLot : MethodName := ⟨RX5, "findLinesOfLot", "(II)I"⟩
abbrev cX5_recallLines : ByteArray := prog_1_method_65_code
def yX5_recallLines : MethodName := ⟨RX5, "recallLines", "(I)V"⟩
abbrev cX5_dayOfCount : ByteArray := prog_1_method_66_code
def yX5_dayOfCount : MethodName := ⟨RX5, "dayOfCount", "(I)I"⟩
def RX6 : String := "WareHallModel"
def TX6 : u_T := fun k => match k with
  | 0 => ("WareHallModel", "category", "[C", true)
  | 1 => ("WareHallModel", "rank", "[[I", true)
  | 2 => ("WareHallModel", "items", "I", false)
  | 3 => ("WareHallModel", "itemOf", "[I", true)
  | 4 => ("WareHallModel", "expiry", "[I", true)
  | 5 => ("WareHallModel", "units", "[[I", true)
  | 6 => ("WareHallModel", "all", "[I", true)
  | 7 => ("WareHallModel", "order", "[I", true)
  | 8 => ("WareHallModel", "lots", "I", false)
  | 9 => ("WareHallModel", "counted", "[I", true)
  | 10 => ("WareHallModel", "due", "[I", true)
  | 11 => ("WareHallModel", "status", "[C", true)
  | 12 => ("WareHallModel", "wanted", "[[I", true)
  | 13 => ("WareHallModel", "keptBin", "[[I", true)
  | 14 => ("WareHallModel", "keptLot", "[[I", true)
  | 15 => ("WareHallModel", "keptMany", "[[I", true)
  | 16 => ("WareHallModel", "kept", "[I", true)
  | 17 => ("WareHallModel", "promises", "I", false)
  | 18 => ("WareHallModel", "kind", "[C", true)
  | 19 => ("WareHallModel", "entryLot", "[I", true)
  | 20 => ("WareHallModel", "entryFrom", "[I", true)
  | 21 => ("WareHallModel", "entryTo", "[I", true)
  | 22 => ("WareHallModel", "entryMany", "[I", true)
  | 23 => ("WareHallModel", "entryDay", "[I", true)
  | 24 => ("WareHallModel", "entries", "I", false)
  | 25 => ("WareHallModel", "day", "I", false)
  | 26 => ("WareHallModel", "thrown", "I", false)
  | 27 => ("WareHallModel", "taken", "[[I", true)
  | 28 => ("WareHallModel", "lineBin", "[I", true)
  | 29 => ("WareHallModel", "lineLot", "[I", true)
  | 30 => ("WareHallModel", "lineMany", "[I", true)
  | 31 => ("WareHallModel", "lines", "I", false)
  | _ => ("WareHallModel", "gives", "[I", true)
def tyX6 : Nat → FieldType := fun k => match k with
  | 0 => .array .char
  | 1 => .array (.array .int)
  | 2 => .int
  | 3 => .array .int
  | 4 => .array .int
  | 5 => .array (.array .int)
  | 6 => .array .int
  | 7 => .array .int
  | 8 => .int
  | 9 => .array .int
  | 10 => .array .int
  | 11 => .array .char
  | 12 => .array (.array .int)
  | 13 => .array (.array .int)
  | 14 => .array (.array .int)
  | 15 => .array (.array .int)
  | 16 => .array .int
  | 17 => .int
  | 18 => .array .char
  | 19 => .array .int
  | 20 => .array .int
  | 21 => .array .int
  | 22 => .array .int
  | 23 => .array .int
  | 24 => .int
  | 25 => .int
  | 26 => .int
  | 27 => .array (.array .int)
  | 28 => .array .int
  | 29 => .array .int
  | 30 => .array .int
  | 31 => .int
  | _ => .array .int
abbrev wsX60 : List Cond := u_ws RX6 TX6 33
theorem nmX6 : ∀ a, a < 33 → ∀ b, b < 33 → a ≠ b → (TX6 a).2.1 ≠ (TX6 b).2.1 := by decide +kernel
theorem tyX6_ok : ∀ k, k < 33 → parseFieldDescriptor (TX6 k).2.2.1 = some (tyX6 k) := by decide +kernel
abbrev cX6_init : ByteArray := prog_8_method_1_code
def yX6_init : MethodName := ⟨RX6, "<init>", "()V"⟩
abbrev cX6_thrown : ByteArray := prog_8_method_2_code
def yX6_thrown : MethodName := ⟨RX6, "thrown", "()I"⟩
abbrev cX6_raises : ByteArray := prog_8_method_3_code
def yX6_raises : MethodName := ⟨RX6, "raises", "(I)I"⟩
abbrev cX6_in : ByteArray := prog_8_method_4_code
def yX6_in : MethodName := ⟨RX6, "in", "(III)Z"⟩
abbrev cX6_isItem : ByteArray := prog_8_method_5_code
def yX6_isItem : MethodName := ⟨RX6, "isItem", "(I)Z"⟩
abbrev cX6_isLot : ByteArray := prog_8_method_6_code
def yX6_isLot : MethodName := ⟨RX6, "isLot", "(I)Z"⟩
abbrev cX6_isBin : ByteArray := prog_8_method_7_code
def yX6_isBin : MethodName := ⟨RX6, "isBin", "(I)Z"⟩
abbrev cX6_isPromise : ByteArray := prog_8_method_8_code
def yX6_isPromise : MethodName := ⟨RX6, "isPromise", "(I)Z"⟩
abbrev cX6_turned : ByteArray := prog_8_method_9_code
def yX6_turned : MethodName := ⟨RX6, "turned", "(I)I"⟩
abbrev cX6_load0 : ByteArray := prog_8_method_10_code
def yX6_load0 : MethodName := ⟨RX6, "load0", "(I)I"⟩
abbrev cX6_writes : ByteArray := prog_8_method_11_code
def yX6_writes : MethodName := ⟨RX6, "writes", "(CIIII)V"⟩
abbrev cX6_puts : ByteArray := prog_8_method_12_code
def yX6_puts : MethodName := ⟨RX6, "puts", "(III)V"⟩
abbrev cX6_addItem : ByteArray := prog_8_method_13_code
def yX6_addItem : MethodName := ⟨RX6, "addItem", "(C)I"⟩
abbrev cX6_addSubstitute : ByteArray := prog_8_method_14_code
def yX6_addSubstitute : MethodName := ⟨RX6, "addSubstitute", "(III)I"⟩
abbrev cX6_receive : ByteArray := prog_8_method_15_code
def yX6_receive : MethodName := ⟨RX6, "receive", "(IIII)I"⟩
abbrev cX6_move : ByteArray := prog_8_method_16_code
def yX6_move : MethodName := ⟨RX6, "move", "(IIII)I"⟩
abbrev cX6_dispose : ByteArray := prog_8_method_17_code
def yX6_dispose : MethodName := ⟨RX6, "dispose", "(I)I"⟩
abbrev cX6_count : ByteArray := prog_8_method_18_code
def yX6_count : MethodName := ⟨RX6, "count", "(III)I"⟩
abbrev cX6_breaks : ByteArray := prog_8_method_19_code
def yX6_breaks : MethodName := ⟨RX6, "breaks", "(I)I"⟩
abbrev cX6_shortDay : ByteArray := prog_8_method_20_code
def yX6_shortDay : MethodName := ⟨RX6, "shortDay", "(I)I"⟩
abbrev cX6_stockFor : ByteArray := prog_8_method_21_code
def yX6_stockFor : MethodName := ⟨RX6, "stockFor", "(II)I"⟩
abbrev cX6_promisedFor : ByteArray := prog_8_method_22_code
def yX6_promisedFor : MethodName := ⟨RX6, "promisedFor", "(II)I"⟩
abbrev cX6_availableFor : ByteArray := prog_8_method_23_code
def yX6_availableFor : MethodName := ⟨RX6, "availableFor", "(II)I"⟩
abbrev cX6_promise : ByteArray := prog_8_method_24_code
def yX6_promise : MethodName := ⟨RX6, "promise", "(IIIZ)I"⟩
abbrev cX6_gives : ByteArray := prog_8_method_25_code
def yX6_gives : MethodName := ⟨RX6, "gives", "(III)I"⟩
abbrev cX6_isNotOpen : ByteArray := prog_8_method_26_code
def yX6_isNotOpen : MethodName := ⟨RX6, "isNotOpen", "(I)Z"⟩
abbrev cX6_cancel : ByteArray := prog_8_method_27_code
def yX6_cancel : MethodName := ⟨RX6, "cancel", "(I)I"⟩
abbrev cX6_pick : ByteArray := prog_8_method_28_code
def yX6_pick : MethodName := ⟨RX6, "pick", "(I)I"⟩
abbrev cX6_status : ByteArray := prog_8_method_29_code
def yX6_status : MethodName := ⟨RX6, "status", "(I)C"⟩
abbrev cX6_quantity : ByteArray := prog_8_method_30_code
def yX6_quantity : MethodName := ⟨RX6, "quantity", "(II)I"⟩
abbrev cX6_available : ByteArray := prog_8_method_31_code
def yX6_available : MethodName := ⟨RX6, "available", "(II)I"⟩
abbrev cX6_availableByTrying : ByteArray := prog_8_method_32_code
def yX6_availableByTrying : MethodName := ⟨RX6, "availableByTrying", "(II)I"⟩
abbrev cX6_findsLines : ByteArray := prog_8_method_33_code
def yX6_findsLines : MethodName := ⟨RX6, "findsLines", "(I)V"⟩
abbrev cX6_lacksLines : ByteArray := prog_8_method_34_code
def yX6_lacksLines : MethodName := ⟨RX6, "lacksLines", "(I)Z"⟩
abbrev cX6_lacksLine : ByteArray := prog_8_method_35_code
def yX6_lacksLine : MethodName := ⟨RX6, "lacksLine", "(II)Z"⟩
abbrev cX6_pickLines : ByteArray := prog_8_method_36_code
def yX6_pickLines : MethodName := ⟨RX6, "pickLines", "(I)I"⟩
abbrev cX6_pickBin : ByteArray := prog_8_method_37_code
def yX6_pickBin : MethodName := ⟨RX6, "pickBin", "(II)I"⟩
abbrev cX6_pickLot : ByteArray := prog_8_method_38_code
def yX6_pickLot : MethodName := ⟨RX6, "pickLot", "(II)I"⟩
abbrev cX6_pickQuantity : ByteArray := prog_8_method_39_code
def yX6_pickQuantity : MethodName := ⟨RX6, "pickQuantity", "(II)I"⟩
abbrev cX6_walk : ByteArray := prog_8_method_40_code
def yX6_walk : MethodName := ⟨RX6, "walk", "(I)I"⟩
abbrev cX6_walkByTrying : ByteArray := prog_8_method_41_code
def yX6_walkByTrying : MethodName := ⟨RX6, "walkByTrying", "(I)I"⟩
abbrev cX6_pass : ByteArray := prog_8_method_42_code
def yX6_pass : MethodName := ⟨RX6, "pass", "(I)I"⟩
abbrev cX6_day : ByteArray := prog_8_method_43_code
def yX6_day : MethodName := ⟨RX6, "day", "()I"⟩
abbrev cX6_dueDay : ByteArray := prog_8_method_44_code
def yX6_dueDay : MethodName := ⟨RX6, "dueDay", "(I)I"⟩
abbrev cX6_countsDue : ByteArray := prog_8_method_45_code
def yX6_countsDue : MethodName := ⟨RX6, "countsDue", "()I"⟩
abbrev cX6_nextCount : ByteArray := prog_8_method_46_code
def yX6_nextCount : MethodName := ⟨RX6, "nextCount", "()I"⟩
abbrev cX6_countDay : ByteArray := prog_8_method_47_code
def yX6_countDay : MethodName := ⟨RX6, "countDay", "(I)I"⟩
abbrev cX6_stock : ByteArray := prog_8_method_48_code
def yX6_stock : MethodName := ⟨RX6, "stock", "(II)I"⟩
abbrev cX6_stockByJournal : ByteArray := prog_8_method_49_code
def yX6_stockByJournal : MethodName := ⟨RX6, "stockByJournal", "(II)I"⟩
abbrev cX6_load : ByteArray := prog_8_method_50_code
def yX6_load : MethodName := ⟨RX6, "load", "(I)I"⟩
abbrev cX6_lots : ByteArray := prog_8_method_51_code
def yX6_lots : MethodName := ⟨RX6, "lots", "()I"⟩
abbrev cX6_nextLot : ByteArray := prog_8_method_52_code
def yX6_nextLot : MethodName := ⟨RX6, "nextLot", "(II)I"⟩
abbrev cX6_sum : ByteArray := prog_8_method_53_code
def yX6_sum : MethodName := ⟨RX6, "sum", "(IZ)I"⟩
abbrev cX6_onHand : ByteArray := prog_8_method_54_code
def yX6_onHand : MethodName := ⟨RX6, "onHand", "(I)I"⟩
abbrev cX6_expired : ByteArray := prog_8_method_55_code
def yX6_expired : MethodName := ⟨RX6, "expired", "(I)I"⟩
abbrev cX6_entries : ByteArray := prog_8_method_56_code
def yX6_entries : MethodName := ⟨RX6, "entries", "()I"⟩
abbrev cX6_lacksEntry : ByteArray := prog_8_method_57_code
def yX6_lacksEntry : MethodName := ⟨RX6, "lacksEntry", "(I)Z"⟩
abbrev cX6_entryKind : ByteArray := prog_8_method_58_code
def yX6_entryKind : MethodName := ⟨RX6, "entryKind", "(I)C"⟩
abbrev cX6_entryLot : ByteArray := prog_8_method_59_code
def yX6_entryLot : MethodName := ⟨RX6, "entryLot", "(I)I"⟩
abbrev cX6_entryFrom : ByteArray := prog_8_method_60_code
def yX6_entryFrom : MethodName := ⟨RX6, "entryFrom", "(I)I"⟩
abbrev cX6_entryTo : ByteArray := prog_8_method_61_code
def yX6_entryTo : MethodName := ⟨RX6, "entryTo", "(I)I"⟩
abbrev cX6_entryQuantity : ByteArray := prog_8_method_62_code
def yX6_entryQuantity : MethodName := ⟨RX6, "entryQuantity", "(I)I"⟩
abbrev cX6_onHandOn : ByteArray := prog_8_method_63_code
def yX6_onHandOn : MethodName := ⟨RX6, "onHandOn", "(II)I"⟩
abbrev cX6_served : ByteArray := prog_8_method_64_code
def yX6_served : MethodName := ⟨RX6, "served", "()F"⟩
def RJx145de : String := "java/io/Serializable"
def TJx145de : u_T := fun k => match k with
  | _ => ("", "", "", false)
def tyJx145de : Nat → FieldType := fun k => match k with
  | _ => .int
abbrev wsJx145de0 : List Cond := u_ws RJx145de TJx145de 0
theorem nmJx145de : ∀ a, a < 0 → ∀ b, b < 0 → a ≠ b → (TJx145de a).2.1 ≠ (TJx145de b).2.1 := by decide +kernel
theorem tyJx145de_ok : ∀ k, k < 0 → parseFieldDescriptor (TJx145de k).2.2.1 = some (tyJx145de k) := by decide +kernel
def RJ9 : String := "java/lang/Math"
def TJ9 : u_T := fun k => match k with
  | _ => ("", "", "", false)
def tyJ9 : Nat → FieldType := fun k => match k with
  | _ => .int
abbrev wsJ90 : List Cond := u_ws RJ9 TJ9 0
theorem nmJ9 : ∀ a, a < 0 → ∀ b, b < 0 → a ≠ b → (TJ9 a).2.1 ≠ (TJ9 b).2.1 := by decide +kernel
theorem tyJ9_ok : ∀ k, k < 0 → parseFieldDescriptor (TJ9 k).2.2.1 = some (tyJ9 k) := by decide +kernel
abbrev cJ9_abs_0f7a4 : ByteArray := prog_14_method_59_code
def yJ9_abs_0f7a4 : MethodName := ⟨RJ9, "abs", "(I)I"⟩
abbrev cJ9_max_7cf53 : ByteArray := prog_14_method_65_code
def yJ9_max_7cf53 : MethodName := ⟨RJ9, "max", "(II)I"⟩
abbrev cJ9_min_7cf53 : ByteArray := prog_14_method_69_code
def yJ9_min_7cf53 : MethodName := ⟨RJ9, "min", "(II)I"⟩
def RJ0 : String := "java/lang/String"
def TJ0 : u_T := fun k => match k with
  | _ => ("", "", "", false)
def tyJ0 : Nat → FieldType := fun k => match k with
  | _ => .int
abbrev wsJ00 : List Cond := u_ws RJ0 TJ0 0
theorem nmJ0 : ∀ a, a < 0 → ∀ b, b < 0 → a ≠ b → (TJ0 a).2.1 ≠ (TJ0 b).2.1 := by decide +kernel
theorem tyJ0_ok : ∀ k, k < 0 → parseFieldDescriptor (TJ0 k).2.2.1 = some (tyJ0 k) := by decide +kernel
def RJ10 : String := "java/lang/System"
def TJ10 : u_T := fun k => match k with
  | _ => ("", "", "", false)
def tyJ10 : Nat → FieldType := fun k => match k with
  | _ => .int
abbrev wsJ100 : List Cond := u_ws RJ10 TJ10 0
theorem nmJ10 : ∀ a, a < 0 → ∀ b, b < 0 → a ≠ b → (TJ10 a).2.1 ≠ (TJ10 b).2.1 := by decide +kernel
theorem tyJ10_ok : ∀ k, k < 0 → parseFieldDescriptor (TJ10 k).2.2.1 = some (tyJ10 k) := by decide +kernel
def RL : String := "WareHallLaw"
abbrev cL_addItem : ByteArray := method_3_code
def yL_addItem : MethodName := ⟨RL, "addItem", "(LWareHall;C[J)I"⟩
abbrev cL_addSubstitute : ByteArray := method_4_code
def yL_addSubstitute : MethodName := ⟨RL, "addSubstitute", "(LWareHall;III[J)I"⟩
abbrev cL_receive : ByteArray := method_5_code
def yL_receive : MethodName := ⟨RL, "receive", "(LWareHall;IIII[J)I"⟩
abbrev cL_move : ByteArray := method_6_code
def yL_move : MethodName := ⟨RL, "move", "(LWareHall;IIII[J)I"⟩
abbrev cL_dispose : ByteArray := method_7_code
def yL_dispose : MethodName := ⟨RL, "dispose", "(LWareHall;I[J)I"⟩
abbrev cL_count : ByteArray := method_8_code
def yL_count : MethodName := ⟨RL, "count", "(LWareHall;III[J)I"⟩
abbrev cL_promise : ByteArray := method_9_code
def yL_promise : MethodName := ⟨RL, "promise", "(LWareHall;IIIZ[J)I"⟩
abbrev cL_cancel : ByteArray := method_10_code
def yL_cancel : MethodName := ⟨RL, "cancel", "(LWareHall;I[J)I"⟩
abbrev cL_pick : ByteArray := method_11_code
def yL_pick : MethodName := ⟨RL, "pick", "(LWareHall;I[J)I"⟩
abbrev cL_status : ByteArray := method_12_code
def yL_status : MethodName := ⟨RL, "status", "(LWareHall;I[J)I"⟩
abbrev cL_quantity : ByteArray := method_13_code
def yL_quantity : MethodName := ⟨RL, "quantity", "(LWareHall;II[J)I"⟩
abbrev cL_available : ByteArray := method_14_code
def yL_available : MethodName := ⟨RL, "available", "(LWareHall;II[J)I"⟩
abbrev cL_availableByTrying : ByteArray := method_15_code
def yL_availableByTrying : MethodName := ⟨RL, "availableByTrying", "(LWareHall;II[J)I"⟩
abbrev cL_pickLines : ByteArray := method_16_code
def yL_pickLines : MethodName := ⟨RL, "pickLines", "(LWareHall;I[J)I"⟩
abbrev cL_pickBin : ByteArray := method_17_code
def yL_pickBin : MethodName := ⟨RL, "pickBin", "(LWareHall;II[J)I"⟩
abbrev cL_pickLot : ByteArray := method_18_code
def yL_pickLot : MethodName := ⟨RL, "pickLot", "(LWareHall;II[J)I"⟩
abbrev cL_pickQuantity : ByteArray := method_19_code
def yL_pickQuantity : MethodName := ⟨RL, "pickQuantity", "(LWareHall;II[J)I"⟩
abbrev cL_walk : ByteArray := method_20_code
def yL_walk : MethodName := ⟨RL, "walk", "(LWareHall;I[J)I"⟩
abbrev cL_walkByTrying : ByteArray := method_21_code
def yL_walkByTrying : MethodName := ⟨RL, "walkByTrying", "(LWareHall;I[J)I"⟩
abbrev cL_pass : ByteArray := method_22_code
def yL_pass : MethodName := ⟨RL, "pass", "(LWareHall;I[J)I"⟩
abbrev cL_nextCount : ByteArray := method_23_code
def yL_nextCount : MethodName := ⟨RL, "nextCount", "(LWareHall;[J)I"⟩
abbrev cL_countDay : ByteArray := method_24_code
def yL_countDay : MethodName := ⟨RL, "countDay", "(LWareHall;I[J)I"⟩
abbrev cL_stock : ByteArray := method_25_code
def yL_stock : MethodName := ⟨RL, "stock", "(LWareHall;II[J)I"⟩
abbrev cL_stockByJournal : ByteArray := method_26_code
def yL_stockByJournal : MethodName := ⟨RL, "stockByJournal", "(LWareHall;II[J)I"⟩
abbrev cL_load : ByteArray := method_27_code
def yL_load : MethodName := ⟨RL, "load", "(LWareHall;I[J)I"⟩
abbrev cL_nextLot : ByteArray := method_28_code
def yL_nextLot : MethodName := ⟨RL, "nextLot", "(LWareHall;II[J)I"⟩
abbrev cL_onHand : ByteArray := method_29_code
def yL_onHand : MethodName := ⟨RL, "onHand", "(LWareHall;I[J)I"⟩
abbrev cL_expired : ByteArray := method_30_code
def yL_expired : MethodName := ⟨RL, "expired", "(LWareHall;I[J)I"⟩
abbrev cL_entryKind : ByteArray := method_31_code
def yL_entryKind : MethodName := ⟨RL, "entryKind", "(LWareHall;I[J)I"⟩
abbrev cL_entryLot : ByteArray := method_32_code
def yL_entryLot : MethodName := ⟨RL, "entryLot", "(LWareHall;I[J)I"⟩
abbrev cL_entryFrom : ByteArray := method_33_code
def yL_entryFrom : MethodName := ⟨RL, "entryFrom", "(LWareHall;I[J)I"⟩
abbrev cL_entryTo : ByteArray := method_34_code
def yL_entryTo : MethodName := ⟨RL, "entryTo", "(LWareHall;I[J)I"⟩
abbrev cL_entryQuantity : ByteArray := method_35_code
def yL_entryQuantity : MethodName := ⟨RL, "entryQuantity", "(LWareHall;I[J)I"⟩
abbrev cL_onHandOn : ByteArray := method_36_code
def yL_onHandOn : MethodName := ⟨RL, "onHandOn", "(LWareHall;II[J)I"⟩
abbrev cL_served : ByteArray := method_37_code
def yL_served : MethodName := ⟨RL, "served", "(LWareHall;[D)I"⟩
abbrev cL_law : ByteArray := code
def yL_law : MethodName := ⟨RL, "law", "([I)Z"⟩
abbrev vwCl : List vw_C := [(RX0, TX0, 8), (RX1, TX1, 3), (RX2, TX2, 7), (RX3, TX3, 4), (RX4, TX4, 6), (RX5, TX5, 8), (RX6, TX6, 33)]
end
section
-- tables of the mini machine, by program (wip/whole/gen.py) out of the printed names and words
def mm_rn : Nat → String | 0 => RX0 | 1 => RX1 | 2 => RX2 | 3 => RX3 | 4 => RX4 | 5 => RX5 | 6 => RX6 | _ => RL
def mm_T : Nat → u_T | 0 => TX0 | 1 => TX1 | 2 => TX2 | 3 => TX3 | 4 => TX4 | 5 => TX5 | _ => TX6
def mm_N : Nat → Nat | 0 => 8 | 1 => 3 | 2 => 7 | 3 => 4 | 4 => 6 | 5 => 8 | _ => 33
def mm_tyf : Nat → Nat → FieldType | 0 => tyX0 | 1 => tyX1 | 2 => tyX2 | 3 => tyX3 | 4 => tyX4 | 5 => tyX5 | _ => tyX6
def mm_yL : List MethodName := [yX0_init, yX0_appendLot, yX0_change, yX0_lasts, yX0_unitsFrom, yX0_unitsBefore, yX0_firstLot, yX0_binsWith, yX1_init, yX1_append, yX1_substitutesOf, yX1_intervalOf, yX2_init, yX2_write, yX2_unitsIn, yX2_unitsAtEndOf, yX2_unitsGained, yX3_init, yX3_insert, yX3_isAfter, yX3_lastAisle, yX3_reach, yX3_shortestWalk, yX3_shortestWalkByTrying, yX3_walkOf, yX4_init, yX4_append, yX4_isOpenFrom, yX4_promisedFrom, yX4_lastOpenFor, yX4_sumOf, yX4_lapseBefore, yX4_countIn, yX5_init, yX5_addItem, yX5_addSubstitute, yX5_receive, yX5_move, yX5_dispose, yX5_count, yX5_promise, yX5_cancel, yX5_pick, yX5_status, yX5_quantity, yX5_available, yX5_availableByTrying, yX5_pickLines, yX5_pickBin, yX5_pickLot, yX5_pickQuantity, yX5_walk, yX5_walkByTrying, yX5_pass, yX5_day, yX5_countsDue, yX5_nextCount, yX5_countDay, yX5_stock, yX5_stockByJournal, yX5_load, yX5_lots, yX5_nextLot, yX5_onHand, yX5_expired, yX5_entries, yX5_entryKind, yX5_entryLot, yX5_entryFrom, yX5_entryTo, yX5_entryQuantity, yX5_onHandOn, yX5_served, yX5_requireItem, yX5_requireBin, yX5_requireLot, yX5_requirePromise, yX5_requireEntry, yX5_requireLine, yX5_requireBetween, yX5_requireOpen, yX5_requireEntrySpace, yX5_requireBinSpace, yX5_alongRoute, yX5_takeOut, yX5_breakPromises, yX5_lastDayTooShort, yX5_difference, yX5_leastDifference, yX5_planPromise, yX5_planPart, yX5_canGive, yX5_give, yX5_loadLines, yX5_findLines, yX5_findLinesOfItem, yX5_findLinesOfLot, yX5_recallLines, yX5_dayOfCount, yX6_init, yX6_thrown, yX6_raises, yX6_in, yX6_isItem, yX6_isLot, yX6_isBin, yX6_isPromise, yX6_turned, yX6_load0, yX6_writes, yX6_puts, yX6_addItem, yX6_addSubstitute, yX6_receive, yX6_move, yX6_dispose, yX6_count, yX6_breaks, yX6_shortDay, yX6_stockFor, yX6_promisedFor, yX6_availableFor, yX6_promise, yX6_gives, yX6_isNotOpen, yX6_cancel, yX6_pick, yX6_status, yX6_quantity, yX6_available, yX6_availableByTrying, yX6_findsLines, yX6_lacksLines, yX6_lacksLine, yX6_pickLines, yX6_pickBin, yX6_pickLot, yX6_pickQuantity, yX6_walk, yX6_walkByTrying, yX6_pass, yX6_day, yX6_dueDay, yX6_countsDue, yX6_nextCount, yX6_countDay, yX6_stock, yX6_stockByJournal, yX6_load, yX6_lots, yX6_nextLot, yX6_sum, yX6_onHand, yX6_expired, yX6_entries, yX6_lacksEntry, yX6_entryKind, yX6_entryLot, yX6_entryFrom, yX6_entryTo, yX6_entryQuantity, yX6_onHandOn, yX6_served, yL_addItem, yL_addSubstitute, yL_receive, yL_move, yL_dispose, yL_count, yL_promise, yL_cancel, yL_pick, yL_status, yL_quantity, yL_available, yL_availableByTrying, yL_pickLines, yL_pickBin, yL_pickLot, yL_pickQuantity, yL_walk, yL_walkByTrying, yL_pass, yL_nextCount, yL_countDay, yL_stock, yL_stockByJournal, yL_load, yL_nextLot, yL_onHand, yL_expired, yL_entryKind, yL_entryLot, yL_entryFrom, yL_entryTo, yL_entryQuantity, yL_onHandOn, yL_served, yL_law]
def mm_bL : List ByteArray := [cX0_init, cX0_appendLot, cX0_change, cX0_lasts, cX0_unitsFrom, cX0_unitsBefore, cX0_firstLot, cX0_binsWith, cX1_init, cX1_append, cX1_substitutesOf, cX1_intervalOf, cX2_init, cX2_write, cX2_unitsIn, cX2_unitsAtEndOf, cX2_unitsGained, cX3_init, cX3_insert, cX3_isAfter, cX3_lastAisle, cX3_reach, cX3_shortestWalk, cX3_shortestWalkByTrying, cX3_walkOf, cX4_init, cX4_append, cX4_isOpenFrom, cX4_promisedFrom, cX4_lastOpenFor, cX4_sumOf, cX4_lapseBefore, cX4_countIn, cX5_init, cX5_addItem, cX5_addSubstitute, cX5_receive, cX5_move, cX5_dispose, cX5_count, cX5_promise, cX5_cancel, cX5_pick, cX5_status, cX5_quantity, cX5_available, cX5_availableByTrying, cX5_pickLines, cX5_pickBin, cX5_pickLot, cX5_pickQuantity, cX5_walk, cX5_walkByTrying, cX5_pass, cX5_day, cX5_countsDue, cX5_nextCount, cX5_countDay, cX5_stock, cX5_stockByJournal, cX5_load, cX5_lots, cX5_nextLot, cX5_onHand, cX5_expired, cX5_entries, cX5_entryKind, cX5_entryLot, cX5_entryFrom, cX5_entryTo, cX5_entryQuantity, cX5_onHandOn, cX5_served, cX5_requireItem, cX5_requireBin, cX5_requireLot, cX5_requirePromise, cX5_requireEntry, cX5_requireLine, cX5_requireBetween, cX5_requireOpen, cX5_requireEntrySpace, cX5_requireBinSpace, cX5_alongRoute, cX5_takeOut, cX5_breakPromises, cX5_lastDayTooShort, cX5_difference, cX5_leastDifference, cX5_planPromise, cX5_planPart, cX5_canGive, cX5_give, cX5_loadLines, cX5_findLines, cX5_findLinesOfItem, cX5_findLinesOfLot, cX5_recallLines, cX5_dayOfCount, cX6_init, cX6_thrown, cX6_raises, cX6_in, cX6_isItem, cX6_isLot, cX6_isBin, cX6_isPromise, cX6_turned, cX6_load0, cX6_writes, cX6_puts, cX6_addItem, cX6_addSubstitute, cX6_receive, cX6_move, cX6_dispose, cX6_count, cX6_breaks, cX6_shortDay, cX6_stockFor, cX6_promisedFor, cX6_availableFor, cX6_promise, cX6_gives, cX6_isNotOpen, cX6_cancel, cX6_pick, cX6_status, cX6_quantity, cX6_available, cX6_availableByTrying, cX6_findsLines, cX6_lacksLines, cX6_lacksLine, cX6_pickLines, cX6_pickBin, cX6_pickLot, cX6_pickQuantity, cX6_walk, cX6_walkByTrying, cX6_pass, cX6_day, cX6_dueDay, cX6_countsDue, cX6_nextCount, cX6_countDay, cX6_stock, cX6_stockByJournal, cX6_load, cX6_lots, cX6_nextLot, cX6_sum, cX6_onHand, cX6_expired, cX6_entries, cX6_lacksEntry, cX6_entryKind, cX6_entryLot, cX6_entryFrom, cX6_entryTo, cX6_entryQuantity, cX6_onHandOn, cX6_served, cL_addItem, cL_addSubstitute, cL_receive, cL_move, cL_dispose, cL_count, cL_promise, cL_cancel, cL_pick, cL_status, cL_quantity, cL_available, cL_availableByTrying, cL_pickLines, cL_pickBin, cL_pickLot, cL_pickQuantity, cL_walk, cL_walkByTrying, cL_pass, cL_nextCount, cL_countDay, cL_stock, cL_stockByJournal, cL_load, cL_nextLot, cL_onHand, cL_expired, cL_entryKind, cL_entryLot, cL_entryFrom, cL_entryTo, cL_entryQuantity, cL_onHandOn, cL_served, cL_law]
/-- class, locals, parameters, static, frames, words, cells -/
def mm_nL : List (Nat × Nat × Nat × Bool × Nat × Nat × Nat) := [(0, 1, 0, false, 0, 0, 0), (0, 5, 2, false, 0, 0, 0), (0, 4, 3, false, 0, 0, 0), (0, 4, 3, false, 0, 0, 0), (0, 5, 2, false, 1, 23, 0), (0, 5, 2, false, 0, 0, 0), (0, 5, 2, false, 1, 23, 0), (0, 4, 1, false, 0, 0, 0), (1, 1, 0, false, 0, 0, 0), (1, 3, 1, false, 0, 0, 0), (1, 4, 1, false, 0, 0, 0), (1, 2, 1, false, 0, 0, 0), (2, 1, 0, false, 0, 0, 0), (2, 7, 6, false, 0, 0, 0), (2, 5, 2, false, 0, 0, 0), (2, 5, 2, false, 1, 23, 0), (2, 4, 1, false, 0, 0, 0), (3, 1, 0, false, 0, 0, 0), (3, 5, 3, false, 2, 45, 0), (3, 4, 3, false, 1, 22, 0), (3, 3, 0, false, 1, 21, 0), (3, 6, 2, false, 1, 21, 0), (3, 7, 0, false, 2, 46, 0), (3, 5, 0, false, 3, 72, 0), (3, 7, 2, false, 2, 46, 0), (4, 1, 0, false, 0, 0, 0), (4, 4, 2, false, 1, 40, 0), (4, 3, 2, false, 0, 0, 0), (4, 5, 2, false, 1, 22, 0), (4, 4, 2, false, 1, 22, 0), (4, 4, 1, false, 0, 0, 0), (4, 4, 1, false, 0, 0, 0), (4, 4, 1, false, 0, 0, 0), (5, 1, 0, false, 0, 0, 0), (5, 2, 1, false, 6, 82, 1), (5, 4, 3, false, 7, 105, 4), (5, 6, 4, false, 7, 105, 7), (5, 5, 4, false, 7, 105, 7), (5, 6, 1, false, 7, 103, 3), (5, 5, 3, false, 7, 116, 5), (5, 5, 4, false, 7, 144, 4), (5, 2, 1, false, 7, 103, 2), (5, 3, 1, false, 7, 143, 3), (5, 2, 1, false, 7, 103, 1), (5, 3, 2, false, 7, 103, 2), (5, 3, 2, false, 7, 105, 2), (5, 5, 2, false, 7, 105, 2), (5, 2, 1, false, 8, 165, 2), (5, 3, 2, false, 8, 165, 3), (5, 3, 2, false, 8, 165, 3), (5, 3, 2, false, 8, 165, 3), (5, 2, 1, false, 8, 165, 2), (5, 2, 1, false, 8, 165, 2), (5, 2, 1, false, 7, 105, 1), (5, 1, 0, false, 0, 0, 0), (5, 3, 0, false, 2, 44, 0), (5, 5, 0, false, 6, 82, 1), (5, 2, 1, false, 7, 103, 2), (5, 3, 2, false, 7, 103, 2), (5, 3, 2, false, 7, 103, 2), (5, 2, 1, false, 7, 103, 1), (5, 1, 0, false, 0, 0, 0), (5, 4, 2, false, 7, 103, 2), (5, 2, 1, false, 7, 103, 1), (5, 2, 1, false, 7, 103, 1), (5, 1, 0, false, 0, 0, 0), (5, 2, 1, false, 7, 103, 1), (5, 2, 1, false, 7, 103, 1), (5, 2, 1, false, 7, 103, 1), (5, 2, 1, false, 7, 103, 1), (5, 2, 1, false, 7, 103, 1), (5, 5, 2, false, 7, 105, 2), (5, 2, 0, false, 6, 82, 1), (5, 2, 1, false, 6, 82, 1), (5, 2, 1, false, 6, 82, 1), (5, 2, 1, false, 6, 82, 1), (5, 2, 1, false, 6, 82, 1), (5, 2, 1, false, 6, 82, 1), (5, 2, 1, false, 6, 82, 1), (5, 4, 3, false, 6, 82, 1), (5, 2, 1, false, 6, 82, 1), (5, 2, 1, false, 6, 82, 1), (5, 3, 2, false, 6, 82, 1), (5, 3, 1, true, 0, 0, 0), (5, 5, 4, false, 1, 26, 0), (5, 6, 1, false, 4, 91, 0), (5, 3, 1, false, 3, 69, 0), (5, 3, 2, false, 2, 47, 0), (5, 6, 2, false, 3, 69, 0), (5, 8, 4, false, 5, 117, 0), (5, 4, 3, false, 4, 94, 0), (5, 5, 3, false, 2, 50, 0), (5, 8, 3, false, 1, 23, 0), (5, 3, 1, false, 7, 143, 2), (5, 3, 1, false, 5, 121, 0), (5, 7, 3, false, 4, 95, 0), (5, 7, 2, false, 3, 69, 0), (5, 5, 1, false, 3, 69, 0), (5, 4, 1, false, 1, 21, 0), (6, 1, 0, false, 0, 0, 0), (6, 1, 0, false, 0, 0, 0), (6, 2, 1, false, 0, 0, 0), (6, 3, 3, true, 0, 0, 0), (6, 2, 1, false, 1, 22, 0), (6, 2, 1, false, 1, 22, 0), (6, 1, 1, true, 1, 22, 0), (6, 2, 1, false, 1, 22, 0), (6, 1, 1, true, 0, 0, 0), (6, 4, 1, false, 0, 0, 0), (6, 6, 5, false, 0, 0, 0), (6, 4, 3, false, 0, 0, 0), (6, 2, 1, false, 0, 0, 0), (6, 6, 3, false, 2, 43, 0), (6, 6, 4, false, 2, 43, 0), (6, 5, 4, false, 2, 43, 0), (6, 7, 1, false, 2, 43, 0), (6, 5, 3, false, 3, 71, 0), (6, 5, 1, false, 2, 47, 0), (6, 4, 1, false, 1, 24, 0), (6, 5, 2, false, 0, 0, 0), (6, 5, 2, false, 0, 0, 0), (6, 5, 2, false, 1, 24, 0), (6, 8, 4, false, 3, 71, 0), (6, 4, 3, false, 2, 48, 0), (6, 2, 1, false, 2, 43, 0), (6, 4, 1, false, 3, 64, 0), (6, 3, 1, false, 3, 64, 0), (6, 2, 1, false, 2, 43, 0), (6, 3, 2, false, 2, 43, 0), (6, 3, 2, false, 2, 48, 0), (6, 3, 2, false, 3, 70, 0), (6, 8, 1, false, 1, 21, 0), (6, 3, 1, false, 2, 48, 0), (6, 3, 2, false, 3, 70, 0), (6, 2, 1, false, 3, 70, 0), (6, 3, 2, false, 4, 92, 0), (6, 3, 2, false, 4, 92, 0), (6, 3, 2, false, 4, 92, 0), (6, 10, 1, false, 3, 70, 0), (6, 2, 1, false, 4, 99, 0), (6, 4, 1, false, 1, 22, 0), (6, 1, 0, false, 0, 0, 0), (6, 5, 1, false, 1, 21, 0), (6, 3, 0, false, 2, 45, 0), (6, 5, 0, false, 2, 45, 0), (6, 2, 1, false, 2, 45, 0), (6, 3, 2, false, 2, 43, 0), (6, 3, 2, false, 3, 65, 0), (6, 2, 1, false, 2, 42, 0), (6, 1, 0, false, 0, 0, 0), (6, 5, 2, false, 2, 43, 0), (6, 5, 2, false, 2, 43, 0), (6, 2, 1, false, 3, 67, 0), (6, 2, 1, false, 3, 67, 0), (6, 1, 0, false, 0, 0, 0), (6, 2, 1, false, 1, 22, 0), (6, 2, 1, false, 2, 43, 0), (6, 2, 1, false, 2, 43, 0), (6, 2, 1, false, 2, 43, 0), (6, 2, 1, false, 2, 43, 0), (6, 2, 1, false, 2, 43, 0), (6, 5, 2, false, 2, 43, 0), (6, 4, 0, false, 0, 0, 0), (7, 4, 3, true, 7, 103, 1), (7, 6, 5, true, 8, 128, 4), (7, 7, 6, true, 8, 130, 7), (7, 7, 6, true, 8, 129, 7), (7, 4, 3, true, 8, 128, 3), (7, 6, 5, true, 8, 140, 5), (7, 7, 6, true, 8, 168, 4), (7, 4, 3, true, 8, 124, 2), (7, 4, 3, true, 8, 165, 3), (7, 4, 3, true, 8, 124, 1), (7, 5, 4, true, 8, 125, 2), (7, 5, 4, true, 8, 127, 2), (7, 5, 4, true, 8, 129, 2), (7, 4, 3, true, 9, 186, 2), (7, 5, 4, true, 9, 187, 3), (7, 5, 4, true, 9, 187, 3), (7, 5, 4, true, 9, 187, 3), (7, 4, 3, true, 9, 186, 2), (7, 4, 3, true, 9, 186, 2), (7, 4, 3, true, 8, 126, 1), (7, 3, 2, true, 7, 106, 1), (7, 4, 3, true, 8, 124, 2), (7, 5, 4, true, 8, 125, 2), (7, 5, 4, true, 8, 125, 2), (7, 4, 3, true, 8, 124, 1), (7, 5, 4, true, 8, 126, 2), (7, 4, 3, true, 8, 124, 1), (7, 4, 3, true, 8, 124, 1), (7, 4, 3, true, 8, 124, 1), (7, 4, 3, true, 8, 124, 1), (7, 4, 3, true, 8, 124, 1), (7, 4, 3, true, 8, 124, 1), (7, 4, 3, true, 8, 124, 1), (7, 5, 4, true, 8, 129, 2), (7, 3, 2, true, 7, 103, 1), (7, 8, 1, true, 12, 428, 601024)]
def mm_rL : List (Option FieldType) := [none, some .int, none, some .boolean, some .int, some .int, some .int, some .int, none, some .int, some .int, some .int, none, none, some .int, some .int, some .int, none, none, some .boolean, some .int, some .int, some .int, some .int, some .int, none, some .int, some .boolean, some .int, some .int, some .int, some .int, some .int, none, some .int, some .int, some .int, some .int, some .int, some .int, some .int, some .int, some .int, some .char, some .int, some .int, some .int, some .int, some .int, some .int, some .int, some .int, some .int, some .int, some .int, some .int, some .int, some .int, some .int, some .int, some .int, some .int, some .int, some .int, some .int, some .int, some .char, some .int, some .int, some .int, some .int, some .int, some .float, none, none, none, none, none, none, none, none, none, none, some .int, none, some .int, some .int, some .int, some .int, some .int, some .int, some .boolean, some .boolean, none, none, none, some .int, none, some .int, none, some .int, some .int, some .boolean, some .boolean, some .boolean, some .boolean, some .boolean, some .int, some .int, none, none, some .int, some .int, some .int, some .int, some .int, some .int, some .int, some .int, some .int, some .int, some .int, some .int, some .int, some .boolean, some .int, some .int, some .char, some .int, some .int, some .int, none, some .boolean, some .boolean, some .int, some .int, some .int, some .int, some .int, some .int, some .int, some .int, some .int, some .int, some .int, some .int, some .int, some .int, some .int, some .int, some .int, some .int, some .int, some .int, some .int, some .boolean, some .char, some .int, some .int, some .int, some .int, some .int, some .float, some .int, some .int, some .int, some .int, some .int, some .int, some .int, some .int, some .int, some .int, some .int, some .int, some .int, some .int, some .int, some .int, some .int, some .int, some .int, some .int, some .int, some .int, some .int, some .int, some .int, some .int, some .int, some .int, some .int, some .int, some .int, some .int, some .int, some .int, some .int, some .boolean]
def mm_hL : List (List (Nat × Nat × Nat × Nat)) := [[], [], [], [], [], [], [], [], [], [], [], [], [], [], [], [], [], [], [], [], [], [], [], [], [], [], [], [], [], [], [], [], [], [], [], [], [], [], [], [], [], [], [], [], [], [], [], [], [], [], [], [], [], [], [], [], [], [], [], [], [], [], [], [], [], [], [], [], [], [], [], [], [], [], [], [], [], [], [], [], [], [], [], [], [], [], [], [], [], [], [], [], [], [], [], [], [], [], [], [], [], [], [], [], [], [], [], [], [], [], [], [], [], [], [], [], [], [], [], [], [], [], [], [], [], [], [], [], [], [], [], [], [], [], [], [], [], [], [], [], [], [], [], [], [], [], [], [], [], [], [], [], [], [], [], [], [], [], [], [], [], [], [], [(0, 9, 12, 13), (0, 9, 15, 15)], [(0, 12, 15, 21), (0, 12, 19, 13), (0, 12, 23, 23), (0, 12, 27, 15)], [(0, 14, 17, 21), (0, 14, 21, 13), (0, 14, 25, 15), (0, 14, 29, 23)], [(0, 14, 17, 21), (0, 14, 21, 13), (0, 14, 25, 15), (0, 14, 29, 32), (0, 14, 33, 23)], [(0, 9, 12, 21), (0, 9, 15, 32), (0, 9, 18, 23), (0, 9, 21, 15)], [(0, 12, 15, 21), (0, 12, 19, 13), (0, 12, 23, 23), (0, 12, 27, 15)], [(0, 14, 17, 21), (0, 14, 21, 13), (0, 14, 25, 15), (0, 14, 29, 23)], [(0, 9, 12, 21), (0, 9, 15, 15)], [(0, 9, 12, 21), (0, 9, 15, 15)], [(0, 9, 12, 21)], [(0, 10, 13, 21)], [(0, 10, 13, 21), (0, 10, 17, 13)], [(0, 10, 13, 21), (0, 10, 17, 13)], [(0, 9, 12, 21), (0, 9, 15, 15)], [(0, 10, 13, 21), (0, 10, 17, 15), (0, 10, 21, 32)], [(0, 10, 13, 21), (0, 10, 17, 15), (0, 10, 21, 32)], [(0, 10, 13, 21), (0, 10, 17, 15), (0, 10, 21, 32)], [(0, 9, 12, 21), (0, 9, 15, 15)], [(0, 9, 12, 21), (0, 9, 15, 15)], [(0, 9, 12, 13)], [(0, 8, 11, 32)], [(0, 9, 12, 21), (0, 9, 15, 32)], [(0, 10, 13, 21)], [(0, 10, 13, 21)], [(0, 9, 12, 21)], [(0, 10, 13, 21), (0, 10, 17, 32)], [(0, 9, 12, 21)], [(0, 9, 12, 21)], [(0, 9, 12, 21)], [(0, 9, 12, 21)], [(0, 9, 12, 21)], [(0, 9, 12, 21)], [(0, 9, 12, 21)], [(0, 10, 13, 21), (0, 10, 17, 13)], [(0, 8, 11, 32)], []]
/-- places of the words: code, static or instanceMethod, selects, initialized -/
def mm_iL : List (Nat × Nat × Nat × Nat) := [(126, 125, 9999, 77), (483, 482, 10, 77), (487, 486, 11, 77), (568, 567, 20, 77), (564, 563, 19, 77), (857, 856, 49, 77), (839, 838, 48, 77), (534, 533, 14, 77), (104, 103, 9999, 76), (401, 400, 3, 76), (456, 455, 6, 76), (291, 290, 1, 76), (198, 197, 9999, 79), (491, 490, 12, 79), (821, 820, 47, 79), (908, 907, 51, 79), (912, 911, 52, 79), (232, 231, 9999, 80), (653, 652, 34, 80), (657, 656, 35, 80), (752, 751, 42, 80), (760, 759, 43, 80), (748, 747, 41, 80), (772, 771, 44, 80), (776, 775, 45, 80), (166, 165, 9999, 78), (605, 604, 27, 78), (576, 575, 22, 78), (572, 571, 21, 78), (580, 579, 23, 78), (629, 628, 30, 78), (787, 786, 46, 78), (923, 922, 53, 78), (96, 95, 9999, 75), (311, 309, 310, 75), (410, 408, 409, 75), (463, 461, 462, 75), (499, 497, 498, 75), (528, 526, 527, 75), (548, 546, 547, 75), (587, 585, 586, 75), (615, 613, 614, 75), (636, 634, 635, 75), (665, 663, 664, 75), (672, 670, 671, 75), (679, 677, 678, 75), (686, 684, 685, 75), (702, 700, 701, 75), (718, 716, 717, 75), (730, 728, 729, 75), (737, 735, 736, 75), (744, 742, 743, 75), (768, 766, 767, 75), (783, 781, 782, 75), (279, 277, 278, 75), (283, 281, 282, 75), (794, 792, 793, 75), (802, 800, 801, 75), (810, 808, 809, 75), (817, 815, 816, 75), (828, 826, 827, 75), (298, 296, 297, 75), (835, 833, 834, 75), (846, 844, 845, 75), (853, 851, 852, 75), (302, 300, 301, 75), (864, 862, 863, 75), (876, 874, 875, 75), (883, 881, 882, 75), (890, 888, 889, 75), (897, 895, 896, 75), (904, 902, 903, 75), (919, 917, 918, 75), (414, 413, 4, 75), (467, 466, 7, 75), (503, 502, 13, 75), (619, 618, 28, 75), (868, 867, 50, 75), (722, 721, 40, 75), (434, 433, 5, 75), (624, 623, 29, 75), (473, 472, 8, 75), (478, 477, 9, 75), (537, 536, 9999, 75), (541, 540, 15, 75), (552, 551, 16, 75), (556, 555, 17, 75), (560, 559, 18, 75), (600, 599, 26, 75), (592, 591, 24, 75), (596, 595, 25, 75), (690, 689, 36, 75), (695, 694, 37, 75), (706, 705, 38, 75), (640, 639, 31, 75), (644, 643, 32, 75), (649, 648, 33, 75), (711, 710, 39, 75), (287, 286, 0, 75), (929, 928, 9999, 81), (1035, 1033, 1034, 81), (1061, 1060, 55, 81), (1050, 1049, 9999, 81), (1047, 1046, 54, 81), (1081, 1080, 59, 81), (1057, 1056, 9999, 81), (1138, 1137, 67, 81), (1088, 1087, 9999, 81), (1065, 1064, 56, 81), (1073, 1072, 58, 81), (1069, 1068, 57, 81), (1039, 1037, 1038, 81), (1043, 1041, 1042, 81), (1054, 1052, 1053, 81), (1077, 1075, 1076, 81), (1085, 1083, 1084, 81), (1092, 1090, 1091, 81), (1099, 1098, 60, 81), (1103, 1102, 61, 81), (1108, 1107, 62, 81), (1112, 1111, 63, 81), (1124, 1123, 65, 81), (1116, 1114, 1115, 81), (1120, 1119, 64, 81), (1134, 1133, 66, 81), (1130, 1128, 1129, 81), (1142, 1140, 1141, 81), (1150, 1148, 1149, 81), (1154, 1152, 1153, 81), (1158, 1156, 1157, 81), (1162, 1160, 1161, 81), (1146, 1145, 68, 81), (1171, 1170, 69, 81), (1179, 1178, 70, 81), (1167, 1165, 1166, 81), (1175, 1173, 1174, 81), (1183, 1181, 1182, 81), (1187, 1185, 1186, 81), (1191, 1189, 1190, 81), (1195, 1193, 1194, 81), (1200, 1198, 1199, 81), (1204, 1202, 1203, 81), (1212, 1211, 71, 81), (1208, 1206, 1207, 81), (1217, 1215, 1216, 81), (1221, 1219, 1220, 81), (1225, 1223, 1224, 81), (1229, 1227, 1228, 81), (1234, 1232, 1233, 81), (1238, 1236, 1237, 81), (1242, 1240, 1241, 81), (1250, 1249, 72, 81), (1246, 1244, 1245, 81), (1254, 1252, 1253, 81), (1258, 1256, 1257, 81), (1266, 1265, 73, 81), (1262, 1260, 1261, 81), (1270, 1268, 1269, 81), (1274, 1272, 1273, 81), (1278, 1276, 1277, 81), (1282, 1280, 1281, 81), (1286, 1284, 1285, 81), (1290, 1288, 1289, 81), (305, 304, 9999, 74), (404, 403, 9999, 74), (459, 458, 9999, 74), (494, 493, 9999, 74), (524, 523, 9999, 74), (544, 543, 9999, 74), (583, 582, 9999, 74), (611, 610, 9999, 74), (632, 631, 9999, 74), (661, 660, 9999, 74), (668, 667, 9999, 74), (675, 674, 9999, 74), (682, 681, 9999, 74), (698, 697, 9999, 74), (714, 713, 9999, 74), (726, 725, 9999, 74), (733, 732, 9999, 74), (740, 739, 9999, 74), (764, 763, 9999, 74), (779, 778, 9999, 74), (790, 789, 9999, 74), (798, 797, 9999, 74), (806, 805, 9999, 74), (813, 812, 9999, 74), (824, 823, 9999, 74), (831, 830, 9999, 74), (842, 841, 9999, 74), (849, 848, 9999, 74), (860, 859, 9999, 74), (872, 871, 9999, 74), (879, 878, 9999, 74), (886, 885, 9999, 74), (893, 892, 9999, 74), (900, 899, 9999, 74), (915, 914, 9999, 74), (0, 9999, 9999, 74)]
def mm_o0 : List (Nat × Instr × Nat × Nat) := []
def mm_o1 : List (Nat × Instr × Nat × Nat) := [(0, .aload 0, 1, 0), (1, .getfield 0, 4, 9), (4, .istore 3, 5, 0), (5, .aload 0, 6, 0), (6, .getfield 1, 9, 15), (9, .iload 3, 10, 0), (10, .iload 1, 11, 0), (11, .iastore, 12, 0), (12, .aload 0, 13, 0), (13, .getfield 2, 16, 19), (16, .iload 3, 17, 0), (17, .iload 2, 18, 0), (18, .iastore, 19, 0), (19, .iload 3, 20, 0), (20, .istore 4, 22, 1), (22, .iload 4, 24, 1), (24, .ifCond .le 0, 27, 67), (27, .aload 0, 28, 0), (28, .getfield 2, 31, 19), (31, .aload 0, 32, 0), (32, .getfield 3, 35, 22), (35, .iload 4, 37, 1), (37, .iconst (1), 38, 0), (38, .isub, 39, 0), (39, .iaload, 40, 0), (40, .iaload, 41, 0), (41, .iload 2, 42, 0), (42, .if_icmp .le 0, 45, 67), (45, .aload 0, 46, 0), (46, .getfield 3, 49, 22), (49, .iload 4, 51, 1), (51, .aload 0, 52, 0), (52, .getfield 3, 55, 22), (55, .iload 4, 57, 1), (57, .iconst (1), 58, 0), (58, .isub, 59, 0), (59, .iaload, 60, 0), (60, .iastore, 61, 0), (61, .iinc 4 (-1), 64, 0), (64, .goto 0, 22, 0), (67, .aload 0, 68, 0), (68, .getfield 3, 71, 22), (71, .iload 4, 73, 1), (73, .iload 3, 74, 0), (74, .iastore, 75, 0), (75, .aload 0, 76, 0), (76, .dup, 77, 0), (77, .getfield 0, 80, 9), (80, .iconst (1), 81, 0), (81, .iadd, 82, 0), (82, .putfield 0, 85, 9), (85, .iload 3, 86, 0), (86, .ireturn, 87, 0)]
def mm_o2 : List (Nat × Instr × Nat × Nat) := [(0, .aload 0, 1, 0), (1, .getfield 4, 4, 27), (4, .iload 1, 5, 0), (5, .aaload, 6, 0), (6, .iload 2, 7, 0), (7, .dup2, 8, 0), (8, .iaload, 9, 0), (9, .iload 3, 10, 0), (10, .iadd, 11, 0), (11, .iastore, 12, 0), (12, .aload 0, 13, 0), (13, .getfield 5, 16, 30), (16, .iload 1, 17, 0), (17, .dup2, 18, 0), (18, .iaload, 19, 0), (19, .iload 3, 20, 0), (20, .iadd, 21, 0), (21, .iastore, 22, 0), (22, .aload 0, 23, 0), (23, .getfield 6, 26, 33), (26, .iload 2, 27, 0), (27, .dup2, 28, 0), (28, .iaload, 29, 0), (29, .iload 3, 30, 0), (30, .iadd, 31, 0), (31, .iastore, 32, 0), (32, .return_, 33, 0)]
def mm_o3 : List (Nat × Instr × Nat × Nat) := [(0, .aload 0, 1, 0), (1, .getfield 1, 4, 15), (4, .iload 1, 5, 0), (5, .iaload, 6, 0), (6, .iload 2, 7, 0), (7, .if_icmp .ne 0, 10, 24), (10, .aload 0, 11, 0), (11, .getfield 2, 14, 19), (14, .iload 1, 15, 0), (15, .iaload, 16, 0), (16, .iload 3, 17, 0), (17, .if_icmp .lt 0, 20, 24), (20, .iconst (1), 21, 0), (21, .goto 0, 25, 0), (24, .iconst (0), 25, 0), (25, .ireturn, 26, 0)]
def mm_o4 : List (Nat × Instr × Nat × Nat) := [(0, .iconst (0), 1, 0), (1, .istore 3, 2, 0), (2, .iconst (0), 3, 0), (3, .istore 4, 5, 1), (5, .iload 4, 7, 1), (7, .aload 0, 8, 0), (8, .getfield 0, 11, 9), (11, .if_icmp .ge 0, 14, 41), (14, .aload 0, 15, 0), (15, .iload 4, 17, 1), (17, .iload 1, 18, 0), (18, .iload 2, 19, 0), (19, .invokevirtual 3, 22, 39), (22, .ifCond .eq 0, 25, 35), (25, .iload 3, 26, 0), (26, .aload 0, 27, 0), (27, .getfield 5, 30, 30), (30, .iload 4, 32, 1), (32, .iaload, 33, 0), (33, .iadd, 34, 0), (34, .istore 3, 35, 0), (35, .iinc 4 1, 38, 0), (38, .goto 0, 5, 0), (41, .iload 3, 42, 0), (42, .ireturn, 43, 0)]
def mm_o5 : List (Nat × Instr × Nat × Nat) := [(0, .iconst (0), 1, 0), (1, .istore 3, 2, 0), (2, .iconst (0), 3, 0), (3, .istore 4, 5, 1), (5, .iload 4, 7, 1), (7, .aload 0, 8, 0), (8, .getfield 0, 11, 9), (11, .if_icmp .ge 0, 14, 52), (14, .aload 0, 15, 0), (15, .getfield 1, 18, 15), (18, .iload 4, 20, 1), (20, .iaload, 21, 0), (21, .iload 1, 22, 0), (22, .if_icmp .ne 0, 25, 46), (25, .aload 0, 26, 0), (26, .getfield 2, 29, 19), (29, .iload 4, 31, 1), (31, .iaload, 32, 0), (32, .iload 2, 33, 0), (33, .if_icmp .ge 0, 36, 46), (36, .iload 3, 37, 0), (37, .aload 0, 38, 0), (38, .getfield 5, 41, 30), (41, .iload 4, 43, 1), (43, .iaload, 44, 0), (44, .iadd, 45, 0), (45, .istore 3, 46, 0), (46, .iinc 4 1, 49, 0), (49, .goto 0, 5, 0), (52, .iload 3, 53, 0), (53, .ireturn, 54, 0)]
def mm_o6 : List (Nat × Instr × Nat × Nat) := [(0, .iconst (0), 1, 0), (1, .istore 3, 2, 0), (2, .iload 3, 3, 0), (3, .aload 0, 4, 0), (4, .getfield 0, 7, 9), (7, .if_icmp .ge 0, 10, 48), (10, .aload 0, 11, 0), (11, .getfield 3, 14, 22), (14, .iload 3, 15, 0), (15, .iaload, 16, 0), (16, .istore 4, 18, 1), (18, .aload 0, 19, 0), (19, .iload 4, 21, 1), (21, .iload 1, 22, 0), (22, .iload 2, 23, 0), (23, .invokevirtual 3, 26, 39), (26, .ifCond .eq 0, 29, 42), (29, .aload 0, 30, 0), (30, .getfield 5, 33, 30), (33, .iload 4, 35, 1), (35, .iaload, 36, 0), (36, .ifCond .le 0, 39, 42), (39, .iload 4, 41, 1), (41, .ireturn, 42, 0), (42, .iinc 3 1, 45, 0), (45, .goto 0, 2, 0), (48, .iconst (-1), 49, 0), (49, .ireturn, 50, 0)]
def mm_o7 : List (Nat × Instr × Nat × Nat) := [(0, .iconst (0), 1, 0), (1, .istore 2, 2, 0), (2, .iconst (0), 3, 0), (3, .istore 3, 4, 0), (4, .iload 3, 5, 0), (5, .iconst (40), 7, 1), (7, .if_icmp .ge 0, 10, 30), (10, .aload 0, 11, 0), (11, .getfield 4, 14, 27), (14, .iload 1, 15, 0), (15, .aaload, 16, 0), (16, .iload 3, 17, 0), (17, .iaload, 18, 0), (18, .ifCond .le 0, 21, 24), (21, .iinc 2 1, 24, 0), (24, .iinc 3 1, 27, 0), (27, .goto 0, 4, 0), (30, .iload 2, 31, 0), (31, .ireturn, 32, 0)]
def mm_o8 : List (Nat × Instr × Nat × Nat) := []
def mm_o9 : List (Nat × Instr × Nat × Nat) := [(0, .aload 0, 1, 0), (1, .getfield 100, 4, 9), (4, .istore 2, 5, 0), (5, .aload 0, 6, 0), (6, .getfield 101, 9, 15), (9, .iload 2, 10, 0), (10, .iload 1, 11, 0), (11, .castore, 12, 0), (12, .aload 0, 13, 0), (13, .dup, 14, 0), (14, .getfield 100, 17, 9), (17, .iconst (1), 18, 0), (18, .iadd, 19, 0), (19, .putfield 100, 22, 9), (22, .iload 2, 23, 0), (23, .ireturn, 24, 0)]
def mm_o10 : List (Nat × Instr × Nat × Nat) := [(0, .iconst (0), 1, 0), (1, .istore 2, 2, 0), (2, .iconst (0), 3, 0), (3, .istore 3, 4, 0), (4, .iload 3, 5, 0), (5, .aload 0, 6, 0), (6, .getfield 100, 9, 9), (9, .if_icmp .ge 0, 12, 32), (12, .aload 0, 13, 0), (13, .getfield 102, 16, 21), (16, .iload 1, 17, 0), (17, .aaload, 18, 0), (18, .iload 3, 19, 0), (19, .iaload, 20, 0), (20, .ifCond .eq 0, 23, 26), (23, .iinc 2 1, 26, 0), (26, .iinc 3 1, 29, 0), (29, .goto 0, 4, 0), (32, .iload 2, 33, 0), (33, .ireturn, 34, 0)]
def mm_o11 : List (Nat × Instr × Nat × Nat) := [(0, .aload 0, 1, 0), (1, .getfield 101, 4, 15), (4, .iload 1, 5, 0), (5, .caload, 6, 0), (6, .iconst (65), 8, 1), (8, .if_icmp .ne 0, 11, 13), (11, .iconst (5), 12, 0), (12, .ireturn, 13, 0), (13, .aload 0, 14, 0), (14, .getfield 101, 17, 15), (17, .iload 1, 18, 0), (18, .caload, 19, 0), (19, .iconst (66), 21, 1), (21, .if_icmp .ne 0, 24, 29), (24, .iconst (10), 26, 1), (26, .goto 0, 31, 0), (29, .iconst (20), 31, 1), (31, .ireturn, 32, 0)]
def mm_o12 : List (Nat × Instr × Nat × Nat) := []
def mm_o13 : List (Nat × Instr × Nat × Nat) := [(0, .aload 0, 1, 0), (1, .getfield 200, 4, 9), (4, .iconst (150), 7, 2), (7, .if_icmp .lt 0, 10, 11), (10, .return_, 11, 0), (11, .aload 0, 12, 0), (12, .getfield 201, 15, 15), (15, .aload 0, 16, 0), (16, .getfield 200, 19, 9), (19, .iload 1, 20, 0), (20, .castore, 21, 0), (21, .aload 0, 22, 0), (22, .getfield 202, 25, 19), (25, .aload 0, 26, 0), (26, .getfield 200, 29, 9), (29, .iload 2, 30, 0), (30, .iastore, 31, 0), (31, .aload 0, 32, 0), (32, .getfield 203, 35, 23), (35, .aload 0, 36, 0), (36, .getfield 200, 39, 9), (39, .iload 3, 40, 0), (40, .iastore, 41, 0), (41, .aload 0, 42, 0), (42, .getfield 204, 45, 26), (45, .aload 0, 46, 0), (46, .getfield 200, 49, 9), (49, .iload 4, 51, 1), (51, .iastore, 52, 0), (52, .aload 0, 53, 0), (53, .getfield 205, 56, 29), (56, .aload 0, 57, 0), (57, .getfield 200, 60, 9), (60, .iload 5, 62, 1), (62, .iastore, 63, 0), (63, .aload 0, 64, 0), (64, .getfield 206, 67, 32), (67, .aload 0, 68, 0), (68, .getfield 200, 71, 9), (71, .iload 6, 73, 1), (73, .iastore, 74, 0), (74, .aload 0, 75, 0), (75, .dup, 76, 0), (76, .getfield 200, 79, 9), (79, .iconst (1), 80, 0), (80, .iadd, 81, 0), (81, .putfield 200, 84, 9), (84, .return_, 85, 0)]
def mm_o14 : List (Nat × Instr × Nat × Nat) := [(0, .iconst (0), 1, 0), (1, .istore 3, 2, 0), (2, .iconst (0), 3, 0), (3, .istore 4, 5, 1), (5, .iload 4, 7, 1), (7, .aload 0, 8, 0), (8, .getfield 200, 11, 9), (11, .if_icmp .ge 0, 14, 84), (14, .aload 0, 15, 0), (15, .getfield 202, 18, 19), (18, .iload 4, 20, 1), (20, .iaload, 21, 0), (21, .iload 1, 22, 0), (22, .if_icmp .ne 0, 25, 46), (25, .aload 0, 26, 0), (26, .getfield 204, 29, 26), (29, .iload 4, 31, 1), (31, .iaload, 32, 0), (32, .iload 2, 33, 0), (33, .if_icmp .ne 0, 36, 46), (36, .iload 3, 37, 0), (37, .aload 0, 38, 0), (38, .getfield 205, 41, 29), (41, .iload 4, 43, 1), (43, .iaload, 44, 0), (44, .iadd, 45, 0), (45, .istore 3, 46, 0), (46, .aload 0, 47, 0), (47, .getfield 202, 50, 19), (50, .iload 4, 52, 1), (52, .iaload, 53, 0), (53, .iload 1, 54, 0), (54, .if_icmp .ne 0, 57, 78), (57, .aload 0, 58, 0), (58, .getfield 203, 61, 23), (61, .iload 4, 63, 1), (63, .iaload, 64, 0), (64, .iload 2, 65, 0), (65, .if_icmp .ne 0, 68, 78), (68, .iload 3, 69, 0), (69, .aload 0, 70, 0), (70, .getfield 205, 73, 29), (73, .iload 4, 75, 1), (75, .iaload, 76, 0), (76, .isub, 77, 0), (77, .istore 3, 78, 0), (78, .iinc 4 1, 81, 0), (81, .goto 0, 5, 0), (84, .iload 3, 85, 0), (85, .ireturn, 86, 0)]
def mm_o15 : List (Nat × Instr × Nat × Nat) := [(0, .iconst (0), 1, 0), (1, .istore 3, 2, 0), (2, .iconst (0), 3, 0), (3, .istore 4, 5, 1), (5, .iload 4, 7, 1), (7, .aload 0, 8, 0), (8, .getfield 200, 11, 9), (11, .if_icmp .ge 0, 14, 51), (14, .aload 0, 15, 0), (15, .getfield 202, 18, 19), (18, .iload 4, 20, 1), (20, .iaload, 21, 0), (21, .iload 1, 22, 0), (22, .if_icmp .ne 0, 25, 45), (25, .aload 0, 26, 0), (26, .getfield 206, 29, 32), (29, .iload 4, 31, 1), (31, .iaload, 32, 0), (32, .iload 2, 33, 0), (33, .if_icmp .gt 0, 36, 45), (36, .iload 3, 37, 0), (37, .aload 0, 38, 0), (38, .iload 4, 40, 1), (40, .invokevirtual 16, 43, 35), (43, .iadd, 44, 0), (44, .istore 3, 45, 0), (45, .iinc 4 1, 48, 0), (48, .goto 0, 5, 0), (51, .iload 3, 52, 0), (52, .ireturn, 53, 0)]
def mm_o16 : List (Nat × Instr × Nat × Nat) := [(0, .aload 0, 1, 0), (1, .getfield 204, 4, 26), (4, .iload 1, 5, 0), (5, .iaload, 6, 0), (6, .iconst (-1), 7, 0), (7, .if_icmp .ne 0, 10, 14), (10, .iconst (0), 11, 0), (11, .goto 0, 20, 0), (14, .aload 0, 15, 0), (15, .getfield 205, 18, 29), (18, .iload 1, 19, 0), (19, .iaload, 20, 0), (20, .istore 2, 21, 0), (21, .aload 0, 22, 0), (22, .getfield 203, 25, 23), (25, .iload 1, 26, 0), (26, .iaload, 27, 0), (27, .iconst (-1), 28, 0), (28, .if_icmp .ne 0, 31, 35), (31, .iconst (0), 32, 0), (32, .goto 0, 41, 0), (35, .aload 0, 36, 0), (36, .getfield 205, 39, 29), (39, .iload 1, 40, 0), (40, .iaload, 41, 0), (41, .istore 3, 42, 0), (42, .iload 2, 43, 0), (43, .iload 3, 44, 0), (44, .isub, 45, 0), (45, .ireturn, 46, 0)]
def mm_o17 : List (Nat × Instr × Nat × Nat) := []
def mm_o18 : List (Nat × Instr × Nat × Nat) := [(0, .aload 0, 1, 0), (1, .getfield 300, 4, 9), (4, .iconst (60), 6, 1), (6, .if_icmp .lt 0, 9, 10), (9, .return_, 10, 0), (10, .aload 0, 11, 0), (11, .getfield 300, 14, 9), (14, .istore 4, 16, 1), (16, .iload 4, 18, 1), (18, .ifCond .le 0, 21, 88), (21, .aload 0, 22, 0), (22, .iload 4, 24, 1), (24, .iconst (1), 25, 0), (25, .isub, 26, 0), (26, .iload 1, 27, 0), (27, .iload 2, 28, 0), (28, .invokevirtual 19, 31, 25), (31, .ifCond .eq 0, 34, 88), (34, .aload 0, 35, 0), (35, .getfield 301, 38, 15), (38, .iload 4, 40, 1), (40, .aload 0, 41, 0), (41, .getfield 301, 44, 15), (44, .iload 4, 46, 1), (46, .iconst (1), 47, 0), (47, .isub, 48, 0), (48, .iaload, 49, 0), (49, .iastore, 50, 0), (50, .aload 0, 51, 0), (51, .getfield 302, 54, 19), (54, .iload 4, 56, 1), (56, .aload 0, 57, 0), (57, .getfield 302, 60, 19), (60, .iload 4, 62, 1), (62, .iconst (1), 63, 0), (63, .isub, 64, 0), (64, .iaload, 65, 0), (65, .iastore, 66, 0), (66, .aload 0, 67, 0), (67, .getfield 303, 70, 22), (70, .iload 4, 72, 1), (72, .aload 0, 73, 0), (73, .getfield 303, 76, 22), (76, .iload 4, 78, 1), (78, .iconst (1), 79, 0), (79, .isub, 80, 0), (80, .iaload, 81, 0), (81, .iastore, 82, 0), (82, .iinc 4 (-1), 85, 0), (85, .goto 0, 16, 0), (88, .aload 0, 89, 0), (89, .getfield 301, 92, 15), (92, .iload 4, 94, 1), (94, .iload 1, 95, 0), (95, .iastore, 96, 0), (96, .aload 0, 97, 0), (97, .getfield 302, 100, 19), (100, .iload 4, 102, 1), (102, .iload 2, 103, 0), (103, .iastore, 104, 0), (104, .aload 0, 105, 0), (105, .getfield 303, 108, 22), (108, .iload 4, 110, 1), (110, .iload 3, 111, 0), (111, .iastore, 112, 0), (112, .aload 0, 113, 0), (113, .dup, 114, 0), (114, .getfield 300, 117, 9), (117, .iconst (1), 118, 0), (118, .iadd, 119, 0), (119, .putfield 300, 122, 9), (122, .return_, 123, 0)]
def mm_o19 : List (Nat × Instr × Nat × Nat) := [(0, .aload 0, 1, 0), (1, .getfield 301, 4, 15), (4, .iload 1, 5, 0), (5, .iaload, 6, 0), (6, .iload 2, 7, 0), (7, .if_icmp .ne 0, 10, 26), (10, .aload 0, 11, 0), (11, .getfield 302, 14, 19), (14, .iload 1, 15, 0), (15, .iaload, 16, 0), (16, .iload 3, 17, 0), (17, .if_icmp .le 0, 20, 24), (20, .iconst (1), 21, 0), (21, .goto 0, 25, 0), (24, .iconst (0), 25, 0), (25, .ireturn, 26, 0), (26, .aload 0, 27, 0), (27, .getfield 301, 30, 15), (30, .iload 1, 31, 0), (31, .iaload, 32, 0), (32, .invokestatic 83, 35, 29), (35, .iload 2, 36, 0), (36, .invokestatic 83, 39, 29), (39, .if_icmp .le 0, 42, 46), (42, .iconst (1), 43, 0), (43, .goto 0, 47, 0), (46, .iconst (0), 47, 0), (47, .ireturn, 48, 0)]
def mm_o20 : List (Nat × Instr × Nat × Nat) := [(0, .iconst (0), 1, 0), (1, .istore 1, 2, 0), (2, .iconst (0), 3, 0), (3, .istore 2, 4, 0), (4, .iload 2, 5, 0), (5, .aload 0, 6, 0), (6, .getfield 300, 9, 9), (9, .if_icmp .ge 0, 12, 32), (12, .iload 1, 13, 0), (13, .aload 0, 14, 0), (14, .getfield 301, 17, 15), (17, .iload 2, 18, 0), (18, .iaload, 19, 0), (19, .iconst (10), 21, 1), (21, .idiv, 22, 0), (22, .invokestatic 1000, 25, 33), (25, .istore 1, 26, 0), (26, .iinc 2 1, 29, 0), (29, .goto 0, 4, 0), (32, .iload 1, 33, 0), (33, .ireturn, 34, 0)]
def mm_o21 : List (Nat × Instr × Nat × Nat) := [(0, .iconst (0), 1, 0), (1, .istore 3, 2, 0), (2, .iconst (0), 3, 0), (3, .istore 4, 5, 1), (5, .iload 4, 7, 1), (7, .aload 0, 8, 0), (8, .getfield 300, 11, 9), (11, .if_icmp .ge 0, 14, 67), (14, .aload 0, 15, 0), (15, .getfield 301, 18, 15), (18, .iload 4, 20, 1), (20, .iaload, 21, 0), (21, .iconst (10), 23, 1), (23, .idiv, 24, 0), (24, .iload 1, 25, 0), (25, .if_icmp .ne 0, 28, 61), (28, .aload 0, 29, 0), (29, .getfield 301, 32, 15), (32, .iload 4, 34, 1), (34, .iaload, 35, 0), (35, .iconst (10), 37, 1), (37, .irem, 38, 0), (38, .iconst (1), 39, 0), (39, .iadd, 40, 0), (40, .istore 5, 42, 1), (42, .iload 3, 43, 0), (43, .iload 2, 44, 0), (44, .ifCond .eq 0, 47, 52), (47, .iload 5, 49, 1), (49, .goto 0, 57, 0), (52, .iconst (11), 54, 1), (54, .iload 5, 56, 1), (56, .isub, 57, 0), (57, .invokestatic 1000, 60, 33), (60, .istore 3, 61, 0), (61, .iinc 4 1, 64, 0), (64, .goto 0, 5, 0), (67, .iload 3, 68, 0), (68, .ireturn, 69, 0)]
def mm_o22 : List (Nat × Instr × Nat × Nat) := [(0, .aload 0, 1, 0), (1, .invokevirtual 20, 4, 39), (4, .istore 1, 5, 0), (5, .iconst (0), 6, 0), (6, .istore 2, 7, 0), (7, .iconst (1000000), 9, 89), (9, .istore 3, 10, 0), (10, .iconst (0), 11, 0), (11, .istore 4, 13, 1), (13, .iload 4, 15, 1), (15, .iload 1, 16, 0), (16, .if_icmp .gt 0, 19, 71), (19, .iload 2, 20, 0), (20, .iconst (2), 21, 0), (21, .aload 0, 22, 0), (22, .iload 4, 24, 1), (24, .iconst (1), 25, 0), (25, .invokevirtual 21, 28, 44), (28, .imul, 29, 0), (29, .iadd, 30, 0), (30, .iload 3, 31, 0), (31, .iconst (11), 33, 1), (33, .iadd, 34, 0), (34, .invokestatic 1001, 37, 48), (37, .istore 5, 39, 1), (39, .iload 3, 40, 0), (40, .iconst (2), 41, 0), (41, .aload 0, 42, 0), (42, .iload 4, 44, 1), (44, .iconst (0), 45, 0), (45, .invokevirtual 21, 48, 44), (48, .imul, 49, 0), (49, .iadd, 50, 0), (50, .iload 2, 51, 0), (51, .iconst (11), 53, 1), (53, .iadd, 54, 0), (54, .invokestatic 1001, 57, 48), (57, .istore 6, 59, 1), (59, .iload 5, 61, 1), (61, .istore 2, 62, 0), (62, .iload 6, 64, 1), (64, .istore 3, 65, 0), (65, .iinc 4 1, 68, 0), (68, .goto 0, 13, 0), (71, .iload 2, 72, 0), (72, .iconst (2), 73, 0), (73, .iload 1, 74, 0), (74, .imul, 75, 0), (75, .iconst (4), 76, 0), (76, .imul, 77, 0), (77, .iadd, 78, 0), (78, .ireturn, 79, 0)]
def mm_o23 : List (Nat × Instr × Nat × Nat) := [(0, .aload 0, 1, 0), (1, .invokevirtual 20, 4, 39), (4, .istore 1, 5, 0), (5, .iconst (1000000), 7, 89), (7, .istore 2, 8, 0), (8, .iconst (1), 9, 0), (9, .iload 1, 10, 0), (10, .iconst (1), 11, 0), (11, .iadd, 12, 0), (12, .ishl, 13, 0), (13, .istore 3, 14, 0), (14, .iconst (0), 15, 0), (15, .istore 4, 17, 1), (17, .iload 4, 19, 1), (19, .iload 3, 20, 0), (20, .if_icmp .ge 0, 23, 41), (23, .iload 2, 24, 0), (24, .aload 0, 25, 0), (25, .iload 4, 27, 1), (27, .iload 1, 28, 0), (28, .invokevirtual 24, 31, 51), (31, .invokestatic 1001, 34, 48), (34, .istore 2, 35, 0), (35, .iinc 4 1, 38, 0), (38, .goto 0, 17, 0), (41, .iload 2, 42, 0), (42, .ireturn, 43, 0)]
def mm_o24 : List (Nat × Instr × Nat × Nat) := [(0, .iconst (2), 1, 0), (1, .iload 2, 2, 0), (2, .imul, 3, 0), (3, .iconst (4), 4, 0), (4, .imul, 5, 0), (5, .istore 3, 6, 0), (6, .iconst (1), 7, 0), (7, .istore 4, 9, 1), (9, .iconst (0), 10, 0), (10, .istore 5, 12, 1), (12, .iload 5, 14, 1), (14, .iload 2, 15, 0), (15, .if_icmp .gt 0, 18, 78), (18, .iload 1, 19, 0), (19, .iload 5, 21, 1), (21, .ishr, 22, 0), (22, .iconst (1), 23, 0), (23, .iand, 24, 0), (24, .iconst (1), 25, 0), (25, .if_icmp .ne 0, 28, 32), (28, .iconst (1), 29, 0), (29, .goto 0, 33, 0), (32, .iconst (0), 33, 0), (33, .istore 6, 35, 1), (35, .iload 3, 36, 0), (36, .iload 6, 38, 1), (38, .ifCond .eq 0, 41, 46), (41, .iconst (11), 43, 1), (43, .goto 0, 56, 0), (46, .iconst (2), 47, 0), (47, .aload 0, 48, 0), (48, .iload 5, 50, 1), (50, .iload 4, 52, 1), (52, .invokevirtual 21, 55, 44), (55, .imul, 56, 0), (56, .iadd, 57, 0), (57, .istore 3, 58, 0), (58, .iload 6, 60, 1), (60, .iload 4, 62, 1), (62, .if_icmp .eq 0, 65, 69), (65, .iconst (1), 66, 0), (66, .goto 0, 70, 0), (69, .iconst (0), 70, 0), (70, .istore 4, 72, 1), (72, .iinc 5 1, 75, 0), (75, .goto 0, 12, 0), (78, .iload 4, 80, 1), (80, .ifCond .eq 0, 83, 87), (83, .iload 3, 84, 0), (84, .goto 0, 89, 0), (87, .iconst (1000000), 89, 89), (89, .ireturn, 90, 0)]
def mm_o25 : List (Nat × Instr × Nat × Nat) := []
def mm_o26 : List (Nat × Instr × Nat × Nat) := [(0, .aload 0, 1, 0), (1, .getfield 400, 4, 9), (4, .istore 3, 5, 0), (5, .aload 0, 6, 0), (6, .getfield 401, 9, 15), (9, .iload 3, 10, 0), (10, .iload 1, 11, 0), (11, .iastore, 12, 0), (12, .aload 0, 13, 0), (13, .getfield 402, 16, 19), (16, .iload 3, 17, 0), (17, .iconst (111), 19, 1), (19, .castore, 20, 0), (20, .aload 2, 21, 0), (21, .iconst (0), 22, 0), (22, .aload 0, 23, 0), (23, .getfield 403, 26, 25), (26, .iload 3, 27, 0), (27, .aaload, 28, 0), (28, .iconst (0), 29, 0), (29, .iconst (6), 31, 1), (31, .invokestatic 1003, 34, 34), (34, .aload 0, 35, 0), (35, .dup, 36, 0), (36, .getfield 400, 39, 9), (39, .iconst (1), 40, 0), (40, .iadd, 41, 0), (41, .putfield 400, 44, 9), (44, .iload 3, 45, 0), (45, .ireturn, 46, 0)]
def mm_o27 : List (Nat × Instr × Nat × Nat) := [(0, .aload 0, 1, 0), (1, .getfield 402, 4, 19), (4, .iload 1, 5, 0), (5, .caload, 6, 0), (6, .iconst (111), 8, 1), (8, .if_icmp .ne 0, 11, 25), (11, .aload 0, 12, 0), (12, .getfield 401, 15, 15), (15, .iload 1, 16, 0), (16, .iaload, 17, 0), (17, .iload 2, 18, 0), (18, .if_icmp .lt 0, 21, 25), (21, .iconst (1), 22, 0), (22, .goto 0, 26, 0), (25, .iconst (0), 26, 0), (26, .ireturn, 27, 0)]
def mm_o28 : List (Nat × Instr × Nat × Nat) := [(0, .iconst (0), 1, 0), (1, .istore 3, 2, 0), (2, .iconst (0), 3, 0), (3, .istore 4, 5, 1), (5, .iload 4, 7, 1), (7, .aload 0, 8, 0), (8, .getfield 400, 11, 9), (11, .if_icmp .ge 0, 14, 42), (14, .aload 0, 15, 0), (15, .iload 4, 17, 1), (17, .iload 2, 18, 0), (18, .invokevirtual 27, 21, 40), (21, .ifCond .eq 0, 24, 36), (24, .iload 3, 25, 0), (25, .aload 0, 26, 0), (26, .getfield 403, 29, 25), (29, .iload 4, 31, 1), (31, .aaload, 32, 0), (32, .iload 1, 33, 0), (33, .iaload, 34, 0), (34, .iadd, 35, 0), (35, .istore 3, 36, 0), (36, .iinc 4 1, 39, 0), (39, .goto 0, 5, 0), (42, .iload 3, 43, 0), (43, .ireturn, 44, 0)]
def mm_o29 : List (Nat × Instr × Nat × Nat) := [(0, .aload 0, 1, 0), (1, .getfield 400, 4, 9), (4, .iconst (1), 5, 0), (5, .isub, 6, 0), (6, .istore 3, 7, 0), (7, .iload 3, 8, 0), (8, .ifCond .lt 0, 11, 39), (11, .aload 0, 12, 0), (12, .iload 3, 13, 0), (13, .iload 2, 14, 0), (14, .invokevirtual 27, 17, 40), (17, .ifCond .eq 0, 20, 33), (20, .aload 0, 21, 0), (21, .getfield 403, 24, 25), (24, .iload 3, 25, 0), (25, .aaload, 26, 0), (26, .iload 1, 27, 0), (27, .iaload, 28, 0), (28, .ifCond .le 0, 31, 33), (31, .iload 3, 32, 0), (32, .ireturn, 33, 0), (33, .iinc 3 (-1), 36, 0), (36, .goto 0, 7, 0), (39, .iconst (-1), 40, 0), (40, .ireturn, 41, 0)]
def mm_o30 : List (Nat × Instr × Nat × Nat) := [(0, .iconst (0), 1, 0), (1, .istore 2, 2, 0), (2, .iconst (0), 3, 0), (3, .istore 3, 4, 0), (4, .iload 3, 5, 0), (5, .iconst (6), 7, 1), (7, .if_icmp .ge 0, 10, 27), (10, .iload 2, 11, 0), (11, .aload 0, 12, 0), (12, .getfield 403, 15, 25), (15, .iload 1, 16, 0), (16, .aaload, 17, 0), (17, .iload 3, 18, 0), (18, .iaload, 19, 0), (19, .iadd, 20, 0), (20, .istore 2, 21, 0), (21, .iinc 3 1, 24, 0), (24, .goto 0, 4, 0), (27, .iload 2, 28, 0), (28, .ireturn, 29, 0)]
def mm_o31 : List (Nat × Instr × Nat × Nat) := [(0, .iconst (0), 1, 0), (1, .istore 2, 2, 0), (2, .iconst (0), 3, 0), (3, .istore 3, 4, 0), (4, .iload 3, 5, 0), (5, .aload 0, 6, 0), (6, .getfield 400, 9, 9), (9, .if_icmp .ge 0, 12, 50), (12, .aload 0, 13, 0), (13, .getfield 402, 16, 19), (16, .iload 3, 17, 0), (17, .caload, 18, 0), (18, .iconst (111), 20, 1), (20, .if_icmp .ne 0, 23, 44), (23, .aload 0, 24, 0), (24, .getfield 401, 27, 15), (27, .iload 3, 28, 0), (28, .iaload, 29, 0), (29, .iload 1, 30, 0), (30, .if_icmp .ge 0, 33, 44), (33, .aload 0, 34, 0), (34, .getfield 402, 37, 19), (37, .iload 3, 38, 0), (38, .iconst (108), 40, 1), (40, .castore, 41, 0), (41, .iinc 2 1, 44, 0), (44, .iinc 3 1, 47, 0), (47, .goto 0, 4, 0), (50, .iload 2, 51, 0), (51, .ireturn, 52, 0)]
def mm_o32 : List (Nat × Instr × Nat × Nat) := [(0, .iconst (0), 1, 0), (1, .istore 2, 2, 0), (2, .iconst (0), 3, 0), (3, .istore 3, 4, 0), (4, .iload 3, 5, 0), (5, .aload 0, 6, 0), (6, .getfield 400, 9, 9), (9, .if_icmp .ge 0, 12, 31), (12, .aload 0, 13, 0), (13, .getfield 402, 16, 19), (16, .iload 3, 17, 0), (17, .caload, 18, 0), (18, .iload 1, 19, 0), (19, .if_icmp .ne 0, 22, 25), (22, .iinc 2 1, 25, 0), (25, .iinc 3 1, 28, 0), (28, .goto 0, 4, 0), (31, .iload 2, 32, 0), (32, .ireturn, 33, 0)]
def mm_o33 : List (Nat × Instr × Nat × Nat) := []
def mm_o34 : List (Nat × Instr × Nat × Nat) := [(0, .iload 1, 1, 0), (1, .iconst (65), 3, 1), (3, .if_icmp .eq 0, 6, 28), (6, .iload 1, 7, 0), (7, .iconst (66), 9, 1), (9, .if_icmp .eq 0, 12, 28), (12, .iload 1, 13, 0), (13, .iconst (67), 15, 1), (15, .if_icmp .eq 0, 18, 28), (18, .athrow, 21, 0), (28, .aload 0, 29, 0), (29, .getfield 500, 32, 10), (32, .getfield 100, 35, 62), (35, .iconst (6), 37, 1), (37, .if_icmp .lt 0, 40, 50), (40, .athrow, 43, 1), (50, .aload 0, 51, 0), (51, .getfield 500, 54, 10), (54, .iload 1, 55, 0), (55, .invokevirtual 9, 58, 70), (58, .ireturn, 59, 0)]
def mm_o35 : List (Nat × Instr × Nat × Nat) := [(0, .aload 0, 1, 0), (1, .iload 1, 2, 0), (2, .invokevirtual 73, 5, 74), (5, .aload 0, 6, 0), (6, .iload 2, 7, 0), (7, .invokevirtual 73, 10, 74), (10, .aload 0, 11, 0), (11, .iload 3, 12, 0), (12, .iconst (1), 13, 0), (13, .iconst (9), 15, 1), (15, .invokevirtual 79, 18, 78), (18, .iload 1, 19, 0), (19, .iload 2, 20, 0), (20, .if_icmp .ne 0, 23, 33), (23, .athrow, 26, 2), (33, .aload 0, 34, 0), (34, .getfield 500, 37, 10), (37, .getfield 102, 40, 87), (40, .iload 1, 41, 0), (41, .aaload, 42, 0), (42, .iload 2, 43, 0), (43, .iaload, 44, 0), (44, .ifCond .eq 0, 47, 57), (47, .athrow, 50, 3), (57, .aload 0, 58, 0), (58, .getfield 500, 61, 10), (61, .getfield 102, 64, 87), (64, .iload 1, 65, 0), (65, .aaload, 66, 0), (66, .iload 2, 67, 0), (67, .iload 3, 68, 0), (68, .iastore, 69, 0), (69, .aload 0, 70, 0), (70, .getfield 500, 73, 10), (73, .iload 1, 74, 0), (74, .invokevirtual 10, 77, 93), (77, .ireturn, 78, 0)]
def mm_o36 : List (Nat × Instr × Nat × Nat) := [(0, .aload 0, 1, 0), (1, .iload 1, 2, 0), (2, .invokevirtual 73, 5, 74), (5, .aload 0, 6, 0), (6, .iload 4, 8, 1), (8, .invokevirtual 74, 11, 97), (11, .aload 0, 12, 0), (12, .iload 2, 13, 0), (13, .iconst (1), 14, 0), (14, .iconst (30), 16, 1), (16, .invokevirtual 79, 19, 78), (19, .aload 0, 20, 0), (20, .iload 3, 21, 0), (21, .aload 0, 22, 0), (22, .getfield 507, 25, 51), (25, .aload 0, 26, 0), (26, .getfield 507, 29, 51), (29, .iconst (99), 31, 1), (31, .iadd, 32, 0), (32, .invokevirtual 79, 35, 78), (35, .aload 0, 36, 0), (36, .getfield 501, 39, 19), (39, .getfield 0, 42, 100), (42, .iconst (24), 44, 1), (44, .if_icmp .lt 0, 47, 57), (47, .athrow, 50, 4), (57, .aload 0, 58, 0), (58, .iconst (1), 59, 0), (59, .invokevirtual 81, 62, 105), (62, .aload 0, 63, 0), (63, .iload 4, 65, 1), (65, .iload 2, 66, 0), (66, .invokevirtual 82, 69, 108), (69, .aload 0, 70, 0), (70, .getfield 501, 73, 19), (73, .iload 1, 74, 0), (74, .iload 3, 75, 0), (75, .invokevirtual 1, 78, 112), (78, .istore 5, 80, 1), (80, .aload 0, 81, 0), (81, .getfield 501, 84, 19), (84, .iload 5, 86, 1), (86, .iload 4, 88, 1), (88, .iload 2, 89, 0), (89, .invokevirtual 2, 92, 116), (92, .aload 0, 93, 0), (93, .getfield 503, 96, 33), (96, .iconst (114), 98, 1), (98, .iload 5, 100, 1), (100, .iconst (-1), 101, 0), (101, .iload 4, 103, 1), (103, .iload 2, 104, 0), (104, .aload 0, 105, 0), (105, .getfield 507, 108, 51), (108, .invokevirtual 13, 111, 119), (111, .iload 5, 113, 1), (113, .ireturn, 114, 0)]
def mm_o37 : List (Nat × Instr × Nat × Nat) := [(0, .aload 0, 1, 0), (1, .iload 1, 2, 0), (2, .invokevirtual 75, 5, 123), (5, .aload 0, 6, 0), (6, .iload 2, 7, 0), (7, .invokevirtual 74, 10, 97), (10, .aload 0, 11, 0), (11, .iload 3, 12, 0), (12, .invokevirtual 74, 15, 97), (15, .aload 0, 16, 0), (16, .iload 4, 18, 1), (18, .iconst (1), 19, 0), (19, .iconst (30), 21, 1), (21, .invokevirtual 79, 24, 78), (24, .aload 0, 25, 0), (25, .iconst (1), 26, 0), (26, .invokevirtual 81, 29, 105), (29, .aload 0, 30, 0), (30, .getfield 501, 33, 19), (33, .getfield 4, 36, 126), (36, .iload 1, 37, 0), (37, .aaload, 38, 0), (38, .iload 2, 39, 0), (39, .iaload, 40, 0), (40, .iload 4, 42, 1), (42, .if_icmp .ge 0, 45, 55), (45, .athrow, 48, 5), (55, .iload 2, 56, 0), (56, .iload 3, 57, 0), (57, .if_icmp .ne 0, 60, 70), (60, .athrow, 63, 6), (70, .aload 0, 71, 0), (71, .iload 3, 72, 0), (72, .iload 4, 74, 1), (74, .invokevirtual 82, 77, 108), (77, .aload 0, 78, 0), (78, .getfield 501, 81, 19), (81, .iload 1, 82, 0), (82, .iload 2, 83, 0), (83, .iload 4, 85, 1), (85, .ineg, 86, 0), (86, .invokevirtual 2, 89, 116), (89, .aload 0, 90, 0), (90, .getfield 501, 93, 19), (93, .iload 1, 94, 0), (94, .iload 3, 95, 0), (95, .iload 4, 97, 1), (97, .invokevirtual 2, 100, 116), (100, .aload 0, 101, 0), (101, .getfield 503, 104, 33), (104, .iconst (109), 106, 1), (106, .iload 1, 107, 0), (107, .iload 2, 108, 0), (108, .iload 3, 109, 0), (109, .iload 4, 111, 1), (111, .aload 0, 112, 0), (112, .getfield 507, 115, 51), (115, .invokevirtual 13, 118, 119), (118, .aload 0, 119, 0), (119, .getfield 501, 122, 19), (122, .getfield 4, 125, 126), (125, .iload 1, 126, 0), (126, .aaload, 127, 0), (127, .iload 3, 128, 0), (128, .iaload, 129, 0), (129, .ireturn, 130, 0)]
def mm_o38 : List (Nat × Instr × Nat × Nat) := [(0, .aload 0, 1, 0), (1, .iload 1, 2, 0), (2, .invokevirtual 75, 5, 123), (5, .aload 0, 6, 0), (6, .getfield 501, 9, 19), (9, .getfield 5, 12, 136), (12, .iload 1, 13, 0), (13, .iaload, 14, 0), (14, .istore 2, 15, 0), (15, .iload 2, 16, 0), (16, .ifCond .ne 0, 19, 29), (19, .athrow, 22, 7), (29, .aload 0, 30, 0), (30, .getfield 501, 33, 19), (33, .getfield 2, 36, 141), (36, .iload 1, 37, 0), (37, .iaload, 38, 0), (38, .aload 0, 39, 0), (39, .getfield 507, 42, 51), (42, .if_icmp .lt 0, 45, 55), (45, .athrow, 48, 8), (55, .aload 0, 56, 0), (56, .aload 0, 57, 0), (57, .getfield 501, 60, 19), (60, .iload 1, 61, 0), (61, .invokevirtual 7, 64, 146), (64, .invokevirtual 81, 67, 105), (67, .iconst (0), 68, 0), (68, .istore 3, 69, 0), (69, .iload 3, 70, 0), (70, .iconst (40), 72, 1), (72, .if_icmp .ge 0, 75, 117), (75, .iload 3, 76, 0), (76, .invokestatic 83, 79, 149), (79, .istore 4, 81, 1), (81, .aload 0, 82, 0), (82, .getfield 501, 85, 19), (85, .getfield 4, 88, 126), (88, .iload 1, 89, 0), (89, .aaload, 90, 0), (90, .iload 4, 92, 1), (92, .iaload, 93, 0), (93, .istore 5, 95, 1), (95, .iload 5, 97, 1), (97, .ifCond .le 0, 100, 111), (100, .aload 0, 101, 0), (101, .iconst (100), 103, 1), (103, .iload 1, 104, 0), (104, .iload 4, 106, 1), (106, .iload 5, 108, 1), (108, .invokevirtual 84, 111, 152), (111, .iinc 3 1, 114, 0), (114, .goto 0, 69, 0), (117, .iload 2, 118, 0), (118, .ireturn, 119, 0)]
def mm_o39 : List (Nat × Instr × Nat × Nat) := [(0, .aload 0, 1, 0), (1, .iload 1, 2, 0), (2, .invokevirtual 74, 5, 97), (5, .aload 0, 6, 0), (6, .iload 2, 7, 0), (7, .invokevirtual 75, 10, 123), (10, .aload 0, 11, 0), (11, .iload 3, 12, 0), (12, .iconst (0), 13, 0), (13, .iconst (30), 15, 1), (15, .invokevirtual 79, 18, 78), (18, .iload 3, 19, 0), (19, .aload 0, 20, 0), (20, .getfield 501, 23, 19), (23, .getfield 4, 26, 126), (26, .iload 2, 27, 0), (27, .aaload, 28, 0), (28, .iload 1, 29, 0), (29, .iaload, 30, 0), (30, .isub, 31, 0), (31, .istore 4, 33, 1), (33, .aload 0, 34, 0), (34, .iload 1, 35, 0), (35, .iload 4, 37, 1), (37, .invokevirtual 82, 40, 108), (40, .iload 4, 42, 1), (42, .ifCond .eq 0, 45, 50), (45, .aload 0, 46, 0), (46, .iconst (1), 47, 0), (47, .invokevirtual 81, 50, 105), (50, .iload 4, 52, 1), (52, .ifCond .le 0, 55, 84), (55, .aload 0, 56, 0), (56, .getfield 501, 59, 19), (59, .iload 2, 60, 0), (60, .iload 1, 61, 0), (61, .iload 4, 63, 1), (63, .invokevirtual 2, 66, 116), (66, .aload 0, 67, 0), (67, .getfield 503, 70, 33), (70, .iconst (99), 72, 1), (72, .iload 2, 73, 0), (73, .iconst (-1), 74, 0), (74, .iload 1, 75, 0), (75, .iload 4, 77, 1), (77, .aload 0, 78, 0), (78, .getfield 507, 81, 51), (81, .invokevirtual 13, 84, 119), (84, .iload 4, 86, 1), (86, .ifCond .ge 0, 89, 100), (89, .aload 0, 90, 0), (90, .iconst (99), 92, 1), (92, .iload 2, 93, 0), (93, .iload 1, 94, 0), (94, .iload 4, 96, 1), (96, .ineg, 97, 0), (97, .invokevirtual 84, 100, 152), (100, .aload 0, 101, 0), (101, .getfield 501, 104, 19), (104, .getfield 7, 107, 156), (107, .iload 1, 108, 0), (108, .aload 0, 109, 0), (109, .getfield 507, 112, 51), (112, .iastore, 113, 0), (113, .aload 0, 114, 0), (114, .aload 0, 115, 0), (115, .getfield 501, 118, 19), (118, .getfield 1, 121, 159), (121, .iload 2, 122, 0), (122, .iaload, 123, 0), (123, .invokevirtual 85, 126, 162), (126, .ireturn, 127, 0)]
def mm_o40 : List (Nat × Instr × Nat × Nat) := [(0, .aload 0, 1, 0), (1, .iload 1, 2, 0), (2, .invokevirtual 73, 5, 74), (5, .aload 0, 6, 0), (6, .iload 2, 7, 0), (7, .iconst (1), 8, 0), (8, .iconst (60), 10, 1), (10, .invokevirtual 79, 13, 78), (13, .aload 0, 14, 0), (14, .iload 3, 15, 0), (15, .aload 0, 16, 0), (16, .getfield 507, 19, 51), (19, .aload 0, 20, 0), (20, .getfield 507, 23, 51), (23, .iconst (60), 25, 1), (25, .iadd, 26, 0), (26, .invokevirtual 79, 29, 78), (29, .aload 0, 30, 0), (30, .getfield 502, 33, 26), (33, .getfield 400, 36, 165), (36, .iconst (20), 38, 1), (38, .if_icmp .lt 0, 41, 51), (41, .athrow, 44, 9), (51, .aload 0, 52, 0), (52, .iload 1, 53, 0), (53, .iload 2, 54, 0), (54, .iload 3, 55, 0), (55, .iload 4, 57, 1), (57, .invokevirtual 89, 60, 168), (60, .ifCond .le 0, 63, 73), (63, .athrow, 66, 10), (73, .aload 0, 74, 0), (74, .getfield 502, 77, 26), (77, .iload 3, 78, 0), (78, .aload 0, 79, 0), (79, .getfield 505, 82, 44), (82, .invokevirtual 26, 85, 174), (85, .ireturn, 86, 0)]
def mm_o41 : List (Nat × Instr × Nat × Nat) := [(0, .aload 0, 1, 0), (1, .iload 1, 2, 0), (2, .invokevirtual 76, 5, 177), (5, .aload 0, 6, 0), (6, .iload 1, 7, 0), (7, .invokevirtual 80, 10, 180), (10, .aload 0, 11, 0), (11, .getfield 502, 14, 26), (14, .getfield 402, 17, 183), (17, .iload 1, 18, 0), (18, .iconst (99), 20, 1), (20, .castore, 21, 0), (21, .aload 0, 22, 0), (22, .getfield 502, 25, 26), (25, .iload 1, 26, 0), (26, .invokevirtual 30, 29, 187), (29, .ireturn, 30, 0)]
def mm_o42 : List (Nat × Instr × Nat × Nat) := [(0, .aload 0, 1, 0), (1, .iload 1, 2, 0), (2, .invokevirtual 76, 5, 177), (5, .aload 0, 6, 0), (6, .iload 1, 7, 0), (7, .invokevirtual 80, 10, 180), (10, .aload 0, 11, 0), (11, .iload 1, 12, 0), (12, .invokevirtual 94, 15, 190), (15, .aload 0, 16, 0), (16, .aload 0, 17, 0), (17, .getfield 504, 20, 40), (20, .getfield 300, 23, 193), (23, .invokevirtual 81, 26, 105), (26, .aload 0, 27, 0), (27, .getfield 502, 30, 26), (30, .getfield 404, 33, 194), (33, .iload 1, 34, 0), (34, .aload 0, 35, 0), (35, .getfield 503, 38, 33), (38, .getfield 200, 41, 197), (41, .iastore, 42, 0), (42, .aload 0, 43, 0), (43, .getfield 502, 46, 26), (46, .getfield 405, 49, 198), (49, .iload 1, 50, 0), (50, .aload 0, 51, 0), (51, .getfield 504, 54, 40), (54, .getfield 300, 57, 193), (57, .iastore, 58, 0), (58, .iconst (0), 59, 0), (59, .istore 2, 60, 0), (60, .iload 2, 61, 0), (61, .aload 0, 62, 0), (62, .getfield 504, 65, 40), (65, .getfield 300, 68, 193), (68, .if_icmp .ge 0, 71, 110), (71, .aload 0, 72, 0), (72, .iconst (112), 74, 1), (74, .aload 0, 75, 0), (75, .getfield 504, 78, 40), (78, .getfield 302, 81, 201), (81, .iload 2, 82, 0), (82, .iaload, 83, 0), (83, .aload 0, 84, 0), (84, .getfield 504, 87, 40), (87, .getfield 301, 90, 204), (90, .iload 2, 91, 0), (91, .iaload, 92, 0), (92, .aload 0, 93, 0), (93, .getfield 504, 96, 40), (96, .getfield 303, 99, 207), (99, .iload 2, 100, 0), (100, .iaload, 101, 0), (101, .invokevirtual 84, 104, 152), (104, .iinc 2 1, 107, 0), (107, .goto 0, 60, 0), (110, .aload 0, 111, 0), (111, .getfield 502, 114, 26), (114, .getfield 402, 117, 183), (117, .iload 1, 118, 0), (118, .iconst (112), 120, 1), (120, .castore, 121, 0), (121, .aload 0, 122, 0), (122, .getfield 504, 125, 40), (125, .getfield 300, 128, 193), (128, .ireturn, 129, 0)]
def mm_o43 : List (Nat × Instr × Nat × Nat) := [(0, .aload 0, 1, 0), (1, .iload 1, 2, 0), (2, .invokevirtual 76, 5, 177), (5, .aload 0, 6, 0), (6, .getfield 502, 9, 26), (9, .getfield 402, 12, 183), (12, .iload 1, 13, 0), (13, .caload, 14, 0), (14, .ireturn, 15, 0)]
def mm_o44 : List (Nat × Instr × Nat × Nat) := [(0, .aload 0, 1, 0), (1, .iload 1, 2, 0), (2, .invokevirtual 76, 5, 177), (5, .aload 0, 6, 0), (6, .iload 2, 7, 0), (7, .invokevirtual 73, 10, 74), (10, .aload 0, 11, 0), (11, .getfield 502, 14, 26), (14, .getfield 403, 17, 210), (17, .iload 1, 18, 0), (18, .aaload, 19, 0), (19, .iload 2, 20, 0), (20, .iaload, 21, 0), (21, .ireturn, 22, 0)]
def mm_o45 : List (Nat × Instr × Nat × Nat) := [(0, .aload 0, 1, 0), (1, .iload 1, 2, 0), (2, .invokevirtual 73, 5, 74), (5, .aload 0, 6, 0), (6, .iload 2, 7, 0), (7, .aload 0, 8, 0), (8, .getfield 507, 11, 51), (11, .aload 0, 12, 0), (12, .getfield 507, 15, 51), (15, .iconst (60), 17, 1), (17, .iadd, 18, 0), (18, .invokevirtual 79, 21, 78), (21, .aload 0, 22, 0), (22, .iload 1, 23, 0), (23, .iload 2, 24, 0), (24, .invokevirtual 88, 27, 212), (27, .ireturn, 28, 0)]
def mm_o46 : List (Nat × Instr × Nat × Nat) := [(0, .aload 0, 1, 0), (1, .iload 1, 2, 0), (2, .invokevirtual 73, 5, 74), (5, .aload 0, 6, 0), (6, .iload 2, 7, 0), (7, .aload 0, 8, 0), (8, .getfield 507, 11, 51), (11, .aload 0, 12, 0), (12, .getfield 507, 15, 51), (15, .iconst (60), 17, 1), (17, .iadd, 18, 0), (18, .invokevirtual 79, 21, 78), (21, .iconst (0), 22, 0), (22, .istore 3, 23, 0), (23, .iconst (1024), 26, 2), (26, .istore 4, 28, 1), (28, .iload 4, 30, 1), (30, .ifCond .le 0, 33, 60), (33, .aload 0, 34, 0), (34, .iload 1, 35, 0), (35, .iload 2, 36, 0), (36, .iload 3, 37, 0), (37, .iload 4, 39, 1), (39, .iadd, 40, 0), (40, .invokevirtual 91, 43, 215), (43, .ifCond .eq 0, 46, 51), (46, .iload 3, 47, 0), (47, .iload 4, 49, 1), (49, .iadd, 50, 0), (50, .istore 3, 51, 0), (51, .iload 4, 53, 1), (53, .iconst (2), 54, 0), (54, .idiv, 55, 0), (55, .istore 4, 57, 1), (57, .goto 0, 28, 0), (60, .iload 3, 61, 0), (61, .ireturn, 62, 0)]
def mm_o47 : List (Nat × Instr × Nat × Nat) := [(0, .aload 0, 1, 0), (1, .iload 1, 2, 0), (2, .invokevirtual 93, 5, 219), (5, .aload 0, 6, 0), (6, .getfield 504, 9, 40), (9, .getfield 300, 12, 193), (12, .ireturn, 13, 0)]
def mm_o48 : List (Nat × Instr × Nat × Nat) := [(0, .aload 0, 1, 0), (1, .iload 1, 2, 0), (2, .invokevirtual 93, 5, 219), (5, .aload 0, 6, 0), (6, .iload 2, 7, 0), (7, .invokevirtual 78, 10, 222), (10, .aload 0, 11, 0), (11, .getfield 504, 14, 40), (14, .getfield 301, 17, 204), (17, .iload 2, 18, 0), (18, .iaload, 19, 0), (19, .ireturn, 20, 0)]
def mm_o49 : List (Nat × Instr × Nat × Nat) := [(0, .aload 0, 1, 0), (1, .iload 1, 2, 0), (2, .invokevirtual 93, 5, 219), (5, .aload 0, 6, 0), (6, .iload 2, 7, 0), (7, .invokevirtual 78, 10, 222), (10, .aload 0, 11, 0), (11, .getfield 504, 14, 40), (14, .getfield 302, 17, 201), (17, .iload 2, 18, 0), (18, .iaload, 19, 0), (19, .ireturn, 20, 0)]
def mm_o50 : List (Nat × Instr × Nat × Nat) := [(0, .aload 0, 1, 0), (1, .iload 1, 2, 0), (2, .invokevirtual 93, 5, 219), (5, .aload 0, 6, 0), (6, .iload 2, 7, 0), (7, .invokevirtual 78, 10, 222), (10, .aload 0, 11, 0), (11, .getfield 504, 14, 40), (14, .getfield 303, 17, 207), (17, .iload 2, 18, 0), (18, .iaload, 19, 0), (19, .ireturn, 20, 0)]
def mm_o51 : List (Nat × Instr × Nat × Nat) := [(0, .aload 0, 1, 0), (1, .iload 1, 2, 0), (2, .invokevirtual 93, 5, 219), (5, .aload 0, 6, 0), (6, .getfield 504, 9, 40), (9, .invokevirtual 22, 12, 225), (12, .ireturn, 13, 0)]
def mm_o52 : List (Nat × Instr × Nat × Nat) := [(0, .aload 0, 1, 0), (1, .iload 1, 2, 0), (2, .invokevirtual 93, 5, 219), (5, .aload 0, 6, 0), (6, .getfield 504, 9, 40), (9, .invokevirtual 23, 12, 229), (12, .ireturn, 13, 0)]
def mm_o53 : List (Nat × Instr × Nat × Nat) := [(0, .aload 0, 1, 0), (1, .iload 1, 2, 0), (2, .iconst (1), 3, 0), (3, .iconst (30), 5, 1), (5, .invokevirtual 79, 8, 78), (8, .aload 0, 9, 0), (9, .dup, 10, 0), (10, .getfield 507, 13, 51), (13, .iload 1, 14, 0), (14, .iadd, 15, 0), (15, .putfield 507, 18, 51), (18, .aload 0, 19, 0), (19, .getfield 502, 22, 26), (22, .aload 0, 23, 0), (23, .getfield 507, 26, 51), (26, .invokevirtual 31, 29, 232), (29, .ireturn, 30, 0)]
def mm_o54 : List (Nat × Instr × Nat × Nat) := [(0, .aload 0, 1, 0), (1, .getfield 507, 4, 51), (4, .ireturn, 5, 0)]
def mm_o55 : List (Nat × Instr × Nat × Nat) := [(0, .iconst (0), 1, 0), (1, .istore 1, 2, 0), (2, .iconst (0), 3, 0), (3, .istore 2, 4, 0), (4, .iload 2, 5, 0), (5, .iconst (40), 7, 1), (7, .if_icmp .ge 0, 10, 43), (10, .aload 0, 11, 0), (11, .getfield 501, 14, 19), (14, .getfield 6, 17, 235), (17, .iload 2, 18, 0), (18, .iaload, 19, 0), (19, .ifCond .le 0, 22, 37), (22, .aload 0, 23, 0), (23, .iload 2, 24, 0), (24, .invokevirtual 98, 27, 238), (27, .aload 0, 28, 0), (28, .getfield 507, 31, 51), (31, .if_icmp .gt 0, 34, 37), (34, .iinc 1 1, 37, 0), (37, .iinc 2 1, 40, 0), (40, .goto 0, 4, 0), (43, .iload 1, 44, 0), (44, .ireturn, 45, 0)]
def mm_o56 : List (Nat × Instr × Nat × Nat) := [(0, .iconst (-1), 1, 0), (1, .istore 1, 2, 0), (2, .iconst (0), 3, 0), (3, .istore 2, 4, 0), (4, .iconst (0), 5, 0), (5, .istore 3, 6, 0), (6, .iload 3, 7, 0), (7, .iconst (40), 9, 1), (9, .if_icmp .ge 0, 12, 62), (12, .iload 3, 13, 0), (13, .invokestatic 83, 16, 149), (16, .istore 4, 18, 1), (18, .aload 0, 19, 0), (19, .getfield 501, 22, 19), (22, .getfield 6, 25, 235), (25, .iload 4, 27, 1), (27, .iaload, 28, 0), (28, .ifCond .le 0, 31, 56), (31, .iload 1, 32, 0), (32, .iconst (-1), 33, 0), (33, .if_icmp .eq 0, 36, 46), (36, .aload 0, 37, 0), (37, .iload 4, 39, 1), (39, .invokevirtual 98, 42, 238), (42, .iload 2, 43, 0), (43, .if_icmp .ge 0, 46, 56), (46, .iload 4, 48, 1), (48, .istore 1, 49, 0), (49, .aload 0, 50, 0), (50, .iload 4, 52, 1), (52, .invokevirtual 98, 55, 238), (55, .istore 2, 56, 0), (56, .iinc 3 1, 59, 0), (59, .goto 0, 6, 0), (62, .iload 1, 63, 0), (63, .iconst (-1), 64, 0), (64, .if_icmp .ne 0, 67, 77), (67, .athrow, 70, 11), (77, .iload 1, 78, 0), (78, .ireturn, 79, 0)]
def mm_o57 : List (Nat × Instr × Nat × Nat) := [(0, .aload 0, 1, 0), (1, .iload 1, 2, 0), (2, .invokevirtual 74, 5, 97), (5, .aload 0, 6, 0), (6, .getfield 501, 9, 19), (9, .getfield 6, 12, 235), (12, .iload 1, 13, 0), (13, .iaload, 14, 0), (14, .ifCond .ne 0, 17, 27), (17, .athrow, 20, 12), (27, .aload 0, 28, 0), (28, .iload 1, 29, 0), (29, .invokevirtual 98, 32, 238), (32, .ireturn, 33, 0)]
def mm_o58 : List (Nat × Instr × Nat × Nat) := [(0, .aload 0, 1, 0), (1, .iload 1, 2, 0), (2, .invokevirtual 75, 5, 123), (5, .aload 0, 6, 0), (6, .iload 2, 7, 0), (7, .invokevirtual 74, 10, 97), (10, .aload 0, 11, 0), (11, .getfield 501, 14, 19), (14, .getfield 4, 17, 126), (17, .iload 1, 18, 0), (18, .aaload, 19, 0), (19, .iload 2, 20, 0), (20, .iaload, 21, 0), (21, .ireturn, 22, 0)]
def mm_o59 : List (Nat × Instr × Nat × Nat) := [(0, .aload 0, 1, 0), (1, .iload 1, 2, 0), (2, .invokevirtual 75, 5, 123), (5, .aload 0, 6, 0), (6, .iload 2, 7, 0), (7, .invokevirtual 74, 10, 97), (10, .aload 0, 11, 0), (11, .getfield 503, 14, 33), (14, .iload 1, 15, 0), (15, .iload 2, 16, 0), (16, .invokevirtual 14, 19, 245), (19, .ireturn, 20, 0)]
def mm_o60 : List (Nat × Instr × Nat × Nat) := [(0, .aload 0, 1, 0), (1, .iload 1, 2, 0), (2, .invokevirtual 74, 5, 97), (5, .aload 0, 6, 0), (6, .getfield 501, 9, 19), (9, .getfield 6, 12, 235), (12, .iload 1, 13, 0), (13, .iaload, 14, 0), (14, .ireturn, 15, 0)]
def mm_o61 : List (Nat × Instr × Nat × Nat) := [(0, .aload 0, 1, 0), (1, .getfield 501, 4, 19), (4, .getfield 0, 7, 100), (7, .ireturn, 8, 0)]
def mm_o62 : List (Nat × Instr × Nat × Nat) := [(0, .aload 0, 1, 0), (1, .iload 1, 2, 0), (2, .invokevirtual 73, 5, 74), (5, .aload 0, 6, 0), (6, .getfield 501, 9, 19), (9, .iload 1, 10, 0), (10, .iload 2, 11, 0), (11, .invokevirtual 6, 14, 248), (14, .istore 3, 15, 0), (15, .iload 3, 16, 0), (16, .iconst (-1), 17, 0), (17, .if_icmp .ne 0, 20, 30), (20, .athrow, 23, 13), (30, .iload 3, 31, 0), (31, .ireturn, 32, 0)]
def mm_o63 : List (Nat × Instr × Nat × Nat) := [(0, .aload 0, 1, 0), (1, .iload 1, 2, 0), (2, .invokevirtual 73, 5, 74), (5, .aload 0, 6, 0), (6, .getfield 501, 9, 19), (9, .iload 1, 10, 0), (10, .aload 0, 11, 0), (11, .getfield 507, 14, 51), (14, .invokevirtual 4, 17, 253), (17, .ireturn, 18, 0)]
def mm_o64 : List (Nat × Instr × Nat × Nat) := [(0, .aload 0, 1, 0), (1, .iload 1, 2, 0), (2, .invokevirtual 73, 5, 74), (5, .aload 0, 6, 0), (6, .getfield 501, 9, 19), (9, .iload 1, 10, 0), (10, .aload 0, 11, 0), (11, .getfield 507, 14, 51), (14, .invokevirtual 5, 17, 256), (17, .ireturn, 18, 0)]
def mm_o65 : List (Nat × Instr × Nat × Nat) := [(0, .aload 0, 1, 0), (1, .getfield 503, 4, 33), (4, .getfield 200, 7, 197), (7, .ireturn, 8, 0)]
def mm_o66 : List (Nat × Instr × Nat × Nat) := [(0, .aload 0, 1, 0), (1, .iload 1, 2, 0), (2, .invokevirtual 77, 5, 259), (5, .aload 0, 6, 0), (6, .getfield 503, 9, 33), (9, .getfield 201, 12, 262), (12, .iload 1, 13, 0), (13, .caload, 14, 0), (14, .ireturn, 15, 0)]
def mm_o67 : List (Nat × Instr × Nat × Nat) := [(0, .aload 0, 1, 0), (1, .iload 1, 2, 0), (2, .invokevirtual 77, 5, 259), (5, .aload 0, 6, 0), (6, .getfield 503, 9, 33), (9, .getfield 202, 12, 265), (12, .iload 1, 13, 0), (13, .iaload, 14, 0), (14, .ireturn, 15, 0)]
def mm_o68 : List (Nat × Instr × Nat × Nat) := [(0, .aload 0, 1, 0), (1, .iload 1, 2, 0), (2, .invokevirtual 77, 5, 259), (5, .aload 0, 6, 0), (6, .getfield 503, 9, 33), (9, .getfield 203, 12, 268), (12, .iload 1, 13, 0), (13, .iaload, 14, 0), (14, .ireturn, 15, 0)]
def mm_o69 : List (Nat × Instr × Nat × Nat) := [(0, .aload 0, 1, 0), (1, .iload 1, 2, 0), (2, .invokevirtual 77, 5, 259), (5, .aload 0, 6, 0), (6, .getfield 503, 9, 33), (9, .getfield 204, 12, 271), (12, .iload 1, 13, 0), (13, .iaload, 14, 0), (14, .ireturn, 15, 0)]
def mm_o70 : List (Nat × Instr × Nat × Nat) := [(0, .aload 0, 1, 0), (1, .iload 1, 2, 0), (2, .invokevirtual 77, 5, 259), (5, .aload 0, 6, 0), (6, .getfield 503, 9, 33), (9, .getfield 205, 12, 274), (12, .iload 1, 13, 0), (13, .iaload, 14, 0), (14, .ireturn, 15, 0)]
def mm_o71 : List (Nat × Instr × Nat × Nat) := [(0, .aload 0, 1, 0), (1, .iload 1, 2, 0), (2, .invokevirtual 73, 5, 74), (5, .aload 0, 6, 0), (6, .iload 2, 7, 0), (7, .iconst (0), 8, 0), (8, .aload 0, 9, 0), (9, .getfield 507, 12, 51), (12, .invokevirtual 79, 15, 78), (15, .iconst (0), 16, 0), (16, .istore 3, 17, 0), (17, .iconst (0), 18, 0), (18, .istore 4, 20, 1), (20, .iload 4, 22, 1), (22, .aload 0, 23, 0), (23, .getfield 501, 26, 19), (26, .getfield 0, 29, 100), (29, .if_icmp .ge 0, 32, 65), (32, .aload 0, 33, 0), (33, .getfield 501, 36, 19), (36, .getfield 1, 39, 159), (39, .iload 4, 41, 1), (41, .iaload, 42, 0), (42, .iload 1, 43, 0), (43, .if_icmp .ne 0, 46, 59), (46, .iload 3, 47, 0), (47, .aload 0, 48, 0), (48, .getfield 503, 51, 33), (51, .iload 4, 53, 1), (53, .iload 2, 54, 0), (54, .invokevirtual 15, 57, 275), (57, .iadd, 58, 0), (58, .istore 3, 59, 0), (59, .iinc 4 1, 62, 0), (62, .goto 0, 20, 0), (65, .iload 3, 66, 0), (66, .ireturn, 67, 0)]
def mm_o72 : List (Nat × Instr × Nat × Nat) := [(0, .aload 0, 1, 0), (1, .getfield 502, 4, 26), (4, .getfield 400, 7, 165), (7, .aload 0, 8, 0), (8, .getfield 502, 11, 26), (11, .iconst (111), 13, 1), (13, .invokevirtual 32, 16, 278), (16, .isub, 17, 0), (17, .istore 1, 18, 0), (18, .iload 1, 19, 0), (19, .ifCond .ne 0, 22, 33), (22, .athrow, 25, 14), (33, .aload 0, 34, 0), (34, .getfield 502, 37, 26), (37, .iconst (112), 39, 1), (39, .invokevirtual 32, 42, 278), (42, .i2f, 43, 0), (43, .iload 1, 44, 0), (44, .i2f, 45, 0), (45, .fdiv, 46, 0), (46, .freturn, 47, 0)]
def mm_o73 : List (Nat × Instr × Nat × Nat) := [(0, .iload 1, 1, 0), (1, .ifCond .lt 0, 4, 15), (4, .iload 1, 5, 0), (5, .aload 0, 6, 0), (6, .getfield 500, 9, 10), (9, .getfield 100, 12, 62), (12, .if_icmp .lt 0, 15, 26), (15, .athrow, 18, 15), (26, .return_, 27, 0)]
def mm_o74 : List (Nat × Instr × Nat × Nat) := [(0, .iload 1, 1, 0), (1, .ifCond .lt 0, 4, 10), (4, .iload 1, 5, 0), (5, .iconst (40), 7, 1), (7, .if_icmp .lt 0, 10, 21), (10, .athrow, 13, 16), (21, .return_, 22, 0)]
def mm_o75 : List (Nat × Instr × Nat × Nat) := [(0, .iload 1, 1, 0), (1, .ifCond .lt 0, 4, 15), (4, .iload 1, 5, 0), (5, .aload 0, 6, 0), (6, .getfield 501, 9, 19), (9, .getfield 0, 12, 100), (12, .if_icmp .lt 0, 15, 25), (15, .athrow, 18, 17), (25, .return_, 26, 0)]
def mm_o76 : List (Nat × Instr × Nat × Nat) := [(0, .iload 1, 1, 0), (1, .ifCond .lt 0, 4, 15), (4, .iload 1, 5, 0), (5, .aload 0, 6, 0), (6, .getfield 502, 9, 26), (9, .getfield 400, 12, 165), (12, .if_icmp .lt 0, 15, 26), (15, .athrow, 18, 18), (26, .return_, 27, 0)]
def mm_o77 : List (Nat × Instr × Nat × Nat) := [(0, .iload 1, 1, 0), (1, .ifCond .lt 0, 4, 15), (4, .iload 1, 5, 0), (5, .aload 0, 6, 0), (6, .getfield 503, 9, 33), (9, .getfield 200, 12, 197), (12, .if_icmp .lt 0, 15, 26), (15, .athrow, 18, 19), (26, .return_, 27, 0)]
def mm_o78 : List (Nat × Instr × Nat × Nat) := [(0, .iload 1, 1, 0), (1, .ifCond .lt 0, 4, 15), (4, .iload 1, 5, 0), (5, .aload 0, 6, 0), (6, .getfield 504, 9, 40), (9, .getfield 300, 12, 193), (12, .if_icmp .lt 0, 15, 26), (15, .athrow, 18, 20), (26, .return_, 27, 0)]
def mm_o79 : List (Nat × Instr × Nat × Nat) := [(0, .iload 1, 1, 0), (1, .iload 2, 2, 0), (2, .if_icmp .lt 0, 5, 10), (5, .iload 1, 6, 0), (6, .iload 3, 7, 0), (7, .if_icmp .le 0, 10, 21), (10, .athrow, 13, 21), (21, .return_, 22, 0)]
def mm_o80 : List (Nat × Instr × Nat × Nat) := [(0, .aload 0, 1, 0), (1, .getfield 502, 4, 26), (4, .getfield 402, 7, 183), (7, .iload 1, 8, 0), (8, .caload, 9, 0), (9, .iconst (111), 11, 1), (11, .if_icmp .eq 0, 14, 25), (14, .athrow, 17, 22), (25, .return_, 26, 0)]
def mm_o81 : List (Nat × Instr × Nat × Nat) := [(0, .aload 0, 1, 0), (1, .getfield 503, 4, 33), (4, .getfield 200, 7, 197), (7, .iload 1, 8, 0), (8, .iadd, 9, 0), (9, .iconst (150), 12, 2), (12, .if_icmp .le 0, 15, 26), (15, .athrow, 18, 23), (26, .return_, 27, 0)]
def mm_o82 : List (Nat × Instr × Nat × Nat) := [(0, .aload 0, 1, 0), (1, .getfield 501, 4, 19), (4, .getfield 6, 7, 235), (7, .iload 1, 8, 0), (8, .iaload, 9, 0), (9, .iload 2, 10, 0), (10, .iadd, 11, 0), (11, .iconst (30), 13, 1), (13, .if_icmp .le 0, 16, 27), (16, .athrow, 19, 24), (27, .return_, 28, 0)]
def mm_o83 : List (Nat × Instr × Nat × Nat) := [(0, .iload 0, 1, 0), (1, .iconst (10), 3, 1), (3, .idiv, 4, 0), (4, .istore 1, 5, 0), (5, .iload 0, 6, 0), (6, .iconst (10), 8, 1), (8, .irem, 9, 0), (9, .istore 2, 10, 0), (10, .iload 1, 11, 0), (11, .iconst (2), 12, 0), (12, .irem, 13, 0), (13, .ifCond .ne 0, 16, 20), (16, .iload 0, 17, 0), (17, .goto 0, 31, 0), (20, .iload 1, 21, 0), (21, .iconst (10), 23, 1), (23, .imul, 24, 0), (24, .iconst (10), 26, 1), (26, .iadd, 27, 0), (27, .iconst (1), 28, 0), (28, .isub, 29, 0), (29, .iload 2, 30, 0), (30, .isub, 31, 0), (31, .ireturn, 32, 0)]
def mm_o84 : List (Nat × Instr × Nat × Nat) := [(0, .aload 0, 1, 0), (1, .getfield 501, 4, 19), (4, .iload 2, 5, 0), (5, .iload 3, 6, 0), (6, .iload 4, 8, 1), (8, .ineg, 9, 0), (9, .invokevirtual 2, 12, 116), (12, .aload 0, 13, 0), (13, .getfield 503, 16, 33), (16, .iload 1, 17, 0), (17, .iload 2, 18, 0), (18, .iload 3, 19, 0), (19, .iconst (-1), 20, 0), (20, .iload 4, 22, 1), (22, .aload 0, 23, 0), (23, .getfield 507, 26, 51), (26, .invokevirtual 13, 29, 119), (29, .return_, 30, 0)]
def mm_o85 : List (Nat × Instr × Nat × Nat) := [(0, .iconst (0), 1, 0), (1, .istore 2, 2, 0), (2, .iconst (0), 3, 0), (3, .istore 3, 4, 0), (4, .iload 3, 5, 0), (5, .iconst (20), 7, 1), (7, .if_icmp .ge 0, 10, 68), (10, .aload 0, 11, 0), (11, .iload 1, 12, 0), (12, .invokevirtual 86, 15, 304), (15, .istore 4, 17, 1), (17, .iload 4, 19, 1), (19, .iconst (-1), 20, 0), (20, .if_icmp .ne 0, 23, 27), (23, .iconst (-1), 24, 0), (24, .goto 0, 37, 0), (27, .aload 0, 28, 0), (28, .getfield 502, 31, 26), (31, .iload 1, 32, 0), (32, .iload 4, 34, 1), (34, .invokevirtual 29, 37, 307), (37, .istore 5, 39, 1), (39, .iload 5, 41, 1), (41, .iconst (-1), 42, 0), (42, .if_icmp .ne 0, 45, 47), (45, .iload 2, 46, 0), (46, .ireturn, 47, 0), (47, .aload 0, 48, 0), (48, .getfield 502, 51, 26), (51, .getfield 402, 54, 183), (54, .iload 5, 56, 1), (56, .iconst (98), 58, 1), (58, .castore, 59, 0), (59, .iinc 2 1, 62, 0), (62, .iinc 3 1, 65, 0), (65, .goto 0, 4, 0), (68, .iload 2, 69, 0), (69, .ireturn, 70, 0)]
def mm_o86 : List (Nat × Instr × Nat × Nat) := [(0, .iconst (60), 2, 1), (2, .istore 2, 3, 0), (3, .iload 2, 4, 0), (4, .ifCond .lt 0, 7, 34), (7, .aload 0, 8, 0), (8, .iload 1, 9, 0), (9, .aload 0, 10, 0), (10, .getfield 507, 13, 51), (13, .iload 2, 14, 0), (14, .iadd, 15, 0), (15, .invokevirtual 87, 18, 310), (18, .ifCond .ge 0, 21, 28), (21, .aload 0, 22, 0), (22, .getfield 507, 25, 51), (25, .iload 2, 26, 0), (26, .iadd, 27, 0), (27, .ireturn, 28, 0), (28, .iinc 2 (-1), 31, 0), (31, .goto 0, 3, 0), (34, .iconst (-1), 35, 0), (35, .ireturn, 36, 0)]
def mm_o87 : List (Nat × Instr × Nat × Nat) := [(0, .aload 0, 1, 0), (1, .getfield 501, 4, 19), (4, .iload 1, 5, 0), (5, .iload 2, 6, 0), (6, .invokevirtual 4, 9, 253), (9, .aload 0, 10, 0), (10, .getfield 502, 13, 26), (13, .iload 1, 14, 0), (14, .iload 2, 15, 0), (15, .invokevirtual 28, 18, 313), (18, .isub, 19, 0), (19, .ireturn, 20, 0)]
def mm_o88 : List (Nat × Instr × Nat × Nat) := [(0, .aload 0, 1, 0), (1, .iload 1, 2, 0), (2, .aload 0, 3, 0), (3, .getfield 507, 6, 51), (6, .invokevirtual 87, 9, 310), (9, .istore 3, 10, 0), (10, .iload 2, 11, 0), (11, .aload 0, 12, 0), (12, .getfield 507, 15, 51), (15, .isub, 16, 0), (16, .iconst (60), 18, 1), (18, .invokestatic 1001, 21, 316), (21, .istore 4, 23, 1), (23, .iconst (1), 24, 0), (24, .istore 5, 26, 1), (26, .iload 5, 28, 1), (28, .iload 4, 30, 1), (30, .if_icmp .gt 0, 33, 56), (33, .iload 3, 34, 0), (34, .aload 0, 35, 0), (35, .iload 1, 36, 0), (36, .aload 0, 37, 0), (37, .getfield 507, 40, 51), (40, .iload 5, 42, 1), (42, .iadd, 43, 0), (43, .invokevirtual 87, 46, 310), (46, .invokestatic 1001, 49, 316), (49, .istore 3, 50, 0), (50, .iinc 5 1, 53, 0), (53, .goto 0, 26, 0), (56, .iload 3, 57, 0), (57, .ireturn, 58, 0)]
def mm_o89 : List (Nat × Instr × Nat × Nat) := [(0, .iconst (0), 1, 0), (1, .istore 5, 3, 1), (3, .iload 5, 5, 1), (5, .iconst (6), 7, 1), (7, .if_icmp .ge 0, 10, 24), (10, .aload 0, 11, 0), (11, .getfield 505, 14, 44), (14, .iload 5, 16, 1), (16, .iconst (0), 17, 0), (17, .iastore, 18, 0), (18, .iinc 5 1, 21, 0), (21, .goto 0, 3, 0), (24, .aload 0, 25, 0), (25, .iload 1, 26, 0), (26, .iload 2, 27, 0), (27, .iload 3, 28, 0), (28, .invokevirtual 90, 31, 321), (31, .istore 5, 33, 1), (33, .iload 4, 35, 1), (35, .ifCond .ne 0, 38, 41), (38, .iload 5, 40, 1), (40, .ireturn, 41, 0), (41, .iconst (1), 42, 0), (42, .istore 6, 44, 1), (44, .iload 6, 46, 1), (46, .iconst (9), 48, 1), (48, .if_icmp .gt 0, 51, 106), (51, .iconst (0), 52, 0), (52, .istore 7, 54, 1), (54, .iload 7, 56, 1), (56, .aload 0, 57, 0), (57, .getfield 500, 60, 10), (60, .getfield 100, 63, 62), (63, .if_icmp .ge 0, 66, 100), (66, .aload 0, 67, 0), (67, .getfield 500, 70, 10), (70, .getfield 102, 73, 87), (73, .iload 1, 74, 0), (74, .aaload, 75, 0), (75, .iload 7, 77, 1), (77, .iaload, 78, 0), (78, .iload 6, 80, 1), (80, .if_icmp .ne 0, 83, 94), (83, .aload 0, 84, 0), (84, .iload 7, 86, 1), (86, .iload 5, 88, 1), (88, .iload 3, 89, 0), (89, .invokevirtual 90, 92, 321), (92, .istore 5, 94, 1), (94, .iinc 7 1, 97, 0), (97, .goto 0, 54, 0), (100, .iinc 6 1, 103, 0), (103, .goto 0, 44, 0), (106, .iload 5, 108, 1), (108, .ireturn, 109, 0)]
def mm_o90 : List (Nat × Instr × Nat × Nat) := [(0, .iload 2, 1, 0), (1, .ifCond .le 0, 4, 20), (4, .aload 0, 5, 0), (5, .getfield 505, 8, 44), (8, .iload 1, 9, 0), (9, .iload 2, 10, 0), (10, .aload 0, 11, 0), (11, .iload 1, 12, 0), (12, .iload 3, 13, 0), (13, .invokevirtual 88, 16, 212), (16, .invokestatic 1001, 19, 316), (19, .iastore, 20, 0), (20, .iload 2, 21, 0), (21, .aload 0, 22, 0), (22, .getfield 505, 25, 44), (25, .iload 1, 26, 0), (26, .iaload, 27, 0), (27, .isub, 28, 0), (28, .ireturn, 29, 0)]
def mm_o91 : List (Nat × Instr × Nat × Nat) := [(0, .aload 0, 1, 0), (1, .getfield 501, 4, 19), (4, .getfield 5, 7, 136), (7, .iconst (0), 8, 0), (8, .aload 0, 9, 0), (9, .getfield 506, 12, 48), (12, .iconst (0), 13, 0), (13, .iconst (24), 15, 1), (15, .invokestatic 1003, 18, 325), (18, .aload 0, 19, 0), (19, .iload 1, 20, 0), (20, .iload 2, 21, 0), (21, .iload 3, 22, 0), (22, .invokevirtual 92, 25, 331), (25, .ifCond .ne 0, 28, 30), (28, .iconst (0), 29, 0), (29, .ireturn, 30, 0), (30, .iconst (0), 31, 0), (31, .istore 4, 33, 1), (33, .iload 4, 35, 1), (35, .aload 0, 36, 0), (36, .getfield 502, 39, 26), (39, .getfield 400, 42, 165), (42, .if_icmp .ge 0, 45, 98), (45, .aload 0, 46, 0), (46, .getfield 502, 49, 26), (49, .getfield 402, 52, 183), (52, .iload 4, 54, 1), (54, .caload, 55, 0), (55, .iconst (111), 57, 1), (57, .if_icmp .ne 0, 60, 92), (60, .aload 0, 61, 0), (61, .iload 1, 62, 0), (62, .aload 0, 63, 0), (63, .getfield 502, 66, 26), (66, .getfield 401, 69, 334), (69, .iload 4, 71, 1), (71, .iaload, 72, 0), (72, .aload 0, 73, 0), (73, .getfield 502, 76, 26), (76, .getfield 403, 79, 210), (79, .iload 4, 81, 1), (81, .aaload, 82, 0), (82, .iload 1, 83, 0), (83, .iaload, 84, 0), (84, .invokevirtual 92, 87, 331), (87, .ifCond .ne 0, 90, 92), (90, .iconst (0), 91, 0), (91, .ireturn, 92, 0), (92, .iinc 4 1, 95, 0), (95, .goto 0, 33, 0), (98, .iconst (1), 99, 0), (99, .ireturn, 100, 0)]
def mm_o92 : List (Nat × Instr × Nat × Nat) := [(0, .iload 3, 1, 0), (1, .istore 4, 3, 1), (3, .iconst (0), 4, 0), (4, .istore 5, 6, 1), (6, .iload 5, 8, 1), (8, .aload 0, 9, 0), (9, .getfield 501, 12, 19), (12, .getfield 0, 15, 100), (15, .if_icmp .ge 0, 18, 88), (18, .iload 4, 20, 1), (20, .ifCond .le 0, 23, 88), (23, .aload 0, 24, 0), (24, .getfield 501, 27, 19), (27, .getfield 3, 30, 337), (30, .iload 5, 32, 1), (32, .iaload, 33, 0), (33, .istore 6, 35, 1), (35, .aload 0, 36, 0), (36, .getfield 501, 39, 19), (39, .iload 6, 41, 1), (41, .iload 1, 42, 0), (42, .iload 2, 43, 0), (43, .invokevirtual 3, 46, 340), (46, .ifCond .eq 0, 49, 82), (49, .iload 4, 51, 1), (51, .aload 0, 52, 0), (52, .getfield 506, 55, 48), (55, .iload 6, 57, 1), (57, .iaload, 58, 0), (58, .invokestatic 1001, 61, 316), (61, .istore 7, 63, 1), (63, .aload 0, 64, 0), (64, .getfield 506, 67, 48), (67, .iload 6, 69, 1), (69, .dup2, 70, 0), (70, .iaload, 71, 0), (71, .iload 7, 73, 1), (73, .isub, 74, 0), (74, .iastore, 75, 0), (75, .iload 4, 77, 1), (77, .iload 7, 79, 1), (79, .isub, 80, 0), (80, .istore 4, 82, 1), (82, .iinc 5 1, 85, 0), (85, .goto 0, 6, 0), (88, .iload 4, 90, 1), (90, .ifCond .ne 0, 93, 97), (93, .iconst (1), 94, 0), (94, .goto 0, 98, 0), (97, .iconst (0), 98, 0), (98, .ireturn, 99, 0)]
def mm_o93 : List (Nat × Instr × Nat × Nat) := [(0, .aload 0, 1, 0), (1, .iload 1, 2, 0), (2, .invokevirtual 76, 5, 177), (5, .aload 0, 6, 0), (6, .getfield 502, 9, 26), (9, .getfield 402, 12, 183), (12, .iload 1, 13, 0), (13, .caload, 14, 0), (14, .istore 2, 15, 0), (15, .iload 2, 16, 0), (16, .iconst (111), 18, 1), (18, .if_icmp .eq 0, 21, 38), (21, .iload 2, 22, 0), (22, .iconst (112), 24, 1), (24, .if_icmp .eq 0, 27, 38), (27, .athrow, 30, 25), (38, .iload 2, 39, 0), (39, .iconst (111), 41, 1), (41, .if_icmp .ne 0, 44, 52), (44, .aload 0, 45, 0), (45, .iload 1, 46, 0), (46, .invokevirtual 94, 49, 190), (49, .goto 0, 57, 0), (52, .aload 0, 53, 0), (53, .iload 1, 54, 0), (54, .invokevirtual 97, 57, 345), (57, .return_, 58, 0)]
def mm_o94 : List (Nat × Instr × Nat × Nat) := [(0, .aload 0, 1, 0), (1, .getfield 504, 4, 40), (4, .iconst (0), 5, 0), (5, .putfield 300, 8, 193), (8, .iconst (0), 9, 0), (9, .istore 2, 10, 0), (10, .iload 2, 11, 0), (11, .aload 0, 12, 0), (12, .getfield 500, 15, 10), (15, .getfield 100, 18, 62), (18, .if_icmp .ge 0, 21, 52), (21, .aload 0, 22, 0), (22, .iload 2, 23, 0), (23, .aload 0, 24, 0), (24, .getfield 502, 27, 26), (27, .getfield 401, 30, 334), (30, .iload 1, 31, 0), (31, .iaload, 32, 0), (32, .aload 0, 33, 0), (33, .getfield 502, 36, 26), (36, .getfield 403, 39, 210), (39, .iload 1, 40, 0), (40, .aaload, 41, 0), (41, .iload 2, 42, 0), (42, .iaload, 43, 0), (43, .invokevirtual 95, 46, 348), (46, .iinc 2 1, 49, 0), (49, .goto 0, 10, 0), (52, .return_, 53, 0)]
def mm_o95 : List (Nat × Instr × Nat × Nat) := [(0, .iload 3, 1, 0), (1, .istore 4, 3, 1), (3, .iconst (0), 4, 0), (4, .istore 5, 6, 1), (6, .iload 5, 8, 1), (8, .aload 0, 9, 0), (9, .getfield 501, 12, 19), (12, .getfield 0, 15, 100), (15, .if_icmp .ge 0, 18, 68), (18, .iload 4, 20, 1), (20, .ifCond .le 0, 23, 68), (23, .aload 0, 24, 0), (24, .getfield 501, 27, 19), (27, .getfield 3, 30, 337), (30, .iload 5, 32, 1), (32, .iaload, 33, 0), (33, .istore 6, 35, 1), (35, .aload 0, 36, 0), (36, .getfield 501, 39, 19), (39, .iload 6, 41, 1), (41, .iload 1, 42, 0), (42, .iload 2, 43, 0), (43, .invokevirtual 3, 46, 340), (46, .ifCond .eq 0, 49, 62), (49, .iload 4, 51, 1), (51, .aload 0, 52, 0), (52, .iload 6, 54, 1), (54, .iload 4, 56, 1), (56, .invokevirtual 96, 59, 351), (59, .isub, 60, 0), (60, .istore 4, 62, 1), (62, .iinc 5 1, 65, 0), (65, .goto 0, 6, 0), (68, .return_, 69, 0)]
def mm_o96 : List (Nat × Instr × Nat × Nat) := [(0, .iconst (0), 1, 0), (1, .istore 3, 2, 0), (2, .iconst (0), 3, 0), (3, .istore 4, 5, 1), (5, .iload 4, 7, 1), (7, .iconst (40), 9, 1), (9, .if_icmp .ge 0, 12, 72), (12, .iload 3, 13, 0), (13, .iload 2, 14, 0), (14, .if_icmp .ge 0, 17, 72), (17, .iload 4, 19, 1), (19, .invokestatic 83, 22, 149), (22, .istore 5, 24, 1), (24, .iload 2, 25, 0), (25, .iload 3, 26, 0), (26, .isub, 27, 0), (27, .aload 0, 28, 0), (28, .getfield 501, 31, 19), (31, .getfield 4, 34, 126), (34, .iload 1, 35, 0), (35, .aaload, 36, 0), (36, .iload 5, 38, 1), (38, .iaload, 39, 0), (39, .invokestatic 1001, 42, 316), (42, .istore 6, 44, 1), (44, .iload 6, 46, 1), (46, .ifCond .le 0, 49, 66), (49, .aload 0, 50, 0), (50, .getfield 504, 53, 40), (53, .iload 5, 55, 1), (55, .iload 1, 56, 0), (56, .iload 6, 58, 1), (58, .invokevirtual 18, 61, 354), (61, .iload 3, 62, 0), (62, .iload 6, 64, 1), (64, .iadd, 65, 0), (65, .istore 3, 66, 0), (66, .iinc 4 1, 69, 0), (69, .goto 0, 5, 0), (72, .iload 3, 73, 0), (73, .ireturn, 74, 0)]
def mm_o97 : List (Nat × Instr × Nat × Nat) := [(0, .aload 0, 1, 0), (1, .getfield 504, 4, 40), (4, .iconst (0), 5, 0), (5, .putfield 300, 8, 193), (8, .aload 0, 9, 0), (9, .getfield 502, 12, 26), (12, .getfield 404, 15, 194), (15, .iload 1, 16, 0), (16, .iaload, 17, 0), (17, .istore 2, 18, 0), (18, .iload 2, 19, 0), (19, .aload 0, 20, 0), (20, .getfield 502, 23, 26), (23, .getfield 405, 26, 198), (26, .iload 1, 27, 0), (27, .iaload, 28, 0), (28, .iadd, 29, 0), (29, .aload 0, 30, 0), (30, .getfield 503, 33, 33), (33, .getfield 200, 36, 197), (36, .invokestatic 1001, 39, 316), (39, .istore 3, 40, 0), (40, .iload 2, 41, 0), (41, .istore 4, 43, 1), (43, .iload 4, 45, 1), (45, .iload 3, 46, 0), (46, .if_icmp .ge 0, 49, 92), (49, .aload 0, 50, 0), (50, .getfield 504, 53, 40), (53, .aload 0, 54, 0), (54, .getfield 503, 57, 33), (57, .getfield 203, 60, 268), (60, .iload 4, 62, 1), (62, .iaload, 63, 0), (63, .aload 0, 64, 0), (64, .getfield 503, 67, 33), (67, .getfield 202, 70, 265), (70, .iload 4, 72, 1), (72, .iaload, 73, 0), (73, .aload 0, 74, 0), (74, .getfield 503, 77, 33), (77, .getfield 205, 80, 274), (80, .iload 4, 82, 1), (82, .iaload, 83, 0), (83, .invokevirtual 18, 86, 354), (86, .iinc 4 1, 89, 0), (89, .goto 0, 43, 0), (92, .return_, 93, 0)]
def mm_o98 : List (Nat × Instr × Nat × Nat) := [(0, .iconst (20), 2, 1), (2, .istore 2, 3, 0), (3, .iconst (0), 4, 0), (4, .istore 3, 5, 0), (5, .iload 3, 6, 0), (6, .aload 0, 7, 0), (7, .getfield 501, 10, 19), (10, .getfield 0, 13, 100), (13, .if_icmp .ge 0, 16, 57), (16, .aload 0, 17, 0), (17, .getfield 501, 20, 19), (20, .getfield 4, 23, 126), (23, .iload 3, 24, 0), (24, .aaload, 25, 0), (25, .iload 1, 26, 0), (26, .iaload, 27, 0), (27, .ifCond .le 0, 30, 51), (30, .iload 2, 31, 0), (31, .aload 0, 32, 0), (32, .getfield 500, 35, 10), (35, .aload 0, 36, 0), (36, .getfield 501, 39, 19), (39, .getfield 1, 42, 159), (42, .iload 3, 43, 0), (43, .iaload, 44, 0), (44, .invokevirtual 11, 47, 357), (47, .invokestatic 1001, 50, 316), (50, .istore 2, 51, 0), (51, .iinc 3 1, 54, 0), (54, .goto 0, 5, 0), (57, .aload 0, 58, 0), (58, .getfield 501, 61, 19), (61, .getfield 7, 64, 156), (64, .iload 1, 65, 0), (65, .iaload, 66, 0), (66, .iload 2, 67, 0), (67, .iadd, 68, 0), (68, .ireturn, 69, 0)]
def mm_o99 : List (Nat × Instr × Nat × Nat) := []
def mm_o100 : List (Nat × Instr × Nat × Nat) := [(0, .aload 0, 1, 0), (1, .getfield 626, 4, 91), (4, .ireturn, 5, 0)]
def mm_o101 : List (Nat × Instr × Nat × Nat) := [(0, .aload 0, 1, 0), (1, .iload 1, 2, 0), (2, .putfield 626, 5, 91), (5, .iconst (0), 6, 0), (6, .ireturn, 7, 0)]
def mm_o102 : List (Nat × Instr × Nat × Nat) := [(0, .iload 0, 1, 0), (1, .iload 1, 2, 0), (2, .if_icmp .lt 0, 5, 14), (5, .iload 0, 6, 0), (6, .iload 2, 7, 0), (7, .if_icmp .gt 0, 10, 14), (10, .iconst (1), 11, 0), (11, .goto 0, 15, 0), (14, .iconst (0), 15, 0), (15, .ireturn, 16, 0)]
def mm_o103 : List (Nat × Instr × Nat × Nat) := [(0, .iload 1, 1, 0), (1, .iconst (0), 2, 0), (2, .aload 0, 3, 0), (3, .getfield 602, 6, 95), (6, .iconst (1), 7, 0), (7, .isub, 8, 0), (8, .invokestatic 102, 11, 98), (11, .ireturn, 12, 0)]
def mm_o104 : List (Nat × Instr × Nat × Nat) := [(0, .iload 1, 1, 0), (1, .iconst (0), 2, 0), (2, .aload 0, 3, 0), (3, .getfield 608, 6, 102), (6, .iconst (1), 7, 0), (7, .isub, 8, 0), (8, .invokestatic 102, 11, 98), (11, .ireturn, 12, 0)]
def mm_o105 : List (Nat × Instr × Nat × Nat) := [(0, .iload 0, 1, 0), (1, .iconst (0), 2, 0), (2, .iconst (39), 4, 1), (4, .invokestatic 102, 7, 98), (7, .ireturn, 8, 0)]
def mm_o106 : List (Nat × Instr × Nat × Nat) := [(0, .iload 1, 1, 0), (1, .iconst (0), 2, 0), (2, .aload 0, 3, 0), (3, .getfield 617, 6, 105), (6, .iconst (1), 7, 0), (7, .isub, 8, 0), (8, .invokestatic 102, 11, 98), (11, .ireturn, 12, 0)]
def mm_o107 : List (Nat × Instr × Nat × Nat) := [(0, .iload 0, 1, 0), (1, .iconst (10), 3, 1), (3, .idiv, 4, 0), (4, .iconst (2), 5, 0), (5, .irem, 6, 0), (6, .ifCond .ne 0, 9, 13), (9, .iload 0, 10, 0), (10, .goto 0, 28, 0), (13, .iload 0, 14, 0), (14, .iconst (10), 16, 1), (16, .idiv, 17, 0), (17, .iconst (10), 19, 1), (19, .imul, 20, 0), (20, .iconst (9), 22, 1), (22, .iadd, 23, 0), (23, .iload 0, 24, 0), (24, .iconst (10), 26, 1), (26, .irem, 27, 0), (27, .isub, 28, 0), (28, .ireturn, 29, 0)]
def mm_o108 : List (Nat × Instr × Nat × Nat) := [(0, .iconst (0), 1, 0), (1, .istore 2, 2, 0), (2, .iconst (0), 3, 0), (3, .istore 3, 4, 0), (4, .iload 3, 5, 0), (5, .aload 0, 6, 0), (6, .getfield 608, 9, 102), (9, .if_icmp .ge 0, 12, 29), (12, .iload 2, 13, 0), (13, .aload 0, 14, 0), (14, .getfield 605, 17, 25), (17, .iload 3, 18, 0), (18, .aaload, 19, 0), (19, .iload 1, 20, 0), (20, .iaload, 21, 0), (21, .iadd, 22, 0), (22, .istore 2, 23, 0), (23, .iinc 3 1, 26, 0), (26, .goto 0, 4, 0), (29, .iload 2, 30, 0), (30, .ireturn, 31, 0)]
def mm_o109 : List (Nat × Instr × Nat × Nat) := [(0, .aload 0, 1, 0), (1, .getfield 618, 4, 58), (4, .aload 0, 5, 0), (5, .getfield 624, 8, 108), (8, .iload 1, 9, 0), (9, .castore, 10, 0), (10, .aload 0, 11, 0), (11, .getfield 619, 14, 61), (14, .aload 0, 15, 0), (15, .getfield 624, 18, 108), (18, .iload 2, 19, 0), (19, .iastore, 20, 0), (20, .aload 0, 21, 0), (21, .getfield 620, 24, 64), (24, .aload 0, 25, 0), (25, .getfield 624, 28, 108), (28, .iload 3, 29, 0), (29, .iastore, 30, 0), (30, .aload 0, 31, 0), (31, .getfield 621, 34, 67), (34, .aload 0, 35, 0), (35, .getfield 624, 38, 108), (38, .iload 4, 40, 1), (40, .iastore, 41, 0), (41, .aload 0, 42, 0), (42, .getfield 622, 45, 70), (45, .aload 0, 46, 0), (46, .getfield 624, 49, 108), (49, .iload 5, 51, 1), (51, .iastore, 52, 0), (52, .aload 0, 53, 0), (53, .getfield 623, 56, 73), (56, .aload 0, 57, 0), (57, .getfield 624, 60, 108), (60, .aload 0, 61, 0), (61, .getfield 625, 64, 111), (64, .iastore, 65, 0), (65, .aload 0, 66, 0), (66, .dup, 67, 0), (67, .getfield 624, 70, 108), (70, .iconst (1), 71, 0), (71, .iadd, 72, 0), (72, .putfield 624, 75, 108), (75, .return_, 76, 0)]
def mm_o110 : List (Nat × Instr × Nat × Nat) := [(0, .aload 0, 1, 0), (1, .getfield 605, 4, 25), (4, .iload 1, 5, 0), (5, .aaload, 6, 0), (6, .iload 2, 7, 0), (7, .dup2, 8, 0), (8, .iaload, 9, 0), (9, .iload 3, 10, 0), (10, .iadd, 11, 0), (11, .iastore, 12, 0), (12, .aload 0, 13, 0), (13, .getfield 606, 16, 28), (16, .iload 1, 17, 0), (17, .dup2, 18, 0), (18, .iaload, 19, 0), (19, .iload 3, 20, 0), (20, .iadd, 21, 0), (21, .iastore, 22, 0), (22, .return_, 23, 0)]
def mm_o111 : List (Nat × Instr × Nat × Nat) := [(0, .aload 0, 1, 0), (1, .iload 1, 2, 0), (2, .iconst (65), 4, 1), (4, .if_icmp .eq 0, 7, 23), (7, .iload 1, 8, 0), (8, .iconst (66), 10, 1), (10, .if_icmp .eq 0, 13, 23), (13, .iload 1, 14, 0), (14, .iconst (67), 16, 1), (16, .if_icmp .eq 0, 19, 23), (19, .iconst (1), 20, 0), (20, .goto 0, 37, 0), (23, .aload 0, 24, 0), (24, .getfield 602, 27, 95), (27, .iconst (6), 29, 1), (29, .if_icmp .ne 0, 32, 36), (32, .iconst (2), 33, 0), (33, .goto 0, 37, 0), (36, .iconst (0), 37, 0), (37, .putfield 626, 40, 91), (40, .aload 0, 41, 0), (41, .getfield 626, 44, 91), (44, .ifCond .le 0, 47, 49), (47, .iconst (0), 48, 0), (48, .ireturn, 49, 0), (49, .aload 0, 50, 0), (50, .getfield 600, 53, 9), (53, .aload 0, 54, 0), (54, .getfield 602, 57, 95), (57, .iload 1, 58, 0), (58, .castore, 59, 0), (59, .aload 0, 60, 0), (60, .dup, 61, 0), (61, .getfield 602, 64, 95), (64, .iconst (1), 65, 0), (65, .iadd, 66, 0), (66, .putfield 602, 69, 95), (69, .aload 0, 70, 0), (70, .getfield 602, 73, 95), (73, .iconst (1), 74, 0), (74, .isub, 75, 0), (75, .ireturn, 76, 0)]
def mm_o112 : List (Nat × Instr × Nat × Nat) := [(0, .aload 0, 1, 0), (1, .aload 0, 2, 0), (2, .iload 1, 3, 0), (3, .invokevirtual 103, 6, 114), (6, .ifCond .eq 0, 9, 17), (9, .aload 0, 10, 0), (10, .iload 2, 11, 0), (11, .invokevirtual 103, 14, 114), (14, .ifCond .ne 0, 17, 21), (17, .iconst (1), 18, 0), (18, .goto 0, 60, 0), (21, .iload 3, 22, 0), (22, .iconst (1), 23, 0), (23, .iconst (9), 25, 1), (25, .invokestatic 102, 28, 98), (28, .ifCond .ne 0, 31, 35), (31, .iconst (2), 32, 0), (32, .goto 0, 60, 0), (35, .iload 1, 36, 0), (36, .iload 2, 37, 0), (37, .if_icmp .ne 0, 40, 44), (40, .iconst (3), 41, 0), (41, .goto 0, 60, 0), (44, .aload 0, 45, 0), (45, .getfield 601, 48, 15), (48, .iload 1, 49, 0), (49, .aaload, 50, 0), (50, .iload 2, 51, 0), (51, .iaload, 52, 0), (52, .ifCond .le 0, 55, 59), (55, .iconst (4), 56, 0), (56, .goto 0, 60, 0), (59, .iconst (0), 60, 0), (60, .putfield 626, 63, 91), (63, .aload 0, 64, 0), (64, .getfield 626, 67, 91), (67, .ifCond .le 0, 70, 72), (70, .iconst (0), 71, 0), (71, .ireturn, 72, 0), (72, .aload 0, 73, 0), (73, .getfield 601, 76, 15), (76, .iload 1, 77, 0), (77, .aaload, 78, 0), (78, .iload 2, 79, 0), (79, .iload 3, 80, 0), (80, .iastore, 81, 0), (81, .iconst (0), 82, 0), (82, .istore 4, 84, 1), (84, .iconst (0), 85, 0), (85, .istore 5, 87, 1), (87, .iload 5, 89, 1), (89, .aload 0, 90, 0), (90, .getfield 602, 93, 95), (93, .if_icmp .ge 0, 96, 124), (96, .iload 4, 98, 1), (98, .aload 0, 99, 0), (99, .getfield 601, 102, 15), (102, .iload 1, 103, 0), (103, .aaload, 104, 0), (104, .iload 5, 106, 1), (106, .iaload, 107, 0), (107, .ifCond .le 0, 110, 114), (110, .iconst (1), 111, 0), (111, .goto 0, 115, 0), (114, .iconst (0), 115, 0), (115, .iadd, 116, 0), (116, .istore 4, 118, 1), (118, .iinc 5 1, 121, 0), (121, .goto 0, 87, 0), (124, .iload 4, 126, 1), (126, .ireturn, 127, 0)]
def mm_o113 : List (Nat × Instr × Nat × Nat) := [(0, .aload 0, 1, 0), (1, .iload 1, 2, 0), (2, .invokevirtual 103, 5, 114), (5, .ifCond .eq 0, 8, 16), (8, .iload 4, 10, 1), (10, .invokestatic 105, 13, 118), (13, .ifCond .ne 0, 16, 22), (16, .aload 0, 17, 0), (17, .iconst (1), 18, 0), (18, .invokevirtual 101, 21, 121), (21, .ireturn, 22, 0), (22, .iload 2, 23, 0), (23, .iconst (1), 24, 0), (24, .iconst (30), 26, 1), (26, .invokestatic 102, 29, 98), (29, .ifCond .eq 0, 32, 50), (32, .iload 3, 33, 0), (33, .aload 0, 34, 0), (34, .getfield 625, 37, 111), (37, .aload 0, 38, 0), (38, .getfield 625, 41, 111), (41, .iconst (99), 43, 1), (43, .iadd, 44, 0), (44, .invokestatic 102, 47, 98), (47, .ifCond .ne 0, 50, 56), (50, .aload 0, 51, 0), (51, .iconst (2), 52, 0), (52, .invokevirtual 101, 55, 121), (55, .ireturn, 56, 0), (56, .aload 0, 57, 0), (57, .getfield 608, 60, 102), (60, .iconst (24), 62, 1), (62, .if_icmp .eq 0, 65, 75), (65, .aload 0, 66, 0), (66, .getfield 624, 69, 108), (69, .iconst (150), 72, 2), (72, .if_icmp .ne 0, 75, 81), (75, .aload 0, 76, 0), (76, .iconst (3), 77, 0), (77, .invokevirtual 101, 80, 121), (80, .ireturn, 81, 0), (81, .aload 0, 82, 0), (82, .iload 4, 84, 1), (84, .invokevirtual 108, 87, 125), (87, .iload 2, 88, 0), (88, .iadd, 89, 0), (89, .iconst (30), 91, 1), (91, .if_icmp .le 0, 94, 100), (94, .aload 0, 95, 0), (95, .iconst (4), 96, 0), (96, .invokevirtual 101, 99, 121), (99, .ireturn, 100, 0), (100, .aload 0, 101, 0), (101, .iconst (0), 102, 0), (102, .putfield 626, 105, 91), (105, .aload 0, 106, 0), (106, .getfield 608, 109, 102), (109, .istore 5, 111, 1), (111, .iload 5, 113, 1), (113, .ifCond .le 0, 116, 156), (116, .aload 0, 117, 0), (117, .getfield 604, 120, 22), (120, .aload 0, 121, 0), (121, .getfield 607, 124, 31), (124, .iload 5, 126, 1), (126, .iconst (1), 127, 0), (127, .isub, 128, 0), (128, .iaload, 129, 0), (129, .iaload, 130, 0), (130, .iload 3, 131, 0), (131, .if_icmp .le 0, 134, 156), (134, .aload 0, 135, 0), (135, .getfield 607, 138, 31), (138, .iload 5, 140, 1), (140, .aload 0, 141, 0), (141, .getfield 607, 144, 31), (144, .iload 5, 146, 1), (146, .iconst (1), 147, 0), (147, .isub, 148, 0), (148, .iaload, 149, 0), (149, .iastore, 150, 0), (150, .iinc 5 (-1), 153, 0), (153, .goto 0, 111, 0), (156, .aload 0, 157, 0), (157, .getfield 607, 160, 31), (160, .iload 5, 162, 1), (162, .aload 0, 163, 0), (163, .getfield 608, 166, 102), (166, .iastore, 167, 0), (167, .aload 0, 168, 0), (168, .getfield 603, 171, 18), (171, .aload 0, 172, 0), (172, .getfield 608, 175, 102), (175, .iload 1, 176, 0), (176, .iastore, 177, 0), (177, .aload 0, 178, 0), (178, .getfield 604, 181, 22), (181, .aload 0, 182, 0), (182, .getfield 608, 185, 102), (185, .iload 3, 186, 0), (186, .iastore, 187, 0), (187, .aload 0, 188, 0), (188, .aload 0, 189, 0), (189, .getfield 608, 192, 102), (192, .iload 4, 194, 1), (194, .iload 2, 195, 0), (195, .invokevirtual 110, 198, 128), (198, .aload 0, 199, 0), (199, .iconst (114), 201, 1), (201, .aload 0, 202, 0), (202, .getfield 608, 205, 102), (205, .iconst (-1), 206, 0), (206, .iload 4, 208, 1), (208, .iload 2, 209, 0), (209, .invokevirtual 109, 212, 132), (212, .aload 0, 213, 0), (213, .dup, 214, 0), (214, .getfield 608, 217, 102), (217, .iconst (1), 218, 0), (218, .iadd, 219, 0), (219, .putfield 608, 222, 102), (222, .aload 0, 223, 0), (223, .getfield 608, 226, 102), (226, .iconst (1), 227, 0), (227, .isub, 228, 0), (228, .ireturn, 229, 0)]
def mm_o114 : List (Nat × Instr × Nat × Nat) := [(0, .aload 0, 1, 0), (1, .iload 1, 2, 0), (2, .invokevirtual 104, 5, 136), (5, .ifCond .eq 0, 8, 22), (8, .iload 2, 9, 0), (9, .invokestatic 105, 12, 118), (12, .ifCond .eq 0, 15, 22), (15, .iload 3, 16, 0), (16, .invokestatic 105, 19, 118), (19, .ifCond .ne 0, 22, 28), (22, .aload 0, 23, 0), (23, .iconst (1), 24, 0), (24, .invokevirtual 101, 27, 121), (27, .ireturn, 28, 0), (28, .iload 4, 30, 1), (30, .iconst (1), 31, 0), (31, .iconst (30), 33, 1), (33, .invokestatic 102, 36, 98), (36, .ifCond .ne 0, 39, 45), (39, .aload 0, 40, 0), (40, .iconst (2), 41, 0), (41, .invokevirtual 101, 44, 121), (44, .ireturn, 45, 0), (45, .aload 0, 46, 0), (46, .getfield 624, 49, 108), (49, .iconst (150), 52, 2), (52, .if_icmp .ne 0, 55, 61), (55, .aload 0, 56, 0), (56, .iconst (3), 57, 0), (57, .invokevirtual 101, 60, 121), (60, .ireturn, 61, 0), (61, .aload 0, 62, 0), (62, .getfield 605, 65, 25), (65, .iload 1, 66, 0), (66, .aaload, 67, 0), (67, .iload 2, 68, 0), (68, .iaload, 69, 0), (69, .iload 4, 71, 1), (71, .if_icmp .ge 0, 74, 80), (74, .aload 0, 75, 0), (75, .iconst (4), 76, 0), (76, .invokevirtual 101, 79, 121), (79, .ireturn, 80, 0), (80, .iload 2, 81, 0), (81, .iload 3, 82, 0), (82, .if_icmp .eq 0, 85, 98), (85, .aload 0, 86, 0), (86, .iload 3, 87, 0), (87, .invokevirtual 108, 90, 125), (90, .iload 4, 92, 1), (92, .iadd, 93, 0), (93, .iconst (30), 95, 1), (95, .if_icmp .le 0, 98, 104), (98, .aload 0, 99, 0), (99, .iconst (5), 100, 0), (100, .invokevirtual 101, 103, 121), (103, .ireturn, 104, 0), (104, .aload 0, 105, 0), (105, .iconst (0), 106, 0), (106, .putfield 626, 109, 91), (109, .aload 0, 110, 0), (110, .iload 1, 111, 0), (111, .iload 2, 112, 0), (112, .iload 4, 114, 1), (114, .ineg, 115, 0), (115, .invokevirtual 110, 118, 128), (118, .aload 0, 119, 0), (119, .iload 1, 120, 0), (120, .iload 3, 121, 0), (121, .iload 4, 123, 1), (123, .invokevirtual 110, 126, 128), (126, .aload 0, 127, 0), (127, .iconst (109), 129, 1), (129, .iload 1, 130, 0), (130, .iload 2, 131, 0), (131, .iload 3, 132, 0), (132, .iload 4, 134, 1), (134, .invokevirtual 109, 137, 132), (137, .aload 0, 138, 0), (138, .getfield 605, 141, 25), (141, .iload 1, 142, 0), (142, .aaload, 143, 0), (143, .iload 3, 144, 0), (144, .iaload, 145, 0), (145, .ireturn, 146, 0)]
def mm_o115 : List (Nat × Instr × Nat × Nat) := [(0, .aload 0, 1, 0), (1, .iload 1, 2, 0), (2, .invokevirtual 104, 5, 136), (5, .ifCond .ne 0, 8, 14), (8, .aload 0, 9, 0), (9, .iconst (1), 10, 0), (10, .invokevirtual 101, 13, 121), (13, .ireturn, 14, 0), (14, .iconst (0), 15, 0), (15, .istore 2, 16, 0), (16, .iconst (0), 17, 0), (17, .istore 3, 18, 0), (18, .iload 3, 19, 0), (19, .iconst (40), 21, 1), (21, .if_icmp .ge 0, 24, 49), (24, .iload 2, 25, 0), (25, .aload 0, 26, 0), (26, .getfield 605, 29, 25), (29, .iload 1, 30, 0), (30, .aaload, 31, 0), (31, .iload 3, 32, 0), (32, .iaload, 33, 0), (33, .ifCond .le 0, 36, 40), (36, .iconst (1), 37, 0), (37, .goto 0, 41, 0), (40, .iconst (0), 41, 0), (41, .iadd, 42, 0), (42, .istore 2, 43, 0), (43, .iinc 3 1, 46, 0), (46, .goto 0, 18, 0), (49, .aload 0, 50, 0), (50, .iload 2, 51, 0), (51, .ifCond .ne 0, 54, 58), (54, .iconst (2), 55, 0), (55, .goto 0, 92, 0), (58, .aload 0, 59, 0), (59, .getfield 604, 62, 22), (62, .iload 1, 63, 0), (63, .iaload, 64, 0), (64, .aload 0, 65, 0), (65, .getfield 625, 68, 111), (68, .if_icmp .lt 0, 71, 75), (71, .iconst (3), 72, 0), (72, .goto 0, 92, 0), (75, .aload 0, 76, 0), (76, .getfield 624, 79, 108), (79, .iload 2, 80, 0), (80, .iadd, 81, 0), (81, .iconst (150), 84, 2), (84, .if_icmp .le 0, 87, 91), (87, .iconst (4), 88, 0), (88, .goto 0, 92, 0), (91, .iconst (0), 92, 0), (92, .putfield 626, 95, 91), (95, .aload 0, 96, 0), (96, .getfield 626, 99, 91), (99, .ifCond .le 0, 102, 104), (102, .iconst (0), 103, 0), (103, .ireturn, 104, 0), (104, .aload 0, 105, 0), (105, .getfield 606, 108, 28), (108, .iload 1, 109, 0), (109, .iaload, 110, 0), (110, .istore 3, 111, 0), (111, .iconst (0), 112, 0), (112, .istore 4, 114, 1), (114, .iload 4, 116, 1), (116, .iconst (40), 118, 1), (118, .if_icmp .ge 0, 121, 172), (121, .iload 4, 123, 1), (123, .invokestatic 107, 126, 139), (126, .istore 5, 128, 1), (128, .aload 0, 129, 0), (129, .getfield 605, 132, 25), (132, .iload 1, 133, 0), (133, .aaload, 134, 0), (134, .iload 5, 136, 1), (136, .iaload, 137, 0), (137, .istore 6, 139, 1), (139, .iload 6, 141, 1), (141, .ifCond .le 0, 144, 166), (144, .aload 0, 145, 0), (145, .iload 1, 146, 0), (146, .iload 5, 148, 1), (148, .iload 6, 150, 1), (150, .ineg, 151, 0), (151, .invokevirtual 110, 154, 128), (154, .aload 0, 155, 0), (155, .iconst (100), 157, 1), (157, .iload 1, 158, 0), (158, .iload 5, 160, 1), (160, .iconst (-1), 161, 0), (161, .iload 6, 163, 1), (163, .invokevirtual 109, 166, 132), (166, .iinc 4 1, 169, 0), (169, .goto 0, 114, 0), (172, .iload 3, 173, 0), (173, .ireturn, 174, 0)]
def mm_o116 : List (Nat × Instr × Nat × Nat) := [(0, .iload 1, 1, 0), (1, .invokestatic 105, 4, 118), (4, .ifCond .eq 0, 7, 15), (7, .aload 0, 8, 0), (8, .iload 2, 9, 0), (9, .invokevirtual 104, 12, 136), (12, .ifCond .ne 0, 15, 21), (15, .aload 0, 16, 0), (16, .iconst (1), 17, 0), (17, .invokevirtual 101, 20, 121), (20, .ireturn, 21, 0), (21, .iload 3, 22, 0), (22, .iconst (0), 23, 0), (23, .iconst (30), 25, 1), (25, .invokestatic 102, 28, 98), (28, .ifCond .ne 0, 31, 37), (31, .aload 0, 32, 0), (32, .iconst (2), 33, 0), (33, .invokevirtual 101, 36, 121), (36, .ireturn, 37, 0), (37, .iload 3, 38, 0), (38, .aload 0, 39, 0), (39, .getfield 605, 42, 25), (42, .iload 2, 43, 0), (43, .aaload, 44, 0), (44, .iload 1, 45, 0), (45, .iaload, 46, 0), (46, .isub, 47, 0), (47, .istore 4, 49, 1), (49, .aload 0, 50, 0), (50, .iload 1, 51, 0), (51, .invokevirtual 108, 54, 125), (54, .iload 4, 56, 1), (56, .iadd, 57, 0), (57, .iconst (30), 59, 1), (59, .if_icmp .le 0, 62, 68), (62, .aload 0, 63, 0), (63, .iconst (3), 64, 0), (64, .invokevirtual 101, 67, 121), (67, .ireturn, 68, 0), (68, .iload 4, 70, 1), (70, .ifCond .eq 0, 73, 89), (73, .aload 0, 74, 0), (74, .getfield 624, 77, 108), (77, .iconst (150), 80, 2), (80, .if_icmp .ne 0, 83, 89), (83, .aload 0, 84, 0), (84, .iconst (4), 85, 0), (85, .invokevirtual 101, 88, 121), (88, .ireturn, 89, 0), (89, .aload 0, 90, 0), (90, .iconst (0), 91, 0), (91, .putfield 626, 94, 91), (94, .iload 4, 96, 1), (96, .ifCond .eq 0, 99, 139), (99, .aload 0, 100, 0), (100, .iload 2, 101, 0), (101, .iload 1, 102, 0), (102, .iload 4, 104, 1), (104, .invokevirtual 110, 107, 128), (107, .aload 0, 108, 0), (108, .iconst (99), 110, 1), (110, .iload 2, 111, 0), (111, .iload 4, 113, 1), (113, .ifCond .ge 0, 116, 120), (116, .iload 1, 117, 0), (117, .goto 0, 121, 0), (120, .iconst (-1), 121, 0), (121, .iload 4, 123, 1), (123, .ifCond .le 0, 126, 130), (126, .iload 1, 127, 0), (127, .goto 0, 131, 0), (130, .iconst (-1), 131, 0), (131, .iload 4, 133, 1), (133, .invokestatic 1002, 136, 142), (136, .invokevirtual 109, 139, 132), (139, .aload 0, 140, 0), (140, .getfield 609, 143, 34), (143, .iload 1, 144, 0), (144, .aload 0, 145, 0), (145, .getfield 625, 148, 111), (148, .iastore, 149, 0), (149, .aload 0, 150, 0), (150, .aload 0, 151, 0), (151, .getfield 603, 154, 18), (154, .iload 2, 155, 0), (155, .iaload, 156, 0), (156, .invokevirtual 117, 159, 147), (159, .ireturn, 160, 0)]
def mm_o117 : List (Nat × Instr × Nat × Nat) := [(0, .iconst (0), 1, 0), (1, .istore 2, 2, 0), (2, .aload 0, 3, 0), (3, .iload 1, 4, 0), (4, .invokevirtual 118, 7, 150), (7, .istore 3, 8, 0), (8, .iload 3, 9, 0), (9, .ifCond .lt 0, 12, 82), (12, .aload 0, 13, 0), (13, .getfield 617, 16, 105), (16, .iconst (1), 17, 0), (17, .isub, 18, 0), (18, .istore 4, 20, 1), (20, .aload 0, 21, 0), (21, .getfield 611, 24, 40), (24, .iload 4, 26, 1), (26, .caload, 27, 0), (27, .iconst (111), 29, 1), (29, .if_icmp .ne 0, 32, 55), (32, .aload 0, 33, 0), (33, .getfield 610, 36, 37), (36, .iload 4, 38, 1), (38, .iaload, 39, 0), (39, .iload 3, 40, 0), (40, .if_icmp .lt 0, 43, 55), (43, .aload 0, 44, 0), (44, .getfield 612, 47, 43), (47, .iload 4, 49, 1), (49, .aaload, 50, 0), (50, .iload 1, 51, 0), (51, .iaload, 52, 0), (52, .ifCond .ne 0, 55, 61), (55, .iinc 4 (-1), 58, 0), (58, .goto 0, 20, 0), (61, .aload 0, 62, 0), (62, .getfield 611, 65, 40), (65, .iload 4, 67, 1), (67, .iconst (98), 69, 1), (69, .castore, 70, 0), (70, .iinc 2 1, 73, 0), (73, .aload 0, 74, 0), (74, .iload 1, 75, 0), (75, .invokevirtual 118, 78, 150), (78, .istore 3, 79, 0), (79, .goto 0, 8, 0), (82, .iload 2, 83, 0), (83, .ireturn, 84, 0)]
def mm_o118 : List (Nat × Instr × Nat × Nat) := [(0, .iconst (-1), 1, 0), (1, .istore 2, 2, 0), (2, .iconst (0), 3, 0), (3, .istore 3, 4, 0), (4, .iload 3, 5, 0), (5, .aload 0, 6, 0), (6, .getfield 617, 9, 105), (9, .if_icmp .ge 0, 12, 55), (12, .aload 0, 13, 0), (13, .getfield 611, 16, 40), (16, .iload 3, 17, 0), (17, .caload, 18, 0), (18, .iconst (111), 20, 1), (20, .if_icmp .ne 0, 23, 47), (23, .aload 0, 24, 0), (24, .getfield 612, 27, 43), (27, .iload 3, 28, 0), (28, .aaload, 29, 0), (29, .iload 1, 30, 0), (30, .iaload, 31, 0), (31, .ifCond .le 0, 34, 47), (34, .iload 2, 35, 0), (35, .aload 0, 36, 0), (36, .getfield 610, 39, 37), (39, .iload 3, 40, 0), (40, .iaload, 41, 0), (41, .invokestatic 1000, 44, 153), (44, .goto 0, 48, 0), (47, .iload 2, 48, 0), (48, .istore 2, 49, 0), (49, .iinc 3 1, 52, 0), (52, .goto 0, 4, 0), (55, .iload 2, 56, 0), (56, .aload 0, 57, 0), (57, .getfield 625, 60, 111), (60, .if_icmp .lt 0, 63, 84), (63, .aload 0, 64, 0), (64, .iload 1, 65, 0), (65, .iload 2, 66, 0), (66, .invokevirtual 119, 69, 157), (69, .aload 0, 70, 0), (70, .iload 1, 71, 0), (71, .iload 2, 72, 0), (72, .invokevirtual 120, 75, 160), (75, .if_icmp .lt 0, 78, 84), (78, .iinc 2 (-1), 81, 0), (81, .goto 0, 55, 0), (84, .iload 2, 85, 0), (85, .aload 0, 86, 0), (86, .getfield 625, 89, 111), (89, .if_icmp .lt 0, 92, 96), (92, .iload 2, 93, 0), (93, .goto 0, 97, 0), (96, .iconst (-1), 97, 0), (97, .ireturn, 98, 0)]
def mm_o119 : List (Nat × Instr × Nat × Nat) := [(0, .iconst (0), 1, 0), (1, .istore 3, 2, 0), (2, .iconst (0), 3, 0), (3, .istore 4, 5, 1), (5, .iload 4, 7, 1), (7, .aload 0, 8, 0), (8, .getfield 608, 11, 102), (11, .if_icmp .ge 0, 14, 56), (14, .iload 3, 15, 0), (15, .aload 0, 16, 0), (16, .getfield 603, 19, 18), (19, .iload 4, 21, 1), (21, .iaload, 22, 0), (22, .iload 1, 23, 0), (23, .if_icmp .ne 0, 26, 47), (26, .aload 0, 27, 0), (27, .getfield 604, 30, 22), (30, .iload 4, 32, 1), (32, .iaload, 33, 0), (33, .iload 2, 34, 0), (34, .if_icmp .lt 0, 37, 47), (37, .aload 0, 38, 0), (38, .getfield 606, 41, 28), (41, .iload 4, 43, 1), (43, .iaload, 44, 0), (44, .goto 0, 48, 0), (47, .iconst (0), 48, 0), (48, .iadd, 49, 0), (49, .istore 3, 50, 0), (50, .iinc 4 1, 53, 0), (53, .goto 0, 5, 0), (56, .iload 3, 57, 0), (57, .ireturn, 58, 0)]
def mm_o120 : List (Nat × Instr × Nat × Nat) := [(0, .iconst (0), 1, 0), (1, .istore 3, 2, 0), (2, .iconst (0), 3, 0), (3, .istore 4, 5, 1), (5, .iload 4, 7, 1), (7, .aload 0, 8, 0), (8, .getfield 617, 11, 105), (11, .if_icmp .ge 0, 14, 59), (14, .iload 3, 15, 0), (15, .aload 0, 16, 0), (16, .getfield 611, 19, 40), (19, .iload 4, 21, 1), (21, .caload, 22, 0), (22, .iconst (111), 24, 1), (24, .if_icmp .ne 0, 27, 50), (27, .aload 0, 28, 0), (28, .getfield 610, 31, 37), (31, .iload 4, 33, 1), (33, .iaload, 34, 0), (34, .iload 2, 35, 0), (35, .if_icmp .lt 0, 38, 50), (38, .aload 0, 39, 0), (39, .getfield 612, 42, 43), (42, .iload 4, 44, 1), (44, .aaload, 45, 0), (45, .iload 1, 46, 0), (46, .iaload, 47, 0), (47, .goto 0, 51, 0), (50, .iconst (0), 51, 0), (51, .iadd, 52, 0), (52, .istore 3, 53, 0), (53, .iinc 4 1, 56, 0), (56, .goto 0, 5, 0), (59, .iload 3, 60, 0), (60, .ireturn, 61, 0)]
def mm_o121 : List (Nat × Instr × Nat × Nat) := [(0, .iconst (100000), 2, 329), (2, .istore 3, 3, 0), (3, .aload 0, 4, 0), (4, .getfield 625, 7, 111), (7, .istore 4, 9, 1), (9, .iload 4, 11, 1), (11, .iload 2, 12, 0), (12, .if_icmp .gt 0, 15, 41), (15, .iload 3, 16, 0), (16, .aload 0, 17, 0), (17, .iload 1, 18, 0), (18, .iload 4, 20, 1), (20, .invokevirtual 119, 23, 157), (23, .aload 0, 24, 0), (24, .iload 1, 25, 0), (25, .iload 4, 27, 1), (27, .invokevirtual 120, 30, 160), (30, .isub, 31, 0), (31, .invokestatic 1001, 34, 164), (34, .istore 3, 35, 0), (35, .iinc 4 1, 38, 0), (38, .goto 0, 9, 0), (41, .iload 3, 42, 0), (42, .ireturn, 43, 0)]
def mm_o122 : List (Nat × Instr × Nat × Nat) := [(0, .aload 0, 1, 0), (1, .iload 1, 2, 0), (2, .invokevirtual 103, 5, 114), (5, .ifCond .ne 0, 8, 14), (8, .aload 0, 9, 0), (9, .iconst (1), 10, 0), (10, .invokevirtual 101, 13, 121), (13, .ireturn, 14, 0), (14, .iload 2, 15, 0), (15, .iconst (1), 16, 0), (16, .iconst (60), 18, 1), (18, .invokestatic 102, 21, 98), (21, .ifCond .eq 0, 24, 42), (24, .iload 3, 25, 0), (25, .aload 0, 26, 0), (26, .getfield 625, 29, 111), (29, .aload 0, 30, 0), (30, .getfield 625, 33, 111), (33, .iconst (60), 35, 1), (35, .iadd, 36, 0), (36, .invokestatic 102, 39, 98), (39, .ifCond .ne 0, 42, 48), (42, .aload 0, 43, 0), (43, .iconst (2), 44, 0), (44, .invokevirtual 101, 47, 121), (47, .ireturn, 48, 0), (48, .aload 0, 49, 0), (49, .getfield 617, 52, 105), (52, .iconst (20), 54, 1), (54, .if_icmp .ne 0, 57, 63), (57, .aload 0, 58, 0), (58, .iconst (3), 59, 0), (59, .invokevirtual 101, 62, 121), (62, .ireturn, 63, 0), (63, .iconst (0), 64, 0), (64, .istore 5, 66, 1), (66, .iload 5, 68, 1), (68, .iconst (6), 70, 1), (70, .if_icmp .ge 0, 73, 87), (73, .aload 0, 74, 0), (74, .getfield 632, 77, 88), (77, .iload 5, 79, 1), (79, .iconst (0), 80, 0), (80, .iastore, 81, 0), (81, .iinc 5 1, 84, 0), (84, .goto 0, 66, 0), (87, .iload 2, 88, 0), (88, .aload 0, 89, 0), (89, .iload 1, 90, 0), (90, .iload 2, 91, 0), (91, .iload 3, 92, 0), (92, .invokevirtual 123, 95, 167), (95, .isub, 96, 0), (96, .istore 5, 98, 1), (98, .iconst (1), 99, 0), (99, .istore 6, 101, 1), (101, .iload 6, 103, 1), (103, .iconst (9), 105, 1), (105, .if_icmp .gt 0, 108, 165), (108, .iload 4, 110, 1), (110, .ifCond .eq 0, 113, 165), (113, .iconst (0), 114, 0), (114, .istore 7, 116, 1), (116, .iload 7, 118, 1), (118, .aload 0, 119, 0), (119, .getfield 602, 122, 95), (122, .if_icmp .ge 0, 125, 159), (125, .aload 0, 126, 0), (126, .getfield 601, 129, 15), (129, .iload 1, 130, 0), (130, .aaload, 131, 0), (131, .iload 7, 133, 1), (133, .iaload, 134, 0), (134, .iload 6, 136, 1), (136, .if_icmp .ne 0, 139, 153), (139, .iload 5, 141, 1), (141, .aload 0, 142, 0), (142, .iload 7, 144, 1), (144, .iload 5, 146, 1), (146, .iload 3, 147, 0), (147, .invokevirtual 123, 150, 167), (150, .isub, 151, 0), (151, .istore 5, 153, 1), (153, .iinc 7 1, 156, 0), (156, .goto 0, 116, 0), (159, .iinc 6 1, 162, 0), (162, .goto 0, 101, 0), (165, .iload 5, 167, 1), (167, .ifCond .le 0, 170, 176), (170, .aload 0, 171, 0), (171, .iconst (4), 172, 0), (172, .invokevirtual 101, 175, 121), (175, .ireturn, 176, 0), (176, .aload 0, 177, 0), (177, .iconst (0), 178, 0), (178, .putfield 626, 181, 91), (181, .aload 0, 182, 0), (182, .getfield 610, 185, 37), (185, .aload 0, 186, 0), (186, .getfield 617, 189, 105), (189, .iload 3, 190, 0), (190, .iastore, 191, 0), (191, .aload 0, 192, 0), (192, .getfield 611, 195, 40), (195, .aload 0, 196, 0), (196, .getfield 617, 199, 105), (199, .iconst (111), 201, 1), (201, .castore, 202, 0), (202, .iconst (0), 203, 0), (203, .istore 6, 205, 1), (205, .iload 6, 207, 1), (207, .iconst (6), 209, 1), (209, .if_icmp .ge 0, 212, 237), (212, .aload 0, 213, 0), (213, .getfield 612, 216, 43), (216, .aload 0, 217, 0), (217, .getfield 617, 220, 105), (220, .aaload, 221, 0), (221, .iload 6, 223, 1), (223, .aload 0, 224, 0), (224, .getfield 632, 227, 88), (227, .iload 6, 229, 1), (229, .iaload, 230, 0), (230, .iastore, 231, 0), (231, .iinc 6 1, 234, 0), (234, .goto 0, 205, 0), (237, .aload 0, 238, 0), (238, .dup, 239, 0), (239, .getfield 617, 242, 105), (242, .iconst (1), 243, 0), (243, .iadd, 244, 0), (244, .putfield 617, 247, 105), (247, .aload 0, 248, 0), (248, .getfield 617, 251, 105), (251, .iconst (1), 252, 0), (252, .isub, 253, 0), (253, .ireturn, 254, 0)]
def mm_o123 : List (Nat × Instr × Nat × Nat) := [(0, .aload 0, 1, 0), (1, .getfield 632, 4, 88), (4, .iload 1, 5, 0), (5, .iload 2, 6, 0), (6, .iconst (0), 7, 0), (7, .aload 0, 8, 0), (8, .iload 1, 9, 0), (9, .iload 3, 10, 0), (10, .invokevirtual 121, 13, 170), (13, .invokestatic 1000, 16, 153), (16, .invokestatic 1001, 19, 164), (19, .iastore, 20, 0), (20, .aload 0, 21, 0), (21, .getfield 632, 24, 88), (24, .iload 1, 25, 0), (25, .iaload, 26, 0), (26, .ireturn, 27, 0)]
def mm_o124 : List (Nat × Instr × Nat × Nat) := [(0, .aload 0, 1, 0), (1, .aload 0, 2, 0), (2, .iload 1, 3, 0), (3, .invokevirtual 106, 6, 173), (6, .ifCond .ne 0, 9, 13), (9, .iconst (1), 10, 0), (10, .goto 0, 29, 0), (13, .aload 0, 14, 0), (14, .getfield 611, 17, 40), (17, .iload 1, 18, 0), (18, .caload, 19, 0), (19, .iconst (111), 21, 1), (21, .if_icmp .eq 0, 24, 28), (24, .iconst (2), 25, 0), (25, .goto 0, 29, 0), (28, .iconst (0), 29, 0), (29, .putfield 626, 32, 91), (32, .aload 0, 33, 0), (33, .getfield 626, 36, 91), (36, .ifCond .le 0, 39, 43), (39, .iconst (1), 40, 0), (40, .goto 0, 44, 0), (43, .iconst (0), 44, 0), (44, .ireturn, 45, 0)]
def mm_o125 : List (Nat × Instr × Nat × Nat) := [(0, .aload 0, 1, 0), (1, .iload 1, 2, 0), (2, .invokevirtual 124, 5, 176), (5, .ifCond .eq 0, 8, 10), (8, .iconst (0), 9, 0), (9, .ireturn, 10, 0), (10, .aload 0, 11, 0), (11, .getfield 611, 14, 40), (14, .iload 1, 15, 0), (15, .iconst (99), 17, 1), (17, .castore, 18, 0), (18, .iconst (0), 19, 0), (19, .istore 2, 20, 0), (20, .iconst (0), 21, 0), (21, .istore 3, 22, 0), (22, .iload 3, 23, 0), (23, .iconst (6), 25, 1), (25, .if_icmp .ge 0, 28, 45), (28, .iload 2, 29, 0), (29, .aload 0, 30, 0), (30, .getfield 612, 33, 43), (33, .iload 1, 34, 0), (34, .aaload, 35, 0), (35, .iload 3, 36, 0), (36, .iaload, 37, 0), (37, .iadd, 38, 0), (38, .istore 2, 39, 0), (39, .iinc 3 1, 42, 0), (42, .goto 0, 22, 0), (45, .iload 2, 46, 0), (46, .ireturn, 47, 0)]
def mm_o126 : List (Nat × Instr × Nat × Nat) := [(0, .aload 0, 1, 0), (1, .iload 1, 2, 0), (2, .invokevirtual 124, 5, 176), (5, .ifCond .eq 0, 8, 10), (8, .iconst (0), 9, 0), (9, .ireturn, 10, 0), (10, .aload 0, 11, 0), (11, .iload 1, 12, 0), (12, .invokevirtual 131, 15, 179), (15, .aload 0, 16, 0), (16, .getfield 624, 19, 108), (19, .aload 0, 20, 0), (20, .getfield 631, 23, 183), (23, .iadd, 24, 0), (24, .iconst (150), 27, 2), (27, .if_icmp .le 0, 30, 36), (30, .aload 0, 31, 0), (31, .iconst (2), 32, 0), (32, .invokevirtual 101, 35, 121), (35, .ireturn, 36, 0), (36, .aload 0, 37, 0), (37, .getfield 611, 40, 40), (40, .iload 1, 41, 0), (41, .iconst (112), 43, 1), (43, .castore, 44, 0), (44, .aload 0, 45, 0), (45, .getfield 616, 48, 55), (48, .iload 1, 49, 0), (49, .aload 0, 50, 0), (50, .getfield 631, 53, 183), (53, .iastore, 54, 0), (54, .iconst (0), 55, 0), (55, .istore 2, 56, 0), (56, .iload 2, 57, 0), (57, .aload 0, 58, 0), (58, .getfield 631, 61, 183), (61, .if_icmp .ge 0, 64, 160), (64, .aload 0, 65, 0), (65, .getfield 613, 68, 46), (68, .iload 1, 69, 0), (69, .aaload, 70, 0), (70, .iload 2, 71, 0), (71, .aload 0, 72, 0), (72, .getfield 628, 75, 79), (75, .iload 2, 76, 0), (76, .iaload, 77, 0), (77, .iastore, 78, 0), (78, .aload 0, 79, 0), (79, .getfield 614, 82, 49), (82, .iload 1, 83, 0), (83, .aaload, 84, 0), (84, .iload 2, 85, 0), (85, .aload 0, 86, 0), (86, .getfield 629, 89, 82), (89, .iload 2, 90, 0), (90, .iaload, 91, 0), (91, .iastore, 92, 0), (92, .aload 0, 93, 0), (93, .getfield 615, 96, 52), (96, .iload 1, 97, 0), (97, .aaload, 98, 0), (98, .iload 2, 99, 0), (99, .aload 0, 100, 0), (100, .getfield 630, 103, 85), (103, .iload 2, 104, 0), (104, .iaload, 105, 0), (105, .iastore, 106, 0), (106, .aload 0, 107, 0), (107, .aload 0, 108, 0), (108, .getfield 629, 111, 82), (111, .iload 2, 112, 0), (112, .iaload, 113, 0), (113, .aload 0, 114, 0), (114, .getfield 628, 117, 79), (117, .iload 2, 118, 0), (118, .iaload, 119, 0), (119, .aload 0, 120, 0), (120, .getfield 630, 123, 85), (123, .iload 2, 124, 0), (124, .iaload, 125, 0), (125, .ineg, 126, 0), (126, .invokevirtual 110, 129, 128), (129, .aload 0, 130, 0), (130, .iconst (112), 132, 1), (132, .aload 0, 133, 0), (133, .getfield 629, 136, 82), (136, .iload 2, 137, 0), (137, .iaload, 138, 0), (138, .aload 0, 139, 0), (139, .getfield 628, 142, 79), (142, .iload 2, 143, 0), (143, .iaload, 144, 0), (144, .iconst (-1), 145, 0), (145, .aload 0, 146, 0), (146, .getfield 630, 149, 85), (149, .iload 2, 150, 0), (150, .iaload, 151, 0), (151, .invokevirtual 109, 154, 132), (154, .iinc 2 1, 157, 0), (157, .goto 0, 56, 0), (160, .aload 0, 161, 0), (161, .getfield 631, 164, 183), (164, .ireturn, 165, 0)]
def mm_o127 : List (Nat × Instr × Nat × Nat) := [(0, .aload 0, 1, 0), (1, .aload 0, 2, 0), (2, .iload 1, 3, 0), (3, .invokevirtual 106, 6, 173), (6, .ifCond .eq 0, 9, 13), (9, .iconst (0), 10, 0), (10, .goto 0, 14, 0), (13, .iconst (1), 14, 0), (14, .putfield 626, 17, 91), (17, .aload 0, 18, 0), (18, .getfield 626, 21, 91), (21, .ifCond .le 0, 24, 29), (24, .iconst (32), 26, 1), (26, .goto 0, 35, 0), (29, .aload 0, 30, 0), (30, .getfield 611, 33, 40), (33, .iload 1, 34, 0), (34, .caload, 35, 0), (35, .ireturn, 36, 0)]
def mm_o128 : List (Nat × Instr × Nat × Nat) := [(0, .aload 0, 1, 0), (1, .aload 0, 2, 0), (2, .iload 1, 3, 0), (3, .invokevirtual 106, 6, 173), (6, .ifCond .eq 0, 9, 21), (9, .aload 0, 10, 0), (10, .iload 2, 11, 0), (11, .invokevirtual 103, 14, 114), (14, .ifCond .eq 0, 17, 21), (17, .iconst (0), 18, 0), (18, .goto 0, 22, 0), (21, .iconst (1), 22, 0), (22, .putfield 626, 25, 91), (25, .aload 0, 26, 0), (26, .getfield 626, 29, 91), (29, .ifCond .le 0, 32, 36), (32, .iconst (0), 33, 0), (33, .goto 0, 44, 0), (36, .aload 0, 37, 0), (37, .getfield 612, 40, 43), (40, .iload 1, 41, 0), (41, .aaload, 42, 0), (42, .iload 2, 43, 0), (43, .iaload, 44, 0), (44, .ireturn, 45, 0)]
def mm_o129 : List (Nat × Instr × Nat × Nat) := [(0, .aload 0, 1, 0), (1, .aload 0, 2, 0), (2, .iload 1, 3, 0), (3, .invokevirtual 103, 6, 114), (6, .ifCond .ne 0, 9, 13), (9, .iconst (1), 10, 0), (10, .goto 0, 36, 0), (13, .iload 2, 14, 0), (14, .aload 0, 15, 0), (15, .getfield 625, 18, 111), (18, .aload 0, 19, 0), (19, .getfield 625, 22, 111), (22, .iconst (60), 24, 1), (24, .iadd, 25, 0), (25, .invokestatic 102, 28, 98), (28, .ifCond .ne 0, 31, 35), (31, .iconst (2), 32, 0), (32, .goto 0, 36, 0), (35, .iconst (0), 36, 0), (36, .putfield 626, 39, 91), (39, .aload 0, 40, 0), (40, .getfield 626, 43, 91), (43, .ifCond .le 0, 46, 50), (46, .iconst (0), 47, 0), (47, .goto 0, 56, 0), (50, .aload 0, 51, 0), (51, .iload 1, 52, 0), (52, .iload 2, 53, 0), (53, .invokevirtual 121, 56, 170), (56, .ireturn, 57, 0)]
def mm_o130 : List (Nat × Instr × Nat × Nat) := [(0, .aload 0, 1, 0), (1, .iload 1, 2, 0), (2, .iload 2, 3, 0), (3, .invokevirtual 129, 6, 186), (6, .ireturn, 7, 0)]
def mm_o131 : List (Nat × Instr × Nat × Nat) := [(0, .iconst (0), 1, 0), (1, .istore 2, 2, 0), (2, .iload 2, 3, 0), (3, .aload 0, 4, 0), (4, .getfield 608, 7, 102), (7, .if_icmp .ge 0, 10, 39), (10, .iconst (0), 11, 0), (11, .istore 3, 12, 0), (12, .iload 3, 13, 0), (13, .iconst (40), 15, 1), (15, .if_icmp .ge 0, 18, 33), (18, .aload 0, 19, 0), (19, .getfield 627, 22, 76), (22, .iload 2, 23, 0), (23, .aaload, 24, 0), (24, .iload 3, 25, 0), (25, .iconst (0), 26, 0), (26, .iastore, 27, 0), (27, .iinc 3 1, 30, 0), (30, .goto 0, 12, 0), (33, .iinc 2 1, 36, 0), (36, .goto 0, 2, 0), (39, .iconst (0), 40, 0), (40, .istore 2, 41, 0), (41, .iload 2, 42, 0), (42, .aload 0, 43, 0), (43, .getfield 602, 46, 95), (46, .if_icmp .ge 0, 49, 178), (49, .aload 0, 50, 0), (50, .getfield 612, 53, 43), (53, .iload 1, 54, 0), (54, .aaload, 55, 0), (55, .iload 2, 56, 0), (56, .iaload, 57, 0), (57, .istore 3, 58, 0), (58, .iconst (0), 59, 0), (59, .istore 4, 61, 1), (61, .iload 4, 63, 1), (63, .aload 0, 64, 0), (64, .getfield 608, 67, 102), (67, .if_icmp .ge 0, 70, 172), (70, .aload 0, 71, 0), (71, .getfield 607, 74, 31), (74, .iload 4, 76, 1), (76, .iaload, 77, 0), (77, .istore 5, 79, 1), (79, .iconst (0), 80, 0), (80, .istore 6, 82, 1), (82, .iload 6, 84, 1), (84, .iconst (40), 86, 1), (86, .if_icmp .ge 0, 89, 166), (89, .aload 0, 90, 0), (90, .getfield 603, 93, 18), (93, .iload 5, 95, 1), (95, .iaload, 96, 0), (96, .iload 2, 97, 0), (97, .if_icmp .ne 0, 100, 166), (100, .aload 0, 101, 0), (101, .getfield 604, 104, 22), (104, .iload 5, 106, 1), (106, .iaload, 107, 0), (107, .aload 0, 108, 0), (108, .getfield 610, 111, 37), (111, .iload 1, 112, 0), (112, .iaload, 113, 0), (113, .if_icmp .lt 0, 116, 166), (116, .iload 6, 118, 1), (118, .invokestatic 107, 121, 139), (121, .istore 7, 123, 1), (123, .aload 0, 124, 0), (124, .getfield 627, 127, 76), (127, .iload 5, 129, 1), (129, .aaload, 130, 0), (130, .iload 7, 132, 1), (132, .iload 3, 133, 0), (133, .aload 0, 134, 0), (134, .getfield 605, 137, 25), (137, .iload 5, 139, 1), (139, .aaload, 140, 0), (140, .iload 7, 142, 1), (142, .iaload, 143, 0), (143, .invokestatic 1001, 146, 164), (146, .iastore, 147, 0), (147, .iload 3, 148, 0), (148, .aload 0, 149, 0), (149, .getfield 627, 152, 76), (152, .iload 5, 154, 1), (154, .aaload, 155, 0), (155, .iload 7, 157, 1), (157, .iaload, 158, 0), (158, .isub, 159, 0), (159, .istore 3, 160, 0), (160, .iinc 6 1, 163, 0), (163, .goto 0, 82, 0), (166, .iinc 4 1, 169, 0), (169, .goto 0, 61, 0), (172, .iinc 2 1, 175, 0), (175, .goto 0, 41, 0), (178, .aload 0, 179, 0), (179, .iconst (0), 180, 0), (180, .putfield 631, 183, 183), (183, .iconst (0), 184, 0), (184, .istore 2, 185, 0), (185, .iload 2, 186, 0), (186, .iconst (40), 188, 1), (188, .if_icmp .ge 0, 191, 281), (191, .iload 2, 192, 0), (192, .invokestatic 107, 195, 139), (195, .istore 3, 196, 0), (196, .iconst (0), 197, 0), (197, .istore 4, 199, 1), (199, .iload 4, 201, 1), (201, .aload 0, 202, 0), (202, .getfield 608, 205, 102), (205, .if_icmp .ge 0, 208, 275), (208, .aload 0, 209, 0), (209, .getfield 627, 212, 76), (212, .iload 4, 214, 1), (214, .aaload, 215, 0), (215, .iload 3, 216, 0), (216, .iaload, 217, 0), (217, .ifCond .le 0, 220, 269), (220, .aload 0, 221, 0), (221, .getfield 628, 224, 79), (224, .aload 0, 225, 0), (225, .getfield 631, 228, 183), (228, .iload 3, 229, 0), (229, .iastore, 230, 0), (230, .aload 0, 231, 0), (231, .getfield 629, 234, 82), (234, .aload 0, 235, 0), (235, .getfield 631, 238, 183), (238, .iload 4, 240, 1), (240, .iastore, 241, 0), (241, .aload 0, 242, 0), (242, .getfield 630, 245, 85), (245, .aload 0, 246, 0), (246, .getfield 631, 249, 183), (249, .aload 0, 250, 0), (250, .getfield 627, 253, 76), (253, .iload 4, 255, 1), (255, .aaload, 256, 0), (256, .iload 3, 257, 0), (257, .iaload, 258, 0), (258, .iastore, 259, 0), (259, .aload 0, 260, 0), (260, .dup, 261, 0), (261, .getfield 631, 264, 183), (264, .iconst (1), 265, 0), (265, .iadd, 266, 0), (266, .putfield 631, 269, 183), (269, .iinc 4 1, 272, 0), (272, .goto 0, 199, 0), (275, .iinc 2 1, 278, 0), (278, .goto 0, 185, 0), (281, .return_, 282, 0)]
def mm_o132 : List (Nat × Instr × Nat × Nat) := [(0, .aload 0, 1, 0), (1, .aload 0, 2, 0), (2, .iload 1, 3, 0), (3, .invokevirtual 106, 6, 173), (6, .ifCond .ne 0, 9, 13), (9, .iconst (1), 10, 0), (10, .goto 0, 40, 0), (13, .aload 0, 14, 0), (14, .getfield 611, 17, 40), (17, .iload 1, 18, 0), (18, .caload, 19, 0), (19, .iconst (111), 21, 1), (21, .if_icmp .eq 0, 24, 39), (24, .aload 0, 25, 0), (25, .getfield 611, 28, 40), (28, .iload 1, 29, 0), (29, .caload, 30, 0), (30, .iconst (112), 32, 1), (32, .if_icmp .eq 0, 35, 39), (35, .iconst (2), 36, 0), (36, .goto 0, 40, 0), (39, .iconst (0), 40, 0), (40, .putfield 626, 43, 91), (43, .aload 0, 44, 0), (44, .getfield 626, 47, 91), (47, .ifCond .le 0, 50, 52), (50, .iconst (1), 51, 0), (51, .ireturn, 52, 0), (52, .aload 0, 53, 0), (53, .getfield 611, 56, 40), (56, .iload 1, 57, 0), (57, .caload, 58, 0), (58, .iconst (111), 60, 1), (60, .if_icmp .ne 0, 63, 70), (63, .aload 0, 64, 0), (64, .iload 1, 65, 0), (65, .invokevirtual 131, 68, 179), (68, .iconst (0), 69, 0), (69, .ireturn, 70, 0), (70, .aload 0, 71, 0), (71, .aload 0, 72, 0), (72, .getfield 616, 75, 55), (75, .iload 1, 76, 0), (76, .iaload, 77, 0), (77, .putfield 631, 80, 183), (80, .iconst (0), 81, 0), (81, .istore 2, 82, 0), (82, .iload 2, 83, 0), (83, .aload 0, 84, 0), (84, .getfield 631, 87, 183), (87, .if_icmp .ge 0, 90, 138), (90, .aload 0, 91, 0), (91, .getfield 628, 94, 79), (94, .iload 2, 95, 0), (95, .aload 0, 96, 0), (96, .getfield 613, 99, 46), (99, .iload 1, 100, 0), (100, .aaload, 101, 0), (101, .iload 2, 102, 0), (102, .iaload, 103, 0), (103, .iastore, 104, 0), (104, .aload 0, 105, 0), (105, .getfield 629, 108, 82), (108, .iload 2, 109, 0), (109, .aload 0, 110, 0), (110, .getfield 614, 113, 49), (113, .iload 1, 114, 0), (114, .aaload, 115, 0), (115, .iload 2, 116, 0), (116, .iaload, 117, 0), (117, .iastore, 118, 0), (118, .aload 0, 119, 0), (119, .getfield 630, 122, 85), (122, .iload 2, 123, 0), (123, .aload 0, 124, 0), (124, .getfield 615, 127, 52), (127, .iload 1, 128, 0), (128, .aaload, 129, 0), (129, .iload 2, 130, 0), (130, .iaload, 131, 0), (131, .iastore, 132, 0), (132, .iinc 2 1, 135, 0), (135, .goto 0, 82, 0), (138, .iconst (0), 139, 0), (139, .ireturn, 140, 0)]
def mm_o133 : List (Nat × Instr × Nat × Nat) := [(0, .aload 0, 1, 0), (1, .iload 1, 2, 0), (2, .invokevirtual 132, 5, 189), (5, .ifCond .ne 0, 8, 31), (8, .aload 0, 9, 0), (9, .iload 2, 10, 0), (10, .iconst (0), 11, 0), (11, .aload 0, 12, 0), (12, .getfield 631, 15, 183), (15, .iconst (1), 16, 0), (16, .isub, 17, 0), (17, .invokestatic 102, 20, 98), (20, .ifCond .eq 0, 23, 27), (23, .iconst (0), 24, 0), (24, .goto 0, 28, 0), (27, .iconst (3), 28, 0), (28, .putfield 626, 31, 91), (31, .aload 0, 32, 0), (32, .getfield 626, 35, 91), (35, .ifCond .le 0, 38, 42), (38, .iconst (1), 39, 0), (39, .goto 0, 43, 0), (42, .iconst (0), 43, 0), (43, .ireturn, 44, 0)]
def mm_o134 : List (Nat × Instr × Nat × Nat) := [(0, .aload 0, 1, 0), (1, .iload 1, 2, 0), (2, .invokevirtual 132, 5, 189), (5, .ifCond .eq 0, 8, 12), (8, .iconst (0), 9, 0), (9, .goto 0, 16, 0), (12, .aload 0, 13, 0), (13, .getfield 631, 16, 183), (16, .ireturn, 17, 0)]
def mm_o135 : List (Nat × Instr × Nat × Nat) := [(0, .aload 0, 1, 0), (1, .iload 1, 2, 0), (2, .iload 2, 3, 0), (3, .invokevirtual 133, 6, 192), (6, .ifCond .eq 0, 9, 13), (9, .iconst (0), 10, 0), (10, .goto 0, 19, 0), (13, .aload 0, 14, 0), (14, .getfield 628, 17, 79), (17, .iload 2, 18, 0), (18, .iaload, 19, 0), (19, .ireturn, 20, 0)]
def mm_o136 : List (Nat × Instr × Nat × Nat) := [(0, .aload 0, 1, 0), (1, .iload 1, 2, 0), (2, .iload 2, 3, 0), (3, .invokevirtual 133, 6, 192), (6, .ifCond .eq 0, 9, 13), (9, .iconst (0), 10, 0), (10, .goto 0, 19, 0), (13, .aload 0, 14, 0), (14, .getfield 629, 17, 82), (17, .iload 2, 18, 0), (18, .iaload, 19, 0), (19, .ireturn, 20, 0)]
def mm_o137 : List (Nat × Instr × Nat × Nat) := [(0, .aload 0, 1, 0), (1, .iload 1, 2, 0), (2, .iload 2, 3, 0), (3, .invokevirtual 133, 6, 192), (6, .ifCond .eq 0, 9, 13), (9, .iconst (0), 10, 0), (10, .goto 0, 19, 0), (13, .aload 0, 14, 0), (14, .getfield 630, 17, 85), (17, .iload 2, 18, 0), (18, .iaload, 19, 0), (19, .ireturn, 20, 0)]
def mm_o138 : List (Nat × Instr × Nat × Nat) := [(0, .aload 0, 1, 0), (1, .iload 1, 2, 0), (2, .invokevirtual 132, 5, 189), (5, .ifCond .eq 0, 8, 10), (8, .iconst (0), 9, 0), (9, .ireturn, 10, 0), (10, .iconst (0), 11, 0), (11, .istore 2, 12, 0), (12, .iconst (0), 13, 0), (13, .istore 3, 14, 0), (14, .iload 3, 15, 0), (15, .aload 0, 16, 0), (16, .getfield 631, 19, 183), (19, .if_icmp .ge 0, 22, 42), (22, .iload 2, 23, 0), (23, .aload 0, 24, 0), (24, .getfield 628, 27, 79), (27, .iload 3, 28, 0), (28, .iaload, 29, 0), (29, .iconst (10), 31, 1), (31, .idiv, 32, 0), (32, .invokestatic 1000, 35, 153), (35, .istore 2, 36, 0), (36, .iinc 3 1, 39, 0), (39, .goto 0, 14, 0), (42, .iconst (0), 43, 0), (43, .istore 3, 44, 0), (44, .iconst (100000), 46, 329), (46, .istore 4, 48, 1), (48, .iconst (0), 49, 0), (49, .istore 5, 51, 1), (51, .iload 5, 53, 1), (53, .iload 2, 54, 0), (54, .if_icmp .gt 0, 57, 205), (57, .iconst (-1), 58, 0), (58, .istore 6, 60, 1), (60, .iconst (10), 62, 1), (62, .istore 7, 64, 1), (64, .iconst (0), 65, 0), (65, .istore 8, 67, 1), (67, .iload 8, 69, 1), (69, .aload 0, 70, 0), (70, .getfield 631, 73, 183), (73, .if_icmp .ge 0, 76, 131), (76, .aload 0, 77, 0), (77, .getfield 628, 80, 79), (80, .iload 8, 82, 1), (82, .iaload, 83, 0), (83, .iconst (10), 85, 1), (85, .idiv, 86, 0), (86, .iload 5, 88, 1), (88, .if_icmp .ne 0, 91, 125), (91, .iload 6, 93, 1), (93, .aload 0, 94, 0), (94, .getfield 628, 97, 79), (97, .iload 8, 99, 1), (99, .iaload, 100, 0), (100, .iconst (10), 102, 1), (102, .irem, 103, 0), (103, .invokestatic 1000, 106, 153), (106, .istore 6, 108, 1), (108, .iload 7, 110, 1), (110, .aload 0, 111, 0), (111, .getfield 628, 114, 79), (114, .iload 8, 116, 1), (116, .iaload, 117, 0), (117, .iconst (10), 119, 1), (119, .irem, 120, 0), (120, .invokestatic 1001, 123, 164), (123, .istore 7, 125, 1), (125, .iinc 8 1, 128, 0), (128, .goto 0, 67, 0), (131, .iload 3, 132, 0), (132, .iconst (2), 133, 0), (133, .iload 6, 135, 1), (135, .iconst (1), 136, 0), (136, .iadd, 137, 0), (137, .imul, 138, 0), (138, .iadd, 139, 0), (139, .iload 4, 141, 1), (141, .iconst (11), 143, 1), (143, .iadd, 144, 0), (144, .invokestatic 1001, 147, 164), (147, .istore 8, 149, 1), (149, .iload 4, 151, 1), (151, .iconst (2), 152, 0), (152, .iconst (10), 154, 1), (154, .iload 7, 156, 1), (156, .isub, 157, 0), (157, .imul, 158, 0), (158, .iadd, 159, 0), (159, .iload 3, 160, 0), (160, .iconst (11), 162, 1), (162, .iadd, 163, 0), (163, .invokestatic 1001, 166, 164), (166, .istore 9, 168, 1), (168, .iload 8, 170, 1), (170, .iload 5, 172, 1), (172, .iload 2, 173, 0), (173, .if_icmp .ge 0, 176, 180), (176, .iconst (4), 177, 0), (177, .goto 0, 181, 0), (180, .iconst (0), 181, 0), (181, .iadd, 182, 0), (182, .istore 3, 183, 0), (183, .iload 9, 185, 1), (185, .iload 5, 187, 1), (187, .iload 2, 188, 0), (188, .if_icmp .ge 0, 191, 195), (191, .iconst (4), 192, 0), (192, .goto 0, 196, 0), (195, .iconst (0), 196, 0), (196, .iadd, 197, 0), (197, .istore 4, 199, 1), (199, .iinc 5 1, 202, 0), (202, .goto 0, 51, 0), (205, .iload 3, 206, 0), (206, .iconst (4), 207, 0), (207, .iload 2, 208, 0), (208, .imul, 209, 0), (209, .iadd, 210, 0), (210, .ireturn, 211, 0)]
def mm_o139 : List (Nat × Instr × Nat × Nat) := [(0, .aload 0, 1, 0), (1, .iload 1, 2, 0), (2, .invokevirtual 138, 5, 196), (5, .ireturn, 6, 0)]
def mm_o140 : List (Nat × Instr × Nat × Nat) := [(0, .aload 0, 1, 0), (1, .iload 1, 2, 0), (2, .iconst (1), 3, 0), (3, .iconst (30), 5, 1), (5, .invokestatic 102, 8, 98), (8, .ifCond .eq 0, 11, 15), (11, .iconst (0), 12, 0), (12, .goto 0, 16, 0), (15, .iconst (1), 16, 0), (16, .putfield 626, 19, 91), (19, .aload 0, 20, 0), (20, .getfield 626, 23, 91), (23, .ifCond .le 0, 26, 28), (26, .iconst (0), 27, 0), (27, .ireturn, 28, 0), (28, .aload 0, 29, 0), (29, .dup, 30, 0), (30, .getfield 625, 33, 111), (33, .iload 1, 34, 0), (34, .iadd, 35, 0), (35, .putfield 625, 38, 111), (38, .iconst (0), 39, 0), (39, .istore 2, 40, 0), (40, .iconst (0), 41, 0), (41, .istore 3, 42, 0), (42, .iload 3, 43, 0), (43, .aload 0, 44, 0), (44, .getfield 617, 47, 105), (47, .if_icmp .ge 0, 50, 91), (50, .aload 0, 51, 0), (51, .getfield 611, 54, 40), (54, .iload 3, 55, 0), (55, .caload, 56, 0), (56, .iconst (111), 58, 1), (58, .if_icmp .ne 0, 61, 85), (61, .aload 0, 62, 0), (62, .getfield 610, 65, 37), (65, .iload 3, 66, 0), (66, .iaload, 67, 0), (67, .aload 0, 68, 0), (68, .getfield 625, 71, 111), (71, .if_icmp .ge 0, 74, 85), (74, .aload 0, 75, 0), (75, .getfield 611, 78, 40), (78, .iload 3, 79, 0), (79, .iconst (108), 81, 1), (81, .castore, 82, 0), (82, .iinc 2 1, 85, 0), (85, .iinc 3 1, 88, 0), (88, .goto 0, 42, 0), (91, .iload 2, 92, 0), (92, .ireturn, 93, 0)]
def mm_o141 : List (Nat × Instr × Nat × Nat) := [(0, .aload 0, 1, 0), (1, .iconst (0), 2, 0), (2, .putfield 626, 5, 91), (5, .aload 0, 6, 0), (6, .getfield 625, 9, 111), (9, .ireturn, 10, 0)]
def mm_o142 : List (Nat × Instr × Nat × Nat) := [(0, .iconst (100000), 2, 329), (2, .istore 2, 3, 0), (3, .iconst (0), 4, 0), (4, .istore 3, 5, 0), (5, .iload 3, 6, 0), (6, .aload 0, 7, 0), (7, .getfield 608, 10, 102), (10, .if_icmp .ge 0, 13, 73), (13, .aload 0, 14, 0), (14, .getfield 605, 17, 25), (17, .iload 3, 18, 0), (18, .aaload, 19, 0), (19, .iload 1, 20, 0), (20, .iaload, 21, 0), (21, .ifCond .le 0, 24, 67), (24, .aload 0, 25, 0), (25, .getfield 600, 28, 9), (28, .aload 0, 29, 0), (29, .getfield 603, 32, 18), (32, .iload 3, 33, 0), (33, .iaload, 34, 0), (34, .caload, 35, 0), (35, .istore 4, 37, 1), (37, .iload 2, 38, 0), (38, .iload 4, 40, 1), (40, .iconst (65), 42, 1), (42, .if_icmp .ne 0, 45, 49), (45, .iconst (5), 46, 0), (46, .goto 0, 63, 0), (49, .iload 4, 51, 1), (51, .iconst (66), 53, 1), (53, .if_icmp .ne 0, 56, 61), (56, .iconst (10), 58, 1), (58, .goto 0, 63, 0), (61, .iconst (20), 63, 1), (63, .invokestatic 1001, 66, 164), (66, .istore 2, 67, 0), (67, .iinc 3 1, 70, 0), (70, .goto 0, 5, 0), (73, .iload 2, 74, 0), (74, .iconst (100000), 76, 329), (76, .if_icmp .ne 0, 79, 84), (79, .iconst (2147483647), 81, 405), (81, .goto 0, 92, 0), (84, .aload 0, 85, 0), (85, .getfield 609, 88, 34), (88, .iload 1, 89, 0), (89, .iaload, 90, 0), (90, .iload 2, 91, 0), (91, .iadd, 92, 0), (92, .ireturn, 93, 0)]
def mm_o143 : List (Nat × Instr × Nat × Nat) := [(0, .aload 0, 1, 0), (1, .iconst (0), 2, 0), (2, .putfield 626, 5, 91), (5, .iconst (0), 6, 0), (6, .istore 1, 7, 0), (7, .iconst (0), 8, 0), (8, .istore 2, 9, 0), (9, .iload 2, 10, 0), (10, .iconst (40), 12, 1), (12, .if_icmp .ge 0, 15, 41), (15, .iload 1, 16, 0), (16, .aload 0, 17, 0), (17, .iload 2, 18, 0), (18, .invokevirtual 142, 21, 202), (21, .aload 0, 22, 0), (22, .getfield 625, 25, 111), (25, .if_icmp .gt 0, 28, 32), (28, .iconst (1), 29, 0), (29, .goto 0, 33, 0), (32, .iconst (0), 33, 0), (33, .iadd, 34, 0), (34, .istore 1, 35, 0), (35, .iinc 2 1, 38, 0), (38, .goto 0, 9, 0), (41, .iload 1, 42, 0), (42, .ireturn, 43, 0)]
def mm_o144 : List (Nat × Instr × Nat × Nat) := [(0, .iconst (-1), 1, 0), (1, .istore 1, 2, 0), (2, .iconst (0), 3, 0), (3, .istore 2, 4, 0), (4, .iload 2, 5, 0), (5, .iconst (40), 7, 1), (7, .if_icmp .ge 0, 10, 63), (10, .iload 2, 11, 0), (11, .invokestatic 107, 14, 139), (14, .istore 3, 15, 0), (15, .aload 0, 16, 0), (16, .iload 3, 17, 0), (17, .invokevirtual 142, 20, 202), (20, .iconst (2147483647), 22, 405), (22, .if_icmp .ge 0, 25, 29), (25, .iconst (1), 26, 0), (26, .goto 0, 30, 0), (29, .iconst (0), 30, 0), (30, .istore 4, 32, 1), (32, .iload 4, 34, 1), (34, .ifCond .eq 0, 37, 57), (37, .iload 1, 38, 0), (38, .iconst (-1), 39, 0), (39, .if_icmp .eq 0, 42, 55), (42, .aload 0, 43, 0), (43, .iload 3, 44, 0), (44, .invokevirtual 142, 47, 202), (47, .aload 0, 48, 0), (48, .iload 1, 49, 0), (49, .invokevirtual 142, 52, 202), (52, .if_icmp .ge 0, 55, 57), (55, .iload 3, 56, 0), (56, .istore 1, 57, 0), (57, .iinc 2 1, 60, 0), (60, .goto 0, 4, 0), (63, .aload 0, 64, 0), (64, .iload 1, 65, 0), (65, .iconst (-1), 66, 0), (66, .if_icmp .ne 0, 69, 73), (69, .iconst (1), 70, 0), (70, .goto 0, 74, 0), (73, .iconst (0), 74, 0), (74, .putfield 626, 77, 91), (77, .iload 1, 78, 0), (78, .iconst (-1), 79, 0), (79, .if_icmp .ne 0, 82, 86), (82, .iconst (0), 83, 0), (83, .goto 0, 87, 0), (86, .iload 1, 87, 0), (87, .ireturn, 88, 0)]
def mm_o145 : List (Nat × Instr × Nat × Nat) := [(0, .aload 0, 1, 0), (1, .iload 1, 2, 0), (2, .invokestatic 105, 5, 118), (5, .ifCond .ne 0, 8, 12), (8, .iconst (1), 9, 0), (9, .goto 0, 27, 0), (12, .aload 0, 13, 0), (13, .iload 1, 14, 0), (14, .invokevirtual 142, 17, 202), (17, .iconst (2147483647), 19, 405), (19, .if_icmp .ne 0, 22, 26), (22, .iconst (2), 23, 0), (23, .goto 0, 27, 0), (26, .iconst (0), 27, 0), (27, .putfield 626, 30, 91), (30, .aload 0, 31, 0), (31, .getfield 626, 34, 91), (34, .ifCond .le 0, 37, 41), (37, .iconst (0), 38, 0), (38, .goto 0, 46, 0), (41, .aload 0, 42, 0), (42, .iload 1, 43, 0), (43, .invokevirtual 142, 46, 202), (46, .ireturn, 47, 0)]
def mm_o146 : List (Nat × Instr × Nat × Nat) := [(0, .aload 0, 1, 0), (1, .aload 0, 2, 0), (2, .iload 1, 3, 0), (3, .invokevirtual 104, 6, 136), (6, .ifCond .eq 0, 9, 20), (9, .iload 2, 10, 0), (10, .invokestatic 105, 13, 118), (13, .ifCond .eq 0, 16, 20), (16, .iconst (0), 17, 0), (17, .goto 0, 21, 0), (20, .iconst (1), 21, 0), (21, .putfield 626, 24, 91), (24, .aload 0, 25, 0), (25, .getfield 626, 28, 91), (28, .ifCond .le 0, 31, 35), (31, .iconst (0), 32, 0), (32, .goto 0, 43, 0), (35, .aload 0, 36, 0), (36, .getfield 605, 39, 25), (39, .iload 1, 40, 0), (40, .aaload, 41, 0), (41, .iload 2, 42, 0), (42, .iaload, 43, 0), (43, .ireturn, 44, 0)]
def mm_o147 : List (Nat × Instr × Nat × Nat) := [(0, .aload 0, 1, 0), (1, .iload 1, 2, 0), (2, .iload 2, 3, 0), (3, .invokevirtual 146, 6, 205), (6, .ireturn, 7, 0)]
def mm_o148 : List (Nat × Instr × Nat × Nat) := [(0, .aload 0, 1, 0), (1, .iload 1, 2, 0), (2, .invokestatic 105, 5, 118), (5, .ifCond .eq 0, 8, 12), (8, .iconst (0), 9, 0), (9, .goto 0, 13, 0), (12, .iconst (1), 13, 0), (13, .putfield 626, 16, 91), (16, .aload 0, 17, 0), (17, .getfield 626, 20, 91), (20, .ifCond .le 0, 23, 27), (23, .iconst (0), 24, 0), (24, .goto 0, 32, 0), (27, .aload 0, 28, 0), (28, .iload 1, 29, 0), (29, .invokevirtual 108, 32, 125), (32, .ireturn, 33, 0)]
def mm_o149 : List (Nat × Instr × Nat × Nat) := [(0, .aload 0, 1, 0), (1, .iconst (0), 2, 0), (2, .putfield 626, 5, 91), (5, .aload 0, 6, 0), (6, .getfield 608, 9, 102), (9, .ireturn, 10, 0)]
def mm_o150 : List (Nat × Instr × Nat × Nat) := [(0, .aload 0, 1, 0), (1, .iload 1, 2, 0), (2, .invokevirtual 103, 5, 114), (5, .ifCond .ne 0, 8, 14), (8, .aload 0, 9, 0), (9, .iconst (1), 10, 0), (10, .invokevirtual 101, 13, 121), (13, .ireturn, 14, 0), (14, .aload 0, 15, 0), (15, .iconst (0), 16, 0), (16, .putfield 626, 19, 91), (19, .iconst (0), 20, 0), (20, .istore 3, 21, 0), (21, .iload 3, 22, 0), (22, .aload 0, 23, 0), (23, .getfield 608, 26, 102), (26, .if_icmp .ge 0, 29, 78), (29, .aload 0, 30, 0), (30, .getfield 607, 33, 31), (33, .iload 3, 34, 0), (34, .iaload, 35, 0), (35, .istore 4, 37, 1), (37, .aload 0, 38, 0), (38, .getfield 603, 41, 18), (41, .iload 4, 43, 1), (43, .iaload, 44, 0), (44, .iload 1, 45, 0), (45, .if_icmp .ne 0, 48, 72), (48, .aload 0, 49, 0), (49, .getfield 604, 52, 22), (52, .iload 4, 54, 1), (54, .iaload, 55, 0), (55, .iload 2, 56, 0), (56, .if_icmp .lt 0, 59, 72), (59, .aload 0, 60, 0), (60, .getfield 606, 63, 28), (63, .iload 4, 65, 1), (65, .iaload, 66, 0), (66, .ifCond .le 0, 69, 72), (69, .iload 4, 71, 1), (71, .ireturn, 72, 0), (72, .iinc 3 1, 75, 0), (75, .goto 0, 21, 0), (78, .aload 0, 79, 0), (79, .iconst (2), 80, 0), (80, .invokevirtual 101, 83, 121), (83, .ireturn, 84, 0)]
def mm_o151 : List (Nat × Instr × Nat × Nat) := [(0, .aload 0, 1, 0), (1, .aload 0, 2, 0), (2, .iload 1, 3, 0), (3, .invokevirtual 103, 6, 114), (6, .ifCond .eq 0, 9, 13), (9, .iconst (0), 10, 0), (10, .goto 0, 14, 0), (13, .iconst (1), 14, 0), (14, .putfield 626, 17, 91), (17, .iconst (0), 18, 0), (18, .istore 3, 19, 0), (19, .iconst (0), 20, 0), (20, .istore 4, 22, 1), (22, .iload 4, 24, 1), (24, .aload 0, 25, 0), (25, .getfield 608, 28, 102), (28, .if_icmp .ge 0, 31, 92), (31, .aload 0, 32, 0), (32, .getfield 626, 35, 91), (35, .ifCond .ne 0, 38, 92), (38, .iload 3, 39, 0), (39, .aload 0, 40, 0), (40, .getfield 603, 43, 18), (43, .iload 4, 45, 1), (45, .iaload, 46, 0), (46, .iload 1, 47, 0), (47, .if_icmp .ne 0, 50, 83), (50, .aload 0, 51, 0), (51, .getfield 604, 54, 22), (54, .iload 4, 56, 1), (56, .iaload, 57, 0), (57, .aload 0, 58, 0), (58, .getfield 625, 61, 111), (61, .if_icmp .ge 0, 64, 68), (64, .iconst (1), 65, 0), (65, .goto 0, 69, 0), (68, .iconst (0), 69, 0), (69, .iload 2, 70, 0), (70, .if_icmp .ne 0, 73, 83), (73, .aload 0, 74, 0), (74, .getfield 606, 77, 28), (77, .iload 4, 79, 1), (79, .iaload, 80, 0), (80, .goto 0, 84, 0), (83, .iconst (0), 84, 0), (84, .iadd, 85, 0), (85, .istore 3, 86, 0), (86, .iinc 4 1, 89, 0), (89, .goto 0, 22, 0), (92, .iload 3, 93, 0), (93, .ireturn, 94, 0)]
def mm_o152 : List (Nat × Instr × Nat × Nat) := [(0, .aload 0, 1, 0), (1, .iload 1, 2, 0), (2, .iconst (0), 3, 0), (3, .invokevirtual 151, 6, 208), (6, .ireturn, 7, 0)]
def mm_o153 : List (Nat × Instr × Nat × Nat) := [(0, .aload 0, 1, 0), (1, .iload 1, 2, 0), (2, .iconst (1), 3, 0), (3, .invokevirtual 151, 6, 208), (6, .ireturn, 7, 0)]
def mm_o154 : List (Nat × Instr × Nat × Nat) := [(0, .aload 0, 1, 0), (1, .iconst (0), 2, 0), (2, .putfield 626, 5, 91), (5, .aload 0, 6, 0), (6, .getfield 624, 9, 108), (9, .ireturn, 10, 0)]
def mm_o155 : List (Nat × Instr × Nat × Nat) := [(0, .aload 0, 1, 0), (1, .iload 1, 2, 0), (2, .iconst (0), 3, 0), (3, .aload 0, 4, 0), (4, .getfield 624, 7, 108), (7, .iconst (1), 8, 0), (8, .isub, 9, 0), (9, .invokestatic 102, 12, 98), (12, .ifCond .eq 0, 15, 19), (15, .iconst (0), 16, 0), (16, .goto 0, 20, 0), (19, .iconst (1), 20, 0), (20, .putfield 626, 23, 91), (23, .aload 0, 24, 0), (24, .getfield 626, 27, 91), (27, .ifCond .le 0, 30, 34), (30, .iconst (1), 31, 0), (31, .goto 0, 35, 0), (34, .iconst (0), 35, 0), (35, .ireturn, 36, 0)]
def mm_o156 : List (Nat × Instr × Nat × Nat) := [(0, .aload 0, 1, 0), (1, .iload 1, 2, 0), (2, .invokevirtual 155, 5, 212), (5, .ifCond .eq 0, 8, 13), (8, .iconst (32), 10, 1), (10, .goto 0, 19, 0), (13, .aload 0, 14, 0), (14, .getfield 618, 17, 58), (17, .iload 1, 18, 0), (18, .caload, 19, 0), (19, .ireturn, 20, 0)]
def mm_o157 : List (Nat × Instr × Nat × Nat) := [(0, .aload 0, 1, 0), (1, .iload 1, 2, 0), (2, .invokevirtual 155, 5, 212), (5, .ifCond .eq 0, 8, 12), (8, .iconst (0), 9, 0), (9, .goto 0, 18, 0), (12, .aload 0, 13, 0), (13, .getfield 619, 16, 61), (16, .iload 1, 17, 0), (17, .iaload, 18, 0), (18, .ireturn, 19, 0)]
def mm_o158 : List (Nat × Instr × Nat × Nat) := [(0, .aload 0, 1, 0), (1, .iload 1, 2, 0), (2, .invokevirtual 155, 5, 212), (5, .ifCond .eq 0, 8, 12), (8, .iconst (0), 9, 0), (9, .goto 0, 18, 0), (12, .aload 0, 13, 0), (13, .getfield 620, 16, 64), (16, .iload 1, 17, 0), (17, .iaload, 18, 0), (18, .ireturn, 19, 0)]
def mm_o159 : List (Nat × Instr × Nat × Nat) := [(0, .aload 0, 1, 0), (1, .iload 1, 2, 0), (2, .invokevirtual 155, 5, 212), (5, .ifCond .eq 0, 8, 12), (8, .iconst (0), 9, 0), (9, .goto 0, 18, 0), (12, .aload 0, 13, 0), (13, .getfield 621, 16, 67), (16, .iload 1, 17, 0), (17, .iaload, 18, 0), (18, .ireturn, 19, 0)]
def mm_o160 : List (Nat × Instr × Nat × Nat) := [(0, .aload 0, 1, 0), (1, .iload 1, 2, 0), (2, .invokevirtual 155, 5, 212), (5, .ifCond .eq 0, 8, 12), (8, .iconst (0), 9, 0), (9, .goto 0, 18, 0), (12, .aload 0, 13, 0), (13, .getfield 622, 16, 70), (16, .iload 1, 17, 0), (17, .iaload, 18, 0), (18, .ireturn, 19, 0)]
def mm_o161 : List (Nat × Instr × Nat × Nat) := [(0, .aload 0, 1, 0), (1, .aload 0, 2, 0), (2, .iload 1, 3, 0), (3, .invokevirtual 103, 6, 114), (6, .ifCond .ne 0, 9, 13), (9, .iconst (1), 10, 0), (10, .goto 0, 30, 0), (13, .iload 2, 14, 0), (14, .iconst (0), 15, 0), (15, .aload 0, 16, 0), (16, .getfield 625, 19, 111), (19, .invokestatic 102, 22, 98), (22, .ifCond .ne 0, 25, 29), (25, .iconst (2), 26, 0), (26, .goto 0, 30, 0), (29, .iconst (0), 30, 0), (30, .putfield 626, 33, 91), (33, .iconst (0), 34, 0), (34, .istore 3, 35, 0), (35, .iconst (0), 36, 0), (36, .istore 4, 38, 1), (38, .iload 4, 40, 1), (40, .aload 0, 41, 0), (41, .getfield 624, 44, 108), (44, .if_icmp .ge 0, 47, 135), (47, .aload 0, 48, 0), (48, .getfield 626, 51, 91), (51, .ifCond .ne 0, 54, 135), (54, .aload 0, 55, 0), (55, .getfield 603, 58, 18), (58, .aload 0, 59, 0), (59, .getfield 619, 62, 61), (62, .iload 4, 64, 1), (64, .iaload, 65, 0), (65, .iaload, 66, 0), (66, .iload 1, 67, 0), (67, .if_icmp .ne 0, 70, 129), (70, .aload 0, 71, 0), (71, .getfield 623, 74, 73), (74, .iload 4, 76, 1), (76, .iaload, 77, 0), (77, .iload 2, 78, 0), (78, .if_icmp .gt 0, 81, 129), (81, .iload 3, 82, 0), (82, .aload 0, 83, 0), (83, .getfield 621, 86, 67), (86, .iload 4, 88, 1), (88, .iaload, 89, 0), (89, .iconst (-1), 90, 0), (90, .if_icmp .ne 0, 93, 97), (93, .iconst (0), 94, 0), (94, .goto 0, 104, 0), (97, .aload 0, 98, 0), (98, .getfield 622, 101, 70), (101, .iload 4, 103, 1), (103, .iaload, 104, 0), (104, .aload 0, 105, 0), (105, .getfield 620, 108, 64), (108, .iload 4, 110, 1), (110, .iaload, 111, 0), (111, .iconst (-1), 112, 0), (112, .if_icmp .ne 0, 115, 119), (115, .iconst (0), 116, 0), (116, .goto 0, 126, 0), (119, .aload 0, 120, 0), (120, .getfield 622, 123, 70), (123, .iload 4, 125, 1), (125, .iaload, 126, 0), (126, .isub, 127, 0), (127, .iadd, 128, 0), (128, .istore 3, 129, 0), (129, .iinc 4 1, 132, 0), (132, .goto 0, 38, 0), (135, .iload 3, 136, 0), (136, .ireturn, 137, 0)]
def mm_o162 : List (Nat × Instr × Nat × Nat) := [(0, .iconst (0), 1, 0), (1, .istore 1, 2, 0), (2, .iconst (0), 3, 0), (3, .istore 2, 4, 0), (4, .iconst (0), 5, 0), (5, .istore 3, 6, 0), (6, .iload 3, 7, 0), (7, .aload 0, 8, 0), (8, .getfield 617, 11, 105), (11, .if_icmp .ge 0, 14, 58), (14, .iload 1, 15, 0), (15, .aload 0, 16, 0), (16, .getfield 611, 19, 40), (19, .iload 3, 20, 0), (20, .caload, 21, 0), (21, .iconst (112), 23, 1), (23, .if_icmp .ne 0, 26, 30), (26, .iconst (1), 27, 0), (27, .goto 0, 31, 0), (30, .iconst (0), 31, 0), (31, .iadd, 32, 0), (32, .istore 1, 33, 0), (33, .iload 2, 34, 0), (34, .aload 0, 35, 0), (35, .getfield 611, 38, 40), (38, .iload 3, 39, 0), (39, .caload, 40, 0), (40, .iconst (111), 42, 1), (42, .if_icmp .ne 0, 45, 49), (45, .iconst (0), 46, 0), (46, .goto 0, 50, 0), (49, .iconst (1), 50, 0), (50, .iadd, 51, 0), (51, .istore 2, 52, 0), (52, .iinc 3 1, 55, 0), (55, .goto 0, 6, 0), (58, .aload 0, 59, 0), (59, .iload 2, 60, 0), (60, .ifCond .ne 0, 63, 67), (63, .iconst (1), 64, 0), (64, .goto 0, 68, 0), (67, .iconst (0), 68, 0), (68, .putfield 626, 71, 91), (71, .iload 2, 72, 0), (72, .ifCond .ne 0, 75, 79), (75, .fconst 0, 76, 0), (76, .goto 0, 84, 0), (79, .iload 1, 80, 0), (80, .i2f, 81, 0), (81, .iload 2, 82, 0), (82, .i2f, 83, 0), (83, .fdiv, 84, 0), (84, .freturn, 85, 0)]
def mm_o163 : List (Nat × Instr × Nat × Nat) := [(0, .aload 2, 1, 0), (1, .iconst (0), 2, 0), (2, .aload 0, 3, 0), (3, .iload 1, 4, 0), (4, .invokevirtual 34, 7, 7), (7, .i2l, 8, 0), (8, .lastore, 9, 0), (9, .goto 0, 18, 0), (12, .astore 3, 13, 0), (13, .iconst (1), 14, 0), (14, .ireturn, 15, 0), (15, .astore 3, 16, 0), (16, .iconst (2), 17, 0), (17, .ireturn, 18, 0), (18, .iconst (0), 19, 0), (19, .ireturn, 20, 0)]
def mm_o164 : List (Nat × Instr × Nat × Nat) := [(0, .aload 4, 2, 1), (2, .iconst (0), 3, 0), (3, .aload 0, 4, 0), (4, .iload 1, 5, 0), (5, .iload 2, 6, 0), (6, .iload 3, 7, 0), (7, .invokevirtual 35, 10, 17), (10, .i2l, 11, 0), (11, .lastore, 12, 0), (12, .goto 0, 31, 0), (15, .astore 5, 17, 1), (17, .iconst (1), 18, 0), (18, .ireturn, 19, 0), (19, .astore 5, 21, 1), (21, .iconst (2), 22, 0), (22, .ireturn, 23, 0), (23, .astore 5, 25, 1), (25, .iconst (3), 26, 0), (26, .ireturn, 27, 0), (27, .astore 5, 29, 1), (29, .iconst (4), 30, 0), (30, .ireturn, 31, 0), (31, .iconst (0), 32, 0), (32, .ireturn, 33, 0)]
def mm_o165 : List (Nat × Instr × Nat × Nat) := [(0, .aload 5, 2, 1), (2, .iconst (0), 3, 0), (3, .aload 0, 4, 0), (4, .iload 1, 5, 0), (5, .iload 2, 6, 0), (6, .iload 3, 7, 0), (7, .iload 4, 9, 1), (9, .invokevirtual 36, 12, 25), (12, .i2l, 13, 0), (13, .lastore, 14, 0), (14, .goto 0, 33, 0), (17, .astore 6, 19, 1), (19, .iconst (1), 20, 0), (20, .ireturn, 21, 0), (21, .astore 6, 23, 1), (23, .iconst (2), 24, 0), (24, .ireturn, 25, 0), (25, .astore 6, 27, 1), (27, .iconst (3), 28, 0), (28, .ireturn, 29, 0), (29, .astore 6, 31, 1), (31, .iconst (4), 32, 0), (32, .ireturn, 33, 0), (33, .iconst (0), 34, 0), (34, .ireturn, 35, 0)]
def mm_o166 : List (Nat × Instr × Nat × Nat) := [(0, .aload 5, 2, 1), (2, .iconst (0), 3, 0), (3, .aload 0, 4, 0), (4, .iload 1, 5, 0), (5, .iload 2, 6, 0), (6, .iload 3, 7, 0), (7, .iload 4, 9, 1), (9, .invokevirtual 37, 12, 29), (12, .i2l, 13, 0), (13, .lastore, 14, 0), (14, .goto 0, 37, 0), (17, .astore 6, 19, 1), (19, .iconst (1), 20, 0), (20, .ireturn, 21, 0), (21, .astore 6, 23, 1), (23, .iconst (2), 24, 0), (24, .ireturn, 25, 0), (25, .astore 6, 27, 1), (27, .iconst (3), 28, 0), (28, .ireturn, 29, 0), (29, .astore 6, 31, 1), (31, .iconst (4), 32, 0), (32, .ireturn, 33, 0), (33, .astore 6, 35, 1), (35, .iconst (5), 36, 0), (36, .ireturn, 37, 0), (37, .iconst (0), 38, 0), (38, .ireturn, 39, 0)]
def mm_o167 : List (Nat × Instr × Nat × Nat) := [(0, .aload 2, 1, 0), (1, .iconst (0), 2, 0), (2, .aload 0, 3, 0), (3, .iload 1, 4, 0), (4, .invokevirtual 38, 7, 34), (7, .i2l, 8, 0), (8, .lastore, 9, 0), (9, .goto 0, 24, 0), (12, .astore 3, 13, 0), (13, .iconst (1), 14, 0), (14, .ireturn, 15, 0), (15, .astore 3, 16, 0), (16, .iconst (2), 17, 0), (17, .ireturn, 18, 0), (18, .astore 3, 19, 0), (19, .iconst (3), 20, 0), (20, .ireturn, 21, 0), (21, .astore 3, 22, 0), (22, .iconst (4), 23, 0), (23, .ireturn, 24, 0), (24, .iconst (0), 25, 0), (25, .ireturn, 26, 0)]
def mm_o168 : List (Nat × Instr × Nat × Nat) := [(0, .aload 4, 2, 1), (2, .iconst (0), 3, 0), (3, .aload 0, 4, 0), (4, .iload 1, 5, 0), (5, .iload 2, 6, 0), (6, .iload 3, 7, 0), (7, .invokevirtual 39, 10, 38), (10, .i2l, 11, 0), (11, .lastore, 12, 0), (12, .goto 0, 31, 0), (15, .astore 5, 17, 1), (17, .iconst (1), 18, 0), (18, .ireturn, 19, 0), (19, .astore 5, 21, 1), (21, .iconst (2), 22, 0), (22, .ireturn, 23, 0), (23, .astore 5, 25, 1), (25, .iconst (3), 26, 0), (26, .ireturn, 27, 0), (27, .astore 5, 29, 1), (29, .iconst (4), 30, 0), (30, .ireturn, 31, 0), (31, .iconst (0), 32, 0), (32, .ireturn, 33, 0)]
def mm_o169 : List (Nat × Instr × Nat × Nat) := [(0, .aload 5, 2, 1), (2, .iconst (0), 3, 0), (3, .aload 0, 4, 0), (4, .iload 1, 5, 0), (5, .iload 2, 6, 0), (6, .iload 3, 7, 0), (7, .iload 4, 9, 1), (9, .invokevirtual 40, 12, 41), (12, .i2l, 13, 0), (13, .lastore, 14, 0), (14, .goto 0, 33, 0), (17, .astore 6, 19, 1), (19, .iconst (1), 20, 0), (20, .ireturn, 21, 0), (21, .astore 6, 23, 1), (23, .iconst (2), 24, 0), (24, .ireturn, 25, 0), (25, .astore 6, 27, 1), (27, .iconst (3), 28, 0), (28, .ireturn, 29, 0), (29, .astore 6, 31, 1), (31, .iconst (4), 32, 0), (32, .ireturn, 33, 0), (33, .iconst (0), 34, 0), (34, .ireturn, 35, 0)]
def mm_o170 : List (Nat × Instr × Nat × Nat) := [(0, .aload 2, 1, 0), (1, .iconst (0), 2, 0), (2, .aload 0, 3, 0), (3, .iload 1, 4, 0), (4, .invokevirtual 41, 7, 45), (7, .i2l, 8, 0), (8, .lastore, 9, 0), (9, .goto 0, 18, 0), (12, .astore 3, 13, 0), (13, .iconst (1), 14, 0), (14, .ireturn, 15, 0), (15, .astore 3, 16, 0), (16, .iconst (2), 17, 0), (17, .ireturn, 18, 0), (18, .iconst (0), 19, 0), (19, .ireturn, 20, 0)]
def mm_o171 : List (Nat × Instr × Nat × Nat) := [(0, .aload 2, 1, 0), (1, .iconst (0), 2, 0), (2, .aload 0, 3, 0), (3, .iload 1, 4, 0), (4, .invokevirtual 42, 7, 48), (7, .i2l, 8, 0), (8, .lastore, 9, 0), (9, .goto 0, 18, 0), (12, .astore 3, 13, 0), (13, .iconst (1), 14, 0), (14, .ireturn, 15, 0), (15, .astore 3, 16, 0), (16, .iconst (2), 17, 0), (17, .ireturn, 18, 0), (18, .iconst (0), 19, 0), (19, .ireturn, 20, 0)]
def mm_o172 : List (Nat × Instr × Nat × Nat) := [(0, .aload 2, 1, 0), (1, .iconst (0), 2, 0), (2, .aload 0, 3, 0), (3, .iload 1, 4, 0), (4, .invokevirtual 43, 7, 51), (7, .i2l, 8, 0), (8, .lastore, 9, 0), (9, .goto 0, 15, 0), (12, .astore 3, 13, 0), (13, .iconst (1), 14, 0), (14, .ireturn, 15, 0), (15, .iconst (0), 16, 0), (16, .ireturn, 17, 0)]
def mm_o173 : List (Nat × Instr × Nat × Nat) := [(0, .aload 3, 1, 0), (1, .iconst (0), 2, 0), (2, .aload 0, 3, 0), (3, .iload 1, 4, 0), (4, .iload 2, 5, 0), (5, .invokevirtual 44, 8, 55), (8, .i2l, 9, 0), (9, .lastore, 10, 0), (10, .goto 0, 17, 0), (13, .astore 4, 15, 1), (15, .iconst (1), 16, 0), (16, .ireturn, 17, 0), (17, .iconst (0), 18, 0), (18, .ireturn, 19, 0)]
def mm_o174 : List (Nat × Instr × Nat × Nat) := [(0, .aload 3, 1, 0), (1, .iconst (0), 2, 0), (2, .aload 0, 3, 0), (3, .iload 1, 4, 0), (4, .iload 2, 5, 0), (5, .invokevirtual 45, 8, 59), (8, .i2l, 9, 0), (9, .lastore, 10, 0), (10, .goto 0, 21, 0), (13, .astore 4, 15, 1), (15, .iconst (1), 16, 0), (16, .ireturn, 17, 0), (17, .astore 4, 19, 1), (19, .iconst (2), 20, 0), (20, .ireturn, 21, 0), (21, .iconst (0), 22, 0), (22, .ireturn, 23, 0)]
def mm_o175 : List (Nat × Instr × Nat × Nat) := [(0, .aload 3, 1, 0), (1, .iconst (0), 2, 0), (2, .aload 0, 3, 0), (3, .iload 1, 4, 0), (4, .iload 2, 5, 0), (5, .invokevirtual 46, 8, 62), (8, .i2l, 9, 0), (9, .lastore, 10, 0), (10, .goto 0, 21, 0), (13, .astore 4, 15, 1), (15, .iconst (1), 16, 0), (16, .ireturn, 17, 0), (17, .astore 4, 19, 1), (19, .iconst (2), 20, 0), (20, .ireturn, 21, 0), (21, .iconst (0), 22, 0), (22, .ireturn, 23, 0)]
def mm_o176 : List (Nat × Instr × Nat × Nat) := [(0, .aload 2, 1, 0), (1, .iconst (0), 2, 0), (2, .aload 0, 3, 0), (3, .iload 1, 4, 0), (4, .invokevirtual 47, 7, 65), (7, .i2l, 8, 0), (8, .lastore, 9, 0), (9, .goto 0, 18, 0), (12, .astore 3, 13, 0), (13, .iconst (1), 14, 0), (14, .ireturn, 15, 0), (15, .astore 3, 16, 0), (16, .iconst (2), 17, 0), (17, .ireturn, 18, 0), (18, .iconst (0), 19, 0), (19, .ireturn, 20, 0)]
def mm_o177 : List (Nat × Instr × Nat × Nat) := [(0, .aload 3, 1, 0), (1, .iconst (0), 2, 0), (2, .aload 0, 3, 0), (3, .iload 1, 4, 0), (4, .iload 2, 5, 0), (5, .invokevirtual 48, 8, 68), (8, .i2l, 9, 0), (9, .lastore, 10, 0), (10, .goto 0, 25, 0), (13, .astore 4, 15, 1), (15, .iconst (1), 16, 0), (16, .ireturn, 17, 0), (17, .astore 4, 19, 1), (19, .iconst (2), 20, 0), (20, .ireturn, 21, 0), (21, .astore 4, 23, 1), (23, .iconst (3), 24, 0), (24, .ireturn, 25, 0), (25, .iconst (0), 26, 0), (26, .ireturn, 27, 0)]
def mm_o178 : List (Nat × Instr × Nat × Nat) := [(0, .aload 3, 1, 0), (1, .iconst (0), 2, 0), (2, .aload 0, 3, 0), (3, .iload 1, 4, 0), (4, .iload 2, 5, 0), (5, .invokevirtual 49, 8, 71), (8, .i2l, 9, 0), (9, .lastore, 10, 0), (10, .goto 0, 25, 0), (13, .astore 4, 15, 1), (15, .iconst (1), 16, 0), (16, .ireturn, 17, 0), (17, .astore 4, 19, 1), (19, .iconst (2), 20, 0), (20, .ireturn, 21, 0), (21, .astore 4, 23, 1), (23, .iconst (3), 24, 0), (24, .ireturn, 25, 0), (25, .iconst (0), 26, 0), (26, .ireturn, 27, 0)]
def mm_o179 : List (Nat × Instr × Nat × Nat) := [(0, .aload 3, 1, 0), (1, .iconst (0), 2, 0), (2, .aload 0, 3, 0), (3, .iload 1, 4, 0), (4, .iload 2, 5, 0), (5, .invokevirtual 50, 8, 74), (8, .i2l, 9, 0), (9, .lastore, 10, 0), (10, .goto 0, 25, 0), (13, .astore 4, 15, 1), (15, .iconst (1), 16, 0), (16, .ireturn, 17, 0), (17, .astore 4, 19, 1), (19, .iconst (2), 20, 0), (20, .ireturn, 21, 0), (21, .astore 4, 23, 1), (23, .iconst (3), 24, 0), (24, .ireturn, 25, 0), (25, .iconst (0), 26, 0), (26, .ireturn, 27, 0)]
def mm_o180 : List (Nat × Instr × Nat × Nat) := [(0, .aload 2, 1, 0), (1, .iconst (0), 2, 0), (2, .aload 0, 3, 0), (3, .iload 1, 4, 0), (4, .invokevirtual 51, 7, 77), (7, .i2l, 8, 0), (8, .lastore, 9, 0), (9, .goto 0, 18, 0), (12, .astore 3, 13, 0), (13, .iconst (1), 14, 0), (14, .ireturn, 15, 0), (15, .astore 3, 16, 0), (16, .iconst (2), 17, 0), (17, .ireturn, 18, 0), (18, .iconst (0), 19, 0), (19, .ireturn, 20, 0)]
def mm_o181 : List (Nat × Instr × Nat × Nat) := [(0, .aload 2, 1, 0), (1, .iconst (0), 2, 0), (2, .aload 0, 3, 0), (3, .iload 1, 4, 0), (4, .invokevirtual 52, 7, 80), (7, .i2l, 8, 0), (8, .lastore, 9, 0), (9, .goto 0, 18, 0), (12, .astore 3, 13, 0), (13, .iconst (1), 14, 0), (14, .ireturn, 15, 0), (15, .astore 3, 16, 0), (16, .iconst (2), 17, 0), (17, .ireturn, 18, 0), (18, .iconst (0), 19, 0), (19, .ireturn, 20, 0)]
def mm_o182 : List (Nat × Instr × Nat × Nat) := [(0, .aload 2, 1, 0), (1, .iconst (0), 2, 0), (2, .aload 0, 3, 0), (3, .iload 1, 4, 0), (4, .invokevirtual 53, 7, 83), (7, .i2l, 8, 0), (8, .lastore, 9, 0), (9, .goto 0, 15, 0), (12, .astore 3, 13, 0), (13, .iconst (1), 14, 0), (14, .ireturn, 15, 0), (15, .iconst (0), 16, 0), (16, .ireturn, 17, 0)]
def mm_o183 : List (Nat × Instr × Nat × Nat) := [(0, .aload 1, 1, 0), (1, .iconst (0), 2, 0), (2, .aload 0, 3, 0), (3, .invokevirtual 56, 6, 86), (6, .i2l, 7, 0), (7, .lastore, 8, 0), (8, .goto 0, 14, 0), (11, .astore 2, 12, 0), (12, .iconst (1), 13, 0), (13, .ireturn, 14, 0), (14, .iconst (0), 15, 0), (15, .ireturn, 16, 0)]
def mm_o184 : List (Nat × Instr × Nat × Nat) := [(0, .aload 2, 1, 0), (1, .iconst (0), 2, 0), (2, .aload 0, 3, 0), (3, .iload 1, 4, 0), (4, .invokevirtual 57, 7, 90), (7, .i2l, 8, 0), (8, .lastore, 9, 0), (9, .goto 0, 18, 0), (12, .astore 3, 13, 0), (13, .iconst (1), 14, 0), (14, .ireturn, 15, 0), (15, .astore 3, 16, 0), (16, .iconst (2), 17, 0), (17, .ireturn, 18, 0), (18, .iconst (0), 19, 0), (19, .ireturn, 20, 0)]
def mm_o185 : List (Nat × Instr × Nat × Nat) := [(0, .aload 3, 1, 0), (1, .iconst (0), 2, 0), (2, .aload 0, 3, 0), (3, .iload 1, 4, 0), (4, .iload 2, 5, 0), (5, .invokevirtual 58, 8, 93), (8, .i2l, 9, 0), (9, .lastore, 10, 0), (10, .goto 0, 17, 0), (13, .astore 4, 15, 1), (15, .iconst (1), 16, 0), (16, .ireturn, 17, 0), (17, .iconst (0), 18, 0), (18, .ireturn, 19, 0)]
def mm_o186 : List (Nat × Instr × Nat × Nat) := [(0, .aload 3, 1, 0), (1, .iconst (0), 2, 0), (2, .aload 0, 3, 0), (3, .iload 1, 4, 0), (4, .iload 2, 5, 0), (5, .invokevirtual 59, 8, 96), (8, .i2l, 9, 0), (9, .lastore, 10, 0), (10, .goto 0, 17, 0), (13, .astore 4, 15, 1), (15, .iconst (1), 16, 0), (16, .ireturn, 17, 0), (17, .iconst (0), 18, 0), (18, .ireturn, 19, 0)]
def mm_o187 : List (Nat × Instr × Nat × Nat) := [(0, .aload 2, 1, 0), (1, .iconst (0), 2, 0), (2, .aload 0, 3, 0), (3, .iload 1, 4, 0), (4, .invokevirtual 60, 7, 99), (7, .i2l, 8, 0), (8, .lastore, 9, 0), (9, .goto 0, 15, 0), (12, .astore 3, 13, 0), (13, .iconst (1), 14, 0), (14, .ireturn, 15, 0), (15, .iconst (0), 16, 0), (16, .ireturn, 17, 0)]
def mm_o188 : List (Nat × Instr × Nat × Nat) := [(0, .aload 3, 1, 0), (1, .iconst (0), 2, 0), (2, .aload 0, 3, 0), (3, .iload 1, 4, 0), (4, .iload 2, 5, 0), (5, .invokevirtual 62, 8, 102), (8, .i2l, 9, 0), (9, .lastore, 10, 0), (10, .goto 0, 21, 0), (13, .astore 4, 15, 1), (15, .iconst (1), 16, 0), (16, .ireturn, 17, 0), (17, .astore 4, 19, 1), (19, .iconst (2), 20, 0), (20, .ireturn, 21, 0), (21, .iconst (0), 22, 0), (22, .ireturn, 23, 0)]
def mm_o189 : List (Nat × Instr × Nat × Nat) := [(0, .aload 2, 1, 0), (1, .iconst (0), 2, 0), (2, .aload 0, 3, 0), (3, .iload 1, 4, 0), (4, .invokevirtual 63, 7, 105), (7, .i2l, 8, 0), (8, .lastore, 9, 0), (9, .goto 0, 15, 0), (12, .astore 3, 13, 0), (13, .iconst (1), 14, 0), (14, .ireturn, 15, 0), (15, .iconst (0), 16, 0), (16, .ireturn, 17, 0)]
def mm_o190 : List (Nat × Instr × Nat × Nat) := [(0, .aload 2, 1, 0), (1, .iconst (0), 2, 0), (2, .aload 0, 3, 0), (3, .iload 1, 4, 0), (4, .invokevirtual 64, 7, 108), (7, .i2l, 8, 0), (8, .lastore, 9, 0), (9, .goto 0, 15, 0), (12, .astore 3, 13, 0), (13, .iconst (1), 14, 0), (14, .ireturn, 15, 0), (15, .iconst (0), 16, 0), (16, .ireturn, 17, 0)]
def mm_o191 : List (Nat × Instr × Nat × Nat) := [(0, .aload 2, 1, 0), (1, .iconst (0), 2, 0), (2, .aload 0, 3, 0), (3, .iload 1, 4, 0), (4, .invokevirtual 66, 7, 111), (7, .i2l, 8, 0), (8, .lastore, 9, 0), (9, .goto 0, 15, 0), (12, .astore 3, 13, 0), (13, .iconst (1), 14, 0), (14, .ireturn, 15, 0), (15, .iconst (0), 16, 0), (16, .ireturn, 17, 0)]
def mm_o192 : List (Nat × Instr × Nat × Nat) := [(0, .aload 2, 1, 0), (1, .iconst (0), 2, 0), (2, .aload 0, 3, 0), (3, .iload 1, 4, 0), (4, .invokevirtual 67, 7, 114), (7, .i2l, 8, 0), (8, .lastore, 9, 0), (9, .goto 0, 15, 0), (12, .astore 3, 13, 0), (13, .iconst (1), 14, 0), (14, .ireturn, 15, 0), (15, .iconst (0), 16, 0), (16, .ireturn, 17, 0)]
def mm_o193 : List (Nat × Instr × Nat × Nat) := [(0, .aload 2, 1, 0), (1, .iconst (0), 2, 0), (2, .aload 0, 3, 0), (3, .iload 1, 4, 0), (4, .invokevirtual 68, 7, 117), (7, .i2l, 8, 0), (8, .lastore, 9, 0), (9, .goto 0, 15, 0), (12, .astore 3, 13, 0), (13, .iconst (1), 14, 0), (14, .ireturn, 15, 0), (15, .iconst (0), 16, 0), (16, .ireturn, 17, 0)]
def mm_o194 : List (Nat × Instr × Nat × Nat) := [(0, .aload 2, 1, 0), (1, .iconst (0), 2, 0), (2, .aload 0, 3, 0), (3, .iload 1, 4, 0), (4, .invokevirtual 69, 7, 120), (7, .i2l, 8, 0), (8, .lastore, 9, 0), (9, .goto 0, 15, 0), (12, .astore 3, 13, 0), (13, .iconst (1), 14, 0), (14, .ireturn, 15, 0), (15, .iconst (0), 16, 0), (16, .ireturn, 17, 0)]
def mm_o195 : List (Nat × Instr × Nat × Nat) := [(0, .aload 2, 1, 0), (1, .iconst (0), 2, 0), (2, .aload 0, 3, 0), (3, .iload 1, 4, 0), (4, .invokevirtual 70, 7, 123), (7, .i2l, 8, 0), (8, .lastore, 9, 0), (9, .goto 0, 15, 0), (12, .astore 3, 13, 0), (13, .iconst (1), 14, 0), (14, .ireturn, 15, 0), (15, .iconst (0), 16, 0), (16, .ireturn, 17, 0)]
def mm_o196 : List (Nat × Instr × Nat × Nat) := [(0, .aload 3, 1, 0), (1, .iconst (0), 2, 0), (2, .aload 0, 3, 0), (3, .iload 1, 4, 0), (4, .iload 2, 5, 0), (5, .invokevirtual 71, 8, 126), (8, .i2l, 9, 0), (9, .lastore, 10, 0), (10, .goto 0, 21, 0), (13, .astore 4, 15, 1), (15, .iconst (1), 16, 0), (16, .ireturn, 17, 0), (17, .astore 4, 19, 1), (19, .iconst (2), 20, 0), (20, .ireturn, 21, 0), (21, .iconst (0), 22, 0), (22, .ireturn, 23, 0)]
def mm_o197 : List (Nat × Instr × Nat × Nat) := [(0, .aload 1, 1, 0), (1, .iconst (0), 2, 0), (2, .aload 0, 3, 0), (3, .invokevirtual 72, 6, 129), (6, .f2d, 7, 0), (7, .dastore, 8, 0), (8, .goto 0, 14, 0), (11, .astore 2, 12, 0), (12, .iconst (1), 13, 0), (13, .ireturn, 14, 0), (14, .iconst (0), 15, 0), (15, .ireturn, 16, 0)]
def mm_o198_0 : List (Nat × Instr × Nat × Nat) := [(3, .dup, 4, 0), (7, .astore 1, 8, 0), (11, .dup, 12, 0), (15, .astore 2, 16, 0), (16, .iconst (1), 17, 0), (19, .astore 3, 20, 0), (20, .iconst (1), 21, 0), (23, .astore 4, 25, 1), (25, .iconst (0), 26, 0), (26, .istore 5, 28, 1), (28, .iload 5, 30, 1), (30, .aload 0, 31, 0), (31, .arraylength, 32, 0), (32, .iconst (5), 33, 0), (33, .isub, 34, 0), (34, .if_icmp .gt 0, 37, 2526), (37, .aload 0, 38, 0), (38, .iload 5, 40, 1), (40, .iaload, 41, 0), (41, .iconst (63), 43, 1), (43, .iand, 44, 0), (44, .tableswitch 2476 0 38 #[172, 230, 310, 402, 494, 550, 630, 738, 794, 850, 906, 974, 1042, 1110, 1166, 1234, 1302, 1370, 1426, 1482, 1538, 1551, 1564, 1608, 1664, 1732, 1800, 1856, 1869, 1937, 1993, 2049, 2062, 2118, 2174, 2230, 2286, 2342, 2410], 216, 0), (216, .aload 1, 217, 0), (217, .aload 0, 218, 0), (218, .iload 5, 220, 1), (220, .iconst (1), 221, 0), (221, .iadd, 222, 0), (222, .iaload, 223, 0), (223, .i2c, 224, 0), (224, .aload 3, 225, 0), (225, .invokestatic 163, 228, 137), (228, .istore 6, 230, 1), (230, .aload 2, 231, 0), (231, .aload 0, 232, 0), (232, .iload 5, 234, 1), (234, .iconst (1), 235, 0), (235, .iadd, 236, 0), (236, .iaload, 237, 0), (237, .i2c, 238, 0), (238, .invokevirtual 111, 241, 142), (241, .istore 7, 243, 1), (243, .aload 2, 244, 0), (244, .invokevirtual 100, 247, 143), (247, .iload 6, 249, 1), (249, .if_icmp .eq 0, 252, 254), (252, .iconst (0), 253, 0), (253, .ireturn, 254, 0), (254, .iload 6, 256, 1), (256, .ifCond .ne 0, 259, 271), (259, .aload 3, 260, 0), (260, .iconst (0), 261, 0), (261, .laload, 262, 0), (262, .iload 7, 264, 1), (264, .i2l, 265, 0), (265, .lcmp, 266, 0), (266, .ifCond .eq 0, 269, 271), (269, .iconst (0), 270, 0), (270, .ireturn, 271, 0), (271, .goto 0, 2520, 0), (274, .aload 1, 275, 0), (275, .aload 0, 276, 0), (276, .iload 5, 278, 1), (278, .iconst (1), 279, 0), (279, .iadd, 280, 0), (280, .iaload, 281, 0), (281, .aload 0, 282, 0), (282, .iload 5, 284, 1), (284, .iconst (2), 285, 0), (285, .iadd, 286, 0), (286, .iaload, 287, 0), (287, .aload 0, 288, 0), (288, .iload 5, 290, 1), (290, .iconst (3), 291, 0), (291, .iadd, 292, 0), (292, .iaload, 293, 0), (293, .aload 3, 294, 0), (294, .invokestatic 164, 297, 146), (297, .istore 6, 299, 1), (299, .aload 2, 300, 0), (300, .aload 0, 301, 0), (301, .iload 5, 303, 1), (303, .iconst (1), 304, 0), (304, .iadd, 305, 0), (305, .iaload, 306, 0), (306, .aload 0, 307, 0), (307, .iload 5, 309, 1), (309, .iconst (2), 310, 0), (310, .iadd, 311, 0), (311, .iaload, 312, 0), (312, .aload 0, 313, 0), (313, .iload 5, 315, 1), (315, .iconst (3), 316, 0), (316, .iadd, 317, 0), (317, .iaload, 318, 0), (318, .invokevirtual 112, 321, 149), (321, .istore 7, 323, 1), (323, .aload 2, 324, 0), (324, .invokevirtual 100, 327, 143), (327, .iload 6, 329, 1), (329, .if_icmp .eq 0, 332, 334)]
def mm_o198_1 : List (Nat × Instr × Nat × Nat) := [(332, .iconst (0), 333, 0), (333, .ireturn, 334, 0), (334, .iload 6, 336, 1), (336, .ifCond .ne 0, 339, 351), (339, .aload 3, 340, 0), (340, .iconst (0), 341, 0), (341, .laload, 342, 0), (342, .iload 7, 344, 1), (344, .i2l, 345, 0), (345, .lcmp, 346, 0), (346, .ifCond .eq 0, 349, 351), (349, .iconst (0), 350, 0), (350, .ireturn, 351, 0), (351, .goto 0, 2520, 0), (354, .aload 1, 355, 0), (355, .aload 0, 356, 0), (356, .iload 5, 358, 1), (358, .iconst (1), 359, 0), (359, .iadd, 360, 0), (360, .iaload, 361, 0), (361, .aload 0, 362, 0), (362, .iload 5, 364, 1), (364, .iconst (2), 365, 0), (365, .iadd, 366, 0), (366, .iaload, 367, 0), (367, .aload 0, 368, 0), (368, .iload 5, 370, 1), (370, .iconst (3), 371, 0), (371, .iadd, 372, 0), (372, .iaload, 373, 0), (373, .aload 0, 374, 0), (374, .iload 5, 376, 1), (376, .iconst (4), 377, 0), (377, .iadd, 378, 0), (378, .iaload, 379, 0), (379, .aload 3, 380, 0), (380, .invokestatic 165, 383, 150), (383, .istore 6, 385, 1), (385, .aload 2, 386, 0), (386, .aload 0, 387, 0), (387, .iload 5, 389, 1), (389, .iconst (1), 390, 0), (390, .iadd, 391, 0), (391, .iaload, 392, 0), (392, .aload 0, 393, 0), (393, .iload 5, 395, 1), (395, .iconst (2), 396, 0), (396, .iadd, 397, 0), (397, .iaload, 398, 0), (398, .aload 0, 399, 0), (399, .iload 5, 401, 1), (401, .iconst (3), 402, 0), (402, .iadd, 403, 0), (403, .iaload, 404, 0), (404, .aload 0, 405, 0), (405, .iload 5, 407, 1), (407, .iconst (4), 408, 0), (408, .iadd, 409, 0), (409, .iaload, 410, 0), (410, .invokevirtual 113, 413, 153), (413, .istore 7, 415, 1), (415, .aload 2, 416, 0), (416, .invokevirtual 100, 419, 143), (419, .iload 6, 421, 1), (421, .if_icmp .eq 0, 424, 426), (424, .iconst (0), 425, 0), (425, .ireturn, 426, 0), (426, .iload 6, 428, 1), (428, .ifCond .ne 0, 431, 443), (431, .aload 3, 432, 0), (432, .iconst (0), 433, 0), (433, .laload, 434, 0), (434, .iload 7, 436, 1), (436, .i2l, 437, 0), (437, .lcmp, 438, 0), (438, .ifCond .eq 0, 441, 443), (441, .iconst (0), 442, 0), (442, .ireturn, 443, 0), (443, .goto 0, 2520, 0), (446, .aload 1, 447, 0), (447, .aload 0, 448, 0), (448, .iload 5, 450, 1), (450, .iconst (1), 451, 0), (451, .iadd, 452, 0), (452, .iaload, 453, 0), (453, .aload 0, 454, 0), (454, .iload 5, 456, 1), (456, .iconst (2), 457, 0), (457, .iadd, 458, 0), (458, .iaload, 459, 0), (459, .aload 0, 460, 0), (460, .iload 5, 462, 1), (462, .iconst (3), 463, 0), (463, .iadd, 464, 0), (464, .iaload, 465, 0), (465, .aload 0, 466, 0), (466, .iload 5, 468, 1), (468, .iconst (4), 469, 0), (469, .iadd, 470, 0), (470, .iaload, 471, 0)]
def mm_o198_2 : List (Nat × Instr × Nat × Nat) := [(471, .aload 3, 472, 0), (472, .invokestatic 166, 475, 154), (475, .istore 6, 477, 1), (477, .aload 2, 478, 0), (478, .aload 0, 479, 0), (479, .iload 5, 481, 1), (481, .iconst (1), 482, 0), (482, .iadd, 483, 0), (483, .iaload, 484, 0), (484, .aload 0, 485, 0), (485, .iload 5, 487, 1), (487, .iconst (2), 488, 0), (488, .iadd, 489, 0), (489, .iaload, 490, 0), (490, .aload 0, 491, 0), (491, .iload 5, 493, 1), (493, .iconst (3), 494, 0), (494, .iadd, 495, 0), (495, .iaload, 496, 0), (496, .aload 0, 497, 0), (497, .iload 5, 499, 1), (499, .iconst (4), 500, 0), (500, .iadd, 501, 0), (501, .iaload, 502, 0), (502, .invokevirtual 114, 505, 156), (505, .istore 7, 507, 1), (507, .aload 2, 508, 0), (508, .invokevirtual 100, 511, 143), (511, .iload 6, 513, 1), (513, .if_icmp .eq 0, 516, 518), (516, .iconst (0), 517, 0), (517, .ireturn, 518, 0), (518, .iload 6, 520, 1), (520, .ifCond .ne 0, 523, 535), (523, .aload 3, 524, 0), (524, .iconst (0), 525, 0), (525, .laload, 526, 0), (526, .iload 7, 528, 1), (528, .i2l, 529, 0), (529, .lcmp, 530, 0), (530, .ifCond .eq 0, 533, 535), (533, .iconst (0), 534, 0), (534, .ireturn, 535, 0), (535, .goto 0, 2520, 0), (538, .aload 1, 539, 0), (539, .aload 0, 540, 0), (540, .iload 5, 542, 1), (542, .iconst (1), 543, 0), (543, .iadd, 544, 0), (544, .iaload, 545, 0), (545, .aload 3, 546, 0), (546, .invokestatic 167, 549, 157), (549, .istore 6, 551, 1), (551, .aload 2, 552, 0), (552, .aload 0, 553, 0), (553, .iload 5, 555, 1), (555, .iconst (1), 556, 0), (556, .iadd, 557, 0), (557, .iaload, 558, 0), (558, .invokevirtual 115, 561, 160), (561, .istore 7, 563, 1), (563, .aload 2, 564, 0), (564, .invokevirtual 100, 567, 143), (567, .iload 6, 569, 1), (569, .if_icmp .eq 0, 572, 574), (572, .iconst (0), 573, 0), (573, .ireturn, 574, 0), (574, .iload 6, 576, 1), (576, .ifCond .ne 0, 579, 591), (579, .aload 3, 580, 0), (580, .iconst (0), 581, 0), (581, .laload, 582, 0), (582, .iload 7, 584, 1), (584, .i2l, 585, 0), (585, .lcmp, 586, 0), (586, .ifCond .eq 0, 589, 591), (589, .iconst (0), 590, 0), (590, .ireturn, 591, 0), (591, .goto 0, 2520, 0), (594, .aload 1, 595, 0), (595, .aload 0, 596, 0), (596, .iload 5, 598, 1), (598, .iconst (1), 599, 0), (599, .iadd, 600, 0), (600, .iaload, 601, 0), (601, .aload 0, 602, 0), (602, .iload 5, 604, 1), (604, .iconst (2), 605, 0), (605, .iadd, 606, 0), (606, .iaload, 607, 0), (607, .aload 0, 608, 0), (608, .iload 5, 610, 1), (610, .iconst (3), 611, 0), (611, .iadd, 612, 0), (612, .iaload, 613, 0), (613, .aload 3, 614, 0), (614, .invokestatic 168, 617, 161), (617, .istore 6, 619, 1), (619, .aload 2, 620, 0), (620, .aload 0, 621, 0)]
def mm_o198_3 : List (Nat × Instr × Nat × Nat) := [(621, .iload 5, 623, 1), (623, .iconst (1), 624, 0), (624, .iadd, 625, 0), (625, .iaload, 626, 0), (626, .aload 0, 627, 0), (627, .iload 5, 629, 1), (629, .iconst (2), 630, 0), (630, .iadd, 631, 0), (631, .iaload, 632, 0), (632, .aload 0, 633, 0), (633, .iload 5, 635, 1), (635, .iconst (3), 636, 0), (636, .iadd, 637, 0), (637, .iaload, 638, 0), (638, .invokevirtual 116, 641, 163), (641, .istore 7, 643, 1), (643, .aload 2, 644, 0), (644, .invokevirtual 100, 647, 143), (647, .iload 6, 649, 1), (649, .if_icmp .eq 0, 652, 654), (652, .iconst (0), 653, 0), (653, .ireturn, 654, 0), (654, .iload 6, 656, 1), (656, .ifCond .ne 0, 659, 671), (659, .aload 3, 660, 0), (660, .iconst (0), 661, 0), (661, .laload, 662, 0), (662, .iload 7, 664, 1), (664, .i2l, 665, 0), (665, .lcmp, 666, 0), (666, .ifCond .eq 0, 669, 671), (669, .iconst (0), 670, 0), (670, .ireturn, 671, 0), (671, .goto 0, 2520, 0), (674, .aload 1, 675, 0), (675, .aload 0, 676, 0), (676, .iload 5, 678, 1), (678, .iconst (1), 679, 0), (679, .iadd, 680, 0), (680, .iaload, 681, 0), (681, .aload 0, 682, 0), (682, .iload 5, 684, 1), (684, .iconst (2), 685, 0), (685, .iadd, 686, 0), (686, .iaload, 687, 0), (687, .aload 0, 688, 0), (688, .iload 5, 690, 1), (690, .iconst (3), 691, 0), (691, .iadd, 692, 0), (692, .iaload, 693, 0), (693, .aload 0, 694, 0), (694, .iload 5, 696, 1), (696, .iconst (4), 697, 0), (697, .iadd, 698, 0), (698, .iaload, 699, 0), (699, .ifCond .eq 0, 702, 706), (702, .iconst (1), 703, 0), (703, .goto 0, 707, 0), (706, .iconst (0), 707, 0), (707, .aload 3, 708, 0), (708, .invokestatic 169, 711, 164), (711, .istore 6, 713, 1), (713, .aload 2, 714, 0), (714, .aload 0, 715, 0), (715, .iload 5, 717, 1), (717, .iconst (1), 718, 0), (718, .iadd, 719, 0), (719, .iaload, 720, 0), (720, .aload 0, 721, 0), (721, .iload 5, 723, 1), (723, .iconst (2), 724, 0), (724, .iadd, 725, 0), (725, .iaload, 726, 0), (726, .aload 0, 727, 0), (727, .iload 5, 729, 1), (729, .iconst (3), 730, 0), (730, .iadd, 731, 0), (731, .iaload, 732, 0), (732, .aload 0, 733, 0), (733, .iload 5, 735, 1), (735, .iconst (4), 736, 0), (736, .iadd, 737, 0), (737, .iaload, 738, 0), (738, .ifCond .eq 0, 741, 745), (741, .iconst (1), 742, 0), (742, .goto 0, 746, 0), (745, .iconst (0), 746, 0), (746, .invokevirtual 122, 749, 167), (749, .istore 7, 751, 1), (751, .aload 2, 752, 0), (752, .invokevirtual 100, 755, 143), (755, .iload 6, 757, 1), (757, .if_icmp .eq 0, 760, 762), (760, .iconst (0), 761, 0), (761, .ireturn, 762, 0), (762, .iload 6, 764, 1), (764, .ifCond .ne 0, 767, 779), (767, .aload 3, 768, 0), (768, .iconst (0), 769, 0), (769, .laload, 770, 0)]
def mm_o198_4 : List (Nat × Instr × Nat × Nat) := [(770, .iload 7, 772, 1), (772, .i2l, 773, 0), (773, .lcmp, 774, 0), (774, .ifCond .eq 0, 777, 779), (777, .iconst (0), 778, 0), (778, .ireturn, 779, 0), (779, .goto 0, 2520, 0), (782, .aload 1, 783, 0), (783, .aload 0, 784, 0), (784, .iload 5, 786, 1), (786, .iconst (1), 787, 0), (787, .iadd, 788, 0), (788, .iaload, 789, 0), (789, .aload 3, 790, 0), (790, .invokestatic 170, 793, 168), (793, .istore 6, 795, 1), (795, .aload 2, 796, 0), (796, .aload 0, 797, 0), (797, .iload 5, 799, 1), (799, .iconst (1), 800, 0), (800, .iadd, 801, 0), (801, .iaload, 802, 0), (802, .invokevirtual 125, 805, 170), (805, .istore 7, 807, 1), (807, .aload 2, 808, 0), (808, .invokevirtual 100, 811, 143), (811, .iload 6, 813, 1), (813, .if_icmp .eq 0, 816, 818), (816, .iconst (0), 817, 0), (817, .ireturn, 818, 0), (818, .iload 6, 820, 1), (820, .ifCond .ne 0, 823, 835), (823, .aload 3, 824, 0), (824, .iconst (0), 825, 0), (825, .laload, 826, 0), (826, .iload 7, 828, 1), (828, .i2l, 829, 0), (829, .lcmp, 830, 0), (830, .ifCond .eq 0, 833, 835), (833, .iconst (0), 834, 0), (834, .ireturn, 835, 0), (835, .goto 0, 2520, 0), (838, .aload 1, 839, 0), (839, .aload 0, 840, 0), (840, .iload 5, 842, 1), (842, .iconst (1), 843, 0), (843, .iadd, 844, 0), (844, .iaload, 845, 0), (845, .aload 3, 846, 0), (846, .invokestatic 171, 849, 171), (849, .istore 6, 851, 1), (851, .aload 2, 852, 0), (852, .aload 0, 853, 0), (853, .iload 5, 855, 1), (855, .iconst (1), 856, 0), (856, .iadd, 857, 0), (857, .iaload, 858, 0), (858, .invokevirtual 126, 861, 173), (861, .istore 7, 863, 1), (863, .aload 2, 864, 0), (864, .invokevirtual 100, 867, 143), (867, .iload 6, 869, 1), (869, .if_icmp .eq 0, 872, 874), (872, .iconst (0), 873, 0), (873, .ireturn, 874, 0), (874, .iload 6, 876, 1), (876, .ifCond .ne 0, 879, 891), (879, .aload 3, 880, 0), (880, .iconst (0), 881, 0), (881, .laload, 882, 0), (882, .iload 7, 884, 1), (884, .i2l, 885, 0), (885, .lcmp, 886, 0), (886, .ifCond .eq 0, 889, 891), (889, .iconst (0), 890, 0), (890, .ireturn, 891, 0), (891, .goto 0, 2520, 0), (894, .aload 1, 895, 0), (895, .aload 0, 896, 0), (896, .iload 5, 898, 1), (898, .iconst (1), 899, 0), (899, .iadd, 900, 0), (900, .iaload, 901, 0), (901, .aload 3, 902, 0), (902, .invokestatic 172, 905, 174), (905, .istore 6, 907, 1), (907, .aload 2, 908, 0), (908, .aload 0, 909, 0), (909, .iload 5, 911, 1), (911, .iconst (1), 912, 0), (912, .iadd, 913, 0), (913, .iaload, 914, 0), (914, .invokevirtual 127, 917, 176), (917, .istore 7, 919, 1), (919, .aload 2, 920, 0), (920, .invokevirtual 100, 923, 143), (923, .iload 6, 925, 1), (925, .if_icmp .eq 0, 928, 930), (928, .iconst (0), 929, 0), (929, .ireturn, 930, 0)]
def mm_o198_5 : List (Nat × Instr × Nat × Nat) := [(930, .iload 6, 932, 1), (932, .ifCond .ne 0, 935, 947), (935, .aload 3, 936, 0), (936, .iconst (0), 937, 0), (937, .laload, 938, 0), (938, .iload 7, 940, 1), (940, .i2l, 941, 0), (941, .lcmp, 942, 0), (942, .ifCond .eq 0, 945, 947), (945, .iconst (0), 946, 0), (946, .ireturn, 947, 0), (947, .goto 0, 2520, 0), (950, .aload 1, 951, 0), (951, .aload 0, 952, 0), (952, .iload 5, 954, 1), (954, .iconst (1), 955, 0), (955, .iadd, 956, 0), (956, .iaload, 957, 0), (957, .aload 0, 958, 0), (958, .iload 5, 960, 1), (960, .iconst (2), 961, 0), (961, .iadd, 962, 0), (962, .iaload, 963, 0), (963, .aload 3, 964, 0), (964, .invokestatic 173, 967, 177), (967, .istore 6, 969, 1), (969, .aload 2, 970, 0), (970, .aload 0, 971, 0), (971, .iload 5, 973, 1), (973, .iconst (1), 974, 0), (974, .iadd, 975, 0), (975, .iaload, 976, 0), (976, .aload 0, 977, 0), (977, .iload 5, 979, 1), (979, .iconst (2), 980, 0), (980, .iadd, 981, 0), (981, .iaload, 982, 0), (982, .invokevirtual 128, 985, 180), (985, .istore 7, 987, 1), (987, .aload 2, 988, 0), (988, .invokevirtual 100, 991, 143), (991, .iload 6, 993, 1), (993, .if_icmp .eq 0, 996, 998), (996, .iconst (0), 997, 0), (997, .ireturn, 998, 0), (998, .iload 6, 1000, 1), (1000, .ifCond .ne 0, 1003, 1015), (1003, .aload 3, 1004, 0), (1004, .iconst (0), 1005, 0), (1005, .laload, 1006, 0), (1006, .iload 7, 1008, 1), (1008, .i2l, 1009, 0), (1009, .lcmp, 1010, 0), (1010, .ifCond .eq 0, 1013, 1015), (1013, .iconst (0), 1014, 0), (1014, .ireturn, 1015, 0), (1015, .goto 0, 2520, 0), (1018, .aload 1, 1019, 0), (1019, .aload 0, 1020, 0), (1020, .iload 5, 1022, 1), (1022, .iconst (1), 1023, 0), (1023, .iadd, 1024, 0), (1024, .iaload, 1025, 0), (1025, .aload 0, 1026, 0), (1026, .iload 5, 1028, 1), (1028, .iconst (2), 1029, 0), (1029, .iadd, 1030, 0), (1030, .iaload, 1031, 0), (1031, .aload 3, 1032, 0), (1032, .invokestatic 174, 1035, 181), (1035, .istore 6, 1037, 1), (1037, .aload 2, 1038, 0), (1038, .aload 0, 1039, 0), (1039, .iload 5, 1041, 1), (1041, .iconst (1), 1042, 0), (1042, .iadd, 1043, 0), (1043, .iaload, 1044, 0), (1044, .aload 0, 1045, 0), (1045, .iload 5, 1047, 1), (1047, .iconst (2), 1048, 0), (1048, .iadd, 1049, 0), (1049, .iaload, 1050, 0), (1050, .invokevirtual 129, 1053, 183), (1053, .istore 7, 1055, 1), (1055, .aload 2, 1056, 0), (1056, .invokevirtual 100, 1059, 143), (1059, .iload 6, 1061, 1), (1061, .if_icmp .eq 0, 1064, 1066), (1064, .iconst (0), 1065, 0), (1065, .ireturn, 1066, 0), (1066, .iload 6, 1068, 1), (1068, .ifCond .ne 0, 1071, 1083), (1071, .aload 3, 1072, 0), (1072, .iconst (0), 1073, 0), (1073, .laload, 1074, 0), (1074, .iload 7, 1076, 1), (1076, .i2l, 1077, 0), (1077, .lcmp, 1078, 0), (1078, .ifCond .eq 0, 1081, 1083), (1081, .iconst (0), 1082, 0)]
def mm_o198_6 : List (Nat × Instr × Nat × Nat) := [(1082, .ireturn, 1083, 0), (1083, .goto 0, 2520, 0), (1086, .aload 1, 1087, 0), (1087, .aload 0, 1088, 0), (1088, .iload 5, 1090, 1), (1090, .iconst (1), 1091, 0), (1091, .iadd, 1092, 0), (1092, .iaload, 1093, 0), (1093, .aload 0, 1094, 0), (1094, .iload 5, 1096, 1), (1096, .iconst (2), 1097, 0), (1097, .iadd, 1098, 0), (1098, .iaload, 1099, 0), (1099, .aload 3, 1100, 0), (1100, .invokestatic 175, 1103, 184), (1103, .istore 6, 1105, 1), (1105, .aload 2, 1106, 0), (1106, .aload 0, 1107, 0), (1107, .iload 5, 1109, 1), (1109, .iconst (1), 1110, 0), (1110, .iadd, 1111, 0), (1111, .iaload, 1112, 0), (1112, .aload 0, 1113, 0), (1113, .iload 5, 1115, 1), (1115, .iconst (2), 1116, 0), (1116, .iadd, 1117, 0), (1117, .iaload, 1118, 0), (1118, .invokevirtual 130, 1121, 186), (1121, .istore 7, 1123, 1), (1123, .aload 2, 1124, 0), (1124, .invokevirtual 100, 1127, 143), (1127, .iload 6, 1129, 1), (1129, .if_icmp .eq 0, 1132, 1134), (1132, .iconst (0), 1133, 0), (1133, .ireturn, 1134, 0), (1134, .iload 6, 1136, 1), (1136, .ifCond .ne 0, 1139, 1151), (1139, .aload 3, 1140, 0), (1140, .iconst (0), 1141, 0), (1141, .laload, 1142, 0), (1142, .iload 7, 1144, 1), (1144, .i2l, 1145, 0), (1145, .lcmp, 1146, 0), (1146, .ifCond .eq 0, 1149, 1151), (1149, .iconst (0), 1150, 0), (1150, .ireturn, 1151, 0), (1151, .goto 0, 2520, 0), (1154, .aload 1, 1155, 0), (1155, .aload 0, 1156, 0), (1156, .iload 5, 1158, 1), (1158, .iconst (1), 1159, 0), (1159, .iadd, 1160, 0), (1160, .iaload, 1161, 0), (1161, .aload 3, 1162, 0), (1162, .invokestatic 176, 1165, 187), (1165, .istore 6, 1167, 1), (1167, .aload 2, 1168, 0), (1168, .aload 0, 1169, 0), (1169, .iload 5, 1171, 1), (1171, .iconst (1), 1172, 0), (1172, .iadd, 1173, 0), (1173, .iaload, 1174, 0), (1174, .invokevirtual 134, 1177, 189), (1177, .istore 7, 1179, 1), (1179, .aload 2, 1180, 0), (1180, .invokevirtual 100, 1183, 143), (1183, .iload 6, 1185, 1), (1185, .if_icmp .eq 0, 1188, 1190), (1188, .iconst (0), 1189, 0), (1189, .ireturn, 1190, 0), (1190, .iload 6, 1192, 1), (1192, .ifCond .ne 0, 1195, 1207), (1195, .aload 3, 1196, 0), (1196, .iconst (0), 1197, 0), (1197, .laload, 1198, 0), (1198, .iload 7, 1200, 1), (1200, .i2l, 1201, 0), (1201, .lcmp, 1202, 0), (1202, .ifCond .eq 0, 1205, 1207), (1205, .iconst (0), 1206, 0), (1206, .ireturn, 1207, 0), (1207, .goto 0, 2520, 0), (1210, .aload 1, 1211, 0), (1211, .aload 0, 1212, 0), (1212, .iload 5, 1214, 1), (1214, .iconst (1), 1215, 0), (1215, .iadd, 1216, 0), (1216, .iaload, 1217, 0), (1217, .aload 0, 1218, 0), (1218, .iload 5, 1220, 1), (1220, .iconst (2), 1221, 0), (1221, .iadd, 1222, 0), (1222, .iaload, 1223, 0), (1223, .aload 3, 1224, 0), (1224, .invokestatic 177, 1227, 190), (1227, .istore 6, 1229, 1), (1229, .aload 2, 1230, 0), (1230, .aload 0, 1231, 0), (1231, .iload 5, 1233, 1), (1233, .iconst (1), 1234, 0)]
def mm_o198_7 : List (Nat × Instr × Nat × Nat) := [(1234, .iadd, 1235, 0), (1235, .iaload, 1236, 0), (1236, .aload 0, 1237, 0), (1237, .iload 5, 1239, 1), (1239, .iconst (2), 1240, 0), (1240, .iadd, 1241, 0), (1241, .iaload, 1242, 0), (1242, .invokevirtual 135, 1245, 192), (1245, .istore 7, 1247, 1), (1247, .aload 2, 1248, 0), (1248, .invokevirtual 100, 1251, 143), (1251, .iload 6, 1253, 1), (1253, .if_icmp .eq 0, 1256, 1258), (1256, .iconst (0), 1257, 0), (1257, .ireturn, 1258, 0), (1258, .iload 6, 1260, 1), (1260, .ifCond .ne 0, 1263, 1275), (1263, .aload 3, 1264, 0), (1264, .iconst (0), 1265, 0), (1265, .laload, 1266, 0), (1266, .iload 7, 1268, 1), (1268, .i2l, 1269, 0), (1269, .lcmp, 1270, 0), (1270, .ifCond .eq 0, 1273, 1275), (1273, .iconst (0), 1274, 0), (1274, .ireturn, 1275, 0), (1275, .goto 0, 2520, 0), (1278, .aload 1, 1279, 0), (1279, .aload 0, 1280, 0), (1280, .iload 5, 1282, 1), (1282, .iconst (1), 1283, 0), (1283, .iadd, 1284, 0), (1284, .iaload, 1285, 0), (1285, .aload 0, 1286, 0), (1286, .iload 5, 1288, 1), (1288, .iconst (2), 1289, 0), (1289, .iadd, 1290, 0), (1290, .iaload, 1291, 0), (1291, .aload 3, 1292, 0), (1292, .invokestatic 178, 1295, 193), (1295, .istore 6, 1297, 1), (1297, .aload 2, 1298, 0), (1298, .aload 0, 1299, 0), (1299, .iload 5, 1301, 1), (1301, .iconst (1), 1302, 0), (1302, .iadd, 1303, 0), (1303, .iaload, 1304, 0), (1304, .aload 0, 1305, 0), (1305, .iload 5, 1307, 1), (1307, .iconst (2), 1308, 0), (1308, .iadd, 1309, 0), (1309, .iaload, 1310, 0), (1310, .invokevirtual 136, 1313, 195), (1313, .istore 7, 1315, 1), (1315, .aload 2, 1316, 0), (1316, .invokevirtual 100, 1319, 143), (1319, .iload 6, 1321, 1), (1321, .if_icmp .eq 0, 1324, 1326), (1324, .iconst (0), 1325, 0), (1325, .ireturn, 1326, 0), (1326, .iload 6, 1328, 1), (1328, .ifCond .ne 0, 1331, 1343), (1331, .aload 3, 1332, 0), (1332, .iconst (0), 1333, 0), (1333, .laload, 1334, 0), (1334, .iload 7, 1336, 1), (1336, .i2l, 1337, 0), (1337, .lcmp, 1338, 0), (1338, .ifCond .eq 0, 1341, 1343), (1341, .iconst (0), 1342, 0), (1342, .ireturn, 1343, 0), (1343, .goto 0, 2520, 0), (1346, .aload 1, 1347, 0), (1347, .aload 0, 1348, 0), (1348, .iload 5, 1350, 1), (1350, .iconst (1), 1351, 0), (1351, .iadd, 1352, 0), (1352, .iaload, 1353, 0), (1353, .aload 0, 1354, 0), (1354, .iload 5, 1356, 1), (1356, .iconst (2), 1357, 0), (1357, .iadd, 1358, 0), (1358, .iaload, 1359, 0), (1359, .aload 3, 1360, 0), (1360, .invokestatic 179, 1363, 196), (1363, .istore 6, 1365, 1), (1365, .aload 2, 1366, 0), (1366, .aload 0, 1367, 0), (1367, .iload 5, 1369, 1), (1369, .iconst (1), 1370, 0), (1370, .iadd, 1371, 0), (1371, .iaload, 1372, 0), (1372, .aload 0, 1373, 0), (1373, .iload 5, 1375, 1), (1375, .iconst (2), 1376, 0), (1376, .iadd, 1377, 0), (1377, .iaload, 1378, 0), (1378, .invokevirtual 137, 1381, 198), (1381, .istore 7, 1383, 1), (1383, .aload 2, 1384, 0)]
def mm_o198_8 : List (Nat × Instr × Nat × Nat) := [(1384, .invokevirtual 100, 1387, 143), (1387, .iload 6, 1389, 1), (1389, .if_icmp .eq 0, 1392, 1394), (1392, .iconst (0), 1393, 0), (1393, .ireturn, 1394, 0), (1394, .iload 6, 1396, 1), (1396, .ifCond .ne 0, 1399, 1411), (1399, .aload 3, 1400, 0), (1400, .iconst (0), 1401, 0), (1401, .laload, 1402, 0), (1402, .iload 7, 1404, 1), (1404, .i2l, 1405, 0), (1405, .lcmp, 1406, 0), (1406, .ifCond .eq 0, 1409, 1411), (1409, .iconst (0), 1410, 0), (1410, .ireturn, 1411, 0), (1411, .goto 0, 2520, 0), (1414, .aload 1, 1415, 0), (1415, .aload 0, 1416, 0), (1416, .iload 5, 1418, 1), (1418, .iconst (1), 1419, 0), (1419, .iadd, 1420, 0), (1420, .iaload, 1421, 0), (1421, .aload 3, 1422, 0), (1422, .invokestatic 180, 1425, 199), (1425, .istore 6, 1427, 1), (1427, .aload 2, 1428, 0), (1428, .aload 0, 1429, 0), (1429, .iload 5, 1431, 1), (1431, .iconst (1), 1432, 0), (1432, .iadd, 1433, 0), (1433, .iaload, 1434, 0), (1434, .invokevirtual 138, 1437, 201), (1437, .istore 7, 1439, 1), (1439, .aload 2, 1440, 0), (1440, .invokevirtual 100, 1443, 143), (1443, .iload 6, 1445, 1), (1445, .if_icmp .eq 0, 1448, 1450), (1448, .iconst (0), 1449, 0), (1449, .ireturn, 1450, 0), (1450, .iload 6, 1452, 1), (1452, .ifCond .ne 0, 1455, 1467), (1455, .aload 3, 1456, 0), (1456, .iconst (0), 1457, 0), (1457, .laload, 1458, 0), (1458, .iload 7, 1460, 1), (1460, .i2l, 1461, 0), (1461, .lcmp, 1462, 0), (1462, .ifCond .eq 0, 1465, 1467), (1465, .iconst (0), 1466, 0), (1466, .ireturn, 1467, 0), (1467, .goto 0, 2520, 0), (1470, .aload 1, 1471, 0), (1471, .aload 0, 1472, 0), (1472, .iload 5, 1474, 1), (1474, .iconst (1), 1475, 0), (1475, .iadd, 1476, 0), (1476, .iaload, 1477, 0), (1477, .aload 3, 1478, 0), (1478, .invokestatic 181, 1481, 202), (1481, .istore 6, 1483, 1), (1483, .aload 2, 1484, 0), (1484, .aload 0, 1485, 0), (1485, .iload 5, 1487, 1), (1487, .iconst (1), 1488, 0), (1488, .iadd, 1489, 0), (1489, .iaload, 1490, 0), (1490, .invokevirtual 139, 1493, 204), (1493, .istore 7, 1495, 1), (1495, .aload 2, 1496, 0), (1496, .invokevirtual 100, 1499, 143), (1499, .iload 6, 1501, 1), (1501, .if_icmp .eq 0, 1504, 1506), (1504, .iconst (0), 1505, 0), (1505, .ireturn, 1506, 0), (1506, .iload 6, 1508, 1), (1508, .ifCond .ne 0, 1511, 1523), (1511, .aload 3, 1512, 0), (1512, .iconst (0), 1513, 0), (1513, .laload, 1514, 0), (1514, .iload 7, 1516, 1), (1516, .i2l, 1517, 0), (1517, .lcmp, 1518, 0), (1518, .ifCond .eq 0, 1521, 1523), (1521, .iconst (0), 1522, 0), (1522, .ireturn, 1523, 0), (1523, .goto 0, 2520, 0), (1526, .aload 1, 1527, 0), (1527, .aload 0, 1528, 0), (1528, .iload 5, 1530, 1), (1530, .iconst (1), 1531, 0), (1531, .iadd, 1532, 0), (1532, .iaload, 1533, 0), (1533, .aload 3, 1534, 0), (1534, .invokestatic 182, 1537, 205), (1537, .istore 6, 1539, 1), (1539, .aload 2, 1540, 0), (1540, .aload 0, 1541, 0), (1541, .iload 5, 1543, 1), (1543, .iconst (1), 1544, 0)]
def mm_o198_9 : List (Nat × Instr × Nat × Nat) := [(1544, .iadd, 1545, 0), (1545, .iaload, 1546, 0), (1546, .invokevirtual 140, 1549, 207), (1549, .istore 7, 1551, 1), (1551, .aload 2, 1552, 0), (1552, .invokevirtual 100, 1555, 143), (1555, .iload 6, 1557, 1), (1557, .if_icmp .eq 0, 1560, 1562), (1560, .iconst (0), 1561, 0), (1561, .ireturn, 1562, 0), (1562, .iload 6, 1564, 1), (1564, .ifCond .ne 0, 1567, 1579), (1567, .aload 3, 1568, 0), (1568, .iconst (0), 1569, 0), (1569, .laload, 1570, 0), (1570, .iload 7, 1572, 1), (1572, .i2l, 1573, 0), (1573, .lcmp, 1574, 0), (1574, .ifCond .eq 0, 1577, 1579), (1577, .iconst (0), 1578, 0), (1578, .ireturn, 1579, 0), (1579, .goto 0, 2520, 0), (1582, .aload 1, 1583, 0), (1583, .invokevirtual 54, 1586, 208), (1586, .aload 2, 1587, 0), (1587, .invokevirtual 141, 1590, 211), (1590, .if_icmp .eq 0, 1593, 2520), (1593, .iconst (0), 1594, 0), (1594, .ireturn, 1595, 0), (1595, .aload 1, 1596, 0), (1596, .invokevirtual 55, 1599, 212), (1599, .aload 2, 1600, 0), (1600, .invokevirtual 143, 1603, 215), (1603, .if_icmp .eq 0, 1606, 2520), (1606, .iconst (0), 1607, 0), (1607, .ireturn, 1608, 0), (1608, .aload 1, 1609, 0), (1609, .aload 3, 1610, 0), (1610, .invokestatic 183, 1613, 216), (1613, .istore 6, 1615, 1), (1615, .aload 2, 1616, 0), (1616, .invokevirtual 144, 1619, 219), (1619, .istore 7, 1621, 1), (1621, .aload 2, 1622, 0), (1622, .invokevirtual 100, 1625, 143), (1625, .iload 6, 1627, 1), (1627, .if_icmp .eq 0, 1630, 1632), (1630, .iconst (0), 1631, 0), (1631, .ireturn, 1632, 0), (1632, .iload 6, 1634, 1), (1634, .ifCond .ne 0, 1637, 1649), (1637, .aload 3, 1638, 0), (1638, .iconst (0), 1639, 0), (1639, .laload, 1640, 0), (1640, .iload 7, 1642, 1), (1642, .i2l, 1643, 0), (1643, .lcmp, 1644, 0), (1644, .ifCond .eq 0, 1647, 1649), (1647, .iconst (0), 1648, 0), (1648, .ireturn, 1649, 0), (1649, .goto 0, 2520, 0), (1652, .aload 1, 1653, 0), (1653, .aload 0, 1654, 0), (1654, .iload 5, 1656, 1), (1656, .iconst (1), 1657, 0), (1657, .iadd, 1658, 0), (1658, .iaload, 1659, 0), (1659, .aload 3, 1660, 0), (1660, .invokestatic 184, 1663, 220), (1663, .istore 6, 1665, 1), (1665, .aload 2, 1666, 0), (1666, .aload 0, 1667, 0), (1667, .iload 5, 1669, 1), (1669, .iconst (1), 1670, 0), (1670, .iadd, 1671, 0), (1671, .iaload, 1672, 0), (1672, .invokevirtual 145, 1675, 222), (1675, .istore 7, 1677, 1), (1677, .aload 2, 1678, 0), (1678, .invokevirtual 100, 1681, 143), (1681, .iload 6, 1683, 1), (1683, .if_icmp .eq 0, 1686, 1688), (1686, .iconst (0), 1687, 0), (1687, .ireturn, 1688, 0), (1688, .iload 6, 1690, 1), (1690, .ifCond .ne 0, 1693, 1705), (1693, .aload 3, 1694, 0), (1694, .iconst (0), 1695, 0), (1695, .laload, 1696, 0), (1696, .iload 7, 1698, 1), (1698, .i2l, 1699, 0), (1699, .lcmp, 1700, 0), (1700, .ifCond .eq 0, 1703, 1705), (1703, .iconst (0), 1704, 0), (1704, .ireturn, 1705, 0), (1705, .goto 0, 2520, 0), (1708, .aload 1, 1709, 0), (1709, .aload 0, 1710, 0), (1710, .iload 5, 1712, 1), (1712, .iconst (1), 1713, 0)]
def mm_o198_10 : List (Nat × Instr × Nat × Nat) := [(1713, .iadd, 1714, 0), (1714, .iaload, 1715, 0), (1715, .aload 0, 1716, 0), (1716, .iload 5, 1718, 1), (1718, .iconst (2), 1719, 0), (1719, .iadd, 1720, 0), (1720, .iaload, 1721, 0), (1721, .aload 3, 1722, 0), (1722, .invokestatic 185, 1725, 223), (1725, .istore 6, 1727, 1), (1727, .aload 2, 1728, 0), (1728, .aload 0, 1729, 0), (1729, .iload 5, 1731, 1), (1731, .iconst (1), 1732, 0), (1732, .iadd, 1733, 0), (1733, .iaload, 1734, 0), (1734, .aload 0, 1735, 0), (1735, .iload 5, 1737, 1), (1737, .iconst (2), 1738, 0), (1738, .iadd, 1739, 0), (1739, .iaload, 1740, 0), (1740, .invokevirtual 146, 1743, 225), (1743, .istore 7, 1745, 1), (1745, .aload 2, 1746, 0), (1746, .invokevirtual 100, 1749, 143), (1749, .iload 6, 1751, 1), (1751, .if_icmp .eq 0, 1754, 1756), (1754, .iconst (0), 1755, 0), (1755, .ireturn, 1756, 0), (1756, .iload 6, 1758, 1), (1758, .ifCond .ne 0, 1761, 1773), (1761, .aload 3, 1762, 0), (1762, .iconst (0), 1763, 0), (1763, .laload, 1764, 0), (1764, .iload 7, 1766, 1), (1766, .i2l, 1767, 0), (1767, .lcmp, 1768, 0), (1768, .ifCond .eq 0, 1771, 1773), (1771, .iconst (0), 1772, 0), (1772, .ireturn, 1773, 0), (1773, .goto 0, 2520, 0), (1776, .aload 1, 1777, 0), (1777, .aload 0, 1778, 0), (1778, .iload 5, 1780, 1), (1780, .iconst (1), 1781, 0), (1781, .iadd, 1782, 0), (1782, .iaload, 1783, 0), (1783, .aload 0, 1784, 0), (1784, .iload 5, 1786, 1), (1786, .iconst (2), 1787, 0), (1787, .iadd, 1788, 0), (1788, .iaload, 1789, 0), (1789, .aload 3, 1790, 0), (1790, .invokestatic 186, 1793, 226), (1793, .istore 6, 1795, 1), (1795, .aload 2, 1796, 0), (1796, .aload 0, 1797, 0), (1797, .iload 5, 1799, 1), (1799, .iconst (1), 1800, 0), (1800, .iadd, 1801, 0), (1801, .iaload, 1802, 0), (1802, .aload 0, 1803, 0), (1803, .iload 5, 1805, 1), (1805, .iconst (2), 1806, 0), (1806, .iadd, 1807, 0), (1807, .iaload, 1808, 0), (1808, .invokevirtual 147, 1811, 228), (1811, .istore 7, 1813, 1), (1813, .aload 2, 1814, 0), (1814, .invokevirtual 100, 1817, 143), (1817, .iload 6, 1819, 1), (1819, .if_icmp .eq 0, 1822, 1824), (1822, .iconst (0), 1823, 0), (1823, .ireturn, 1824, 0), (1824, .iload 6, 1826, 1), (1826, .ifCond .ne 0, 1829, 1841), (1829, .aload 3, 1830, 0), (1830, .iconst (0), 1831, 0), (1831, .laload, 1832, 0), (1832, .iload 7, 1834, 1), (1834, .i2l, 1835, 0), (1835, .lcmp, 1836, 0), (1836, .ifCond .eq 0, 1839, 1841), (1839, .iconst (0), 1840, 0), (1840, .ireturn, 1841, 0), (1841, .goto 0, 2520, 0), (1844, .aload 1, 1845, 0), (1845, .aload 0, 1846, 0), (1846, .iload 5, 1848, 1), (1848, .iconst (1), 1849, 0), (1849, .iadd, 1850, 0), (1850, .iaload, 1851, 0), (1851, .aload 3, 1852, 0), (1852, .invokestatic 187, 1855, 229), (1855, .istore 6, 1857, 1), (1857, .aload 2, 1858, 0), (1858, .aload 0, 1859, 0), (1859, .iload 5, 1861, 1), (1861, .iconst (1), 1862, 0), (1862, .iadd, 1863, 0)]
def mm_o198_11 : List (Nat × Instr × Nat × Nat) := [(1863, .iaload, 1864, 0), (1864, .invokevirtual 148, 1867, 231), (1867, .istore 7, 1869, 1), (1869, .aload 2, 1870, 0), (1870, .invokevirtual 100, 1873, 143), (1873, .iload 6, 1875, 1), (1875, .if_icmp .eq 0, 1878, 1880), (1878, .iconst (0), 1879, 0), (1879, .ireturn, 1880, 0), (1880, .iload 6, 1882, 1), (1882, .ifCond .ne 0, 1885, 1897), (1885, .aload 3, 1886, 0), (1886, .iconst (0), 1887, 0), (1887, .laload, 1888, 0), (1888, .iload 7, 1890, 1), (1890, .i2l, 1891, 0), (1891, .lcmp, 1892, 0), (1892, .ifCond .eq 0, 1895, 1897), (1895, .iconst (0), 1896, 0), (1896, .ireturn, 1897, 0), (1897, .goto 0, 2520, 0), (1900, .aload 1, 1901, 0), (1901, .invokevirtual 61, 1904, 232), (1904, .aload 2, 1905, 0), (1905, .invokevirtual 149, 1908, 235), (1908, .if_icmp .eq 0, 1911, 2520), (1911, .iconst (0), 1912, 0), (1912, .ireturn, 1913, 0), (1913, .aload 1, 1914, 0), (1914, .aload 0, 1915, 0), (1915, .iload 5, 1917, 1), (1917, .iconst (1), 1918, 0), (1918, .iadd, 1919, 0), (1919, .iaload, 1920, 0), (1920, .aload 0, 1921, 0), (1921, .iload 5, 1923, 1), (1923, .iconst (2), 1924, 0), (1924, .iadd, 1925, 0), (1925, .iaload, 1926, 0), (1926, .aload 3, 1927, 0), (1927, .invokestatic 188, 1930, 236), (1930, .istore 6, 1932, 1), (1932, .aload 2, 1933, 0), (1933, .aload 0, 1934, 0), (1934, .iload 5, 1936, 1), (1936, .iconst (1), 1937, 0), (1937, .iadd, 1938, 0), (1938, .iaload, 1939, 0), (1939, .aload 0, 1940, 0), (1940, .iload 5, 1942, 1), (1942, .iconst (2), 1943, 0), (1943, .iadd, 1944, 0), (1944, .iaload, 1945, 0), (1945, .invokevirtual 150, 1948, 238), (1948, .istore 7, 1950, 1), (1950, .aload 2, 1951, 0), (1951, .invokevirtual 100, 1954, 143), (1954, .iload 6, 1956, 1), (1956, .if_icmp .eq 0, 1959, 1961), (1959, .iconst (0), 1960, 0), (1960, .ireturn, 1961, 0), (1961, .iload 6, 1963, 1), (1963, .ifCond .ne 0, 1966, 1978), (1966, .aload 3, 1967, 0), (1967, .iconst (0), 1968, 0), (1968, .laload, 1969, 0), (1969, .iload 7, 1971, 1), (1971, .i2l, 1972, 0), (1972, .lcmp, 1973, 0), (1973, .ifCond .eq 0, 1976, 1978), (1976, .iconst (0), 1977, 0), (1977, .ireturn, 1978, 0), (1978, .goto 0, 2520, 0), (1981, .aload 1, 1982, 0), (1982, .aload 0, 1983, 0), (1983, .iload 5, 1985, 1), (1985, .iconst (1), 1986, 0), (1986, .iadd, 1987, 0), (1987, .iaload, 1988, 0), (1988, .aload 3, 1989, 0), (1989, .invokestatic 189, 1992, 239), (1992, .istore 6, 1994, 1), (1994, .aload 2, 1995, 0), (1995, .aload 0, 1996, 0), (1996, .iload 5, 1998, 1), (1998, .iconst (1), 1999, 0), (1999, .iadd, 2000, 0), (2000, .iaload, 2001, 0), (2001, .invokevirtual 152, 2004, 241), (2004, .istore 7, 2006, 1), (2006, .aload 2, 2007, 0), (2007, .invokevirtual 100, 2010, 143), (2010, .iload 6, 2012, 1), (2012, .if_icmp .eq 0, 2015, 2017), (2015, .iconst (0), 2016, 0), (2016, .ireturn, 2017, 0), (2017, .iload 6, 2019, 1), (2019, .ifCond .ne 0, 2022, 2034), (2022, .aload 3, 2023, 0), (2023, .iconst (0), 2024, 0)]
def mm_o198_12 : List (Nat × Instr × Nat × Nat) := [(2024, .laload, 2025, 0), (2025, .iload 7, 2027, 1), (2027, .i2l, 2028, 0), (2028, .lcmp, 2029, 0), (2029, .ifCond .eq 0, 2032, 2034), (2032, .iconst (0), 2033, 0), (2033, .ireturn, 2034, 0), (2034, .goto 0, 2520, 0), (2037, .aload 1, 2038, 0), (2038, .aload 0, 2039, 0), (2039, .iload 5, 2041, 1), (2041, .iconst (1), 2042, 0), (2042, .iadd, 2043, 0), (2043, .iaload, 2044, 0), (2044, .aload 3, 2045, 0), (2045, .invokestatic 190, 2048, 242), (2048, .istore 6, 2050, 1), (2050, .aload 2, 2051, 0), (2051, .aload 0, 2052, 0), (2052, .iload 5, 2054, 1), (2054, .iconst (1), 2055, 0), (2055, .iadd, 2056, 0), (2056, .iaload, 2057, 0), (2057, .invokevirtual 153, 2060, 244), (2060, .istore 7, 2062, 1), (2062, .aload 2, 2063, 0), (2063, .invokevirtual 100, 2066, 143), (2066, .iload 6, 2068, 1), (2068, .if_icmp .eq 0, 2071, 2073), (2071, .iconst (0), 2072, 0), (2072, .ireturn, 2073, 0), (2073, .iload 6, 2075, 1), (2075, .ifCond .ne 0, 2078, 2090), (2078, .aload 3, 2079, 0), (2079, .iconst (0), 2080, 0), (2080, .laload, 2081, 0), (2081, .iload 7, 2083, 1), (2083, .i2l, 2084, 0), (2084, .lcmp, 2085, 0), (2085, .ifCond .eq 0, 2088, 2090), (2088, .iconst (0), 2089, 0), (2089, .ireturn, 2090, 0), (2090, .goto 0, 2520, 0), (2093, .aload 1, 2094, 0), (2094, .invokevirtual 65, 2097, 245), (2097, .aload 2, 2098, 0), (2098, .invokevirtual 154, 2101, 248), (2101, .if_icmp .eq 0, 2104, 2520), (2104, .iconst (0), 2105, 0), (2105, .ireturn, 2106, 0), (2106, .aload 1, 2107, 0), (2107, .aload 0, 2108, 0), (2108, .iload 5, 2110, 1), (2110, .iconst (1), 2111, 0), (2111, .iadd, 2112, 0), (2112, .iaload, 2113, 0), (2113, .aload 3, 2114, 0), (2114, .invokestatic 191, 2117, 249), (2117, .istore 6, 2119, 1), (2119, .aload 2, 2120, 0), (2120, .aload 0, 2121, 0), (2121, .iload 5, 2123, 1), (2123, .iconst (1), 2124, 0), (2124, .iadd, 2125, 0), (2125, .iaload, 2126, 0), (2126, .invokevirtual 156, 2129, 251), (2129, .istore 7, 2131, 1), (2131, .aload 2, 2132, 0), (2132, .invokevirtual 100, 2135, 143), (2135, .iload 6, 2137, 1), (2137, .if_icmp .eq 0, 2140, 2142), (2140, .iconst (0), 2141, 0), (2141, .ireturn, 2142, 0), (2142, .iload 6, 2144, 1), (2144, .ifCond .ne 0, 2147, 2159), (2147, .aload 3, 2148, 0), (2148, .iconst (0), 2149, 0), (2149, .laload, 2150, 0), (2150, .iload 7, 2152, 1), (2152, .i2l, 2153, 0), (2153, .lcmp, 2154, 0), (2154, .ifCond .eq 0, 2157, 2159), (2157, .iconst (0), 2158, 0), (2158, .ireturn, 2159, 0), (2159, .goto 0, 2520, 0), (2162, .aload 1, 2163, 0), (2163, .aload 0, 2164, 0), (2164, .iload 5, 2166, 1), (2166, .iconst (1), 2167, 0), (2167, .iadd, 2168, 0), (2168, .iaload, 2169, 0), (2169, .aload 3, 2170, 0), (2170, .invokestatic 192, 2173, 252), (2173, .istore 6, 2175, 1), (2175, .aload 2, 2176, 0), (2176, .aload 0, 2177, 0), (2177, .iload 5, 2179, 1), (2179, .iconst (1), 2180, 0), (2180, .iadd, 2181, 0), (2181, .iaload, 2182, 0)]
def mm_o198_13 : List (Nat × Instr × Nat × Nat) := [(2182, .invokevirtual 157, 2185, 254), (2185, .istore 7, 2187, 1), (2187, .aload 2, 2188, 0), (2188, .invokevirtual 100, 2191, 143), (2191, .iload 6, 2193, 1), (2193, .if_icmp .eq 0, 2196, 2198), (2196, .iconst (0), 2197, 0), (2197, .ireturn, 2198, 0), (2198, .iload 6, 2200, 1), (2200, .ifCond .ne 0, 2203, 2215), (2203, .aload 3, 2204, 0), (2204, .iconst (0), 2205, 0), (2205, .laload, 2206, 0), (2206, .iload 7, 2208, 1), (2208, .i2l, 2209, 0), (2209, .lcmp, 2210, 0), (2210, .ifCond .eq 0, 2213, 2215), (2213, .iconst (0), 2214, 0), (2214, .ireturn, 2215, 0), (2215, .goto 0, 2520, 0), (2218, .aload 1, 2219, 0), (2219, .aload 0, 2220, 0), (2220, .iload 5, 2222, 1), (2222, .iconst (1), 2223, 0), (2223, .iadd, 2224, 0), (2224, .iaload, 2225, 0), (2225, .aload 3, 2226, 0), (2226, .invokestatic 193, 2229, 255), (2229, .istore 6, 2231, 1), (2231, .aload 2, 2232, 0), (2232, .aload 0, 2233, 0), (2233, .iload 5, 2235, 1), (2235, .iconst (1), 2236, 0), (2236, .iadd, 2237, 0), (2237, .iaload, 2238, 0), (2238, .invokevirtual 158, 2241, 257), (2241, .istore 7, 2243, 1), (2243, .aload 2, 2244, 0), (2244, .invokevirtual 100, 2247, 143), (2247, .iload 6, 2249, 1), (2249, .if_icmp .eq 0, 2252, 2254), (2252, .iconst (0), 2253, 0), (2253, .ireturn, 2254, 0), (2254, .iload 6, 2256, 1), (2256, .ifCond .ne 0, 2259, 2271), (2259, .aload 3, 2260, 0), (2260, .iconst (0), 2261, 0), (2261, .laload, 2262, 0), (2262, .iload 7, 2264, 1), (2264, .i2l, 2265, 0), (2265, .lcmp, 2266, 0), (2266, .ifCond .eq 0, 2269, 2271), (2269, .iconst (0), 2270, 0), (2270, .ireturn, 2271, 0), (2271, .goto 0, 2520, 0), (2274, .aload 1, 2275, 0), (2275, .aload 0, 2276, 0), (2276, .iload 5, 2278, 1), (2278, .iconst (1), 2279, 0), (2279, .iadd, 2280, 0), (2280, .iaload, 2281, 0), (2281, .aload 3, 2282, 0), (2282, .invokestatic 194, 2285, 258), (2285, .istore 6, 2287, 1), (2287, .aload 2, 2288, 0), (2288, .aload 0, 2289, 0), (2289, .iload 5, 2291, 1), (2291, .iconst (1), 2292, 0), (2292, .iadd, 2293, 0), (2293, .iaload, 2294, 0), (2294, .invokevirtual 159, 2297, 260), (2297, .istore 7, 2299, 1), (2299, .aload 2, 2300, 0), (2300, .invokevirtual 100, 2303, 143), (2303, .iload 6, 2305, 1), (2305, .if_icmp .eq 0, 2308, 2310), (2308, .iconst (0), 2309, 0), (2309, .ireturn, 2310, 0), (2310, .iload 6, 2312, 1), (2312, .ifCond .ne 0, 2315, 2327), (2315, .aload 3, 2316, 0), (2316, .iconst (0), 2317, 0), (2317, .laload, 2318, 0), (2318, .iload 7, 2320, 1), (2320, .i2l, 2321, 0), (2321, .lcmp, 2322, 0), (2322, .ifCond .eq 0, 2325, 2327), (2325, .iconst (0), 2326, 0), (2326, .ireturn, 2327, 0), (2327, .goto 0, 2520, 0), (2330, .aload 1, 2331, 0), (2331, .aload 0, 2332, 0), (2332, .iload 5, 2334, 1), (2334, .iconst (1), 2335, 0), (2335, .iadd, 2336, 0), (2336, .iaload, 2337, 0), (2337, .aload 3, 2338, 0), (2338, .invokestatic 195, 2341, 261), (2341, .istore 6, 2343, 1), (2343, .aload 2, 2344, 0)]
def mm_o198_14 : List (Nat × Instr × Nat × Nat) := [(2344, .aload 0, 2345, 0), (2345, .iload 5, 2347, 1), (2347, .iconst (1), 2348, 0), (2348, .iadd, 2349, 0), (2349, .iaload, 2350, 0), (2350, .invokevirtual 160, 2353, 263), (2353, .istore 7, 2355, 1), (2355, .aload 2, 2356, 0), (2356, .invokevirtual 100, 2359, 143), (2359, .iload 6, 2361, 1), (2361, .if_icmp .eq 0, 2364, 2366), (2364, .iconst (0), 2365, 0), (2365, .ireturn, 2366, 0), (2366, .iload 6, 2368, 1), (2368, .ifCond .ne 0, 2371, 2383), (2371, .aload 3, 2372, 0), (2372, .iconst (0), 2373, 0), (2373, .laload, 2374, 0), (2374, .iload 7, 2376, 1), (2376, .i2l, 2377, 0), (2377, .lcmp, 2378, 0), (2378, .ifCond .eq 0, 2381, 2383), (2381, .iconst (0), 2382, 0), (2382, .ireturn, 2383, 0), (2383, .goto 0, 2520, 0), (2386, .aload 1, 2387, 0), (2387, .aload 0, 2388, 0), (2388, .iload 5, 2390, 1), (2390, .iconst (1), 2391, 0), (2391, .iadd, 2392, 0), (2392, .iaload, 2393, 0), (2393, .aload 0, 2394, 0), (2394, .iload 5, 2396, 1), (2396, .iconst (2), 2397, 0), (2397, .iadd, 2398, 0), (2398, .iaload, 2399, 0), (2399, .aload 3, 2400, 0), (2400, .invokestatic 196, 2403, 264), (2403, .istore 6, 2405, 1), (2405, .aload 2, 2406, 0), (2406, .aload 0, 2407, 0), (2407, .iload 5, 2409, 1), (2409, .iconst (1), 2410, 0), (2410, .iadd, 2411, 0), (2411, .iaload, 2412, 0), (2412, .aload 0, 2413, 0), (2413, .iload 5, 2415, 1), (2415, .iconst (2), 2416, 0), (2416, .iadd, 2417, 0), (2417, .iaload, 2418, 0), (2418, .invokevirtual 161, 2421, 266), (2421, .istore 7, 2423, 1), (2423, .aload 2, 2424, 0), (2424, .invokevirtual 100, 2427, 143), (2427, .iload 6, 2429, 1), (2429, .if_icmp .eq 0, 2432, 2434), (2432, .iconst (0), 2433, 0), (2433, .ireturn, 2434, 0), (2434, .iload 6, 2436, 1), (2436, .ifCond .ne 0, 2439, 2451), (2439, .aload 3, 2440, 0), (2440, .iconst (0), 2441, 0), (2441, .laload, 2442, 0), (2442, .iload 7, 2444, 1), (2444, .i2l, 2445, 0), (2445, .lcmp, 2446, 0), (2446, .ifCond .eq 0, 2449, 2451), (2449, .iconst (0), 2450, 0), (2450, .ireturn, 2451, 0), (2451, .goto 0, 2520, 0), (2454, .aload 1, 2455, 0), (2455, .aload 4, 2457, 1), (2457, .invokestatic 197, 2460, 267), (2460, .istore 6, 2462, 1), (2462, .aload 2, 2463, 0), (2463, .invokevirtual 162, 2466, 270), (2466, .fstore 7, 2468, 1), (2468, .aload 2, 2469, 0), (2469, .invokevirtual 100, 2472, 143), (2472, .iload 6, 2474, 1), (2474, .if_icmp .eq 0, 2477, 2479), (2477, .iconst (0), 2478, 0), (2478, .ireturn, 2479, 0), (2479, .iload 6, 2481, 1), (2481, .ifCond .ne 0, 2484, 2517), (2484, .aload 4, 2486, 1), (2486, .iconst (0), 2487, 0), (2487, .daload, 2488, 0), (2488, .fload 7, 2490, 1), (2490, .f2d, 2491, 0), (2491, .dcmp .l, 2492, 0), (2492, .ifCond .eq 0, 2495, 2517), (2495, .aload 4, 2497, 1), (2497, .iconst (0), 2498, 0), (2498, .daload, 2499, 0), (2499, .aload 4, 2501, 1), (2501, .iconst (0), 2502, 0), (2502, .daload, 2503, 0), (2503, .dcmp .l, 2504, 0), (2504, .ifCond .eq 0, 2507, 2515)]
def mm_o198_15 : List (Nat × Instr × Nat × Nat) := [(2507, .fload 7, 2509, 1), (2509, .fload 7, 2511, 1), (2511, .fcmp .l, 2512, 0), (2512, .ifCond .ne 0, 2515, 2517), (2515, .iconst (0), 2516, 0), (2516, .ireturn, 2517, 0), (2517, .goto 0, 2520, 0), (2520, .iinc 5 5, 2523, 0), (2523, .goto 0, 28, 0), (2526, .iconst (1), 2527, 0), (2527, .ireturn, 2528, 0)]
def mm_o198 : List (Nat × Instr × Nat × Nat) := mm_o198_0 ++ mm_o198_1 ++ mm_o198_2 ++ mm_o198_3 ++ mm_o198_4 ++ mm_o198_5 ++ mm_o198_6 ++ mm_o198_7 ++ mm_o198_8 ++ mm_o198_9 ++ mm_o198_10 ++ mm_o198_11 ++ mm_o198_12 ++ mm_o198_13 ++ mm_o198_14 ++ mm_o198_15
def mm_oL : List (List (Nat × Instr × Nat × Nat)) := [mm_o0, mm_o1, mm_o2, mm_o3, mm_o4, mm_o5, mm_o6, mm_o7, mm_o8, mm_o9, mm_o10, mm_o11, mm_o12, mm_o13, mm_o14, mm_o15, mm_o16, mm_o17, mm_o18, mm_o19, mm_o20, mm_o21, mm_o22, mm_o23, mm_o24, mm_o25, mm_o26, mm_o27, mm_o28, mm_o29, mm_o30, mm_o31, mm_o32, mm_o33, mm_o34, mm_o35, mm_o36, mm_o37, mm_o38, mm_o39, mm_o40, mm_o41, mm_o42, mm_o43, mm_o44, mm_o45, mm_o46, mm_o47, mm_o48, mm_o49, mm_o50, mm_o51, mm_o52, mm_o53, mm_o54, mm_o55, mm_o56, mm_o57, mm_o58, mm_o59, mm_o60, mm_o61, mm_o62, mm_o63, mm_o64, mm_o65, mm_o66, mm_o67, mm_o68, mm_o69, mm_o70, mm_o71, mm_o72, mm_o73, mm_o74, mm_o75, mm_o76, mm_o77, mm_o78, mm_o79, mm_o80, mm_o81, mm_o82, mm_o83, mm_o84, mm_o85, mm_o86, mm_o87, mm_o88, mm_o89, mm_o90, mm_o91, mm_o92, mm_o93, mm_o94, mm_o95, mm_o96, mm_o97, mm_o98, mm_o99, mm_o100, mm_o101, mm_o102, mm_o103, mm_o104, mm_o105, mm_o106, mm_o107, mm_o108, mm_o109, mm_o110, mm_o111, mm_o112, mm_o113, mm_o114, mm_o115, mm_o116, mm_o117, mm_o118, mm_o119, mm_o120, mm_o121, mm_o122, mm_o123, mm_o124, mm_o125, mm_o126, mm_o127, mm_o128, mm_o129, mm_o130, mm_o131, mm_o132, mm_o133, mm_o134, mm_o135, mm_o136, mm_o137, mm_o138, mm_o139, mm_o140, mm_o141, mm_o142, mm_o143, mm_o144, mm_o145, mm_o146, mm_o147, mm_o148, mm_o149, mm_o150, mm_o151, mm_o152, mm_o153, mm_o154, mm_o155, mm_o156, mm_o157, mm_o158, mm_o159, mm_o160, mm_o161, mm_o162, mm_o163, mm_o164, mm_o165, mm_o166, mm_o167, mm_o168, mm_o169, mm_o170, mm_o171, mm_o172, mm_o173, mm_o174, mm_o175, mm_o176, mm_o177, mm_o178, mm_o179, mm_o180, mm_o181, mm_o182, mm_o183, mm_o184, mm_o185, mm_o186, mm_o187, mm_o188, mm_o189, mm_o190, mm_o191, mm_o192, mm_o193, mm_o194, mm_o195, mm_o196, mm_o197, mm_o198]
/-- links of methods: own class, entry; of a nest mate, which method, the word -/
def mm_lL : List ((Nat × Nat) × (Bool × Nat × Nat)) := [((5, 9), (true, 8, 102)), ((5, 18), (true, 0, 124)), ((5, 25), (true, 25, 164)), ((5, 32), (true, 12, 196)), ((5, 39), (true, 17, 230)), ((5, 70), (true, 9, 398)), ((5, 74), (false, 73, 411)), ((5, 78), (false, 79, 431)), ((5, 93), (true, 10, 453)), ((5, 97), (false, 74, 464)), ((5, 105), (false, 81, 470)), ((5, 108), (false, 82, 475)), ((5, 112), (true, 1, 480)), ((5, 116), (true, 2, 484)), ((5, 119), (true, 13, 488)), ((5, 123), (false, 75, 500)), ((5, 146), (true, 7, 531)), ((5, 149), (false, 83, 535)), ((5, 152), (false, 84, 538)), ((5, 162), (false, 85, 549)), ((5, 168), (false, 89, 589)), ((5, 174), (true, 26, 602)), ((5, 177), (false, 76, 616)), ((5, 180), (false, 80, 621)), ((5, 187), (true, 30, 626)), ((5, 190), (false, 94, 637)), ((5, 212), (false, 88, 597)), ((5, 215), (false, 91, 687)), ((5, 219), (false, 93, 703)), ((5, 222), (false, 78, 719)), ((5, 225), (true, 22, 745)), ((5, 229), (true, 23, 769)), ((5, 232), (true, 31, 784)), ((5, 238), (false, 98, 284)), ((5, 245), (true, 14, 818)), ((5, 248), (true, 6, 836)), ((5, 253), (true, 4, 561)), ((5, 256), (true, 5, 854)), ((5, 259), (false, 77, 865)), ((5, 275), (true, 15, 905)), ((5, 278), (true, 32, 920)), ((5, 304), (false, 86, 553)), ((5, 307), (true, 29, 577)), ((5, 310), (false, 87, 557)), ((5, 313), (true, 28, 569)), ((5, 316), (false, 1001, 292)), ((5, 321), (false, 90, 593)), ((5, 325), (false, 1003, 691)), ((5, 331), (false, 92, 692)), ((5, 340), (true, 3, 645)), ((5, 345), (false, 97, 708)), ((5, 348), (false, 95, 641)), ((5, 351), (false, 96, 646)), ((5, 354), (true, 18, 650)), ((5, 357), (true, 11, 288)), ((0, 39), (false, 3, 565)), ((2, 35), (false, 16, 909)), ((3, 25), (false, 19, 654)), ((3, 29), (true, 83, 658)), ((3, 33), (false, 1000, 753)), ((3, 39), (false, 20, 749)), ((3, 44), (false, 21, 757)), ((3, 48), (false, 1001, 761)), ((3, 51), (false, 24, 773)), ((4, 34), (false, 1003, 606)), ((4, 40), (false, 27, 573)), ((7, 7), (false, 34, 308)), ((7, 17), (false, 35, 407)), ((7, 25), (false, 36, 460)), ((7, 29), (false, 37, 496)), ((7, 34), (false, 38, 525)), ((7, 38), (false, 39, 545)), ((7, 41), (false, 40, 584)), ((7, 45), (false, 41, 612)), ((7, 48), (false, 42, 633)), ((7, 51), (false, 43, 662)), ((7, 55), (false, 44, 669)), ((7, 59), (false, 45, 676)), ((7, 62), (false, 46, 683)), ((7, 65), (false, 47, 699)), ((7, 68), (false, 48, 715)), ((7, 71), (false, 49, 727)), ((7, 74), (false, 50, 734)), ((7, 77), (false, 51, 741)), ((7, 80), (false, 52, 765)), ((7, 83), (false, 53, 780)), ((7, 86), (false, 56, 791)), ((7, 90), (false, 57, 799)), ((7, 93), (false, 58, 807)), ((7, 96), (false, 59, 814)), ((7, 99), (false, 60, 825)), ((7, 102), (false, 62, 832)), ((7, 105), (false, 63, 843)), ((7, 108), (false, 64, 850)), ((7, 111), (false, 66, 861)), ((7, 114), (false, 67, 873)), ((7, 117), (false, 68, 880)), ((7, 120), (false, 69, 887)), ((7, 123), (false, 70, 894)), ((7, 126), (false, 71, 901)), ((7, 129), (false, 72, 916)), ((7, 133), (false, 33, 94)), ((7, 136), (false, 99, 927)), ((7, 137), (false, 163, 303)), ((7, 142), (false, 111, 1036)), ((7, 143), (false, 100, 1032)), ((7, 146), (false, 164, 402)), ((7, 149), (false, 112, 1040)), ((7, 150), (false, 165, 457)), ((7, 153), (false, 113, 1051)), ((7, 154), (false, 166, 492)), ((7, 156), (false, 114, 1074)), ((7, 157), (false, 167, 522)), ((7, 160), (false, 115, 1082)), ((7, 161), (false, 168, 542)), ((7, 163), (false, 116, 1089)), ((7, 164), (false, 169, 581)), ((7, 167), (false, 122, 1113)), ((7, 168), (false, 170, 609)), ((7, 170), (false, 125, 1127)), ((7, 171), (false, 171, 630)), ((7, 173), (false, 126, 1139)), ((7, 174), (false, 172, 659)), ((7, 176), (false, 127, 1147)), ((7, 177), (false, 173, 666)), ((7, 180), (false, 128, 1151)), ((7, 181), (false, 174, 673)), ((7, 183), (false, 129, 1155)), ((7, 184), (false, 175, 680)), ((7, 186), (false, 130, 1159)), ((7, 187), (false, 176, 696)), ((7, 189), (false, 134, 1164)), ((7, 190), (false, 177, 712)), ((7, 192), (false, 135, 1172)), ((7, 193), (false, 178, 724)), ((7, 195), (false, 136, 1180)), ((7, 196), (false, 179, 731)), ((7, 198), (false, 137, 1184)), ((7, 199), (false, 180, 738)), ((7, 201), (false, 138, 1188)), ((7, 202), (false, 181, 762)), ((7, 204), (false, 139, 1192)), ((7, 205), (false, 182, 777)), ((7, 207), (false, 140, 1197)), ((7, 208), (false, 54, 276)), ((7, 211), (false, 141, 1201)), ((7, 212), (false, 55, 280)), ((7, 215), (false, 143, 1205)), ((7, 216), (false, 183, 788)), ((7, 219), (false, 144, 1214)), ((7, 220), (false, 184, 796)), ((7, 222), (false, 145, 1218)), ((7, 223), (false, 185, 804)), ((7, 225), (false, 146, 1222)), ((7, 226), (false, 186, 811)), ((7, 228), (false, 147, 1226)), ((7, 229), (false, 187, 822)), ((7, 231), (false, 148, 1231)), ((7, 232), (false, 61, 295)), ((7, 235), (false, 149, 1235)), ((7, 236), (false, 188, 829)), ((7, 238), (false, 150, 1239)), ((7, 239), (false, 189, 840)), ((7, 241), (false, 152, 1243)), ((7, 242), (false, 190, 847)), ((7, 244), (false, 153, 1251)), ((7, 245), (false, 65, 299)), ((7, 248), (false, 154, 1255)), ((7, 249), (false, 191, 858)), ((7, 251), (false, 156, 1259)), ((7, 252), (false, 192, 870)), ((7, 254), (false, 157, 1267)), ((7, 255), (false, 193, 877)), ((7, 257), (false, 158, 1271)), ((7, 258), (false, 194, 884)), ((7, 260), (false, 159, 1275)), ((7, 261), (false, 195, 891)), ((7, 263), (false, 160, 1279)), ((7, 264), (false, 196, 898)), ((7, 266), (false, 161, 1283)), ((7, 267), (false, 197, 913)), ((7, 270), (false, 162, 1287)), ((6, 98), (false, 102, 1048)), ((6, 114), (false, 103, 1044)), ((6, 118), (false, 105, 1055)), ((6, 121), (false, 101, 1058)), ((6, 125), (false, 108, 1062)), ((6, 128), (false, 110, 1066)), ((6, 132), (false, 109, 1070)), ((6, 136), (false, 104, 1078)), ((6, 139), (false, 107, 1086)), ((6, 142), (false, 1002, 1093)), ((6, 147), (false, 117, 1096)), ((6, 150), (false, 118, 1100)), ((6, 153), (false, 1000, 1104)), ((6, 157), (false, 119, 1105)), ((6, 160), (false, 120, 1109)), ((6, 164), (false, 1001, 1126)), ((6, 167), (false, 123, 1117)), ((6, 170), (false, 121, 1121)), ((6, 173), (false, 106, 1135)), ((6, 176), (false, 124, 1131)), ((6, 179), (false, 131, 1143)), ((6, 186), (false, 129, 1163)), ((6, 189), (false, 132, 1168)), ((6, 192), (false, 133, 1176)), ((6, 196), (false, 138, 1196)), ((6, 202), (false, 142, 1209)), ((6, 205), (false, 146, 1230)), ((6, 208), (false, 151, 1247)), ((6, 212), (false, 155, 1263))]
def mm_fL : List ((Nat × Nat) × (Bool × Nat × Nat)) := [((5, 10), (false, 500, 251)), ((5, 19), (false, 501, 252)), ((5, 26), (false, 502, 253)), ((5, 33), (false, 503, 254)), ((5, 40), (false, 504, 255)), ((5, 44), (false, 505, 256)), ((5, 48), (false, 506, 257)), ((5, 51), (false, 507, 258)), ((5, 62), (true, 100, 109)), ((5, 87), (true, 102, 112)), ((5, 100), (true, 0, 130)), ((5, 126), (true, 4, 138)), ((5, 136), (true, 5, 140)), ((5, 141), (true, 2, 134)), ((5, 156), (true, 7, 144)), ((5, 159), (true, 1, 132)), ((5, 165), (true, 400, 170)), ((5, 183), (true, 402, 174)), ((5, 193), (true, 300, 235)), ((5, 194), (true, 404, 178)), ((5, 197), (true, 200, 201)), ((5, 198), (true, 405, 180)), ((5, 201), (true, 302, 239)), ((5, 204), (true, 301, 237)), ((5, 207), (true, 303, 241)), ((5, 210), (true, 403, 176)), ((5, 235), (true, 6, 142)), ((5, 262), (true, 201, 203)), ((5, 265), (true, 202, 205)), ((5, 268), (true, 203, 207)), ((5, 271), (true, 204, 209)), ((5, 274), (true, 205, 211)), ((5, 334), (true, 401, 172)), ((5, 337), (true, 3, 136)), ((0, 9), (false, 0, 129)), ((0, 15), (false, 1, 131)), ((0, 19), (false, 2, 133)), ((0, 22), (false, 3, 135)), ((0, 27), (false, 4, 137)), ((0, 30), (false, 5, 139)), ((0, 33), (false, 6, 141)), ((0, 36), (false, 7, 143)), ((1, 9), (false, 100, 108)), ((1, 15), (false, 101, 110)), ((1, 21), (false, 102, 111)), ((2, 9), (false, 200, 200)), ((2, 15), (false, 201, 202)), ((2, 19), (false, 202, 204)), ((2, 23), (false, 203, 206)), ((2, 26), (false, 204, 208)), ((2, 29), (false, 205, 210)), ((2, 32), (false, 206, 212)), ((3, 9), (false, 300, 234)), ((3, 15), (false, 301, 236)), ((3, 19), (false, 302, 238)), ((3, 22), (false, 303, 240)), ((4, 9), (false, 400, 169)), ((4, 15), (false, 401, 171)), ((4, 19), (false, 402, 173)), ((4, 25), (false, 403, 175)), ((4, 28), (false, 404, 177)), ((4, 31), (false, 405, 179)), ((6, 9), (false, 600, 932)), ((6, 15), (false, 601, 933)), ((6, 18), (false, 603, 935)), ((6, 22), (false, 604, 936)), ((6, 25), (false, 605, 937)), ((6, 28), (false, 606, 938)), ((6, 31), (false, 607, 939)), ((6, 34), (false, 609, 941)), ((6, 37), (false, 610, 942)), ((6, 40), (false, 611, 943)), ((6, 43), (false, 612, 944)), ((6, 46), (false, 613, 945)), ((6, 49), (false, 614, 946)), ((6, 52), (false, 615, 947)), ((6, 55), (false, 616, 948)), ((6, 58), (false, 618, 950)), ((6, 61), (false, 619, 951)), ((6, 64), (false, 620, 952)), ((6, 67), (false, 621, 953)), ((6, 70), (false, 622, 954)), ((6, 73), (false, 623, 955)), ((6, 76), (false, 627, 959)), ((6, 79), (false, 628, 960)), ((6, 82), (false, 629, 961)), ((6, 85), (false, 630, 962)), ((6, 88), (false, 632, 964)), ((6, 91), (false, 626, 958)), ((6, 95), (false, 602, 934)), ((6, 102), (false, 608, 940)), ((6, 105), (false, 617, 949)), ((6, 108), (false, 624, 956)), ((6, 111), (false, 625, 957)), ((6, 183), (false, 631, 963))]
def mm_cL : List ((Nat × Nat) × Nat) := [((3, 43), 756), ((6, 163), 1125), ((6, 201), 1213)]
def mm_eN : Nat → String | 0 => "java/lang/IllegalArgumentException" | 1 => "java/lang/IllegalStateException" | 2 => "java/lang/IndexOutOfBoundsException" | 3 => "java/lang/UnsupportedOperationException" | _ => "java/util/NoSuchElementException"
/-- throws: which exception, own class, entries of the class, of the text and of the constructor, the text, wide -/
def mm_tL : List (Nat × Nat × Nat × Nat × Nat × String × Bool) := [(0, 5, 55, 57, 59, "the category is not A, B or C", false), (1, 5, 65, 67, 69, "there are 6 items", false), (3, 5, 82, 84, 86, "an item is no substitute of itself", false), (1, 5, 65, 91, 69, "it is a substitute already", false), (1, 5, 65, 103, 69, "there are 24 lots", false), (4, 5, 129, 131, 133, "there are fewer units of the lot in the bin", false), (3, 5, 82, 134, 86, "both bins are the same", false), (4, 5, 129, 139, 133, "the lot has no units", false), (3, 5, 82, 144, 86, "the lot is not expired", false), (1, 5, 65, 166, 69, "there are 20 promises", false), (3, 5, 82, 172, 86, "there is a rest", false), (4, 5, 129, 241, 133, "all bins are empty", false), (4, 5, 129, 243, 133, "the bin is empty", false), (4, 5, 129, 251, 133, "there is no such lot", false), (4, 5, 129, 281, 133, "no promise is other than open", true), (2, 5, 283, 285, 287, "there is no such item", true), (2, 5, 283, 288, 287, "there is no such bin", true), (2, 5, 283, 251, 287, "there is no such lot", false), (2, 5, 283, 290, 287, "there is no such promise", true), (2, 5, 283, 292, 287, "there is no such entry", true), (4, 5, 129, 294, 133, "the promise has no such line", true), (0, 5, 55, 296, 59, "the argument is too small or too great", true), (1, 5, 65, 298, 69, "the promise is not open", true), (1, 5, 65, 300, 69, "the journal has too little space", true), (3, 5, 82, 302, 86, "the bin would contain more than 30 units", true), (1, 5, 65, 343, 69, "the promise is neither open nor was picked", true)]
def mm_sW : List Nat := [355, 391, 445, 452, 469, 514, 521, 529, 530, 588, 601, 795, 803, 504, 924, 424, 468, 504, 620, 869, 723, 435, 625, 474, 479, 707]
def mm_bW : Nat → Nat × Nat × Nat | 1000 => (754, 90, 755) | 1001 => (293, 90, 294) | 1002 => (1094, 90, 1095) | 1003 => (607, 91, 608) | _ => (0, 0, 0)
def mm_eI : Nat → Nat × Nat | 0 => (55, 59) | 1 => (65, 69) | 2 => (283, 287) | 3 => (82, 86) | 4 => (129, 133) | _ => (0, 0)
/-- the cells: kind (0 ints, 1 chars, 2 rows, 3 an object, 4 longs, 5 doubles, 6 the script), how many or which class, the first row, fields (0 a number, r + 1 the cell r) -/
def mm_sL : List (Nat × Nat × Nat × List Nat) := [(3, 5, 0, [2, 3, 4, 5, 6, 7, 8, 0]), (3, 1, 0, [0, 9, 10]), (3, 0, 0, [0, 17, 18, 19, 20, 45, 46, 47]), (3, 4, 0, [0, 48, 49, 50, 71, 72]), (3, 2, 0, [0, 73, 74, 75, 76, 77, 78]), (3, 3, 0, [0, 79, 80, 81]), (0, 6, 0, []), (0, 24, 0, []), (1, 6, 0, []), (2, 6, 10, []), (0, 6, 0, []), (0, 6, 0, []), (0, 6, 0, []), (0, 6, 0, []), (0, 6, 0, []), (0, 6, 0, []), (0, 24, 0, []), (0, 24, 0, []), (0, 24, 0, []), (2, 24, 20, []), (0, 40, 0, []), (0, 40, 0, []), (0, 40, 0, []), (0, 40, 0, []), (0, 40, 0, []), (0, 40, 0, []), (0, 40, 0, []), (0, 40, 0, []), (0, 40, 0, []), (0, 40, 0, []), (0, 40, 0, []), (0, 40, 0, []), (0, 40, 0, []), (0, 40, 0, []), (0, 40, 0, []), (0, 40, 0, []), (0, 40, 0, []), (0, 40, 0, []), (0, 40, 0, []), (0, 40, 0, []), (0, 40, 0, []), (0, 40, 0, []), (0, 40, 0, []), (0, 40, 0, []), (0, 24, 0, []), (0, 40, 0, []), (0, 40, 0, []), (0, 20, 0, []), (1, 20, 0, []), (2, 20, 50, []), (0, 6, 0, []), (0, 6, 0, []), (0, 6, 0, []), (0, 6, 0, []), (0, 6, 0, []), (0, 6, 0, []), (0, 6, 0, []), (0, 6, 0, []), (0, 6, 0, []), (0, 6, 0, []), (0, 6, 0, []), (0, 6, 0, []), (0, 6, 0, []), (0, 6, 0, []), (0, 6, 0, []), (0, 6, 0, []), (0, 6, 0, []), (0, 6, 0, []), (0, 6, 0, []), (0, 6, 0, []), (0, 20, 0, []), (0, 20, 0, []), (1, 150, 0, []), (0, 150, 0, []), (0, 150, 0, []), (0, 150, 0, []), (0, 150, 0, []), (0, 150, 0, []), (0, 60, 0, []), (0, 60, 0, []), (0, 60, 0, []), (3, 6, 0, [83, 84, 0, 91, 92, 93, 118, 119, 0, 120, 121, 122, 123, 144, 165, 186, 207, 0, 208, 209, 210, 211, 212, 213, 0, 0, 0, 214, 239, 240, 241, 0, 242]), (1, 6, 0, []), (2, 6, 84, []), (0, 6, 0, []), (0, 6, 0, []), (0, 6, 0, []), (0, 6, 0, []), (0, 6, 0, []), (0, 6, 0, []), (0, 24, 0, []), (0, 24, 0, []), (2, 24, 93, []), (0, 40, 0, []), (0, 40, 0, []), (0, 40, 0, []), (0, 40, 0, []), (0, 40, 0, []), (0, 40, 0, []), (0, 40, 0, []), (0, 40, 0, []), (0, 40, 0, []), (0, 40, 0, []), (0, 40, 0, []), (0, 40, 0, []), (0, 40, 0, []), (0, 40, 0, []), (0, 40, 0, []), (0, 40, 0, []), (0, 40, 0, []), (0, 40, 0, []), (0, 40, 0, []), (0, 40, 0, []), (0, 40, 0, []), (0, 40, 0, []), (0, 40, 0, []), (0, 40, 0, []), (0, 24, 0, []), (0, 24, 0, []), (0, 40, 0, []), (0, 20, 0, []), (1, 20, 0, []), (2, 20, 123, []), (0, 6, 0, []), (0, 6, 0, []), (0, 6, 0, []), (0, 6, 0, []), (0, 6, 0, []), (0, 6, 0, []), (0, 6, 0, []), (0, 6, 0, []), (0, 6, 0, []), (0, 6, 0, []), (0, 6, 0, []), (0, 6, 0, []), (0, 6, 0, []), (0, 6, 0, []), (0, 6, 0, []), (0, 6, 0, []), (0, 6, 0, []), (0, 6, 0, []), (0, 6, 0, []), (0, 6, 0, []), (2, 20, 144, []), (0, 60, 0, []), (0, 60, 0, []), (0, 60, 0, []), (0, 60, 0, []), (0, 60, 0, []), (0, 60, 0, []), (0, 60, 0, []), (0, 60, 0, []), (0, 60, 0, []), (0, 60, 0, []), (0, 60, 0, []), (0, 60, 0, []), (0, 60, 0, []), (0, 60, 0, []), (0, 60, 0, []), (0, 60, 0, []), (0, 60, 0, []), (0, 60, 0, []), (0, 60, 0, []), (0, 60, 0, []), (2, 20, 165, []), (0, 60, 0, []), (0, 60, 0, []), (0, 60, 0, []), (0, 60, 0, []), (0, 60, 0, []), (0, 60, 0, []), (0, 60, 0, []), (0, 60, 0, []), (0, 60, 0, []), (0, 60, 0, []), (0, 60, 0, []), (0, 60, 0, []), (0, 60, 0, []), (0, 60, 0, []), (0, 60, 0, []), (0, 60, 0, []), (0, 60, 0, []), (0, 60, 0, []), (0, 60, 0, []), (0, 60, 0, []), (2, 20, 186, []), (0, 60, 0, []), (0, 60, 0, []), (0, 60, 0, []), (0, 60, 0, []), (0, 60, 0, []), (0, 60, 0, []), (0, 60, 0, []), (0, 60, 0, []), (0, 60, 0, []), (0, 60, 0, []), (0, 60, 0, []), (0, 60, 0, []), (0, 60, 0, []), (0, 60, 0, []), (0, 60, 0, []), (0, 60, 0, []), (0, 60, 0, []), (0, 60, 0, []), (0, 60, 0, []), (0, 60, 0, []), (0, 20, 0, []), (1, 150, 0, []), (0, 150, 0, []), (0, 150, 0, []), (0, 150, 0, []), (0, 150, 0, []), (0, 150, 0, []), (2, 24, 214, []), (0, 40, 0, []), (0, 40, 0, []), (0, 40, 0, []), (0, 40, 0, []), (0, 40, 0, []), (0, 40, 0, []), (0, 40, 0, []), (0, 40, 0, []), (0, 40, 0, []), (0, 40, 0, []), (0, 40, 0, []), (0, 40, 0, []), (0, 40, 0, []), (0, 40, 0, []), (0, 40, 0, []), (0, 40, 0, []), (0, 40, 0, []), (0, 40, 0, []), (0, 40, 0, []), (0, 40, 0, []), (0, 40, 0, []), (0, 40, 0, []), (0, 40, 0, []), (0, 40, 0, []), (0, 60, 0, []), (0, 60, 0, []), (0, 60, 0, []), (0, 6, 0, []), (4, 1, 0, []), (5, 1, 0, []), (6, 0, 0, [])]
abbrev mm_NW : Nat := 244
-- cells by name: W 0, W.items 1, W.goods 2, W.promises 3, W.journal 4, W.lines 5, W.planned 6, W.unitsLeft 7, W.today (0, 7), W.items.size (1, 0), W.items.categories 8, W.items.ranks 9, W.goods.lotCount (2, 0), W.goods.lotItems 16, W.goods.expiries 17, W.goods.lotOrder 18, W.goods.units 19, W.goods.lotUnits 44, W.goods.binLoads 45, W.goods.countedOn 46, W.promises.size (3, 0), W.promises.dues 47, W.promises.states 48, W.promises.quantities 49, W.promises.firstEntries 70, W.promises.lineCounts 71, W.journal.size (4, 0), W.journal.kinds 72, W.journal.lotsMoved 73, W.journal.binsFrom 74, W.journal.binsTo 75, W.journal.quantities 76, W.journal.days 77, W.lines.size (5, 0), W.lines.bins 78, W.lines.lots 79, W.lines.quantities 80, M 81, M.category 82, M.rank 83, M.items (81, 2), M.itemOf 90, M.expiry 91, M.units 92, M.all 117, M.order 118, M.lots (81, 8), M.counted 119, M.due 120, M.status 121, M.wanted 122, M.keptBin 143, M.keptLot 164, M.keptMany 185, M.kept 206, M.promises (81, 17), M.kind 207, M.entryLot 208, M.entryFrom 209, M.entryTo 210, M.entryMany 211, M.entryDay 212, M.entries (81, 24), M.day (81, 25), M.thrown (81, 26), M.taken 213, M.lineBin 238, M.lineLot 239, M.lineMany 240, M.lines (81, 31), M.gives 241, out 242, outD 243, scr 244
end
section
/-! THE MINI MACHINE: a memory of ints over cells of a fixed shape; ops by the tables; what a run answers is a function. -/
abbrev mmM : Type := Nat → Nat → Int32
def mm_up (v : mmM) (i j : Nat) (x : Int32) : mmM := fun a b => if a = i ∧ b = j then x else v a b
def mm_cp (v : mmM) (i sp i2 dp n : Nat) : mmM := fun a b => if a = i2 ∧ dp ≤ b ∧ b < dp + n then v i (sp + (b - dp)) else v a b
def mm_dh (y : UInt64) : Int32 := Int32.ofBitVec (BitVec.ofNat 32 (y.toNat / 4294967296))
def mm_dl (y : UInt64) : Int32 := Int32.ofBitVec (BitVec.ofNat 32 (y.toNat % 4294967296))
def mm_dj (a b : Int32) : UInt64 := UInt64.ofNat (a.toBitVec.toNat * 4294967296 + b.toBitVec.toNat)
theorem mm_dj_eq (y : UInt64) : mm_dj (mm_dh y) (mm_dl y) = y := by
  have h : y.toNat < 18446744073709551616 := y.toNat_lt
  have h1 : (mm_dh y).toBitVec.toNat = y.toNat / 4294967296 := by
    show (BitVec.ofNat 32 (y.toNat / 4294967296)).toNat = _
    rw [BitVec.toNat_ofNat]
    omega
  have h2 : (mm_dl y).toBitVec.toNat = y.toNat % 4294967296 := by
    show (BitVec.ofNat 32 (y.toNat % 4294967296)).toNat = _
    rw [BitVec.toNat_ofNat]
    omega
  unfold mm_dj
  rw [h1, h2, Nat.mul_comm, Nat.div_add_mod]
  exact UInt64.ofNat_toNat
def mm_y (k : Nat) : MethodName := mm_yL.getD k yL_law
def mm_b (k : Nat) : ByteArray := mm_bL.getD k cL_law
def mm_n (k : Nat) : Nat × Nat × Nat × Bool × Nat × Nat × Nat := mm_nL.getD k (7, 8, 1, true, 0, 0, 0)
def mm_own (k : Nat) : Nat := (mm_n k).1
def mm_maxL (k : Nat) : Nat := (mm_n k).2.1
def mm_np (k : Nat) : Nat := (mm_n k).2.2.1
def mm_stt (k : Nat) : Bool := (mm_n k).2.2.2.1
def mm_fr (k : Nat) : Nat := (mm_n k).2.2.2.2.1
def mm_lo (k : Nat) : Nat := (mm_n k).2.2.2.2.2.1
def mm_mc (k : Nat) : Nat := (mm_n k).2.2.2.2.2.2
def mm_ret (k : Nat) : Option FieldType := mm_rL.getD k none
def mm_hh (k : Nat) : List (Nat × Nat × Nat × Nat) := mm_hL.getD k []
def mm_ops (k : Nat) : List (Nat × Instr × Nat × Nat) := mm_oL.getD k []
def mm_op (k pc : Nat) : Option (Instr × Nat × Nat) := (mm_ops k).lookup pc
def mm_sh (i : Nat) : Nat × Nat × Nat × List Nat := mm_sL.getD i (9, 0, 0, [])
def mm_in (j : Int32) (n : Nat) : Bool := decide (0 ≤ j.toInt) && decide (j.toInt < (n : Int))
def mm_wt (S : List Value) : Bool := decide ((S.map fun v => v.category).sum ≤ 8)
def mm_a1 (S : List Value) : Bool := S.all fun v => decide (v.category = 1)
/-- the handlers of the law's little methods: [astore; iconst; ireturn], which number -/
def mm_hd (k e : Nat) : Option Int32 := match (mm_hh k).findIdx? (fun h => decide (mm_cn k h = mm_eN e)) with
  | some i => some (Int32.ofNat (i + 1))
  | none => none
where mm_cn (k : Nat) (h : Nat × Nat × Nat × Nat) : String := match h.2.2.2 with
  | 13 => "java/lang/IllegalArgumentException"
  | 15 => "java/lang/IllegalStateException"
  | 21 => "java/lang/IndexOutOfBoundsException"
  | 23 => "java/lang/UnsupportedOperationException"
  | _ => if k < 500 then "java/util/NoSuchElementException" else ""
end
section
/-! what is read off the class files: each op is what the tables say; words by their places. By the kernel. -/
def mm_dc (k pc : Nat) (i : Instr) (len : Nat) : Bool := decide (decode (mm_b k) pc = .ok (i, len))
/-- a word of the tables, at its place, that the warm tables keep -/
def mm_w (i : Nat) (w : Cond) : Bool := decide (lw_tbl[i]? = some w) && w.onTables && w.keepsOver
def mm_cw (k : Nat) : Cond := if (mm_hh k).isEmpty then .code (mm_y k) (mm_b k) (mm_maxL k) (mm_ret k) else .codeWith (mm_y k) (mm_b k) (mm_maxL k) (mm_ret k) (mm_hh k)
def mm_ix (k : Nat) : Nat × Nat × Nat × Nat := mm_iL.getD k (0, 0, 0, 0)
/-- a method that may be called -/
def mm_fm (j : Nat) : Bool :=
  decide (plainName (mm_y j).cls = true) && decide ((mm_y j).cls ≠ "java/lang/invoke/MethodHandle") && decide ((mm_y j).cls ≠ "java/lang/invoke/VarHandle") && decide ((mm_y j).cls = mm_rn (mm_own j)) && decide (mm_own j < 8) &&
  decide ((parseMethodDescriptor (mm_y j).desc).map (fun d => d.parameters.length) = some (mm_np j)) && decide (mm_np j + (if mm_stt j then 0 else 1) ≤ mm_maxL j) &&
  mm_w (mm_ix j).1 (mm_cw j) && goodWord (mm_cw j) &&
  (if mm_stt j then mm_w (mm_ix j).2.1 (.static (mm_y j)) else (mm_w (mm_ix j).2.1 (.instanceMethod (mm_y j)) && mm_w (mm_ix j).2.2.1 (.selects (mm_rn (mm_own j)) (mm_y j) (mm_y j)) && decide (mm_own j < 7))) &&
  mm_w (mm_ix j).2.2.2 (.initialized (mm_rn (mm_own j)))
def mm_lk (k j x : Nat) : Bool := match mm_lL.lookup (mm_own k, x) with
  | some (true, j', w) => decide (j' = j) && decide (lw_tbl[w]? = some (.methodLinkNest (mm_rn (mm_own k)) x (mm_y j) "WareHall")) && (mm_hh j).isEmpty
  | some (false, j', w) => decide (j' = j) && mm_w w (.methodLink (mm_rn (mm_own k)) x (mm_y j))
  | none => false
def mm_rm (k j : Nat) : Bool := decide (mm_fr j + 1 ≤ mm_fr k) && decide (8 + (mm_maxL j + 11) + mm_lo j ≤ mm_lo k)
def mm_bk (k j x : Nat) : Bool := decide (1 ≤ mm_fr k) && decide (21 ≤ mm_lo k) && (match mm_lL.lookup (mm_own k, x) with
  | some (false, j', w) => decide (j' = j) && (
    if j = 1000 then mm_w w (.methodLink (mm_rn (mm_own k)) x Lib.Math.max.name) && mm_w (mm_bW j).1 (.static Lib.Math.max.name) && mm_w (mm_bW j).2.1 (.initialized "java/lang/Math") && mm_w (mm_bW j).2.2 (.code Lib.Math.max.name Lib.Math.max.code 2 (some .int))
    else if j = 1001 then mm_w w (.methodLink (mm_rn (mm_own k)) x Lib.Math.min.name) && mm_w (mm_bW j).1 (.static Lib.Math.min.name) && mm_w (mm_bW j).2.1 (.initialized "java/lang/Math") && mm_w (mm_bW j).2.2 (.code Lib.Math.min.name Lib.Math.min.code 2 (some .int))
    else if j = 1002 then mm_w w (.methodLink (mm_rn (mm_own k)) x Lib.Math.abs.name) && mm_w (mm_bW j).1 (.static Lib.Math.abs.name) && mm_w (mm_bW j).2.1 (.initialized "java/lang/Math") && mm_w (mm_bW j).2.2 (.code Lib.Math.abs.name Lib.Math.abs.code 1 (some .int))
    else mm_w w (.methodLink (mm_rn (mm_own k)) x arraycopyName) && mm_w (mm_bW j).1 (.static arraycopyName) && mm_w (mm_bW j).2.1 (.initialized "java/lang/System") && mm_w (mm_bW j).2.2 (.native arraycopyName) && decide (8 + (nativeFrameWords "java/lang/System" "arraycopy" 5 + 11) ≤ mm_lo k))
  | _ => false)
def mm_fk (k a x : Nat) (put : Bool) : Bool := match mm_fL.lookup (mm_own k, x) with
  | some (nest, a', w) => decide (a' = a) && decide (a / 100 < 7) && decide (a % 100 < mm_N (a / 100)) && (!put || (decide ((mm_T (a / 100) (a % 100)).2.2.2 = false) && decide (mm_tyf (a / 100) (a % 100) = .int))) &&
    (if nest then decide (lw_tbl[w]? = some (.fieldLinkNest (mm_rn (mm_own k)) x (mm_T (a / 100) (a % 100)).1 (mm_T (a / 100) (a % 100)).2.1 (mm_T (a / 100) (a % 100)).2.2.1 "WareHall"))
      else mm_w w (.fieldLink (mm_rn (mm_own k)) x (mm_T (a / 100) (a % 100)).1 (mm_T (a / 100) (a % 100)).2.1 (mm_T (a / 100) (a % 100)).2.2.1))
  | none => false
def mm_names : List String := ["java/lang/RuntimeException", "java/lang/Exception"]
/-- an exception of the class's -/
def mm_ek (e : Nat) : Bool := decide (Bundle.fit (mm_eN e) = true) && mm_names.all (fun n => decide (Bundle.fit n = true)) &&
  decide (Cond.classLink RX5 (mm_eI e).1 (mm_eN e) ∈ lw_tbl) && decide (Cond.initialized (mm_eN e) ∈ lw_tbl) && decide (Cond.castable (mm_eN e) (mm_eN e) ∈ lw_tbl) && (vx_atS RX5 (mm_eI e).2 (mm_eN e) mm_names).all (fun w => decide (w ∈ lw_tbl) && w.onTables && w.keepsOver && vx_ot w)
def mm_tk (k pc t : Nat) : Bool := match mm_tL[t]? with
  | some (e, own, ik, is, ic, tx, wd) => decide (e < 5) && decide (own = 5) && decide (mm_own k = 5) && decide ((ik, ic) = mm_eI e) && decide (lw_tbl[mm_sW.getD t 0]? = some (.stringRef RX5 is tx)) && decide (5 < mm_fr k) && decide (82 ≤ mm_lo k) && (mm_hh k).isEmpty &&
    mm_dc k pc (.new ik) 3 && mm_dc k (pc + 3) .dup 1 && (if wd then mm_dc k (pc + 4) (.ldc_w is) 3 && mm_dc k (pc + 7) (.invokespecial ic) 3 && mm_dc k (pc + 10) .athrow 1 else mm_dc k (pc + 4) (.ldc is) 2 && mm_dc k (pc + 6) (.invokespecial ic) 3 && mm_dc k (pc + 9) .athrow 1)
  | none => false
/-- the handlers of a little method of the law: [astore; iconst; ireturn] -/
def mm_hk (k : Nat) : Bool := (mm_hh k).zipIdx.all (fun h => decide (h.1.2.2.2 ≠ 0) && decide (Cond.classLink RL h.1.2.2.2 (mm_hd.mm_cn k h.1) ∈ lw_tbl) && decide (mm_own k = 7) &&
  (match decode (mm_b k) h.1.2.2.1 with
    | .ok (.astore_n a, 1) => decide (a.val < mm_maxL k) && mm_dc k (h.1.2.2.1 + 1) (.iconst (h.2 + 1)) 1 && mm_dc k (h.1.2.2.1 + 2) .ireturn 1
    | .ok (.astore a, 2) => decide (a < mm_maxL k) && mm_dc k (h.1.2.2.1 + 2) (.iconst (h.2 + 1)) 1 && mm_dc k (h.1.2.2.1 + 3) .ireturn 1
    | _ => false))
def mm_cv (k pc : Nat) : Bool := (mm_hh k).all (fun h => decide (h.1 ≤ pc) && decide (pc < h.2.1))
def mm_ck (k pc : Nat) : Instr × Nat × Nat → Bool
  | (.iload a, np, x) => (decide (x = 0) && decide (np = pc + 1) && decide ((Fin.ofNat 4 a).val = a) && mm_dc k pc (.iload_n (Fin.ofNat 4 a)) 1) || (decide (np = pc + 2) && mm_dc k pc (.iload a) 2)
  | (.aload a, np, x) => (decide (x = 0) && decide (np = pc + 1) && decide ((Fin.ofNat 4 a).val = a) && mm_dc k pc (.aload_n (Fin.ofNat 4 a)) 1) || (decide (np = pc + 2) && mm_dc k pc (.aload a) 2)
  | (.fload a, np, _) => decide (np = pc + 2) && mm_dc k pc (.fload a) 2
  | (.istore a, np, x) => (decide (x = 0) && decide (np = pc + 1) && decide ((Fin.ofNat 4 a).val = a) && mm_dc k pc (.istore_n (Fin.ofNat 4 a)) 1) || (decide (np = pc + 2) && mm_dc k pc (.istore a) 2)
  | (.astore a, np, x) => (decide (x = 0) && decide (np = pc + 1) && decide ((Fin.ofNat 4 a).val = a) && mm_dc k pc (.astore_n (Fin.ofNat 4 a)) 1) || (decide (np = pc + 2) && mm_dc k pc (.astore a) 2)
  | (.fstore a, np, _) => decide (np = pc + 2) && mm_dc k pc (.fstore a) 2
  | (.iconst n, np, x) => if x = 0 then decide (np = pc + 1) && mm_dc k pc (.iconst n) 1
      else if x = 1 then decide (np = pc + 2) && mm_dc k pc (.bipush n) 2 && decide ((Int8.ofInt n).toInt32 = Int32.ofInt n)
      else if x = 2 then decide (np = pc + 3) && mm_dc k pc (.sipush n) 3 && decide ((Int16.ofInt n).toInt32 = Int32.ofInt n)
      else (match mm_cL.lookup (mm_own k, (x - 3) / 2) with
        | some w => mm_w w (.constant (mm_rn (mm_own k)) ((x - 3) / 2) (Int32.ofInt n)) && (if x % 2 = 1 then decide (np = pc + 2) && mm_dc k pc (.ldc ((x - 3) / 2)) 2 else decide (np = pc + 3) && mm_dc k pc (.ldc_w ((x - 3) / 2)) 3)
        | none => false)
  | (.fconst _, np, _) => decide (np = pc + 1) && mm_dc k pc (.fconst 0) 1
  | (.iinc a n, np, _) => decide (np = pc + 3) && mm_dc k pc (.iinc a n) 3
  | (.goto _, t, _) => mm_dc k pc (.goto ((t : Int) - pc)) 3
  | (.ifCond c _, np, t) => decide (np = pc + 3) && mm_dc k pc (.ifCond c ((t : Int) - pc)) 3
  | (.if_icmp c _, np, t) => decide (np = pc + 3) && mm_dc k pc (.if_icmp c ((t : Int) - pc)) 3
  | (.tableswitch d lo hi offs, np, _) => mm_dc k pc (.tableswitch d lo hi offs) (np - pc)
  | (.getfield a, np, x) => decide (np = pc + 3) && mm_dc k pc (.getfield x) 3 && mm_fk k a x false
  | (.putfield a, np, x) => decide (np = pc + 3) && mm_dc k pc (.putfield x) 3 && mm_fk k a x true
  | (.invokevirtual j, np, x) => decide (np = pc + 3) && mm_dc k pc (.invokevirtual x) 3 && mm_lk k j x && mm_rm k j && mm_fm j && !(mm_stt j) && (mm_hh j).isEmpty && mm_cv k pc
  | (.invokestatic j, np, x) => decide (np = pc + 3) && mm_dc k pc (.invokestatic x) 3 && (if 1000 ≤ j then mm_bk k j x else mm_lk k j x && mm_rm k j && mm_fm j && mm_stt j && mm_cv k pc)
  | (.freturn, _, _) => mm_dc k pc .freturn 1 && decide (mm_ret k = some .float)
  | (.return_, _, _) => mm_dc k pc .return_ 1 && decide (mm_ret k = none)
  | (.athrow, _, t) => mm_tk k pc t
  | (i, np, _) => decide (np = pc + 1) && mm_dc k pc i 1
def mm_ckk (k : Nat) : Bool := (mm_ops k).all (fun q => mm_ck k q.1 q.2) && mm_hk k
end
section
theorem mm_c0 : mm_ckk 0 = true := by decide +kernel
theorem mm_c1 : mm_ckk 1 = true := by decide +kernel
theorem mm_c2 : mm_ckk 2 = true := by decide +kernel
theorem mm_c3 : mm_ckk 3 = true := by decide +kernel
theorem mm_c4 : mm_ckk 4 = true := by decide +kernel
theorem mm_c5 : mm_ckk 5 = true := by decide +kernel
theorem mm_c6 : mm_ckk 6 = true := by decide +kernel
theorem mm_c7 : mm_ckk 7 = true := by decide +kernel
theorem mm_c8 : mm_ckk 8 = true := by decide +kernel
theorem mm_c9 : mm_ckk 9 = true := by decide +kernel
theorem mm_c10 : mm_ckk 10 = true := by decide +kernel
theorem mm_c11 : mm_ckk 11 = true := by decide +kernel
theorem mm_c12 : mm_ckk 12 = true := by decide +kernel
theorem mm_c13 : mm_ckk 13 = true := by decide +kernel
theorem mm_c14 : mm_ckk 14 = true := by decide +kernel
theorem mm_c15 : mm_ckk 15 = true := by decide +kernel
theorem mm_c16 : mm_ckk 16 = true := by decide +kernel
theorem mm_c17 : mm_ckk 17 = true := by decide +kernel
theorem mm_c18 : mm_ckk 18 = true := by decide +kernel
theorem mm_c19 : mm_ckk 19 = true := by decide +kernel
theorem mm_c20 : mm_ckk 20 = true := by decide +kernel
theorem mm_c21 : mm_ckk 21 = true := by decide +kernel
theorem mm_c22 : mm_ckk 22 = true := by decide +kernel
theorem mm_c23 : mm_ckk 23 = true := by decide +kernel
theorem mm_c24 : mm_ckk 24 = true := by decide +kernel
theorem mm_c25 : mm_ckk 25 = true := by decide +kernel
theorem mm_c26 : mm_ckk 26 = true := by decide +kernel
theorem mm_c27 : mm_ckk 27 = true := by decide +kernel
theorem mm_c28 : mm_ckk 28 = true := by decide +kernel
theorem mm_c29 : mm_ckk 29 = true := by decide +kernel
theorem mm_c30 : mm_ckk 30 = true := by decide +kernel
theorem mm_c31 : mm_ckk 31 = true := by decide +kernel
theorem mm_c32 : mm_ckk 32 = true := by decide +kernel
theorem mm_c33 : mm_ckk 33 = true := by decide +kernel
theorem mm_c34 : mm_ckk 34 = true := by decide +kernel
theorem mm_c35 : mm_ckk 35 = true := by decide +kernel
theorem mm_c36 : mm_ckk 36 = true := by decide +kernel
theorem mm_c37 : mm_ckk 37 = true := by decide +kernel
theorem mm_c38 : mm_ckk 38 = true := by decide +kernel
theorem mm_c39 : mm_ckk 39 = true := by decide +kernel
theorem mm_c40 : mm_ckk 40 = true := by decide +kernel
theorem mm_c41 : mm_ckk 41 = true := by decide +kernel
theorem mm_c42 : mm_ckk 42 = true := by decide +kernel
theorem mm_c43 : mm_ckk 43 = true := by decide +kernel
theorem mm_c44 : mm_ckk 44 = true := by decide +kernel
theorem mm_c45 : mm_ckk 45 = true := by decide +kernel
theorem mm_c46 : mm_ckk 46 = true := by decide +kernel
theorem mm_c47 : mm_ckk 47 = true := by decide +kernel
theorem mm_c48 : mm_ckk 48 = true := by decide +kernel
theorem mm_c49 : mm_ckk 49 = true := by decide +kernel
theorem mm_c50 : mm_ckk 50 = true := by decide +kernel
theorem mm_c51 : mm_ckk 51 = true := by decide +kernel
theorem mm_c52 : mm_ckk 52 = true := by decide +kernel
theorem mm_c53 : mm_ckk 53 = true := by decide +kernel
theorem mm_c54 : mm_ckk 54 = true := by decide +kernel
theorem mm_c55 : mm_ckk 55 = true := by decide +kernel
theorem mm_c56 : mm_ckk 56 = true := by decide +kernel
theorem mm_c57 : mm_ckk 57 = true := by decide +kernel
theorem mm_c58 : mm_ckk 58 = true := by decide +kernel
theorem mm_c59 : mm_ckk 59 = true := by decide +kernel
theorem mm_c60 : mm_ckk 60 = true := by decide +kernel
theorem mm_c61 : mm_ckk 61 = true := by decide +kernel
theorem mm_c62 : mm_ckk 62 = true := by decide +kernel
theorem mm_c63 : mm_ckk 63 = true := by decide +kernel
theorem mm_c64 : mm_ckk 64 = true := by decide +kernel
theorem mm_c65 : mm_ckk 65 = true := by decide +kernel
theorem mm_c66 : mm_ckk 66 = true := by decide +kernel
theorem mm_c67 : mm_ckk 67 = true := by decide +kernel
theorem mm_c68 : mm_ckk 68 = true := by decide +kernel
theorem mm_c69 : mm_ckk 69 = true := by decide +kernel
theorem mm_c70 : mm_ckk 70 = true := by decide +kernel
theorem mm_c71 : mm_ckk 71 = true := by decide +kernel
theorem mm_c72 : mm_ckk 72 = true := by decide +kernel
theorem mm_c73 : mm_ckk 73 = true := by decide +kernel
theorem mm_c74 : mm_ckk 74 = true := by decide +kernel
theorem mm_c75 : mm_ckk 75 = true := by decide +kernel
theorem mm_c76 : mm_ckk 76 = true := by decide +kernel
theorem mm_c77 : mm_ckk 77 = true := by decide +kernel
theorem mm_c78 : mm_ckk 78 = true := by decide +kernel
theorem mm_c79 : mm_ckk 79 = true := by decide +kernel
theorem mm_c80 : mm_ckk 80 = true := by decide +kernel
theorem mm_c81 : mm_ckk 81 = true := by decide +kernel
theorem mm_c82 : mm_ckk 82 = true := by decide +kernel
theorem mm_c83 : mm_ckk 83 = true := by decide +kernel
theorem mm_c84 : mm_ckk 84 = true := by decide +kernel
theorem mm_c85 : mm_ckk 85 = true := by decide +kernel
theorem mm_c86 : mm_ckk 86 = true := by decide +kernel
theorem mm_c87 : mm_ckk 87 = true := by decide +kernel
theorem mm_c88 : mm_ckk 88 = true := by decide +kernel
theorem mm_c89 : mm_ckk 89 = true := by decide +kernel
theorem mm_c90 : mm_ckk 90 = true := by decide +kernel
theorem mm_c91 : mm_ckk 91 = true := by decide +kernel
theorem mm_c92 : mm_ckk 92 = true := by decide +kernel
theorem mm_c93 : mm_ckk 93 = true := by decide +kernel
theorem mm_c94 : mm_ckk 94 = true := by decide +kernel
theorem mm_c95 : mm_ckk 95 = true := by decide +kernel
theorem mm_c96 : mm_ckk 96 = true := by decide +kernel
theorem mm_c97 : mm_ckk 97 = true := by decide +kernel
theorem mm_c98 : mm_ckk 98 = true := by decide +kernel
theorem mm_c99 : mm_ckk 99 = true := by decide +kernel
theorem mm_c100 : mm_ckk 100 = true := by decide +kernel
theorem mm_c101 : mm_ckk 101 = true := by decide +kernel
theorem mm_c102 : mm_ckk 102 = true := by decide +kernel
theorem mm_c103 : mm_ckk 103 = true := by decide +kernel
theorem mm_c104 : mm_ckk 104 = true := by decide +kernel
theorem mm_c105 : mm_ckk 105 = true := by decide +kernel
theorem mm_c106 : mm_ckk 106 = true := by decide +kernel
theorem mm_c107 : mm_ckk 107 = true := by decide +kernel
theorem mm_c108 : mm_ckk 108 = true := by decide +kernel
theorem mm_c109 : mm_ckk 109 = true := by decide +kernel
theorem mm_c110 : mm_ckk 110 = true := by decide +kernel
theorem mm_c111 : mm_ckk 111 = true := by decide +kernel
theorem mm_c112 : mm_ckk 112 = true := by decide +kernel
theorem mm_c113 : mm_ckk 113 = true := by decide +kernel
theorem mm_c114 : mm_ckk 114 = true := by decide +kernel
theorem mm_c115 : mm_ckk 115 = true := by decide +kernel
theorem mm_c116 : mm_ckk 116 = true := by decide +kernel
theorem mm_c117 : mm_ckk 117 = true := by decide +kernel
theorem mm_c118 : mm_ckk 118 = true := by decide +kernel
theorem mm_c119 : mm_ckk 119 = true := by decide +kernel
theorem mm_c120 : mm_ckk 120 = true := by decide +kernel
theorem mm_c121 : mm_ckk 121 = true := by decide +kernel
theorem mm_c122 : mm_ckk 122 = true := by decide +kernel
theorem mm_c123 : mm_ckk 123 = true := by decide +kernel
theorem mm_c124 : mm_ckk 124 = true := by decide +kernel
theorem mm_c125 : mm_ckk 125 = true := by decide +kernel
theorem mm_c126 : mm_ckk 126 = true := by decide +kernel
theorem mm_c127 : mm_ckk 127 = true := by decide +kernel
theorem mm_c128 : mm_ckk 128 = true := by decide +kernel
theorem mm_c129 : mm_ckk 129 = true := by decide +kernel
theorem mm_c130 : mm_ckk 130 = true := by decide +kernel
theorem mm_c131 : mm_ckk 131 = true := by decide +kernel
theorem mm_c132 : mm_ckk 132 = true := by decide +kernel
theorem mm_c133 : mm_ckk 133 = true := by decide +kernel
theorem mm_c134 : mm_ckk 134 = true := by decide +kernel
theorem mm_c135 : mm_ckk 135 = true := by decide +kernel
theorem mm_c136 : mm_ckk 136 = true := by decide +kernel
theorem mm_c137 : mm_ckk 137 = true := by decide +kernel
theorem mm_c138 : mm_ckk 138 = true := by decide +kernel
theorem mm_c139 : mm_ckk 139 = true := by decide +kernel
theorem mm_c140 : mm_ckk 140 = true := by decide +kernel
theorem mm_c141 : mm_ckk 141 = true := by decide +kernel
theorem mm_c142 : mm_ckk 142 = true := by decide +kernel
theorem mm_c143 : mm_ckk 143 = true := by decide +kernel
theorem mm_c144 : mm_ckk 144 = true := by decide +kernel
theorem mm_c145 : mm_ckk 145 = true := by decide +kernel
theorem mm_c146 : mm_ckk 146 = true := by decide +kernel
theorem mm_c147 : mm_ckk 147 = true := by decide +kernel
theorem mm_c148 : mm_ckk 148 = true := by decide +kernel
theorem mm_c149 : mm_ckk 149 = true := by decide +kernel
theorem mm_c150 : mm_ckk 150 = true := by decide +kernel
theorem mm_c151 : mm_ckk 151 = true := by decide +kernel
theorem mm_c152 : mm_ckk 152 = true := by decide +kernel
theorem mm_c153 : mm_ckk 153 = true := by decide +kernel
theorem mm_c154 : mm_ckk 154 = true := by decide +kernel
theorem mm_c155 : mm_ckk 155 = true := by decide +kernel
theorem mm_c156 : mm_ckk 156 = true := by decide +kernel
theorem mm_c157 : mm_ckk 157 = true := by decide +kernel
theorem mm_c158 : mm_ckk 158 = true := by decide +kernel
theorem mm_c159 : mm_ckk 159 = true := by decide +kernel
theorem mm_c160 : mm_ckk 160 = true := by decide +kernel
theorem mm_c161 : mm_ckk 161 = true := by decide +kernel
theorem mm_c162 : mm_ckk 162 = true := by decide +kernel
theorem mm_c163 : mm_ckk 163 = true := by decide +kernel
theorem mm_c164 : mm_ckk 164 = true := by decide +kernel
theorem mm_c165 : mm_ckk 165 = true := by decide +kernel
theorem mm_c166 : mm_ckk 166 = true := by decide +kernel
theorem mm_c167 : mm_ckk 167 = true := by decide +kernel
theorem mm_c168 : mm_ckk 168 = true := by decide +kernel
theorem mm_c169 : mm_ckk 169 = true := by decide +kernel
theorem mm_c170 : mm_ckk 170 = true := by decide +kernel
theorem mm_c171 : mm_ckk 171 = true := by decide +kernel
theorem mm_c172 : mm_ckk 172 = true := by decide +kernel
theorem mm_c173 : mm_ckk 173 = true := by decide +kernel
theorem mm_c174 : mm_ckk 174 = true := by decide +kernel
theorem mm_c175 : mm_ckk 175 = true := by decide +kernel
theorem mm_c176 : mm_ckk 176 = true := by decide +kernel
theorem mm_c177 : mm_ckk 177 = true := by decide +kernel
theorem mm_c178 : mm_ckk 178 = true := by decide +kernel
theorem mm_c179 : mm_ckk 179 = true := by decide +kernel
theorem mm_c180 : mm_ckk 180 = true := by decide +kernel
theorem mm_c181 : mm_ckk 181 = true := by decide +kernel
theorem mm_c182 : mm_ckk 182 = true := by decide +kernel
theorem mm_c183 : mm_ckk 183 = true := by decide +kernel
theorem mm_c184 : mm_ckk 184 = true := by decide +kernel
theorem mm_c185 : mm_ckk 185 = true := by decide +kernel
theorem mm_c186 : mm_ckk 186 = true := by decide +kernel
theorem mm_c187 : mm_ckk 187 = true := by decide +kernel
theorem mm_c188 : mm_ckk 188 = true := by decide +kernel
theorem mm_c189 : mm_ckk 189 = true := by decide +kernel
theorem mm_c190 : mm_ckk 190 = true := by decide +kernel
theorem mm_c191 : mm_ckk 191 = true := by decide +kernel
theorem mm_c192 : mm_ckk 192 = true := by decide +kernel
theorem mm_c193 : mm_ckk 193 = true := by decide +kernel
theorem mm_c194 : mm_ckk 194 = true := by decide +kernel
theorem mm_c195 : mm_ckk 195 = true := by decide +kernel
theorem mm_c196 : mm_ckk 196 = true := by decide +kernel
theorem mm_c197 : mm_ckk 197 = true := by decide +kernel
end
section
/-! the law's own ops -/
theorem mm_l0_0 : ((mm_o198_0.drop 0).take 25).all (fun q => mm_ck 198 q.1 q.2) = true := by decide +kernel
theorem mm_l0_1 : ((mm_o198_0.drop 25).take 25).all (fun q => mm_ck 198 q.1 q.2) = true := by decide +kernel
theorem mm_l0_2 : ((mm_o198_0.drop 50).take 25).all (fun q => mm_ck 198 q.1 q.2) = true := by decide +kernel
theorem mm_l0_3 : ((mm_o198_0.drop 75).take 25).all (fun q => mm_ck 198 q.1 q.2) = true := by decide +kernel
theorem mm_l0 : mm_o198_0.all (fun q => mm_ck 198 q.1 q.2) = true := by
  have h : mm_o198_0 = (mm_o198_0.drop 0).take 25 ++ ((mm_o198_0.drop 25).take 25 ++ ((mm_o198_0.drop 50).take 25 ++ (mm_o198_0.drop 75).take 25)) := by decide +kernel
  rw [h, List.all_append, List.all_append, List.all_append, mm_l0_0, mm_l0_1, mm_l0_2, mm_l0_3]
  rfl
theorem mm_l1_0 : ((mm_o198_1.drop 0).take 25).all (fun q => mm_ck 198 q.1 q.2) = true := by decide +kernel
theorem mm_l1_1 : ((mm_o198_1.drop 25).take 25).all (fun q => mm_ck 198 q.1 q.2) = true := by decide +kernel
theorem mm_l1_2 : ((mm_o198_1.drop 50).take 25).all (fun q => mm_ck 198 q.1 q.2) = true := by decide +kernel
theorem mm_l1_3 : ((mm_o198_1.drop 75).take 25).all (fun q => mm_ck 198 q.1 q.2) = true := by decide +kernel
theorem mm_l1 : mm_o198_1.all (fun q => mm_ck 198 q.1 q.2) = true := by
  have h : mm_o198_1 = (mm_o198_1.drop 0).take 25 ++ ((mm_o198_1.drop 25).take 25 ++ ((mm_o198_1.drop 50).take 25 ++ (mm_o198_1.drop 75).take 25)) := by decide +kernel
  rw [h, List.all_append, List.all_append, List.all_append, mm_l1_0, mm_l1_1, mm_l1_2, mm_l1_3]
  rfl
theorem mm_l2_0 : ((mm_o198_2.drop 0).take 25).all (fun q => mm_ck 198 q.1 q.2) = true := by decide +kernel
theorem mm_l2_1 : ((mm_o198_2.drop 25).take 25).all (fun q => mm_ck 198 q.1 q.2) = true := by decide +kernel
theorem mm_l2_2 : ((mm_o198_2.drop 50).take 25).all (fun q => mm_ck 198 q.1 q.2) = true := by decide +kernel
theorem mm_l2_3 : ((mm_o198_2.drop 75).take 25).all (fun q => mm_ck 198 q.1 q.2) = true := by decide +kernel
theorem mm_l2 : mm_o198_2.all (fun q => mm_ck 198 q.1 q.2) = true := by
  have h : mm_o198_2 = (mm_o198_2.drop 0).take 25 ++ ((mm_o198_2.drop 25).take 25 ++ ((mm_o198_2.drop 50).take 25 ++ (mm_o198_2.drop 75).take 25)) := by decide +kernel
  rw [h, List.all_append, List.all_append, List.all_append, mm_l2_0, mm_l2_1, mm_l2_2, mm_l2_3]
  rfl
theorem mm_l3_0 : ((mm_o198_3.drop 0).take 25).all (fun q => mm_ck 198 q.1 q.2) = true := by decide +kernel
theorem mm_l3_1 : ((mm_o198_3.drop 25).take 25).all (fun q => mm_ck 198 q.1 q.2) = true := by decide +kernel
theorem mm_l3_2 : ((mm_o198_3.drop 50).take 25).all (fun q => mm_ck 198 q.1 q.2) = true := by decide +kernel
theorem mm_l3_3 : ((mm_o198_3.drop 75).take 25).all (fun q => mm_ck 198 q.1 q.2) = true := by decide +kernel
theorem mm_l3 : mm_o198_3.all (fun q => mm_ck 198 q.1 q.2) = true := by
  have h : mm_o198_3 = (mm_o198_3.drop 0).take 25 ++ ((mm_o198_3.drop 25).take 25 ++ ((mm_o198_3.drop 50).take 25 ++ (mm_o198_3.drop 75).take 25)) := by decide +kernel
  rw [h, List.all_append, List.all_append, List.all_append, mm_l3_0, mm_l3_1, mm_l3_2, mm_l3_3]
  rfl
theorem mm_l4_0 : ((mm_o198_4.drop 0).take 25).all (fun q => mm_ck 198 q.1 q.2) = true := by decide +kernel
theorem mm_l4_1 : ((mm_o198_4.drop 25).take 25).all (fun q => mm_ck 198 q.1 q.2) = true := by decide +kernel
theorem mm_l4_2 : ((mm_o198_4.drop 50).take 25).all (fun q => mm_ck 198 q.1 q.2) = true := by decide +kernel
theorem mm_l4_3 : ((mm_o198_4.drop 75).take 25).all (fun q => mm_ck 198 q.1 q.2) = true := by decide +kernel
theorem mm_l4 : mm_o198_4.all (fun q => mm_ck 198 q.1 q.2) = true := by
  have h : mm_o198_4 = (mm_o198_4.drop 0).take 25 ++ ((mm_o198_4.drop 25).take 25 ++ ((mm_o198_4.drop 50).take 25 ++ (mm_o198_4.drop 75).take 25)) := by decide +kernel
  rw [h, List.all_append, List.all_append, List.all_append, mm_l4_0, mm_l4_1, mm_l4_2, mm_l4_3]
  rfl
theorem mm_l5_0 : ((mm_o198_5.drop 0).take 25).all (fun q => mm_ck 198 q.1 q.2) = true := by decide +kernel
theorem mm_l5_1 : ((mm_o198_5.drop 25).take 25).all (fun q => mm_ck 198 q.1 q.2) = true := by decide +kernel
theorem mm_l5_2 : ((mm_o198_5.drop 50).take 25).all (fun q => mm_ck 198 q.1 q.2) = true := by decide +kernel
theorem mm_l5_3 : ((mm_o198_5.drop 75).take 25).all (fun q => mm_ck 198 q.1 q.2) = true := by decide +kernel
theorem mm_l5 : mm_o198_5.all (fun q => mm_ck 198 q.1 q.2) = true := by
  have h : mm_o198_5 = (mm_o198_5.drop 0).take 25 ++ ((mm_o198_5.drop 25).take 25 ++ ((mm_o198_5.drop 50).take 25 ++ (mm_o198_5.drop 75).take 25)) := by decide +kernel
  rw [h, List.all_append, List.all_append, List.all_append, mm_l5_0, mm_l5_1, mm_l5_2, mm_l5_3]
  rfl
theorem mm_l6_0 : ((mm_o198_6.drop 0).take 25).all (fun q => mm_ck 198 q.1 q.2) = true := by decide +kernel
theorem mm_l6_1 : ((mm_o198_6.drop 25).take 25).all (fun q => mm_ck 198 q.1 q.2) = true := by decide +kernel
theorem mm_l6_2 : ((mm_o198_6.drop 50).take 25).all (fun q => mm_ck 198 q.1 q.2) = true := by decide +kernel
theorem mm_l6_3 : ((mm_o198_6.drop 75).take 25).all (fun q => mm_ck 198 q.1 q.2) = true := by decide +kernel
theorem mm_l6 : mm_o198_6.all (fun q => mm_ck 198 q.1 q.2) = true := by
  have h : mm_o198_6 = (mm_o198_6.drop 0).take 25 ++ ((mm_o198_6.drop 25).take 25 ++ ((mm_o198_6.drop 50).take 25 ++ (mm_o198_6.drop 75).take 25)) := by decide +kernel
  rw [h, List.all_append, List.all_append, List.all_append, mm_l6_0, mm_l6_1, mm_l6_2, mm_l6_3]
  rfl
theorem mm_l7_0 : ((mm_o198_7.drop 0).take 25).all (fun q => mm_ck 198 q.1 q.2) = true := by decide +kernel
theorem mm_l7_1 : ((mm_o198_7.drop 25).take 25).all (fun q => mm_ck 198 q.1 q.2) = true := by decide +kernel
theorem mm_l7_2 : ((mm_o198_7.drop 50).take 25).all (fun q => mm_ck 198 q.1 q.2) = true := by decide +kernel
theorem mm_l7_3 : ((mm_o198_7.drop 75).take 25).all (fun q => mm_ck 198 q.1 q.2) = true := by decide +kernel
theorem mm_l7 : mm_o198_7.all (fun q => mm_ck 198 q.1 q.2) = true := by
  have h : mm_o198_7 = (mm_o198_7.drop 0).take 25 ++ ((mm_o198_7.drop 25).take 25 ++ ((mm_o198_7.drop 50).take 25 ++ (mm_o198_7.drop 75).take 25)) := by decide +kernel
  rw [h, List.all_append, List.all_append, List.all_append, mm_l7_0, mm_l7_1, mm_l7_2, mm_l7_3]
  rfl
theorem mm_l8_0 : ((mm_o198_8.drop 0).take 25).all (fun q => mm_ck 198 q.1 q.2) = true := by decide +kernel
theorem mm_l8_1 : ((mm_o198_8.drop 25).take 25).all (fun q => mm_ck 198 q.1 q.2) = true := by decide +kernel
theorem mm_l8_2 : ((mm_o198_8.drop 50).take 25).all (fun q => mm_ck 198 q.1 q.2) = true := by decide +kernel
theorem mm_l8_3 : ((mm_o198_8.drop 75).take 25).all (fun q => mm_ck 198 q.1 q.2) = true := by decide +kernel
theorem mm_l8 : mm_o198_8.all (fun q => mm_ck 198 q.1 q.2) = true := by
  have h : mm_o198_8 = (mm_o198_8.drop 0).take 25 ++ ((mm_o198_8.drop 25).take 25 ++ ((mm_o198_8.drop 50).take 25 ++ (mm_o198_8.drop 75).take 25)) := by decide +kernel
  rw [h, List.all_append, List.all_append, List.all_append, mm_l8_0, mm_l8_1, mm_l8_2, mm_l8_3]
  rfl
theorem mm_l9_0 : ((mm_o198_9.drop 0).take 25).all (fun q => mm_ck 198 q.1 q.2) = true := by decide +kernel
theorem mm_l9_1 : ((mm_o198_9.drop 25).take 25).all (fun q => mm_ck 198 q.1 q.2) = true := by decide +kernel
theorem mm_l9_2 : ((mm_o198_9.drop 50).take 25).all (fun q => mm_ck 198 q.1 q.2) = true := by decide +kernel
theorem mm_l9_3 : ((mm_o198_9.drop 75).take 25).all (fun q => mm_ck 198 q.1 q.2) = true := by decide +kernel
theorem mm_l9 : mm_o198_9.all (fun q => mm_ck 198 q.1 q.2) = true := by
  have h : mm_o198_9 = (mm_o198_9.drop 0).take 25 ++ ((mm_o198_9.drop 25).take 25 ++ ((mm_o198_9.drop 50).take 25 ++ (mm_o198_9.drop 75).take 25)) := by decide +kernel
  rw [h, List.all_append, List.all_append, List.all_append, mm_l9_0, mm_l9_1, mm_l9_2, mm_l9_3]
  rfl
theorem mm_l10_0 : ((mm_o198_10.drop 0).take 25).all (fun q => mm_ck 198 q.1 q.2) = true := by decide +kernel
theorem mm_l10_1 : ((mm_o198_10.drop 25).take 25).all (fun q => mm_ck 198 q.1 q.2) = true := by decide +kernel
theorem mm_l10_2 : ((mm_o198_10.drop 50).take 25).all (fun q => mm_ck 198 q.1 q.2) = true := by decide +kernel
theorem mm_l10_3 : ((mm_o198_10.drop 75).take 25).all (fun q => mm_ck 198 q.1 q.2) = true := by decide +kernel
theorem mm_l10 : mm_o198_10.all (fun q => mm_ck 198 q.1 q.2) = true := by
  have h : mm_o198_10 = (mm_o198_10.drop 0).take 25 ++ ((mm_o198_10.drop 25).take 25 ++ ((mm_o198_10.drop 50).take 25 ++ (mm_o198_10.drop 75).take 25)) := by decide +kernel
  rw [h, List.all_append, List.all_append, List.all_append, mm_l10_0, mm_l10_1, mm_l10_2, mm_l10_3]
  rfl
theorem mm_l11_0 : ((mm_o198_11.drop 0).take 25).all (fun q => mm_ck 198 q.1 q.2) = true := by decide +kernel
theorem mm_l11_1 : ((mm_o198_11.drop 25).take 25).all (fun q => mm_ck 198 q.1 q.2) = true := by decide +kernel
theorem mm_l11_2 : ((mm_o198_11.drop 50).take 25).all (fun q => mm_ck 198 q.1 q.2) = true := by decide +kernel
theorem mm_l11_3 : ((mm_o198_11.drop 75).take 25).all (fun q => mm_ck 198 q.1 q.2) = true := by decide +kernel
theorem mm_l11 : mm_o198_11.all (fun q => mm_ck 198 q.1 q.2) = true := by
  have h : mm_o198_11 = (mm_o198_11.drop 0).take 25 ++ ((mm_o198_11.drop 25).take 25 ++ ((mm_o198_11.drop 50).take 25 ++ (mm_o198_11.drop 75).take 25)) := by decide +kernel
  rw [h, List.all_append, List.all_append, List.all_append, mm_l11_0, mm_l11_1, mm_l11_2, mm_l11_3]
  rfl
theorem mm_l12_0 : ((mm_o198_12.drop 0).take 25).all (fun q => mm_ck 198 q.1 q.2) = true := by decide +kernel
theorem mm_l12_1 : ((mm_o198_12.drop 25).take 25).all (fun q => mm_ck 198 q.1 q.2) = true := by decide +kernel
theorem mm_l12_2 : ((mm_o198_12.drop 50).take 25).all (fun q => mm_ck 198 q.1 q.2) = true := by decide +kernel
theorem mm_l12_3 : ((mm_o198_12.drop 75).take 25).all (fun q => mm_ck 198 q.1 q.2) = true := by decide +kernel
theorem mm_l12 : mm_o198_12.all (fun q => mm_ck 198 q.1 q.2) = true := by
  have h : mm_o198_12 = (mm_o198_12.drop 0).take 25 ++ ((mm_o198_12.drop 25).take 25 ++ ((mm_o198_12.drop 50).take 25 ++ (mm_o198_12.drop 75).take 25)) := by decide +kernel
  rw [h, List.all_append, List.all_append, List.all_append, mm_l12_0, mm_l12_1, mm_l12_2, mm_l12_3]
  rfl
theorem mm_l13_0 : ((mm_o198_13.drop 0).take 25).all (fun q => mm_ck 198 q.1 q.2) = true := by decide +kernel
theorem mm_l13_1 : ((mm_o198_13.drop 25).take 25).all (fun q => mm_ck 198 q.1 q.2) = true := by decide +kernel
theorem mm_l13_2 : ((mm_o198_13.drop 50).take 25).all (fun q => mm_ck 198 q.1 q.2) = true := by decide +kernel
theorem mm_l13_3 : ((mm_o198_13.drop 75).take 25).all (fun q => mm_ck 198 q.1 q.2) = true := by decide +kernel
theorem mm_l13 : mm_o198_13.all (fun q => mm_ck 198 q.1 q.2) = true := by
  have h : mm_o198_13 = (mm_o198_13.drop 0).take 25 ++ ((mm_o198_13.drop 25).take 25 ++ ((mm_o198_13.drop 50).take 25 ++ (mm_o198_13.drop 75).take 25)) := by decide +kernel
  rw [h, List.all_append, List.all_append, List.all_append, mm_l13_0, mm_l13_1, mm_l13_2, mm_l13_3]
  rfl
theorem mm_l14_0 : ((mm_o198_14.drop 0).take 25).all (fun q => mm_ck 198 q.1 q.2) = true := by decide +kernel
theorem mm_l14_1 : ((mm_o198_14.drop 25).take 25).all (fun q => mm_ck 198 q.1 q.2) = true := by decide +kernel
theorem mm_l14_2 : ((mm_o198_14.drop 50).take 25).all (fun q => mm_ck 198 q.1 q.2) = true := by decide +kernel
theorem mm_l14_3 : ((mm_o198_14.drop 75).take 25).all (fun q => mm_ck 198 q.1 q.2) = true := by decide +kernel
theorem mm_l14 : mm_o198_14.all (fun q => mm_ck 198 q.1 q.2) = true := by
  have h : mm_o198_14 = (mm_o198_14.drop 0).take 25 ++ ((mm_o198_14.drop 25).take 25 ++ ((mm_o198_14.drop 50).take 25 ++ (mm_o198_14.drop 75).take 25)) := by decide +kernel
  rw [h, List.all_append, List.all_append, List.all_append, mm_l14_0, mm_l14_1, mm_l14_2, mm_l14_3]
  rfl
theorem mm_l15_0 : ((mm_o198_15.drop 0).take 25).all (fun q => mm_ck 198 q.1 q.2) = true := by decide +kernel
theorem mm_l15_1 : ((mm_o198_15.drop 25).take 25).all (fun q => mm_ck 198 q.1 q.2) = true := by decide +kernel
theorem mm_l15_2 : ((mm_o198_15.drop 50).take 25).all (fun q => mm_ck 198 q.1 q.2) = true := by decide +kernel
theorem mm_l15_3 : ((mm_o198_15.drop 75).take 25).all (fun q => mm_ck 198 q.1 q.2) = true := by decide +kernel
theorem mm_l15 : mm_o198_15.all (fun q => mm_ck 198 q.1 q.2) = true := by
  have h : mm_o198_15 = (mm_o198_15.drop 0).take 25 ++ ((mm_o198_15.drop 25).take 25 ++ ((mm_o198_15.drop 50).take 25 ++ (mm_o198_15.drop 75).take 25)) := by decide +kernel
  rw [h, List.all_append, List.all_append, List.all_append, mm_l15_0, mm_l15_1, mm_l15_2, mm_l15_3]
  rfl
end
section
/-! every method is checked -/
theorem mm_c198 : mm_ckk 198 = true := by
  have h : mm_ops 198 = mm_o198 := by rfl
  unfold mm_ckk
  rw [h]
  unfold mm_o198
  simp only [List.all_append, mm_l0, mm_l1, mm_l2, mm_l3, mm_l4, mm_l5, mm_l6, mm_l7, mm_l8, mm_l9, mm_l10, mm_l11, mm_l12, mm_l13, mm_l14, mm_l15, Bool.and_true, Bool.true_and]
  decide +kernel
theorem mm_cka (k : Nat) (h : k < 199) : mm_ckk k = true := by
  rcases Nat.lt_or_ge k 99 with q | q
  · rcases Nat.lt_or_ge k 49 with q | q
    · rcases Nat.lt_or_ge k 24 with q | q
      · rcases Nat.lt_or_ge k 12 with q | q
        · rcases Nat.lt_or_ge k 6 with q | q
          · rcases Nat.lt_or_ge k 3 with q | q
            · rcases Nat.lt_or_ge k 1 with q | q
              · have e : k = 0 := by omega
                subst e
                exact mm_c0
              · rcases Nat.lt_or_ge k 2 with q | q
                · have e : k = 1 := by omega
                  subst e
                  exact mm_c1
                · have e : k = 2 := by omega
                  subst e
                  exact mm_c2
            · rcases Nat.lt_or_ge k 4 with q | q
              · have e : k = 3 := by omega
                subst e
                exact mm_c3
              · rcases Nat.lt_or_ge k 5 with q | q
                · have e : k = 4 := by omega
                  subst e
                  exact mm_c4
                · have e : k = 5 := by omega
                  subst e
                  exact mm_c5
          · rcases Nat.lt_or_ge k 9 with q | q
            · rcases Nat.lt_or_ge k 7 with q | q
              · have e : k = 6 := by omega
                subst e
                exact mm_c6
              · rcases Nat.lt_or_ge k 8 with q | q
                · have e : k = 7 := by omega
                  subst e
                  exact mm_c7
                · have e : k = 8 := by omega
                  subst e
                  exact mm_c8
            · rcases Nat.lt_or_ge k 10 with q | q
              · have e : k = 9 := by omega
                subst e
                exact mm_c9
              · rcases Nat.lt_or_ge k 11 with q | q
                · have e : k = 10 := by omega
                  subst e
                  exact mm_c10
                · have e : k = 11 := by omega
                  subst e
                  exact mm_c11
        · rcases Nat.lt_or_ge k 18 with q | q
          · rcases Nat.lt_or_ge k 15 with q | q
            · rcases Nat.lt_or_ge k 13 with q | q
              · have e : k = 12 := by omega
                subst e
                exact mm_c12
              · rcases Nat.lt_or_ge k 14 with q | q
                · have e : k = 13 := by omega
                  subst e
                  exact mm_c13
                · have e : k = 14 := by omega
                  subst e
                  exact mm_c14
            · rcases Nat.lt_or_ge k 16 with q | q
              · have e : k = 15 := by omega
                subst e
                exact mm_c15
              · rcases Nat.lt_or_ge k 17 with q | q
                · have e : k = 16 := by omega
                  subst e
                  exact mm_c16
                · have e : k = 17 := by omega
                  subst e
                  exact mm_c17
          · rcases Nat.lt_or_ge k 21 with q | q
            · rcases Nat.lt_or_ge k 19 with q | q
              · have e : k = 18 := by omega
                subst e
                exact mm_c18
              · rcases Nat.lt_or_ge k 20 with q | q
                · have e : k = 19 := by omega
                  subst e
                  exact mm_c19
                · have e : k = 20 := by omega
                  subst e
                  exact mm_c20
            · rcases Nat.lt_or_ge k 22 with q | q
              · have e : k = 21 := by omega
                subst e
                exact mm_c21
              · rcases Nat.lt_or_ge k 23 with q | q
                · have e : k = 22 := by omega
                  subst e
                  exact mm_c22
                · have e : k = 23 := by omega
                  subst e
                  exact mm_c23
      · rcases Nat.lt_or_ge k 36 with q | q
        · rcases Nat.lt_or_ge k 30 with q | q
          · rcases Nat.lt_or_ge k 27 with q | q
            · rcases Nat.lt_or_ge k 25 with q | q
              · have e : k = 24 := by omega
                subst e
                exact mm_c24
              · rcases Nat.lt_or_ge k 26 with q | q
                · have e : k = 25 := by omega
                  subst e
                  exact mm_c25
                · have e : k = 26 := by omega
                  subst e
                  exact mm_c26
            · rcases Nat.lt_or_ge k 28 with q | q
              · have e : k = 27 := by omega
                subst e
                exact mm_c27
              · rcases Nat.lt_or_ge k 29 with q | q
                · have e : k = 28 := by omega
                  subst e
                  exact mm_c28
                · have e : k = 29 := by omega
                  subst e
                  exact mm_c29
          · rcases Nat.lt_or_ge k 33 with q | q
            · rcases Nat.lt_or_ge k 31 with q | q
              · have e : k = 30 := by omega
                subst e
                exact mm_c30
              · rcases Nat.lt_or_ge k 32 with q | q
                · have e : k = 31 := by omega
                  subst e
                  exact mm_c31
                · have e : k = 32 := by omega
                  subst e
                  exact mm_c32
            · rcases Nat.lt_or_ge k 34 with q | q
              · have e : k = 33 := by omega
                subst e
                exact mm_c33
              · rcases Nat.lt_or_ge k 35 with q | q
                · have e : k = 34 := by omega
                  subst e
                  exact mm_c34
                · have e : k = 35 := by omega
                  subst e
                  exact mm_c35
        · rcases Nat.lt_or_ge k 42 with q | q
          · rcases Nat.lt_or_ge k 39 with q | q
            · rcases Nat.lt_or_ge k 37 with q | q
              · have e : k = 36 := by omega
                subst e
                exact mm_c36
              · rcases Nat.lt_or_ge k 38 with q | q
                · have e : k = 37 := by omega
                  subst e
                  exact mm_c37
                · have e : k = 38 := by omega
                  subst e
                  exact mm_c38
            · rcases Nat.lt_or_ge k 40 with q | q
              · have e : k = 39 := by omega
                subst e
                exact mm_c39
              · rcases Nat.lt_or_ge k 41 with q | q
                · have e : k = 40 := by omega
                  subst e
                  exact mm_c40
                · have e : k = 41 := by omega
                  subst e
                  exact mm_c41
          · rcases Nat.lt_or_ge k 45 with q | q
            · rcases Nat.lt_or_ge k 43 with q | q
              · have e : k = 42 := by omega
                subst e
                exact mm_c42
              · rcases Nat.lt_or_ge k 44 with q | q
                · have e : k = 43 := by omega
                  subst e
                  exact mm_c43
                · have e : k = 44 := by omega
                  subst e
                  exact mm_c44
            · rcases Nat.lt_or_ge k 47 with q | q
              · rcases Nat.lt_or_ge k 46 with q | q
                · have e : k = 45 := by omega
                  subst e
                  exact mm_c45
                · have e : k = 46 := by omega
                  subst e
                  exact mm_c46
              · rcases Nat.lt_or_ge k 48 with q | q
                · have e : k = 47 := by omega
                  subst e
                  exact mm_c47
                · have e : k = 48 := by omega
                  subst e
                  exact mm_c48
    · rcases Nat.lt_or_ge k 74 with q | q
      · rcases Nat.lt_or_ge k 61 with q | q
        · rcases Nat.lt_or_ge k 55 with q | q
          · rcases Nat.lt_or_ge k 52 with q | q
            · rcases Nat.lt_or_ge k 50 with q | q
              · have e : k = 49 := by omega
                subst e
                exact mm_c49
              · rcases Nat.lt_or_ge k 51 with q | q
                · have e : k = 50 := by omega
                  subst e
                  exact mm_c50
                · have e : k = 51 := by omega
                  subst e
                  exact mm_c51
            · rcases Nat.lt_or_ge k 53 with q | q
              · have e : k = 52 := by omega
                subst e
                exact mm_c52
              · rcases Nat.lt_or_ge k 54 with q | q
                · have e : k = 53 := by omega
                  subst e
                  exact mm_c53
                · have e : k = 54 := by omega
                  subst e
                  exact mm_c54
          · rcases Nat.lt_or_ge k 58 with q | q
            · rcases Nat.lt_or_ge k 56 with q | q
              · have e : k = 55 := by omega
                subst e
                exact mm_c55
              · rcases Nat.lt_or_ge k 57 with q | q
                · have e : k = 56 := by omega
                  subst e
                  exact mm_c56
                · have e : k = 57 := by omega
                  subst e
                  exact mm_c57
            · rcases Nat.lt_or_ge k 59 with q | q
              · have e : k = 58 := by omega
                subst e
                exact mm_c58
              · rcases Nat.lt_or_ge k 60 with q | q
                · have e : k = 59 := by omega
                  subst e
                  exact mm_c59
                · have e : k = 60 := by omega
                  subst e
                  exact mm_c60
        · rcases Nat.lt_or_ge k 67 with q | q
          · rcases Nat.lt_or_ge k 64 with q | q
            · rcases Nat.lt_or_ge k 62 with q | q
              · have e : k = 61 := by omega
                subst e
                exact mm_c61
              · rcases Nat.lt_or_ge k 63 with q | q
                · have e : k = 62 := by omega
                  subst e
                  exact mm_c62
                · have e : k = 63 := by omega
                  subst e
                  exact mm_c63
            · rcases Nat.lt_or_ge k 65 with q | q
              · have e : k = 64 := by omega
                subst e
                exact mm_c64
              · rcases Nat.lt_or_ge k 66 with q | q
                · have e : k = 65 := by omega
                  subst e
                  exact mm_c65
                · have e : k = 66 := by omega
                  subst e
                  exact mm_c66
          · rcases Nat.lt_or_ge k 70 with q | q
            · rcases Nat.lt_or_ge k 68 with q | q
              · have e : k = 67 := by omega
                subst e
                exact mm_c67
              · rcases Nat.lt_or_ge k 69 with q | q
                · have e : k = 68 := by omega
                  subst e
                  exact mm_c68
                · have e : k = 69 := by omega
                  subst e
                  exact mm_c69
            · rcases Nat.lt_or_ge k 72 with q | q
              · rcases Nat.lt_or_ge k 71 with q | q
                · have e : k = 70 := by omega
                  subst e
                  exact mm_c70
                · have e : k = 71 := by omega
                  subst e
                  exact mm_c71
              · rcases Nat.lt_or_ge k 73 with q | q
                · have e : k = 72 := by omega
                  subst e
                  exact mm_c72
                · have e : k = 73 := by omega
                  subst e
                  exact mm_c73
      · rcases Nat.lt_or_ge k 86 with q | q
        · rcases Nat.lt_or_ge k 80 with q | q
          · rcases Nat.lt_or_ge k 77 with q | q
            · rcases Nat.lt_or_ge k 75 with q | q
              · have e : k = 74 := by omega
                subst e
                exact mm_c74
              · rcases Nat.lt_or_ge k 76 with q | q
                · have e : k = 75 := by omega
                  subst e
                  exact mm_c75
                · have e : k = 76 := by omega
                  subst e
                  exact mm_c76
            · rcases Nat.lt_or_ge k 78 with q | q
              · have e : k = 77 := by omega
                subst e
                exact mm_c77
              · rcases Nat.lt_or_ge k 79 with q | q
                · have e : k = 78 := by omega
                  subst e
                  exact mm_c78
                · have e : k = 79 := by omega
                  subst e
                  exact mm_c79
          · rcases Nat.lt_or_ge k 83 with q | q
            · rcases Nat.lt_or_ge k 81 with q | q
              · have e : k = 80 := by omega
                subst e
                exact mm_c80
              · rcases Nat.lt_or_ge k 82 with q | q
                · have e : k = 81 := by omega
                  subst e
                  exact mm_c81
                · have e : k = 82 := by omega
                  subst e
                  exact mm_c82
            · rcases Nat.lt_or_ge k 84 with q | q
              · have e : k = 83 := by omega
                subst e
                exact mm_c83
              · rcases Nat.lt_or_ge k 85 with q | q
                · have e : k = 84 := by omega
                  subst e
                  exact mm_c84
                · have e : k = 85 := by omega
                  subst e
                  exact mm_c85
        · rcases Nat.lt_or_ge k 92 with q | q
          · rcases Nat.lt_or_ge k 89 with q | q
            · rcases Nat.lt_or_ge k 87 with q | q
              · have e : k = 86 := by omega
                subst e
                exact mm_c86
              · rcases Nat.lt_or_ge k 88 with q | q
                · have e : k = 87 := by omega
                  subst e
                  exact mm_c87
                · have e : k = 88 := by omega
                  subst e
                  exact mm_c88
            · rcases Nat.lt_or_ge k 90 with q | q
              · have e : k = 89 := by omega
                subst e
                exact mm_c89
              · rcases Nat.lt_or_ge k 91 with q | q
                · have e : k = 90 := by omega
                  subst e
                  exact mm_c90
                · have e : k = 91 := by omega
                  subst e
                  exact mm_c91
          · rcases Nat.lt_or_ge k 95 with q | q
            · rcases Nat.lt_or_ge k 93 with q | q
              · have e : k = 92 := by omega
                subst e
                exact mm_c92
              · rcases Nat.lt_or_ge k 94 with q | q
                · have e : k = 93 := by omega
                  subst e
                  exact mm_c93
                · have e : k = 94 := by omega
                  subst e
                  exact mm_c94
            · rcases Nat.lt_or_ge k 97 with q | q
              · rcases Nat.lt_or_ge k 96 with q | q
                · have e : k = 95 := by omega
                  subst e
                  exact mm_c95
                · have e : k = 96 := by omega
                  subst e
                  exact mm_c96
              · rcases Nat.lt_or_ge k 98 with q | q
                · have e : k = 97 := by omega
                  subst e
                  exact mm_c97
                · have e : k = 98 := by omega
                  subst e
                  exact mm_c98
  · rcases Nat.lt_or_ge k 149 with q | q
    · rcases Nat.lt_or_ge k 124 with q | q
      · rcases Nat.lt_or_ge k 111 with q | q
        · rcases Nat.lt_or_ge k 105 with q | q
          · rcases Nat.lt_or_ge k 102 with q | q
            · rcases Nat.lt_or_ge k 100 with q | q
              · have e : k = 99 := by omega
                subst e
                exact mm_c99
              · rcases Nat.lt_or_ge k 101 with q | q
                · have e : k = 100 := by omega
                  subst e
                  exact mm_c100
                · have e : k = 101 := by omega
                  subst e
                  exact mm_c101
            · rcases Nat.lt_or_ge k 103 with q | q
              · have e : k = 102 := by omega
                subst e
                exact mm_c102
              · rcases Nat.lt_or_ge k 104 with q | q
                · have e : k = 103 := by omega
                  subst e
                  exact mm_c103
                · have e : k = 104 := by omega
                  subst e
                  exact mm_c104
          · rcases Nat.lt_or_ge k 108 with q | q
            · rcases Nat.lt_or_ge k 106 with q | q
              · have e : k = 105 := by omega
                subst e
                exact mm_c105
              · rcases Nat.lt_or_ge k 107 with q | q
                · have e : k = 106 := by omega
                  subst e
                  exact mm_c106
                · have e : k = 107 := by omega
                  subst e
                  exact mm_c107
            · rcases Nat.lt_or_ge k 109 with q | q
              · have e : k = 108 := by omega
                subst e
                exact mm_c108
              · rcases Nat.lt_or_ge k 110 with q | q
                · have e : k = 109 := by omega
                  subst e
                  exact mm_c109
                · have e : k = 110 := by omega
                  subst e
                  exact mm_c110
        · rcases Nat.lt_or_ge k 117 with q | q
          · rcases Nat.lt_or_ge k 114 with q | q
            · rcases Nat.lt_or_ge k 112 with q | q
              · have e : k = 111 := by omega
                subst e
                exact mm_c111
              · rcases Nat.lt_or_ge k 113 with q | q
                · have e : k = 112 := by omega
                  subst e
                  exact mm_c112
                · have e : k = 113 := by omega
                  subst e
                  exact mm_c113
            · rcases Nat.lt_or_ge k 115 with q | q
              · have e : k = 114 := by omega
                subst e
                exact mm_c114
              · rcases Nat.lt_or_ge k 116 with q | q
                · have e : k = 115 := by omega
                  subst e
                  exact mm_c115
                · have e : k = 116 := by omega
                  subst e
                  exact mm_c116
          · rcases Nat.lt_or_ge k 120 with q | q
            · rcases Nat.lt_or_ge k 118 with q | q
              · have e : k = 117 := by omega
                subst e
                exact mm_c117
              · rcases Nat.lt_or_ge k 119 with q | q
                · have e : k = 118 := by omega
                  subst e
                  exact mm_c118
                · have e : k = 119 := by omega
                  subst e
                  exact mm_c119
            · rcases Nat.lt_or_ge k 122 with q | q
              · rcases Nat.lt_or_ge k 121 with q | q
                · have e : k = 120 := by omega
                  subst e
                  exact mm_c120
                · have e : k = 121 := by omega
                  subst e
                  exact mm_c121
              · rcases Nat.lt_or_ge k 123 with q | q
                · have e : k = 122 := by omega
                  subst e
                  exact mm_c122
                · have e : k = 123 := by omega
                  subst e
                  exact mm_c123
      · rcases Nat.lt_or_ge k 136 with q | q
        · rcases Nat.lt_or_ge k 130 with q | q
          · rcases Nat.lt_or_ge k 127 with q | q
            · rcases Nat.lt_or_ge k 125 with q | q
              · have e : k = 124 := by omega
                subst e
                exact mm_c124
              · rcases Nat.lt_or_ge k 126 with q | q
                · have e : k = 125 := by omega
                  subst e
                  exact mm_c125
                · have e : k = 126 := by omega
                  subst e
                  exact mm_c126
            · rcases Nat.lt_or_ge k 128 with q | q
              · have e : k = 127 := by omega
                subst e
                exact mm_c127
              · rcases Nat.lt_or_ge k 129 with q | q
                · have e : k = 128 := by omega
                  subst e
                  exact mm_c128
                · have e : k = 129 := by omega
                  subst e
                  exact mm_c129
          · rcases Nat.lt_or_ge k 133 with q | q
            · rcases Nat.lt_or_ge k 131 with q | q
              · have e : k = 130 := by omega
                subst e
                exact mm_c130
              · rcases Nat.lt_or_ge k 132 with q | q
                · have e : k = 131 := by omega
                  subst e
                  exact mm_c131
                · have e : k = 132 := by omega
                  subst e
                  exact mm_c132
            · rcases Nat.lt_or_ge k 134 with q | q
              · have e : k = 133 := by omega
                subst e
                exact mm_c133
              · rcases Nat.lt_or_ge k 135 with q | q
                · have e : k = 134 := by omega
                  subst e
                  exact mm_c134
                · have e : k = 135 := by omega
                  subst e
                  exact mm_c135
        · rcases Nat.lt_or_ge k 142 with q | q
          · rcases Nat.lt_or_ge k 139 with q | q
            · rcases Nat.lt_or_ge k 137 with q | q
              · have e : k = 136 := by omega
                subst e
                exact mm_c136
              · rcases Nat.lt_or_ge k 138 with q | q
                · have e : k = 137 := by omega
                  subst e
                  exact mm_c137
                · have e : k = 138 := by omega
                  subst e
                  exact mm_c138
            · rcases Nat.lt_or_ge k 140 with q | q
              · have e : k = 139 := by omega
                subst e
                exact mm_c139
              · rcases Nat.lt_or_ge k 141 with q | q
                · have e : k = 140 := by omega
                  subst e
                  exact mm_c140
                · have e : k = 141 := by omega
                  subst e
                  exact mm_c141
          · rcases Nat.lt_or_ge k 145 with q | q
            · rcases Nat.lt_or_ge k 143 with q | q
              · have e : k = 142 := by omega
                subst e
                exact mm_c142
              · rcases Nat.lt_or_ge k 144 with q | q
                · have e : k = 143 := by omega
                  subst e
                  exact mm_c143
                · have e : k = 144 := by omega
                  subst e
                  exact mm_c144
            · rcases Nat.lt_or_ge k 147 with q | q
              · rcases Nat.lt_or_ge k 146 with q | q
                · have e : k = 145 := by omega
                  subst e
                  exact mm_c145
                · have e : k = 146 := by omega
                  subst e
                  exact mm_c146
              · rcases Nat.lt_or_ge k 148 with q | q
                · have e : k = 147 := by omega
                  subst e
                  exact mm_c147
                · have e : k = 148 := by omega
                  subst e
                  exact mm_c148
    · rcases Nat.lt_or_ge k 174 with q | q
      · rcases Nat.lt_or_ge k 161 with q | q
        · rcases Nat.lt_or_ge k 155 with q | q
          · rcases Nat.lt_or_ge k 152 with q | q
            · rcases Nat.lt_or_ge k 150 with q | q
              · have e : k = 149 := by omega
                subst e
                exact mm_c149
              · rcases Nat.lt_or_ge k 151 with q | q
                · have e : k = 150 := by omega
                  subst e
                  exact mm_c150
                · have e : k = 151 := by omega
                  subst e
                  exact mm_c151
            · rcases Nat.lt_or_ge k 153 with q | q
              · have e : k = 152 := by omega
                subst e
                exact mm_c152
              · rcases Nat.lt_or_ge k 154 with q | q
                · have e : k = 153 := by omega
                  subst e
                  exact mm_c153
                · have e : k = 154 := by omega
                  subst e
                  exact mm_c154
          · rcases Nat.lt_or_ge k 158 with q | q
            · rcases Nat.lt_or_ge k 156 with q | q
              · have e : k = 155 := by omega
                subst e
                exact mm_c155
              · rcases Nat.lt_or_ge k 157 with q | q
                · have e : k = 156 := by omega
                  subst e
                  exact mm_c156
                · have e : k = 157 := by omega
                  subst e
                  exact mm_c157
            · rcases Nat.lt_or_ge k 159 with q | q
              · have e : k = 158 := by omega
                subst e
                exact mm_c158
              · rcases Nat.lt_or_ge k 160 with q | q
                · have e : k = 159 := by omega
                  subst e
                  exact mm_c159
                · have e : k = 160 := by omega
                  subst e
                  exact mm_c160
        · rcases Nat.lt_or_ge k 167 with q | q
          · rcases Nat.lt_or_ge k 164 with q | q
            · rcases Nat.lt_or_ge k 162 with q | q
              · have e : k = 161 := by omega
                subst e
                exact mm_c161
              · rcases Nat.lt_or_ge k 163 with q | q
                · have e : k = 162 := by omega
                  subst e
                  exact mm_c162
                · have e : k = 163 := by omega
                  subst e
                  exact mm_c163
            · rcases Nat.lt_or_ge k 165 with q | q
              · have e : k = 164 := by omega
                subst e
                exact mm_c164
              · rcases Nat.lt_or_ge k 166 with q | q
                · have e : k = 165 := by omega
                  subst e
                  exact mm_c165
                · have e : k = 166 := by omega
                  subst e
                  exact mm_c166
          · rcases Nat.lt_or_ge k 170 with q | q
            · rcases Nat.lt_or_ge k 168 with q | q
              · have e : k = 167 := by omega
                subst e
                exact mm_c167
              · rcases Nat.lt_or_ge k 169 with q | q
                · have e : k = 168 := by omega
                  subst e
                  exact mm_c168
                · have e : k = 169 := by omega
                  subst e
                  exact mm_c169
            · rcases Nat.lt_or_ge k 172 with q | q
              · rcases Nat.lt_or_ge k 171 with q | q
                · have e : k = 170 := by omega
                  subst e
                  exact mm_c170
                · have e : k = 171 := by omega
                  subst e
                  exact mm_c171
              · rcases Nat.lt_or_ge k 173 with q | q
                · have e : k = 172 := by omega
                  subst e
                  exact mm_c172
                · have e : k = 173 := by omega
                  subst e
                  exact mm_c173
      · rcases Nat.lt_or_ge k 186 with q | q
        · rcases Nat.lt_or_ge k 180 with q | q
          · rcases Nat.lt_or_ge k 177 with q | q
            · rcases Nat.lt_or_ge k 175 with q | q
              · have e : k = 174 := by omega
                subst e
                exact mm_c174
              · rcases Nat.lt_or_ge k 176 with q | q
                · have e : k = 175 := by omega
                  subst e
                  exact mm_c175
                · have e : k = 176 := by omega
                  subst e
                  exact mm_c176
            · rcases Nat.lt_or_ge k 178 with q | q
              · have e : k = 177 := by omega
                subst e
                exact mm_c177
              · rcases Nat.lt_or_ge k 179 with q | q
                · have e : k = 178 := by omega
                  subst e
                  exact mm_c178
                · have e : k = 179 := by omega
                  subst e
                  exact mm_c179
          · rcases Nat.lt_or_ge k 183 with q | q
            · rcases Nat.lt_or_ge k 181 with q | q
              · have e : k = 180 := by omega
                subst e
                exact mm_c180
              · rcases Nat.lt_or_ge k 182 with q | q
                · have e : k = 181 := by omega
                  subst e
                  exact mm_c181
                · have e : k = 182 := by omega
                  subst e
                  exact mm_c182
            · rcases Nat.lt_or_ge k 184 with q | q
              · have e : k = 183 := by omega
                subst e
                exact mm_c183
              · rcases Nat.lt_or_ge k 185 with q | q
                · have e : k = 184 := by omega
                  subst e
                  exact mm_c184
                · have e : k = 185 := by omega
                  subst e
                  exact mm_c185
        · rcases Nat.lt_or_ge k 192 with q | q
          · rcases Nat.lt_or_ge k 189 with q | q
            · rcases Nat.lt_or_ge k 187 with q | q
              · have e : k = 186 := by omega
                subst e
                exact mm_c186
              · rcases Nat.lt_or_ge k 188 with q | q
                · have e : k = 187 := by omega
                  subst e
                  exact mm_c187
                · have e : k = 188 := by omega
                  subst e
                  exact mm_c188
            · rcases Nat.lt_or_ge k 190 with q | q
              · have e : k = 189 := by omega
                subst e
                exact mm_c189
              · rcases Nat.lt_or_ge k 191 with q | q
                · have e : k = 190 := by omega
                  subst e
                  exact mm_c190
                · have e : k = 191 := by omega
                  subst e
                  exact mm_c191
          · rcases Nat.lt_or_ge k 195 with q | q
            · rcases Nat.lt_or_ge k 193 with q | q
              · have e : k = 192 := by omega
                subst e
                exact mm_c192
              · rcases Nat.lt_or_ge k 194 with q | q
                · have e : k = 193 := by omega
                  subst e
                  exact mm_c193
                · have e : k = 194 := by omega
                  subst e
                  exact mm_c194
            · rcases Nat.lt_or_ge k 197 with q | q
              · rcases Nat.lt_or_ge k 196 with q | q
                · have e : k = 195 := by omega
                  subst e
                  exact mm_c195
                · have e : k = 196 := by omega
                  subst e
                  exact mm_c196
              · rcases Nat.lt_or_ge k 198 with q | q
                · have e : k = 197 := by omega
                  subst e
                  exact mm_c197
                · have e : k = 198 := by omega
                  subst e
                  exact mm_c198
end
section
/-- one op, in any reading: 'fail', a thing that must hold, a branch, going on, a call, an answer, a throw -/
def mm_ex {α : Type} (fail : α) (chk : Bool → α → α) (br : Bool → α → α → α) (nx : Nat → List Value → List Value → mmM → α)
    (cl : Nat → List Value → List Value → Nat → α) (rt : Option Value → α) (th : Nat → α) (k pc : Nat) (op : Instr × Nat × Nat) (L S : List Value) (v : mmM) : α :=
  match op with
  | (.iload a, np, _) => match L[a]? with
    | some (.int x) => nx np L (.int x :: S) v
    | _ => fail
  | (.aload a, np, _) => match L[a]? with
    | some (.ref x) => nx np L (.ref x :: S) v
    | _ => fail
  | (.fload a, np, _) => match L[a]? with
    | some (.float x) => nx np L (.float x :: S) v
    | _ => fail
  | (.istore a, np, _) => match S with
    | .int x :: S => chk (decide (a < L.length)) (nx np (L.set a (.int x)) S v)
    | _ => fail
  | (.astore a, np, _) => match S with
    | .ref x :: S => chk (decide (a < L.length)) (nx np (L.set a (.ref x)) S v)
    | _ => fail
  | (.fstore a, np, _) => match S with
    | .float x :: S => chk (decide (a < L.length)) (nx np (L.set a (.float x)) S v)
    | _ => fail
  | (.iinc a n, np, _) => match L[a]? with
    | some (.int x) => nx np (L.set a (.int (x + Int32.ofInt n))) S v
    | _ => fail
  | (.iconst n, np, _) => nx np L (.int (Int32.ofInt n) :: S) v
  | (.fconst _, np, _) => nx np L (.float FP.fconst0 :: S) v
  | (.iadd, np, _) => match S with
    | .int y :: .int x :: S => nx np L (.int (x + y) :: S) v
    | _ => fail
  | (.isub, np, _) => match S with
    | .int y :: .int x :: S => nx np L (.int (x - y) :: S) v
    | _ => fail
  | (.imul, np, _) => match S with
    | .int y :: .int x :: S => nx np L (.int (x * y) :: S) v
    | _ => fail
  | (.idiv, np, _) => match S with
    | .int y :: .int x :: S => chk (!decide (y = 0)) (nx np L (.int (x / y) :: S) v)
    | _ => fail
  | (.irem, np, _) => match S with
    | .int y :: .int x :: S => chk (!decide (y = 0)) (nx np L (.int (x - x / y * y) :: S) v)
    | _ => fail
  | (.ineg, np, _) => match S with
    | .int x :: S => nx np L (.int (-x) :: S) v
    | _ => fail
  | (.iand, np, _) => match S with
    | .int y :: .int x :: S => nx np L (.int (x &&& y) :: S) v
    | _ => fail
  | (.ishl, np, _) => match S with
    | .int y :: .int x :: S => nx np L (.int (x <<< (y &&& 31)) :: S) v
    | _ => fail
  | (.ishr, np, _) => match S with
    | .int y :: .int x :: S => nx np L (.int (x >>> (y &&& 31)) :: S) v
    | _ => fail
  | (.i2c, np, _) => match S with
    | .int x :: S => nx np L (.int (x.toUInt32 % 65536).toInt32 :: S) v
    | _ => fail
  | (.i2l, np, _) => match S with
    | .int x :: S => nx np L (.long x.toInt64 :: S) v
    | _ => fail
  | (.i2f, np, _) => match S with
    | .int x :: S => nx np L (.float (FP.i2f x) :: S) v
    | _ => fail
  | (.f2d, np, _) => match S with
    | .float x :: S => chk (decide (FP.f2d x &&& 0x7fffffffffffffff ≤ 0x7ff0000000000000)) (nx np L (.double (FP.f2d x) :: S) v)
    | _ => fail
  | (.fdiv, np, _) => match S with
    | .float y :: .float x :: S => chk (decide (FP.fdiv x y &&& 0x7fffffff ≤ 0x7f800000)) (nx np L (.float (FP.fdiv x y) :: S) v)
    | _ => fail
  | (.lcmp, np, _) => match S with
    | .long y :: .long x :: S => nx np L (.int (lg_cmp x y) :: S) v
    | _ => fail
  | (.fcmp o, np, _) => match S with
    | .float y :: .float x :: S => nx np L (.int (Op.cmpValue (FP.fcmp x y) o) :: S) v
    | _ => fail
  | (.dcmp o, np, _) => match S with
    | .double y :: .double x :: S => nx np L (.int (Op.cmpValue (FP.dcmp x y) o) :: S) v
    | _ => fail
  | (.dup, np, _) => match S with
    | a :: S => chk (decide (a.category = 1)) (nx np L (a :: a :: S) v)
    | _ => fail
  | (.dup2, np, _) => match S with
    | a :: b :: S => chk (decide (a.category = 1) && decide (b.category = 1)) (nx np L (a :: b :: a :: b :: S) v)
    | _ => fail
  | (.goto _, t, _) => nx t L S v
  | (.ifCond c _, np, t) => match S with
    | .int x :: S => match c with
      | .eq => br (decide (x = 0)) (nx t L S v) (nx np L S v)
      | .ne => br (decide (x = 0)) (nx np L S v) (nx t L S v)
      | .lt => br (decide (x < 0)) (nx t L S v) (nx np L S v)
      | .ge => br (decide (0 ≤ x)) (nx t L S v) (nx np L S v)
      | .gt => br (decide (0 < x)) (nx t L S v) (nx np L S v)
      | .le => br (decide (x ≤ 0)) (nx t L S v) (nx np L S v)
    | _ => fail
  | (.if_icmp c _, np, t) => match S with
    | .int y :: .int x :: S => match c with
      | .eq => br (decide (x = y)) (nx t L S v) (nx np L S v)
      | .ne => br (decide (x = y)) (nx np L S v) (nx t L S v)
      | .lt => br (decide (x < y)) (nx t L S v) (nx np L S v)
      | .ge => br (decide (y ≤ x)) (nx t L S v) (nx np L S v)
      | .gt => br (decide (y < x)) (nx t L S v) (nx np L S v)
      | .le => br (decide (x ≤ y)) (nx t L S v) (nx np L S v)
    | _ => fail
  | (.tableswitch d lo hi offs, _, _) => match S with
    | .int x :: S => br (decide (x.toInt < lo) || decide (hi < x.toInt)) (chk (decide (0 ≤ (pc : Int) + d)) (nx ((pc : Int) + d).toNat L S v))
        (match offs[(x.toInt - lo).toNat]? with
          | some off => chk (decide (0 ≤ (pc : Int) + off)) (nx ((pc : Int) + off).toNat L S v)
          | none => fail)
    | _ => fail
  | (.getfield a, np, _) => match S with
    | .ref i :: S => chk (decide (i < mm_NW) && decide ((mm_sh i).1 = 3) && decide ((mm_sh i).2.1 = a / 100)) (match (mm_sh i).2.2.2[a % 100]? with
        | some 0 => nx np L (.int (v i (a % 100)) :: S) v
        | some (r + 1) => nx np L (.ref r :: S) v
        | none => fail)
    | _ => fail
  | (.putfield a, np, _) => match S with
    | .int x :: .ref i :: S => chk (decide (i < mm_NW) && decide ((mm_sh i).1 = 3) && decide ((mm_sh i).2.1 = a / 100)) (match (mm_sh i).2.2.2[a % 100]? with
        | some 0 => nx np L S (mm_up v i (a % 100) x)
        | _ => fail)
    | _ => fail
  | (.iaload, np, _) => match S with
    | .int j :: .ref i :: S => if i = mm_NW then chk (mm_in j (v (mm_NW + 1) 0).toNatClampNeg) (nx np L (.int (v i j.toNatClampNeg) :: S) v)
        else chk (decide (i < mm_NW) && decide ((mm_sh i).1 = 0)) (chk (mm_in j (mm_sh i).2.1) (nx np L (.int (v i j.toNatClampNeg) :: S) v))
    | _ => fail
  | (.caload, np, _) => match S with
    | .int j :: .ref i :: S => chk (decide (i < mm_NW) && decide ((mm_sh i).1 = 1)) (chk (mm_in j (mm_sh i).2.1) (nx np L (.int (v i j.toNatClampNeg) :: S) v))
    | _ => fail
  | (.iastore, np, _) => match S with
    | .int x :: .int j :: .ref i :: S => chk (decide (i < mm_NW) && decide ((mm_sh i).1 = 0)) (chk (mm_in j (mm_sh i).2.1) (nx np L S (mm_up v i j.toNatClampNeg x)))
    | _ => fail
  | (.castore, np, _) => match S with
    | .int x :: .int j :: .ref i :: S => chk (decide (i < mm_NW) && decide ((mm_sh i).1 = 1)) (chk (mm_in j (mm_sh i).2.1) (chk (decide (vp_nar .char x = x)) (nx np L S (mm_up v i j.toNatClampNeg x))))
    | _ => fail
  | (.aaload, np, _) => match S with
    | .int j :: .ref i :: S => chk (decide (i < mm_NW) && decide ((mm_sh i).1 = 2)) (chk (mm_in j (mm_sh i).2.1) (nx np L (.ref ((mm_sh i).2.2.1 + j.toNatClampNeg) :: S) v))
    | _ => fail
  | (.laload, np, _) => match S with
    | .int j :: .ref i :: S => chk (decide (i < mm_NW) && decide ((mm_sh i).1 = 4)) (chk (mm_in j (mm_sh i).2.1) (nx np L (.long (v i j.toNatClampNeg).toInt64 :: S) v))
    | _ => fail
  | (.lastore, np, _) => match S with
    | .long x :: .int j :: .ref i :: S => chk (decide (i < mm_NW) && decide ((mm_sh i).1 = 4)) (chk (mm_in j (mm_sh i).2.1) (chk (decide (x.toInt32.toInt64 = x)) (nx np L S (mm_up v i j.toNatClampNeg x.toInt32))))
    | _ => fail
  | (.daload, np, _) => match S with
    | .int j :: .ref i :: S => chk (decide (i < mm_NW) && decide ((mm_sh i).1 = 5)) (chk (mm_in j (mm_sh i).2.1) (nx np L (.double (mm_dj (v i (2 * j.toNatClampNeg)) (v i (2 * j.toNatClampNeg + 1))) :: S) v))
    | _ => fail
  | (.dastore, np, _) => match S with
    | .double x :: .int j :: .ref i :: S => chk (decide (i < mm_NW) && decide ((mm_sh i).1 = 5)) (chk (mm_in j (mm_sh i).2.1) (nx np L S (mm_up (mm_up v i (2 * j.toNatClampNeg) (mm_dh x)) i (2 * j.toNatClampNeg + 1) (mm_dl x))))
    | _ => fail
  | (.arraylength, np, _) => match S with
    | .ref i :: S => chk (decide (i = mm_NW)) (nx np L (.int (v (mm_NW + 1) 0) :: S) v)
    | _ => fail
  | (.invokevirtual j, np, _) => match S.drop (mm_np j) with
    | .ref i :: rest => chk (decide (i < mm_NW) && decide ((mm_sh i).1 = 3) && decide ((mm_sh i).2.1 = mm_own j) && mm_wt (rest) && mm_a1 (S.take (mm_np j)) && decide (mm_np j ≤ S.length)) (cl j (.ref i :: (S.take (mm_np j)).reverse) rest np)
    | _ => fail
  | (.invokestatic j, np, _) =>
    if j = 1000 then match S with
      | .int y :: .int x :: S => chk (mm_wt S) (nx np L (.int (if x < y then y else x) :: S) v)
      | _ => fail
    else if j = 1001 then match S with
      | .int y :: .int x :: S => chk (mm_wt S) (nx np L (.int (if y < x then y else x) :: S) v)
      | _ => fail
    else if j = 1002 then match S with
      | .int x :: S => chk (mm_wt S) (nx np L (.int (if 0 ≤ x then x else 0 - x) :: S) v)
      | _ => fail
    else if j = 1003 then match S with
      | .int n :: .int dp :: .ref i2 :: .int sp :: .ref i :: S => chk (decide (i < mm_NW) && decide ((mm_sh i).1 = 0) && decide (i2 < mm_NW) && decide ((mm_sh i2).1 = 0) && mm_wt S)
          (chk (decide (0 ≤ sp.toInt) && decide (0 ≤ dp.toInt) && decide (0 ≤ n.toInt)) (chk (decide (sp.toNatClampNeg + n.toNatClampNeg ≤ (mm_sh i).2.1) && decide (dp.toNatClampNeg + n.toNatClampNeg ≤ (mm_sh i2).2.1)) (nx np L S (mm_cp v i sp.toNatClampNeg i2 dp.toNatClampNeg n.toNatClampNeg))))
      | _ => fail
    else chk (decide (mm_np j ≤ S.length) && mm_wt (S.drop (mm_np j)) && mm_a1 (S.take (mm_np j))) (cl j (S.take (mm_np j)).reverse (S.drop (mm_np j)) np)
  | (.ireturn, _, _) => match S, mm_ret k with
    | [.int x], some ty => chk (decide (narrow ty (.int x) = .int x)) (rt (some (.int x)))
    | _, _ => fail
  | (.freturn, _, _) => match S with
    | [.float x] => rt (some (.float x))
    | _ => fail
  | (.return_, _, _) => match S with
    | [] => rt none
    | _ => fail
  | (.athrow, _, t) => match S with
    | [] => th (mm_tL.getD t (0, 0, 0, 0, 0, "", false)).1
    | _ => fail
  | _ => fail
abbrev mmR : Type := (Nat × List Value × List Value × mmM) ⊕ (Nat × List Value × List Value × Nat) ⊕ (Option Value) ⊕ Nat
def mm_stp (k pc : Nat) (L S : List Value) (v : mmM) : Option mmR := match mm_op k pc with
  | some op => mm_ex none (fun c a => if c then a else none) (fun c a b => if c then a else b) (fun pc L S v => some (.inl (pc, L, S, v))) (fun j a r np => some (.inr (.inl (j, a, r, np)))) (fun r => some (.inr (.inr (.inl r)))) (fun e => some (.inr (.inr (.inr e)))) k pc op L S v
  | none => none
def mm_en (j : Nat) (args : List Value) : List Value := args ++ List.replicate (mm_maxL j - args.length) (.retAddr 0)
abbrev mmO : Type := Option Value ⊕ Nat
def mm_go : Nat → Nat → Nat → List Value → List Value → mmM → Nat → Option (mmO × mmM)
  | 0, _, _, _, _, _, _ => none
  | n + 1, k, pc, L, S, v, c => match mm_stp k pc L S v with
    | none => none
    | some (.inl (pc, L, S, v)) => mm_go n k pc L S v c
    | some (.inr (.inl (j, args, rest, np))) => if c + mm_mc j ≤ mm_mc k then
        match mm_go n j 0 (mm_en j args) [] v 0 with
        | none => none
        | some (.inl r, v) => mm_go n k np L (r.toList ++ rest) v (c + mm_mc j)
        | some (.inr e, v) => if (mm_hh k).isEmpty then some (.inr e, v) else match mm_hd k e with
          | some x => some (.inl (some (.int x)), v)
          | none => none
      else none
    | some (.inr (.inr (.inl r))) => some (.inl r, v)
    | some (.inr (.inr (.inr e))) => if c + 1 ≤ mm_mc k then some (.inr e, v) else none
end
section
/-! the world of the mini machine in the machine's heap; its locals in the machine's -/
def mm_vm (ad : Nat → Nat) : Value → Value
  | .ref i => .ref (ad i)
  | x => x
theorem mm_vm_cat (ad : Nat → Nat) (x : Value) : (mm_vm ad x).category = x.category := by cases x <;> rfl
theorem mm_vm_cats (ad : Nat → Nat) (S : List Value) : ((S.map (mm_vm ad)).map fun v => v.category) = S.map fun v => v.category := by
  rw [List.map_map]
  exact List.map_congr_left fun x _ => mm_vm_cat ad x
def mm_fv (ad : Nat → Nat) (v : mmM) (i k : Nat) : Nat → Value
  | 0 => .int (v i k)
  | r + 1 => .ref (ad r)
def mm_ent (cs : Nat → ClassId) (ad : Nat → Nat) (v : mmM) (i : Nat) : va_E := match mm_sh i with
  | (0, n, _, _) => .inl (cs 0, n, .inl (fun j => v i j))
  | (1, n, _, _) => .inl (cs 1, n, .inl (fun j => v i j))
  | (2, n, r, _) => .inl (cs 2, n, .inr (.inr (.inr (.inr (fun j => some (ad (r + j)))))))
  | (3, ci, _, fs) => .inr (ci, fs.mapIdx fun k r => mm_fv ad v i k r)
  | (4, n, _, _) => .inl (cs 4, n, .inr (.inl (fun j => (v i j).toInt64)))
  | (_, n, _, _) => .inl (cs 5, n, .inr (.inr (.inr (.inl (fun j => mm_dj (v i (2 * j)) (v i (2 * j + 1)))))))
theorem mm_ent0 {cs : Nat → ClassId} {ad : Nat → Nat} {v : mmM} {i : Nat} (h : (mm_sh i).1 = 0) : mm_ent cs ad v i = .inl (cs 0, (mm_sh i).2.1, .inl (fun j => v i j)) := by
  unfold mm_ent; generalize mm_sh i = z at h ⊢; obtain ⟨a, b, c, d⟩ := z; cases h; rfl
theorem mm_ent1 {cs : Nat → ClassId} {ad : Nat → Nat} {v : mmM} {i : Nat} (h : (mm_sh i).1 = 1) : mm_ent cs ad v i = .inl (cs 1, (mm_sh i).2.1, .inl (fun j => v i j)) := by
  unfold mm_ent; generalize mm_sh i = z at h ⊢; obtain ⟨a, b, c, d⟩ := z; cases h; rfl
theorem mm_ent2 {cs : Nat → ClassId} {ad : Nat → Nat} {v : mmM} {i : Nat} (h : (mm_sh i).1 = 2) : mm_ent cs ad v i = .inl (cs 2, (mm_sh i).2.1, .inr (.inr (.inr (.inr (fun j => some (ad ((mm_sh i).2.2.1 + j))))))) := by
  unfold mm_ent; generalize mm_sh i = z at h ⊢; obtain ⟨a, b, c, d⟩ := z; cases h; rfl
theorem mm_ent3 {cs : Nat → ClassId} {ad : Nat → Nat} {v : mmM} {i : Nat} (h : (mm_sh i).1 = 3) : mm_ent cs ad v i = .inr ((mm_sh i).2.1, (mm_sh i).2.2.2.mapIdx fun k r => mm_fv ad v i k r) := by
  unfold mm_ent; generalize mm_sh i = z at h ⊢; obtain ⟨a, b, c, d⟩ := z; cases h; rfl
theorem mm_ent4 {cs : Nat → ClassId} {ad : Nat → Nat} {v : mmM} {i : Nat} (h : (mm_sh i).1 = 4) : mm_ent cs ad v i = .inl (cs 4, (mm_sh i).2.1, .inr (.inl (fun j => (v i j).toInt64))) := by
  unfold mm_ent; generalize mm_sh i = z at h ⊢; obtain ⟨a, b, c, d⟩ := z; cases h; rfl
theorem mm_ent5 {cs : Nat → ClassId} {ad : Nat → Nat} {v : mmM} {i : Nat} (h : (mm_sh i).1 = 5) : mm_ent cs ad v i = .inl (cs 5, (mm_sh i).2.1, .inr (.inr (.inr (.inl (fun j => mm_dj (v i (2 * j)) (v i (2 * j + 1))))))) := by
  unfold mm_ent; generalize mm_sh i = z at h ⊢; obtain ⟨a, b, c, d⟩ := z; cases h; rfl
/-- a cell's entry hangs on its own row of the memory alone -/
theorem mm_ent_at {cs : Nat → ClassId} {ad : Nat → Nat} {v v' : mmM} {i : Nat} (h : v' i = v i) : mm_ent cs ad v' i = mm_ent cs ad v i := by
  have hf : ∀ k r, mm_fv ad v' i k r = mm_fv ad v i k r := by
    intro k r
    cases r with
    | zero => show Value.int (v' i k) = Value.int (v i k); rw [h]
    | succ r => rfl
  unfold mm_ent
  simp only [h, hf]
theorem mm_up_row {v : mmM} {i j : Nat} {x : Int32} {a : Nat} (h : a ≠ i) : mm_up v i j x a = v a := by
  funext b
  simp [mm_up, h]
theorem mm_up_same {v : mmM} {i j : Nat} {x : Int32} : mm_up v i j x i j = x := by simp [mm_up]
theorem mm_up_at {v : mmM} {i j : Nat} {x : Int32} : mm_up v i j x i = upd (v i) j x := by
  funext b
  simp [mm_up, upd]
theorem mm_cp_row {v : mmM} {i sp i2 dp n : Nat} {a : Nat} (h : a ≠ i2) : mm_cp v i sp i2 dp n a = v a := by
  funext b
  simp [mm_cp, h]
theorem mm_cp_at {v : mmM} {i sp i2 dp n : Nat} : mm_cp v i sp i2 dp n i2 = va_cpy (v i) (v i2) sp dp n := by
  funext b
  simp [mm_cp, va_cpy]
theorem mm_rg_get {N i : Nat} {f : Nat → Nat × va_E} (h : i < N) : ((List.range N).map f)[i]? = some (f i) := by
  rw [List.getElem?_map, List.getElem?_range h, Option.map_some]
theorem mm_rg_set {N i : Nat} {f f' : Nat → Nat × va_E} (h : i < N) (ho : ∀ j, j ≠ i → f' j = f j) : ((List.range N).map f).set i (f' i) = (List.range N).map f' := by
  apply List.ext_getElem?
  intro n
  by_cases hn : n = i
  · subst hn
    rw [List.getElem?_set_self (by rw [List.length_map, List.length_range]; exact h), mm_rg_get h]
  · rw [List.getElem?_set_ne (Ne.symm hn), List.getElem?_map, List.getElem?_map]
    by_cases hl : n < N
    · rw [List.getElem?_range hl, Option.map_some, Option.map_some, ho n hn]
    · rw [List.getElem?_eq_none (by rw [List.length_range]; omega), Option.map_none, Option.map_none]
def mm_wd (cs : Nat → ClassId) (ad : Nat → Nat) (v : mmM) : va_W := (List.range mm_NW).map fun i => (ad i, mm_ent cs ad v i)
theorem mm_wd_get {cs : Nat → ClassId} {ad : Nat → Nat} {v : mmM} {i : Nat} (h : i < mm_NW) : (mm_wd cs ad v)[i]? = some (ad i, mm_ent cs ad v i) := mm_rg_get (f := fun i => (ad i, mm_ent cs ad v i)) h
theorem mm_wd_set {cs : Nat → ClassId} {ad : Nat → Nat} {v v' : mmM} {i : Nat} {e : va_E} (h : i < mm_NW) (he : mm_ent cs ad v' i = e) (ho : ∀ j, j ≠ i → v' j = v j) : (mm_wd cs ad v).set i (ad i, e) = mm_wd cs ad v' := by
  subst he
  exact mm_rg_set (f := fun i => (ad i, mm_ent cs ad v i)) (f' := fun i => (ad i, mm_ent cs ad v' i)) h (fun j hj => by rw [mm_ent_at (ho j hj)])
/-- the locals -/
def mm_LR (ad : Nat → Nat) (ls : Array Slot) (L : List Value) : Prop := ls.size = L.length ∧ lv_wf ls ∧ ∀ (i : Nat) (x : Value), L[i]? = some x → x.category = 1 ∧ ((∀ p, x ≠ .retAddr p) → ls[i]? = some (.val (mm_vm ad x)))
theorem mm_LR.at {ad : Nat → Nat} {ls : Array Slot} {L : List Value} (h : mm_LR ad ls L) {i : Nat} {x : Value} (hx : L[i]? = some x) (hn : ∀ p, x ≠ .retAddr p) : ls[i]? = some (.val (mm_vm ad x)) := (h.2.2 i x hx).2 hn
def mm_lv (ad : Nat → Nat) (L : List Value) : List (Nat × Value) := (List.range L.length).filterMap fun i => match (L[i]? : Option Value) with
  | some (Value.retAddr _) => none
  | some x => some (i, mm_vm ad x)
  | none => none
theorem mm_lv_mem {ad : Nat → Nat} {L : List Value} {i : Nat} {x : Value} (hx : L[i]? = some x) (hn : ∀ p, x ≠ .retAddr p) : (i, mm_vm ad x) ∈ mm_lv ad L := by
  unfold mm_lv
  refine List.mem_filterMap.mpr ⟨i, List.mem_range.mpr (List.getElem?_eq_some_iff.mp hx).1, ?_⟩
  rw [hx]
  cases x with
  | retAddr p => exact absurd rfl (hn p)
  | _ => rfl
theorem mm_lv_of {ad : Nat → Nat} {L : List Value} {q : Nat × Value} (h : q ∈ mm_lv ad L) : ∃ x, L[q.1]? = some x ∧ (∀ p, x ≠ .retAddr p) ∧ q.2 = mm_vm ad x := by
  unfold mm_lv at h
  obtain ⟨i, -, hi⟩ := List.mem_filterMap.mp h
  cases hx : L[i]? with
  | none => rw [hx] at hi; cases hi
  | some x =>
    rw [hx] at hi
    cases x with
    | retAddr p => cases hi
    | _ => cases hi; exact ⟨_, hx, (fun p e => by cases e), rfl⟩
theorem mm_LR.has {ad : Nat → Nat} {ls : Array Slot} {L : List Value} (h : mm_LR ad ls L) : lv_has ls L.length (mm_lv ad L) := by
  refine ⟨h.1, h.2.1, fun q hq => ?_⟩
  obtain ⟨x, h1, h2, h3⟩ := mm_lv_of hq
  rw [h3]
  exact h.at h1 h2
theorem mm_LR.store {ad : Nat → Nat} {ls ls' : Array Slot} {L : List Value} {i : Nat} {x : Value} (h : mm_LR ad ls L) (hi : i < L.length) (hc : x.category = 1)
    (hs : lv_has ls' L.length ((i, mm_vm ad x) :: (mm_lv ad L).filter (fun q => !(q.1 == i) && !(q.1 + 1 == i && q.2.category == 2)))) : mm_LR ad ls' (L.set i x) := by
  refine ⟨by rw [List.length_set]; exact hs.1, hs.2.1, fun j y hy => ?_⟩
  by_cases hj : j = i
  · subst hj
    rw [List.getElem?_set_self hi] at hy
    cases hy
    exact ⟨hc, fun _ => hs.2.2 (j, mm_vm ad x) List.mem_cons_self⟩
  · rw [List.getElem?_set_ne (Ne.symm hj)] at hy
    refine ⟨(h.2.2 j y hy).1, fun hn => hs.2.2 (j, mm_vm ad y) (List.mem_cons_of_mem _ (List.mem_filter.mpr ⟨mm_lv_mem hy hn, ?_⟩))⟩
    have hc1 : (mm_vm ad y).category = 1 := (mm_vm_cat ad y).trans (h.2.2 j y hy).1
    simp [hj, hc1]
theorem mm_args1 : ∀ (vs : List Value) (i : Nat), (∀ v ∈ vs, v.category = 1) → ∀ (n : Nat) (x : Value), vs[n]? = some x → (i + n, x) ∈ lv_args i vs
  | [], _, _, n, x, hx => by simp at hx
  | v :: vs, i, h, n, x, hx => by
    have hv := h v List.mem_cons_self
    have e : lv_args i (v :: vs) = (i, v) :: lv_args (i + 1) vs := by
      show (i, v) :: lv_args (if v.category = 2 then i + 2 else i + 1) vs = _
      rw [if_neg (by omega)]
    rw [e]
    cases n with
    | zero =>
      rw [List.getElem?_cons_zero] at hx
      cases hx
      exact List.mem_cons_self
    | succ n =>
      rw [List.getElem?_cons_succ] at hx
      have := mm_args1 vs (i + 1) (fun w hw => h w (List.mem_cons_of_mem _ hw)) n x hx
      rw [show i + (n + 1) = i + 1 + n by omega]
      exact List.mem_cons_of_mem _ this
theorem mm_sl1 (vs : List Value) (h : ∀ v ∈ vs, v.category = 1) : lg_sl vs = vs.map Slot.val := by
  unfold lg_sl
  induction vs with
  | nil => rfl
  | cons v vs ih =>
    rw [List.flatMap_cons, ih (fun w hw => h w (List.mem_cons_of_mem _ hw)), if_neg (by have := h v List.mem_cons_self; omega)]
    rfl
theorem mm_LR.entry {ad : Nat → Nat} {args : List Value} {n : Nat} (h1 : ∀ v ∈ args, v.category = 1) (hn : args.length ≤ n) :
    mm_LR ad ((lg_sl (args.map (mm_vm ad)) ++ List.replicate (n - (lg_sl (args.map (mm_vm ad))).length) Slot.unset).toArray) (args ++ List.replicate (n - args.length) (.retAddr 0)) := by
  have hc : ∀ v ∈ args.map (mm_vm ad), v.category = 1 := by
    intro v hv
    obtain ⟨w, hw, rfl⟩ := List.mem_map.mp hv
    exact (mm_vm_cat ad w).trans (h1 w hw)
  have hlen : (lg_sl (args.map (mm_vm ad))).length = args.length := by rw [mm_sl1 _ hc]; simp
  have hl := lv_entry (args.map (mm_vm ad)) (n := n) (by rw [hlen]; exact hn)
  refine ⟨by simp [hlen], hl.2.1, fun i x hx => ?_⟩
  by_cases hi : i < args.length
  · rw [List.getElem?_append_left hi] at hx
    refine ⟨h1 x (List.mem_of_getElem? hx), fun _ => ?_⟩
    have h2 : (args.map (mm_vm ad))[i]? = some (mm_vm ad x) := by rw [List.getElem?_map, hx]; rfl
    have h3 := mm_args1 _ 0 hc i _ h2
    rw [Nat.zero_add] at h3
    exact hl.2.2 _ h3
  · rw [List.getElem?_append_right (by omega)] at hx
    have hm := List.mem_of_getElem? hx
    have := List.eq_of_mem_replicate hm
    subst this
    exact ⟨rfl, fun hh => absurd rfl (hh 0)⟩
end
section
/-! what holds of the launch, of a frame, of the heap; the words of the tables wherever a walk stands -/
def mm_tys (cs : Nat → ClassId) : List (ClassId × FieldType) := [(cs 0, .int), (cs 1, .char), (cs 2, .array .int), (cs 4, .long), (cs 5, .double)]
def mm_Bs (l : Launch) (s0 : State) (a0 : Array Value) (D : va_G) (cs : Nat → ClassId) (b Ls : Nat) (xs : Nat → Int32) : Prop :=
  l.stackTraces = false ∧ (∀ w ∈ lw_tbl, w.before a0 s0 = true) ∧ va_K D vwCl (mm_tys cs) s0 ∧
  vx_Zq Bundle.tN "UNASSIGNED_STACK" Bundle.steD (fun q => s0.heap.size ≤ q) s0 s0.heap ∧ vx_Zq Bundle.tN "SUPPRESSED_SENTINEL" Bundle.listD (fun q => s0.heap.size ≤ q) s0 s0.heap ∧
  (∀ t ∈ mm_tL, ∃ sa, vk_R RX5 t.2.2.2.1 t.2.2.2.2.2.1 sa s0) ∧ (∀ e e', e < 5 → e' < 5 → e ≠ e' → va_Nc (mm_eN e) (mm_eN e') s0) ∧
  va_X b Ls xs s0 s0.heap ∧ b < s0.heap.size ∧ Ls < 2 ^ 31
def mm_HW (s0 : State) (D : va_G) (cs : Nat → ClassId) (ad : Nat → Nat) (b Ls : Nat) (xs : Nat → Int32) (v : mmM) (H : Heap) : Prop :=
  s0.heap.size ≤ H.size ∧ (∀ q, q < s0.heap.size → H[q]? = s0.heap[q]?) ∧ va_P D vwCl (mm_wd cs ad v) H ∧ va_D (fun q => s0.heap.size ≤ q) (mm_wd cs ad v) ∧ ad mm_NW = b ∧ (∀ j, v mm_NW j = xs j) ∧ v (mm_NW + 1) 0 = nI Ls
def mm_Fx (s0 : State) (k : Nat) (p : Program) (R : Room) (s : State) (m : MethodId) (meth : Method) (c : Code) : Prop :=
  p.tables.exec = Jvm.exec ∧ c.code = mm_b k ∧ meth.sig.returnType = mm_ret k ∧ c.maxLocals = mm_maxL k ∧ s.vm.findClass (mm_rn (mm_own k)) = some m.cls ∧ meth.locks = false ∧ s0.WarmedH s.vm ∧ s0.heap.size ≤ s.heap.size ∧ (∀ q, q < s0.heap.size → s.heap[q]? = s0.heap[q]?) ∧ mm_fr k ≤ R.frames ∧ mm_lo k ≤ R.locals ∧ mm_mc k ≤ R.cells ∧ 6 * mm_mc k ≤ R.slots ∧ c.exceptionTable.toList = tableOf (mm_hh k)
abbrev mm_A (s0 : State) : Nat → Prop := fun q => s0.heap.size ≤ q
theorem mm_wk {s0 s : State} {a0 args : Array Value} (hW : s0.WarmedH s.vm) {w : Cond} (h1 : w.onTables = true) (h2 : w.keepsOver = true) (h : w.before a0 s0 = true) : w.before args s = true :=
  va_tabs (u := s0.setVm s.vm) h1 rfl (Cond.before_shiftedOver (State.Shifted.of_warmed hW) w h2 h)
theorem mm_lookup {α : Type} (pc : Nat) : ∀ (l : List (Nat × α)) (q : α), l.lookup pc = some q → (pc, q) ∈ l
  | [], _, h => by cases h
  | (a, x) :: l, q, h => by
    rw [List.lookup_cons] at h
    by_cases e : pc = a
    · subst e
      rw [beq_self_eq_true] at h
      cases h
      exact List.mem_cons_self
    · rw [show (pc == a) = false from beq_eq_false_iff_ne.mpr e] at h
      exact List.mem_cons_of_mem _ (mm_lookup pc l q h)
theorem mm_oL_len : mm_oL.length = 199 := by decide +kernel
theorem mm_op_lt {k pc : Nat} {op : Instr × Nat × Nat} (h : mm_op k pc = some op) : k < 199 := by
  rcases Nat.lt_or_ge k 199 with q | q
  · exact q
  · unfold mm_op mm_ops at h
    rw [List.getD_eq_getElem?_getD, List.getElem?_eq_none (by rw [mm_oL_len]; exact q)] at h
    cases h
theorem mm_opc {k pc : Nat} {op : Instr × Nat × Nat} (h : mm_op k pc = some op) : mm_ck k pc op = true := by
  have h1 := mm_cka k (mm_op_lt h)
  unfold mm_ckk at h1
  rw [Bool.and_eq_true] at h1
  exact List.all_eq_true.mp h1.1 (pc, op) (mm_lookup pc _ _ h)
theorem mm_hkc {k : Nat} (h : k < 199) : mm_hk k = true := by
  have h1 := mm_cka k h
  unfold mm_ckk at h1
  rw [Bool.and_eq_true] at h1
  exact h1.2
theorem mm_dcs {k pc : Nat} {i : Instr} {len : Nat} (h : mm_dc k pc i len = true) : decode (mm_b k) pc = .ok (i, len) := of_decide_eq_true h
theorem mm_ly0 : (u_ws (mm_rn 0) (mm_T 0) (mm_N 0)).all (fun w => decide (w ∈ lw_tbl) && w.onTables && w.keepsOver) = true := by decide +kernel
theorem mm_ly1 : (u_ws (mm_rn 1) (mm_T 1) (mm_N 1)).all (fun w => decide (w ∈ lw_tbl) && w.onTables && w.keepsOver) = true := by decide +kernel
theorem mm_ly2 : (u_ws (mm_rn 2) (mm_T 2) (mm_N 2)).all (fun w => decide (w ∈ lw_tbl) && w.onTables && w.keepsOver) = true := by decide +kernel
theorem mm_ly3 : (u_ws (mm_rn 3) (mm_T 3) (mm_N 3)).all (fun w => decide (w ∈ lw_tbl) && w.onTables && w.keepsOver) = true := by decide +kernel
theorem mm_ly4 : (u_ws (mm_rn 4) (mm_T 4) (mm_N 4)).all (fun w => decide (w ∈ lw_tbl) && w.onTables && w.keepsOver) = true := by decide +kernel
theorem mm_ly5 : (u_ws (mm_rn 5) (mm_T 5) (mm_N 5)).all (fun w => decide (w ∈ lw_tbl) && w.onTables && w.keepsOver) = true := by decide +kernel
theorem mm_ly6 : (u_ws (mm_rn 6) (mm_T 6) (mm_N 6)).all (fun w => decide (w ∈ lw_tbl) && w.onTables && w.keepsOver) = true := by decide +kernel
theorem mm_7 {P : Nat → Prop} (h0 : P 0) (h1 : P 1) (h2 : P 2) (h3 : P 3) (h4 : P 4) (h5 : P 5) (h6 : P 6) {i : Nat} (h : i < 7) : P i := by
  match i, h with
  | 0, _ => exact h0
  | 1, _ => exact h1
  | 2, _ => exact h2
  | 3, _ => exact h3
  | 4, _ => exact h4
  | 5, _ => exact h5
  | 6, _ => exact h6
theorem mm_ly {i : Nat} (h : i < 7) : (u_ws (mm_rn i) (mm_T i) (mm_N i)).all (fun w => decide (w ∈ lw_tbl) && w.onTables && w.keepsOver) = true :=
  mm_7 (P := fun i => (u_ws (mm_rn i) (mm_T i) (mm_N i)).all (fun w => decide (w ∈ lw_tbl) && w.onTables && w.keepsOver) = true) mm_ly0 mm_ly1 mm_ly2 mm_ly3 mm_ly4 mm_ly5 mm_ly6 h
theorem mm_tyok {i : Nat} (h : i < 7) : ∀ k, k < mm_N i → parseFieldDescriptor (mm_T i k).2.2.1 = some (mm_tyf i k) :=
  mm_7 (P := fun i => ∀ k, k < mm_N i → parseFieldDescriptor (mm_T i k).2.2.1 = some (mm_tyf i k)) tyX0_ok tyX1_ok tyX2_ok tyX3_ok tyX4_ok tyX5_ok tyX6_ok h
theorem mm_nmok {i : Nat} (h : i < 7) : ∀ a, a < mm_N i → ∀ b, b < mm_N i → a ≠ b → (mm_T i a).2.1 ≠ (mm_T i b).2.1 :=
  mm_7 (P := fun i => ∀ a, a < mm_N i → ∀ b, b < mm_N i → a ≠ b → (mm_T i a).2.1 ≠ (mm_T i b).2.1) nmX0 nmX1 nmX2 nmX3 nmX4 nmX5 nmX6 h
theorem mm_clok {i : Nat} (h : i < 7) : vwCl[i]? = some (mm_rn i, mm_T i, mm_N i) :=
  mm_7 (P := fun i => vwCl[i]? = some (mm_rn i, mm_T i, mm_N i)) rfl rfl rfl rfl rfl rfl rfl h
section MMB
variable {l : Launch} {s0 : State} {a0 : Array Value} {D : va_G} {cs : Nat → ClassId} {b Ls : Nat} {xs : Nat → Int32} {s : State} {args : Array Value}
theorem mm_wB (B : mm_Bs l s0 a0 D cs b Ls xs) (hW : s0.WarmedH s.vm) {i : Nat} {w : Cond} (h : mm_w i w = true) : w.before args s = true := by
  unfold mm_w at h
  simp only [Bool.and_eq_true, decide_eq_true_eq] at h
  exact mm_wk hW h.1.2 h.2 (B.2.1 w (List.mem_of_getElem? h.1.1))
theorem mm_lays (B : mm_Bs l s0 a0 D cs b Ls xs) (hW : s0.WarmedH s.vm) {i : Nat} (h : i < 7) : ∀ w ∈ u_ws (mm_rn i) (mm_T i) (mm_N i), w.before args s = true := by
  intro w hw
  have h1 := List.all_eq_true.mp (mm_ly h) w hw
  simp only [Bool.and_eq_true, decide_eq_true_eq] at h1
  exact mm_wk hW h1.1.2 h1.2 (B.2.1 w h1.1.1)
theorem mm_K (B : mm_Bs l s0 a0 D cs b Ls xs) (hW : s0.WarmedH s.vm) : va_K D vwCl (mm_tys cs) s := va_K.moved hW.alike B.2.2.1
theorem mm_nF (B : mm_Bs l s0 a0 D cs b Ls xs) (hW : s0.WarmedH s.vm) {a : String} {i : Nat} {r n d h : String} {w : Nat} (hw : lw_tbl[w]? = some (.fieldLinkNest a i r n d h)) : (Cond.fieldLinkNest a i r n d h).before args s = true :=
  va_Nw.use rfl (va_Nw.warmF hW (va_Nw.of rfl (B.2.1 _ (List.mem_of_getElem? hw))))
theorem mm_nM (B : mm_Bs l s0 a0 D cs b Ls xs) (hW : s0.WarmedH s.vm) {a : String} {i : Nat} {y : MethodName} {h : String} {w : Nat} (hw : lw_tbl[w]? = some (.methodLinkNest a i y h)) : (Cond.methodLinkNest a i y h).before args s = true :=
  va_Nw.use rfl (va_Nw.warmM hW (va_Nw.of rfl (B.2.1 _ (List.mem_of_getElem? hw))))
end MMB
theorem mm_fk_sp {k a x : Nat} {put : Bool} (h : mm_fk k a x put = true) : a / 100 < 7 ∧ a % 100 < mm_N (a / 100) ∧ (put = true → (mm_T (a / 100) (a % 100)).2.2.2 = false ∧ mm_tyf (a / 100) (a % 100) = .int) ∧
    ∃ w, lw_tbl[w]? = some (.fieldLinkNest (mm_rn (mm_own k)) x (mm_T (a / 100) (a % 100)).1 (mm_T (a / 100) (a % 100)).2.1 (mm_T (a / 100) (a % 100)).2.2.1 "WareHall") ∨ mm_w w (.fieldLink (mm_rn (mm_own k)) x (mm_T (a / 100) (a % 100)).1 (mm_T (a / 100) (a % 100)).2.1 (mm_T (a / 100) (a % 100)).2.2.1) = true := by
  unfold mm_fk at h
  cases hl : mm_fL.lookup (mm_own k, x) with
  | none => rw [hl] at h; cases h
  | some q =>
    obtain ⟨nest, a', w⟩ := q
    rw [hl] at h
    simp only [Bool.and_eq_true, decide_eq_true_eq] at h
    obtain ⟨⟨⟨⟨h1, h2⟩, h3⟩, h4⟩, h5⟩ := h
    refine ⟨h2, h3, fun hp => ?_, w, ?_⟩
    · subst hp
      simpa using h4
    · cases nest with
      | true => exact Or.inl (by simpa using h5)
      | false => exact Or.inr (by simpa using h5)
end
section
/-! an op that goes on: as the mini machine does, so the machine -/
/-- from here on, in any heap that holds the memory v: the end Q is reached -/
def mm_G (l : Launch) (s0 : State) (D : va_G) (cs : Nat → ClassId) (ad : Nat → Nat) (b Ls : Nat) (xs : Nat → Int32) (p : Program) (e : Env) (R : Room) (s : State) (m : MethodId) (args : Array Value) (below : List Frame) (meth : Method) (c : Code) (cells slots : Nat) (Q : State → Prop) (v : mmM) (L S : List Value) (pc : Nat) : Prop :=
  ∀ (H : Heap) (locs : List Loc) (ls : Array Slot), mm_HW s0 D cs ad b Ls xs v H → va_S (mm_A s0) s.heap H locs → mm_LR ad ls L → W p l e R s m args below meth c H locs cells slots Q (F0 m pc ls (S.map (mm_vm ad)))
section MMS
variable {l : Launch} {s0 : State} {a0 : Array Value} {D : va_G} {cs : Nat → ClassId} {ad : Nat → Nat} {b Ls : Nat} {xs : Nat → Int32}
variable {p : Program} {e : Env} {R : Room} {s : State} {m : MethodId} {args : Array Value} {below : List Frame} {meth : Method} {c : Code} {H : Heap} {locs : List Loc} {cells slots : Nat} {Q : State → Prop} {k pc : Nat} {ls : Array Slot} {L S : List Value} {v v' : mmM}
theorem mm_HW.of (hw : mm_HW s0 D cs ad b Ls xs v H) (X : mm_Fx s0 k p R s m meth c) {H1 : Heap} {locs1 : List Loc} (hS : va_S (mm_A s0) s.heap H1 locs1) (hP : va_P D vwCl (mm_wd cs ad v') H1) (hD : va_D (mm_A s0) (mm_wd cs ad v')) (h1 : v' mm_NW = v mm_NW) (h2 : v' (mm_NW + 1) = v (mm_NW + 1)) : mm_HW s0 D cs ad b Ls xs v' H1 := by
  obtain ⟨-, -, -, -, w5, w6, w7⟩ := hw
  obtain ⟨-, -, -, -, -, -, -, x8, x9, -⟩ := X
  refine ⟨Nat.le_trans x8 hS.1, fun q hq => ?_, hP, hD, w5, fun j => by rw [h1]; exact w6 j, by rw [h2]; exact w7⟩
  rw [hS.2.1 q (Nat.lt_of_lt_of_le hq x8) (Nat.not_le.mpr hq)]
  exact x9 q hq
/-- a store into a cell -/
theorem mm_put (hw : mm_HW s0 D cs ad b Ls xs v H) (X : mm_Fx s0 k p R s m meth c) {i : Nat} (hi : i < mm_NW) {en : va_E} (he : mm_ent cs ad v' i = en) (ho : ∀ j, j ≠ i → v' j = v j) {H1 : Heap} {locs1 : List Loc} (hP : va_P D vwCl ((mm_wd cs ad v).set i (ad i, en)) H1) (hD : va_D (mm_A s0) ((mm_wd cs ad v).set i (ad i, en))) (hS : va_S (mm_A s0) s.heap H1 locs1) : mm_HW s0 D cs ad b Ls xs v' H1 := by
  rw [mm_wd_set hi he ho] at hP hD
  exact hw.of X hS hP hD (ho _ (by omega)) (ho _ (by omega))
theorem mm_inv {j : Int32} {n : Nat} (h : mm_in j n = true) : vp_in j n := by
  unfold mm_in at h
  simp only [Bool.and_eq_true, decide_eq_true_eq] at h
  exact vp_in_iff.mpr h
theorem mm_ent_obj {i : Nat} {k2 : Nat} {x : Int32} (h3 : (mm_sh i).1 = 3) (hf : (mm_sh i).2.2.2[k2]? = some 0) : mm_ent cs ad (mm_up v i k2 x) i = .inr ((mm_sh i).2.1, ((mm_sh i).2.2.2.mapIdx fun k r => mm_fv ad v i k r).set k2 (.int x)) := by
  rw [mm_ent3 h3]
  congr 2
  generalize (mm_sh i).2.2.2 = fs at hf ⊢
  have hl : k2 < fs.length := (List.getElem?_eq_some_iff.mp hf).1
  apply List.ext_getElem?
  intro n
  by_cases hn : n = k2
  · subst hn
    rw [List.getElem?_set_self (by rw [List.length_mapIdx]; exact hl), List.getElem?_mapIdx, hf, Option.map_some]
    show some (Value.int (mm_up v i n x i n)) = _
    rw [mm_up_same]
  · rw [List.getElem?_set_ne (Ne.symm hn), List.getElem?_mapIdx, List.getElem?_mapIdx]
    cases hq : fs[n]? with
    | none => rw [Option.map_none, Option.map_none]
    | some r =>
      rw [Option.map_some, Option.map_some]
      cases r with
      | zero =>
        show some (Value.int (mm_up v i k2 x i n)) = some (Value.int (v i n))
        rw [show mm_up v i k2 x i n = v i n by simp [mm_up, hn]]
      | succ r => rfl
set_option maxHeartbeats 4000000 in
set_option maxRecDepth 100000 in
theorem mm_sn (B : mm_Bs l s0 a0 D cs b Ls xs) (X : mm_Fx s0 k p R s m meth c) (hc : cells ≤ R.cells) (hs : slots ≤ R.slots) {op : Instr × Nat × Nat} (hop : mm_op k pc = some op) {pc' : Nat} {L' S' : List Value}
    (h : mm_ex none (fun c a => if c then a else none) (fun c a b => if c then a else b) (fun pc L S v => some (.inl (pc, L, S, v))) (fun j a r np => some (.inr (.inl (j, a, r, np)))) (fun r => some (.inr (.inr (.inl r)))) (fun e => some (.inr (.inr (.inr e)))) k pc op L S v = (some (.inl (pc', L', S', v')) : Option mmR))
    (hL : L.length = mm_maxL k)
    (kk : mm_G l s0 D cs ad b Ls xs p e R s m args below meth c cells slots Q v' L' S' pc') : mm_G l s0 D cs ad b Ls xs p e R s m args below meth c cells slots Q v L S pc := by
  intro H locs ls hw hS hl
  have hck := mm_opc hop
  have hx := X.1
  have hb := X.2.1
  have hown := X.2.2.2.2.1
  have hW := X.2.2.2.2.2.2.1
  have hK := mm_K B hW
  obtain ⟨i, np, x⟩ := op
  cases i with
  | iload a =>
    simp only [mm_ex] at h
    split at h
    · rename_i x9 h9
      cases h
      simp only [mm_ck, Bool.or_eq_true, Bool.and_eq_true, decide_eq_true_eq] at hck
      have h8 := hl.at h9 (fun _ e => by cases e)
      rcases hck with ⟨⟨⟨-, rfl⟩, h2⟩, h3⟩ | ⟨rfl, h3⟩
      · exact lv_iload_n hx hb (mm_dcs h3) h2 h8 (kk H locs ls hw hS hl)
      · exact lv_iload hx hb (mm_dcs h3) h8 (kk H locs ls hw hS hl)
    · cases h
  | aload a =>
    simp only [mm_ex] at h
    split at h
    · rename_i x9 h9
      cases h
      simp only [mm_ck, Bool.or_eq_true, Bool.and_eq_true, decide_eq_true_eq] at hck
      have h8 := hl.at h9 (fun _ e => by cases e)
      rcases hck with ⟨⟨⟨-, rfl⟩, h2⟩, h3⟩ | ⟨rfl, h3⟩
      · exact lv_aload_n hx hb (mm_dcs h3) h2 h8 (kk H locs ls hw hS hl)
      · exact lv_aload hx hb (mm_dcs h3) h8 (kk H locs ls hw hS hl)
    · cases h
  | fload a =>
    simp only [mm_ex] at h
    split at h
    · rename_i x9 h9
      cases h
      simp only [mm_ck, Bool.and_eq_true, decide_eq_true_eq] at hck
      have h8 := hl.at h9 (fun _ e => by cases e)
      obtain ⟨rfl, h3⟩ := hck
      exact lv_fload hx hb (mm_dcs h3) h8 (kk H locs ls hw hS hl)
    · cases h
  | istore a =>
    simp only [mm_ex] at h
    split at h
    · split at h
      · rename_i x9 S9 h9
        cases h
        have h9 := of_decide_eq_true h9
        simp only [mm_ck, Bool.or_eq_true, Bool.and_eq_true, decide_eq_true_eq] at hck
        rcases hck with ⟨⟨⟨-, rfl⟩, h2⟩, h3⟩ | ⟨rfl, h3⟩
        · exact lv_istore_n hx hb (mm_dcs h3) h2 hl.has h9 rfl (fun ls1 h1 => kk H locs ls1 hw hS (hl.store h9 rfl h1))
        · exact lv_istore hx hb (mm_dcs h3) hl.has h9 rfl (fun ls1 h1 => kk H locs ls1 hw hS (hl.store h9 rfl h1))
      · cases h
    · cases h
  | astore a =>
    simp only [mm_ex] at h
    split at h
    · split at h
      · rename_i x9 S9 h9
        cases h
        have h9 := of_decide_eq_true h9
        simp only [mm_ck, Bool.or_eq_true, Bool.and_eq_true, decide_eq_true_eq] at hck
        rcases hck with ⟨⟨⟨-, rfl⟩, h2⟩, h3⟩ | ⟨rfl, h3⟩
        · exact lv_astore_n hx hb (mm_dcs h3) h2 hl.has h9 rfl (fun ls1 h1 => kk H locs ls1 hw hS (hl.store h9 rfl h1))
        · exact lv_astore hx hb (mm_dcs h3) hl.has h9 rfl (fun ls1 h1 => kk H locs ls1 hw hS (hl.store h9 rfl h1))
      · cases h
    · cases h
  | fstore a =>
    simp only [mm_ex] at h
    split at h
    · split at h
      · rename_i x9 S9 h9
        cases h
        have h9 := of_decide_eq_true h9
        simp only [mm_ck, Bool.and_eq_true, decide_eq_true_eq] at hck
        obtain ⟨rfl, h3⟩ := hck
        exact lv_fstore hx hb (mm_dcs h3) hl.has h9 rfl (fun ls1 h1 => kk H locs ls1 hw hS (hl.store h9 rfl h1))
      · cases h
    · cases h
  | iinc a n =>
    simp only [mm_ex] at h
    split at h
    · rename_i x9 h9
      cases h
      simp only [mm_ck, Bool.and_eq_true, decide_eq_true_eq] at hck
      obtain ⟨rfl, h3⟩ := hck
      have h7 := (List.getElem?_eq_some_iff.mp h9).1
      obtain ⟨k9, hk9⟩ := List.getElem?_of_mem (mm_lv_mem (ad := ad) h9 (fun _ e => by cases e))
      exact lv_iinc hx hb (mm_dcs h3) hl.has hk9 rfl h7 rfl (fun ls1 h1 => kk H locs ls1 hw hS (hl.store h7 rfl h1))
    · cases h
  | iconst n =>
    simp only [mm_ex] at h
    cases h
    simp only [mm_ck] at hck
    split at hck
    · simp only [Bool.and_eq_true, decide_eq_true_eq] at hck
      obtain ⟨rfl, h3⟩ := hck
      exact lv_iconst hx hb (mm_dcs h3) rfl (kk H locs ls hw hS hl)
    · split at hck
      · simp only [Bool.and_eq_true, decide_eq_true_eq] at hck
        obtain ⟨⟨rfl, h3⟩, h4⟩ := hck
        exact lv_bipush hx hb (mm_dcs h3) h4 (kk H locs ls hw hS hl)
      · split at hck
        · simp only [Bool.and_eq_true, decide_eq_true_eq] at hck
          obtain ⟨⟨rfl, h3⟩, h4⟩ := hck
          exact lv_sipush hx hb (mm_dcs h3) h4 (kk H locs ls hw hS hl)
        · split at hck
          · rw [Bool.and_eq_true] at hck
            obtain ⟨h1, h2⟩ := hck
            split at h2
            · simp only [Bool.and_eq_true, decide_eq_true_eq] at h2
              obtain ⟨rfl, h3⟩ := h2
              exact lv_ldc hx hb hown (mm_wB B hW h1) (mm_dcs h3) (kk H locs ls hw hS hl)
            · simp only [Bool.and_eq_true, decide_eq_true_eq] at h2
              obtain ⟨rfl, h3⟩ := h2
              exact lv_ldcw hx hb hown (mm_wB B hW h1) (mm_dcs h3) (kk H locs ls hw hS hl)
          · cases hck
  | fconst f =>
    simp only [mm_ex] at h
    cases h
    simp only [mm_ck, Bool.and_eq_true, decide_eq_true_eq] at hck
    obtain ⟨rfl, h3⟩ := hck
    exact lv_fconst0 hx hb (mm_dcs h3) (kk H locs ls hw hS hl)
  | iadd =>
    simp only [mm_ex] at h
    split at h
    · cases h
      simp only [mm_ck, Bool.and_eq_true, decide_eq_true_eq] at hck
      obtain ⟨rfl, h3⟩ := hck
      exact lv_iadd hx hb (mm_dcs h3) (kk H locs ls hw hS hl)
    · cases h
  | isub =>
    simp only [mm_ex] at h
    split at h
    · cases h
      simp only [mm_ck, Bool.and_eq_true, decide_eq_true_eq] at hck
      obtain ⟨rfl, h3⟩ := hck
      exact lv_isub hx hb (mm_dcs h3) (kk H locs ls hw hS hl)
    · cases h
  | imul =>
    simp only [mm_ex] at h
    split at h
    · cases h
      simp only [mm_ck, Bool.and_eq_true, decide_eq_true_eq] at hck
      obtain ⟨rfl, h3⟩ := hck
      exact lv_imul hx hb (mm_dcs h3) (kk H locs ls hw hS hl)
    · cases h
  | idiv =>
    simp only [mm_ex] at h
    split at h
    · split at h
      · rename_i h9
        cases h
        simp only [mm_ck, Bool.and_eq_true, decide_eq_true_eq] at hck
        obtain ⟨rfl, h3⟩ := hck
        exact lv_idiv hx hb (mm_dcs h3) (by simpa using h9) (kk H locs ls hw hS hl)
      · cases h
    · cases h
  | irem =>
    simp only [mm_ex] at h
    split at h
    · split at h
      · rename_i h9
        cases h
        simp only [mm_ck, Bool.and_eq_true, decide_eq_true_eq] at hck
        obtain ⟨rfl, h3⟩ := hck
        exact lv_irem hx hb (mm_dcs h3) (by simpa using h9) (kk H locs ls hw hS hl)
      · cases h
    · cases h
  | ineg =>
    simp only [mm_ex] at h
    split at h
    · cases h
      simp only [mm_ck, Bool.and_eq_true, decide_eq_true_eq] at hck
      obtain ⟨rfl, h3⟩ := hck
      exact lv_ineg hx hb (mm_dcs h3) (kk H locs ls hw hS hl)
    · cases h
  | iand =>
    simp only [mm_ex] at h
    split at h
    · cases h
      simp only [mm_ck, Bool.and_eq_true, decide_eq_true_eq] at hck
      obtain ⟨rfl, h3⟩ := hck
      exact lv_iand hx hb (mm_dcs h3) (kk H locs ls hw hS hl)
    · cases h
  | ishl =>
    simp only [mm_ex] at h
    split at h
    · cases h
      simp only [mm_ck, Bool.and_eq_true, decide_eq_true_eq] at hck
      obtain ⟨rfl, h3⟩ := hck
      exact lv_ishl hx hb (mm_dcs h3) (kk H locs ls hw hS hl)
    · cases h
  | ishr =>
    simp only [mm_ex] at h
    split at h
    · cases h
      simp only [mm_ck, Bool.and_eq_true, decide_eq_true_eq] at hck
      obtain ⟨rfl, h3⟩ := hck
      exact lv_ishr hx hb (mm_dcs h3) (kk H locs ls hw hS hl)
    · cases h
  | i2c =>
    simp only [mm_ex] at h
    split at h
    · cases h
      simp only [mm_ck, Bool.and_eq_true, decide_eq_true_eq] at hck
      obtain ⟨rfl, h3⟩ := hck
      exact lv_i2c hx hb (mm_dcs h3) rfl (kk H locs ls hw hS hl)
    · cases h
  | i2l =>
    simp only [mm_ex] at h
    split at h
    · cases h
      simp only [mm_ck, Bool.and_eq_true, decide_eq_true_eq] at hck
      obtain ⟨rfl, h3⟩ := hck
      exact lv_i2l hx hb (mm_dcs h3) rfl (kk H locs ls hw hS hl)
    · cases h
  | i2f =>
    simp only [mm_ex] at h
    split at h
    · cases h
      simp only [mm_ck, Bool.and_eq_true, decide_eq_true_eq] at hck
      obtain ⟨rfl, h3⟩ := hck
      exact lv_i2f hx hb (mm_dcs h3) (kk H locs ls hw hS hl)
    · cases h
  | f2d =>
    simp only [mm_ex] at h
    split at h
    · split at h
      · rename_i h9
        cases h
        simp only [mm_ck, Bool.and_eq_true, decide_eq_true_eq] at hck
        obtain ⟨rfl, h3⟩ := hck
        have h9 := of_decide_eq_true h9
        exact lv_f2d hx hb (mm_dcs h3) h9 (kk H locs ls hw hS hl)
      · cases h
    · cases h
  | fdiv =>
    simp only [mm_ex] at h
    split at h
    · split at h
      · rename_i h9
        cases h
        simp only [mm_ck, Bool.and_eq_true, decide_eq_true_eq] at hck
        obtain ⟨rfl, h3⟩ := hck
        have h9 := of_decide_eq_true h9
        exact lv_fdiv hx hb (mm_dcs h3) h9 (kk H locs ls hw hS hl)
      · cases h
    · cases h
  | lcmp =>
    simp only [mm_ex] at h
    split at h
    · cases h
      simp only [mm_ck, Bool.and_eq_true, decide_eq_true_eq] at hck
      obtain ⟨rfl, h3⟩ := hck
      exact W.lcmp hx hb (mm_dcs h3) (kk H locs ls hw hS hl)
    · cases h
  | fcmp o =>
    simp only [mm_ex] at h
    split at h
    · cases h
      simp only [mm_ck, Bool.and_eq_true, decide_eq_true_eq] at hck
      obtain ⟨rfl, h3⟩ := hck
      exact lv_fcmp hx hb (mm_dcs h3) (kk H locs ls hw hS hl)
    · cases h
  | dcmp o =>
    simp only [mm_ex] at h
    split at h
    · cases h
      simp only [mm_ck, Bool.and_eq_true, decide_eq_true_eq] at hck
      obtain ⟨rfl, h3⟩ := hck
      exact lv_dcmp hx hb (mm_dcs h3) (kk H locs ls hw hS hl)
    · cases h
  | dup =>
    simp only [mm_ex] at h
    split at h
    · split at h
      · rename_i h9
        cases h
        simp only [mm_ck, Bool.and_eq_true, decide_eq_true_eq] at hck
        obtain ⟨rfl, h3⟩ := hck
        exact lv_dup hx hb (mm_dcs h3) ((mm_vm_cat ad _).trans (of_decide_eq_true h9)) (kk H locs ls hw hS hl)
      · cases h
    · cases h
  | dup2 =>
    simp only [mm_ex] at h
    split at h
    · split at h
      · rename_i h9
        cases h
        simp only [Bool.and_eq_true, decide_eq_true_eq] at h9
        simp only [mm_ck, Bool.and_eq_true, decide_eq_true_eq] at hck
        obtain ⟨rfl, h3⟩ := hck
        exact lv_dup2_11 hx hb (mm_dcs h3) ((mm_vm_cat ad _).trans h9.1) ((mm_vm_cat ad _).trans h9.2) (kk H locs ls hw hS hl)
      · cases h
    · cases h
  | goto off =>
    simp only [mm_ex] at h
    cases h
    simp only [mm_ck] at hck
    exact lv_goto hx hb (mm_dcs hck) (by omega) (kk H locs ls hw hS hl)
  | ifCond cc off =>
    simp only [mm_ex] at h
    split at h
    · simp only [mm_ck, Bool.and_eq_true, decide_eq_true_eq] at hck
      obtain ⟨rfl, h3⟩ := hck
      cases cc with
      | eq =>
        refine lv_if_eq (tgt := x) hx hb (mm_dcs h3) (by omega) (fun q => ?_) (fun q => ?_)
        · simp only [q, decide_true, if_true] at h; cases h; exact kk H locs ls hw hS hl
        · simp only [q, decide_false, Bool.false_eq_true, if_false] at h; cases h; exact kk H locs ls hw hS hl
      | ne =>
        refine lv_if_ne (tgt := x) hx hb (mm_dcs h3) (by omega) (fun q => ?_) (fun q => ?_)
        · simp only [q, decide_false, Bool.false_eq_true, if_false] at h; cases h; exact kk H locs ls hw hS hl
        · simp only [q, decide_true, if_true] at h; cases h; exact kk H locs ls hw hS hl
      | lt =>
        refine lv_if_lt (tgt := x) hx hb (mm_dcs h3) (by omega) (fun q => ?_) (fun q => ?_)
        · simp only [q, decide_true, if_true] at h; cases h; exact kk H locs ls hw hS hl
        · simp only [q, decide_false, Bool.false_eq_true, if_false] at h; cases h; exact kk H locs ls hw hS hl
      | ge =>
        refine lv_if_ge (tgt := x) hx hb (mm_dcs h3) (by omega) (fun q => ?_) (fun q => ?_)
        · simp only [q, decide_true, if_true] at h; cases h; exact kk H locs ls hw hS hl
        · simp only [q, decide_false, Bool.false_eq_true, if_false] at h; cases h; exact kk H locs ls hw hS hl
      | gt =>
        refine lv_if_gt (tgt := x) hx hb (mm_dcs h3) (by omega) (fun q => ?_) (fun q => ?_)
        · simp only [q, decide_true, if_true] at h; cases h; exact kk H locs ls hw hS hl
        · simp only [q, decide_false, Bool.false_eq_true, if_false] at h; cases h; exact kk H locs ls hw hS hl
      | le =>
        refine lv_if_le (tgt := x) hx hb (mm_dcs h3) (by omega) (fun q => ?_) (fun q => ?_)
        · simp only [q, decide_true, if_true] at h; cases h; exact kk H locs ls hw hS hl
        · simp only [q, decide_false, Bool.false_eq_true, if_false] at h; cases h; exact kk H locs ls hw hS hl
    · cases h
  | if_icmp cc off =>
    simp only [mm_ex] at h
    split at h
    · simp only [mm_ck, Bool.and_eq_true, decide_eq_true_eq] at hck
      obtain ⟨rfl, h3⟩ := hck
      cases cc with
      | eq =>
        refine lv_icmp_eq (tgt := x) hx hb (mm_dcs h3) (by omega) (fun q => ?_) (fun q => ?_)
        · simp only [q, decide_true, if_true] at h; cases h; exact kk H locs ls hw hS hl
        · simp only [q, decide_false, Bool.false_eq_true, if_false] at h; cases h; exact kk H locs ls hw hS hl
      | ne =>
        refine lv_icmp_ne (tgt := x) hx hb (mm_dcs h3) (by omega) (fun q => ?_) (fun q => ?_)
        · simp only [q, decide_false, Bool.false_eq_true, if_false] at h; cases h; exact kk H locs ls hw hS hl
        · simp only [q, decide_true, if_true] at h; cases h; exact kk H locs ls hw hS hl
      | lt =>
        refine lv_icmp_lt (tgt := x) hx hb (mm_dcs h3) (by omega) (fun q => ?_) (fun q => ?_)
        · simp only [q, decide_true, if_true] at h; cases h; exact kk H locs ls hw hS hl
        · simp only [q, decide_false, Bool.false_eq_true, if_false] at h; cases h; exact kk H locs ls hw hS hl
      | ge =>
        refine lv_icmp_ge (tgt := x) hx hb (mm_dcs h3) (by omega) (fun q => ?_) (fun q => ?_)
        · simp only [q, decide_true, if_true] at h; cases h; exact kk H locs ls hw hS hl
        · simp only [q, decide_false, Bool.false_eq_true, if_false] at h; cases h; exact kk H locs ls hw hS hl
      | gt =>
        refine lv_icmp_gt (tgt := x) hx hb (mm_dcs h3) (by omega) (fun q => ?_) (fun q => ?_)
        · simp only [q, decide_true, if_true] at h; cases h; exact kk H locs ls hw hS hl
        · simp only [q, decide_false, Bool.false_eq_true, if_false] at h; cases h; exact kk H locs ls hw hS hl
      | le =>
        refine lv_icmp_le (tgt := x) hx hb (mm_dcs h3) (by omega) (fun q => ?_) (fun q => ?_)
        · simp only [q, decide_true, if_true] at h; cases h; exact kk H locs ls hw hS hl
        · simp only [q, decide_false, Bool.false_eq_true, if_false] at h; cases h; exact kk H locs ls hw hS hl
    · cases h
  | tableswitch d lo hi offs =>
    simp only [mm_ex] at h
    split at h
    · simp only [mm_ck] at hck
      split at h
      · rename_i h9
        split at h
        · rename_i h8
          cases h
          have h8 := of_decide_eq_true h8
          simp only [Bool.or_eq_true, decide_eq_true_eq] at h9
          exact lv_tableOut hx hb (mm_dcs hck) h9 (by omega) (kk H locs ls hw hS hl)
        · cases h
      · rename_i h9
        simp only [Bool.or_eq_true, decide_eq_true_eq, not_or] at h9
        split at h
        · rename_i off h7
          split at h
          · rename_i h8
            cases h
            have h8 := of_decide_eq_true h8
            exact lv_tableIn hx hb (mm_dcs hck) h9.1 h9.2 h7 (by omega) (kk H locs ls hw hS hl)
          · cases h
        · cases h
    · cases h
  | getfield a =>
    simp only [mm_ex] at h
    split at h
    · split at h
      · rename_i i9 S9 h9
        simp only [Bool.and_eq_true, decide_eq_true_eq] at h9
        obtain ⟨⟨n1, n2⟩, n3⟩ := h9
        simp only [mm_ck, Bool.and_eq_true, decide_eq_true_eq] at hck
        obtain ⟨⟨rfl, h3⟩, h4⟩ := hck
        obtain ⟨q1, q2, -, w9, q4⟩ := mm_fk_sp h4
        have he := mm_wd_get (cs := cs) (ad := ad) (v := v) n1
        rw [mm_ent3 n2, n3] at he
        have key : ∀ y : Value, ((mm_sh i9).2.2.2.mapIdx fun k r => mm_fv ad v i9 k r)[a % 100]? = some y → W p l e R s m args below meth c H locs cells slots Q (F0 m (pc + 3) ls (y :: S9.map (mm_vm ad))) → W p l e R s m args below meth c H locs cells slots Q (F0 m pc ls ((Value.ref i9 :: S9).map (mm_vm ad))) := by
          intro y hy g
          rcases q4 with q4 | q4
          · exact va_getN (T := mm_T (a / 100)) hx hb (mm_lays B hW q1) (fun _ h => h) hown hK hw.2.2.1 i9 he (mm_clok q1) (a % 100) q2 (mm_nF B hW q4) (fun _ h => h) hy (mm_dcs h3) g
          · exact va_get (T := mm_T (a / 100)) hx hb (mm_lays B hW q1) (fun _ h => h) hown hK hw.2.2.1 i9 he (mm_clok q1) (a % 100) q2 (mm_wB B hW q4) (fun _ h => h) hy (mm_dcs h3) g
        split at h
        · rename_i h7
          cases h
          exact key _ (by rw [List.getElem?_mapIdx, h7]; rfl) (kk H locs ls hw hS hl)
        · rename_i r9 h7
          cases h
          exact key _ (by rw [List.getElem?_mapIdx, h7]; rfl) (kk H locs ls hw hS hl)
        · cases h
      · cases h
    · cases h
  | putfield a =>
    simp only [mm_ex] at h
    split at h
    · split at h
      · rename_i y9 i9 S9 h9
        simp only [Bool.and_eq_true, decide_eq_true_eq] at h9
        obtain ⟨⟨n1, n2⟩, n3⟩ := h9
        simp only [mm_ck, Bool.and_eq_true, decide_eq_true_eq] at hck
        obtain ⟨⟨rfl, h3⟩, h4⟩ := hck
        obtain ⟨q1, q2, q3, w9, q4⟩ := mm_fk_sp h4
        obtain ⟨q5, q6⟩ := q3 rfl
        have he := mm_wd_get (cs := cs) (ad := ad) (v := v) n1
        rw [mm_ent3 n2, n3] at he
        split at h
        · rename_i h7
          cases h
          have hlen : a % 100 < ((mm_sh i9).2.2.2.mapIdx fun k r => mm_fv ad v i9 k r).length := by
            rw [List.length_mapIdx]
            exact (List.getElem?_eq_some_iff.mp h7).1
          have hd0 : parseFieldDescriptor (mm_T (a / 100) (a % 100)).2.2.1 = some .int := by rw [mm_tyok q1 _ q2, q6]
          have hen := mm_ent_obj (cs := cs) (ad := ad) (v := v) (x := y9) n2 h7
          rw [n3] at hen
          rcases q4 with q4 | q4
          · exact va_putN (T := mm_T (a / 100)) (v := .int y9) hx hb (mm_lays B hW q1) (fun _ h => h) (mm_tyf (a / 100)) (mm_tyok q1) (mm_nmok q1) hown hK hw.2.2.1 hw.2.2.2.1 hS i9 he (mm_clok q1) (a % 100) q2 (mm_nF B hW q4) (fun _ h => h) q5 hd0 rfl rfl hlen (mm_dcs h3) (fun H1 locs1 hP1 hD1 hS1 => kk H1 locs1 ls (mm_put hw X n1 hen (fun j hj => mm_up_row hj) hP1 hD1 hS1) hS1 hl)
          · exact va_put (T := mm_T (a / 100)) (v := .int y9) hx hb (mm_lays B hW q1) (fun _ h => h) (mm_tyf (a / 100)) (mm_tyok q1) (mm_nmok q1) hown hK hw.2.2.1 hw.2.2.2.1 hS i9 he (mm_clok q1) (a % 100) q2 (mm_wB B hW q4) (fun _ h => h) q5 hd0 rfl rfl hlen (mm_dcs h3) (fun H1 locs1 hP1 hD1 hS1 => kk H1 locs1 ls (mm_put hw X n1 hen (fun j hj => mm_up_row hj) hP1 hD1 hS1) hS1 hl)
        · cases h
      · cases h
    · cases h
  | iaload =>
    simp only [mm_ex] at h
    split at h
    · simp only [mm_ck, Bool.and_eq_true, decide_eq_true_eq] at hck
      obtain ⟨rfl, h3⟩ := hck
      split at h
      · rename_i j9 i9 S9 hi9
        split at h
        · rename_i h9
          cases h
          subst hi9
          rw [hw.2.2.2.2.2.2, nI_clamp B.2.2.2.2.2.2.2.2.2] at h9
          have e1 : mm_vm ad (Value.ref mm_NW) = Value.ref b := by show Value.ref (ad mm_NW) = _; rw [hw.2.2.2.2.1]
          have g := kk H locs ls hw hS hl
          simp only [List.map_cons] at g ⊢
          rw [e1]
          have e2 : mm_vm ad (Value.int (v mm_NW j9.toNatClampNeg)) = Value.int (xs j9.toNatClampNeg) := by show Value.int _ = _; rw [hw.2.2.2.2.2.1]
          rw [e2] at g
          have hXs : va_X b Ls xs s s.heap := (va_X.moved hW.alike B.2.2.2.2.2.2.2.1).kept (X.2.2.2.2.2.2.2.2.1 b B.2.2.2.2.2.2.2.2.1)
          exact va_sld hx hb hXs (Nat.lt_of_lt_of_le B.2.2.2.2.2.2.2.2.1 X.2.2.2.2.2.2.2.1) (Nat.not_le.mpr B.2.2.2.2.2.2.2.2.1) hS (mm_inv h9) (mm_dcs h3) g
        · cases h
      · split at h
        · rename_i h9
          simp only [Bool.and_eq_true, decide_eq_true_eq] at h9
          split at h
          · rename_i h8
            cases h
            have he := mm_wd_get (cs := cs) (ad := ad) (v := v) h9.1
            rw [mm_ent0 h9.2] at he
            exact va_iald hx hb hK hw.2.2.1 _ 0 he rfl (mm_inv h8) (mm_dcs h3) (kk H locs ls hw hS hl)
          · cases h
        · cases h
    · cases h
  | caload =>
    simp only [mm_ex] at h
    split at h
    · simp only [mm_ck, Bool.and_eq_true, decide_eq_true_eq] at hck
      obtain ⟨rfl, h3⟩ := hck
      split at h
      · rename_i h9
        simp only [Bool.and_eq_true, decide_eq_true_eq] at h9
        split at h
        · rename_i h8
          cases h
          have he := mm_wd_get (cs := cs) (ad := ad) (v := v) h9.1
          rw [mm_ent1 h9.2] at he
          exact va_cald hx hb hK hw.2.2.1 _ 1 he rfl (mm_inv h8) (mm_dcs h3) (kk H locs ls hw hS hl)
        · cases h
      · cases h
    · cases h
  | iastore =>
    simp only [mm_ex] at h
    split at h
    · simp only [mm_ck, Bool.and_eq_true, decide_eq_true_eq] at hck
      obtain ⟨rfl, h3⟩ := hck
      split at h
      · rename_i y9 j9 i9 S9 h9
        simp only [Bool.and_eq_true, decide_eq_true_eq] at h9
        split at h
        · rename_i h8
          cases h
          have he := mm_wd_get (cs := cs) (ad := ad) (v := v) h9.1
          rw [mm_ent0 h9.2] at he
          have hen : mm_ent cs ad (mm_up v i9 j9.toNatClampNeg y9) i9 = .inl (cs 0, (mm_sh i9).2.1, .inl (upd (v i9) j9.toNatClampNeg y9)) := by rw [mm_ent0 h9.2, ← mm_up_at]
          exact va_iast hx hb hK hw.2.2.1 hw.2.2.2.1 hS _ 0 he rfl (mm_inv h8) (mm_dcs h3) (fun H1 locs1 hP1 hD1 hS1 => kk H1 locs1 ls (mm_put hw X h9.1 hen (fun j hj => mm_up_row hj) hP1 hD1 hS1) hS1 hl)
        · cases h
      · cases h
    · cases h
  | castore =>
    simp only [mm_ex] at h
    split at h
    · simp only [mm_ck, Bool.and_eq_true, decide_eq_true_eq] at hck
      obtain ⟨rfl, h3⟩ := hck
      split at h
      · rename_i y9 j9 i9 S9 h9
        simp only [Bool.and_eq_true, decide_eq_true_eq] at h9
        split at h
        · rename_i h8
          split at h
          · rename_i h7
            cases h
            have h7 := of_decide_eq_true h7
            have he := mm_wd_get (cs := cs) (ad := ad) (v := v) h9.1
            rw [mm_ent1 h9.2] at he
            have hen : mm_ent cs ad (mm_up v i9 j9.toNatClampNeg y9) i9 = .inl (cs 1, (mm_sh i9).2.1, .inl (upd (v i9) j9.toNatClampNeg (vp_nar .char y9))) := by rw [mm_ent1 h9.2, h7, ← mm_up_at]
            exact va_cast hx hb hK hw.2.2.1 hw.2.2.2.1 hS _ 1 he rfl (mm_inv h8) (mm_dcs h3) (fun H1 locs1 hP1 hD1 hS1 => kk H1 locs1 ls (mm_put hw X h9.1 hen (fun j hj => mm_up_row hj) hP1 hD1 hS1) hS1 hl)
          · cases h
        · cases h
      · cases h
    · cases h
  | aaload =>
    simp only [mm_ex] at h
    split at h
    · simp only [mm_ck, Bool.and_eq_true, decide_eq_true_eq] at hck
      obtain ⟨rfl, h3⟩ := hck
      split at h
      · rename_i j9 i9 S9 h9
        simp only [Bool.and_eq_true, decide_eq_true_eq] at h9
        split at h
        · rename_i h8
          cases h
          have h8 := mm_inv h8
          have he := mm_wd_get (cs := cs) (ad := ad) (v := v) h9.1
          rw [mm_ent2 h9.2] at he
          have hlt : j9.toNatClampNeg < (mm_sh i9).2.1 := Nat.not_le.mp fun q => h8 (Or.inr q)
          exact W.aald (v := .ref (ad ((mm_sh i9).2.2.1 + j9.toNatClampNeg))) (ty := .array .int) hx hb (hw.2.2.1 i9 _ he) ((hK.2 2 (cs 2, .array .int) rfl).1 (mm_sh i9).2.1 (fun j => va_rf (some (ad ((mm_sh i9).2.2.1 + j))))) rfl (fun q => by cases q) (by show ¬ (j9 < 0 ∨ (arrV _ _ _).slots.size ≤ _); rw [arrV_size]; exact h8) (by show (arrV _ _ _).slots[_]? = _; rw [arrV_read _ _ hlt]; rfl) rfl rfl (mm_dcs h3) (kk H locs ls hw hS hl)
        · cases h
      · cases h
    · cases h
  | laload =>
    simp only [mm_ex] at h
    split at h
    · simp only [mm_ck, Bool.and_eq_true, decide_eq_true_eq] at hck
      obtain ⟨rfl, h3⟩ := hck
      split at h
      · rename_i h9
        simp only [Bool.and_eq_true, decide_eq_true_eq] at h9
        split at h
        · rename_i h8
          cases h
          have he := mm_wd_get (cs := cs) (ad := ad) (v := v) h9.1
          rw [mm_ent4 h9.2] at he
          exact va_lald hx hb hK hw.2.2.1 _ 3 he rfl (mm_inv h8) (mm_dcs h3) (kk H locs ls hw hS hl)
        · cases h
      · cases h
    · cases h
  | lastore =>
    simp only [mm_ex] at h
    split at h
    · simp only [mm_ck, Bool.and_eq_true, decide_eq_true_eq] at hck
      obtain ⟨rfl, h3⟩ := hck
      split at h
      · rename_i y9 j9 i9 S9 h9
        simp only [Bool.and_eq_true, decide_eq_true_eq] at h9
        split at h
        · rename_i h8
          split at h
          · rename_i h7
            cases h
            have h7 := of_decide_eq_true h7
            have he := mm_wd_get (cs := cs) (ad := ad) (v := v) h9.1
            rw [mm_ent4 h9.2] at he
            have hen : mm_ent cs ad (mm_up v i9 j9.toNatClampNeg y9.toInt32) i9 = .inl (cs 4, (mm_sh i9).2.1, .inr (.inl (vp_updL (fun j => (v i9 j).toInt64) j9.toNatClampNeg y9))) := by
              rw [mm_ent4 h9.2]
              refine congrArg (fun f : Nat → Int64 => (Sum.inl (cs 4, (mm_sh i9).2.1, Sum.inr (Sum.inl f)) : va_E)) (funext fun j => ?_)
              by_cases hj : j = j9.toNatClampNeg
              · subst hj
                rw [mm_up_same, h7]
                simp [vp_updL]
              · simp [mm_up, vp_updL, hj]
            exact va_last hx hb hK hw.2.2.1 hw.2.2.2.1 hS _ 3 he rfl (mm_inv h8) (mm_dcs h3) (fun H1 locs1 hP1 hD1 hS1 => kk H1 locs1 ls (mm_put hw X h9.1 hen (fun j hj => mm_up_row hj) hP1 hD1 hS1) hS1 hl)
          · cases h
        · cases h
      · cases h
    · cases h
  | daload =>
    simp only [mm_ex] at h
    split at h
    · simp only [mm_ck, Bool.and_eq_true, decide_eq_true_eq] at hck
      obtain ⟨rfl, h3⟩ := hck
      split at h
      · rename_i h9
        simp only [Bool.and_eq_true, decide_eq_true_eq] at h9
        split at h
        · rename_i h8
          cases h
          have he := mm_wd_get (cs := cs) (ad := ad) (v := v) h9.1
          rw [mm_ent5 h9.2] at he
          exact va_dald hx hb hK hw.2.2.1 _ 4 he rfl (mm_inv h8) (mm_dcs h3) (kk H locs ls hw hS hl)
        · cases h
      · cases h
    · cases h
  | dastore =>
    simp only [mm_ex] at h
    split at h
    · simp only [mm_ck, Bool.and_eq_true, decide_eq_true_eq] at hck
      obtain ⟨rfl, h3⟩ := hck
      split at h
      · rename_i y9 j9 i9 S9 h9
        simp only [Bool.and_eq_true, decide_eq_true_eq] at h9
        split at h
        · rename_i h8
          cases h
          have he := mm_wd_get (cs := cs) (ad := ad) (v := v) h9.1
          rw [mm_ent5 h9.2] at he
          have hen : mm_ent cs ad (mm_up (mm_up v i9 (2 * j9.toNatClampNeg) (mm_dh y9)) i9 (2 * j9.toNatClampNeg + 1) (mm_dl y9)) i9 = .inl (cs 5, (mm_sh i9).2.1, .inr (.inr (.inr (.inl (vf_upd (fun j => mm_dj (v i9 (2 * j)) (v i9 (2 * j + 1))) j9.toNatClampNeg y9))))) := by
            rw [mm_ent5 h9.2]
            refine congrArg (fun f : Nat → UInt64 => (Sum.inl (cs 5, (mm_sh i9).2.1, Sum.inr (Sum.inr (Sum.inr (Sum.inl f)))) : va_E)) (funext fun j => ?_)
            by_cases hj : j = j9.toNatClampNeg
            · subst hj
              have e1 : mm_up (mm_up v i9 (2 * j9.toNatClampNeg) (mm_dh y9)) i9 (2 * j9.toNatClampNeg + 1) (mm_dl y9) i9 (2 * j9.toNatClampNeg) = mm_dh y9 := by
                simp [mm_up]
              rw [e1, mm_up_same, mm_dj_eq]
              simp [vf_upd]
            · have a1 : ¬ 2 * j = 2 * j9.toNatClampNeg := by omega
              have a2 : ¬ 2 * j = 2 * j9.toNatClampNeg + 1 := by omega
              have a3 : ¬ 2 * j + 1 = 2 * j9.toNatClampNeg := by omega
              have a4 : ¬ 2 * j + 1 = 2 * j9.toNatClampNeg + 1 := by omega
              simp [mm_up, vf_upd, hj, a1, a2, a3, a4]
          exact va_dast hx hb hK hw.2.2.1 hw.2.2.2.1 hS _ 4 he rfl (mm_inv h8) (mm_dcs h3) (fun H1 locs1 hP1 hD1 hS1 => kk H1 locs1 ls (mm_put hw X h9.1 hen (fun j hj => by rw [mm_up_row hj, mm_up_row hj]) hP1 hD1 hS1) hS1 hl)
        · cases h
      · cases h
    · cases h
  | arraylength =>
    simp only [mm_ex] at h
    split at h
    · simp only [mm_ck, Bool.and_eq_true, decide_eq_true_eq] at hck
      obtain ⟨rfl, h3⟩ := hck
      split at h
      · rename_i i9 S9 h9
        cases h
        have h9 := of_decide_eq_true h9
        subst h9
        have e1 : mm_vm ad (Value.ref mm_NW) = Value.ref b := by show Value.ref (ad mm_NW) = _; rw [hw.2.2.2.2.1]
        have g := kk H locs ls hw hS hl
        simp only [List.map_cons] at g ⊢
        rw [e1]
        have e2 : mm_vm ad (Value.int (v (mm_NW + 1) 0)) = Value.int (Int32.ofNat Ls) := by show Value.int _ = _; rw [hw.2.2.2.2.2.2]; rfl
        rw [e2] at g
        have hXs : va_X b Ls xs s s.heap := (va_X.moved hW.alike B.2.2.2.2.2.2.2.1).kept (X.2.2.2.2.2.2.2.2.1 b B.2.2.2.2.2.2.2.2.1)
        exact va_slen hx hb hXs (Nat.lt_of_lt_of_le B.2.2.2.2.2.2.2.2.1 X.2.2.2.2.2.2.2.1) (Nat.not_le.mpr B.2.2.2.2.2.2.2.2.1) hS (mm_dcs h3) g
      · cases h
    · cases h
  | invokestatic j =>
    simp only [mm_ex] at h
    have wts : ∀ {T : List Value}, mm_wt T = true → ((T.map (mm_vm ad)).map fun v => v.category).sum ≤ 8 := by
      intro T hT
      rw [mm_vm_cats]
      exact of_decide_eq_true hT
    simp only [mm_ck, Bool.and_eq_true, decide_eq_true_eq] at hck
    obtain ⟨⟨rfl, h3⟩, h4⟩ := hck
    have hml : c.maxLocals = ls.size := by rw [X.2.2.2.1, hl.1, hL]
    by_cases hj : 1000 ≤ j
    · rw [if_pos hj] at h4
      unfold mm_bk at h4
      simp only [Bool.and_eq_true, decide_eq_true_eq] at h4
      obtain ⟨⟨r1, r2⟩, h4⟩ := h4
      have f1 : 1 ≤ R.frames := Nat.le_trans r1 X.2.2.2.2.2.2.2.2.2.1
      have f2 : 21 ≤ R.locals := Nat.le_trans r2 X.2.2.2.2.2.2.2.2.2.2.1
      split at h4
      · rename_i w9 hlk
        simp only [Bool.and_eq_true, decide_eq_true_eq] at h4
        obtain ⟨-, h4⟩ := h4
        by_cases j0 : j = 1000
        · subst j0
          simp only [if_true, Bool.and_eq_true] at h4 h
          obtain ⟨⟨⟨g1, g2⟩, g3⟩, g4⟩ := h4
          split at h
          · split at h
            · rename_i h9
              cases h
              exact va_mmax hx hb hml hown (mm_wB B hW g1) (mm_wB B hW g2) (mm_wB B hW g3) (mm_wB B hW g4) f1 (by have := wts h9; omega) hc hs (mm_dcs h3) (kk H locs ls hw hS hl)
            · cases h
          · cases h
        · rw [if_neg j0] at h4 h
          by_cases j1 : j = 1001
          · subst j1
            simp only [if_true, Bool.and_eq_true] at h4 h
            obtain ⟨⟨⟨g1, g2⟩, g3⟩, g4⟩ := h4
            split at h
            · split at h
              · rename_i h9
                cases h
                exact va_mmin hx hb hml hown (mm_wB B hW g1) (mm_wB B hW g2) (mm_wB B hW g3) (mm_wB B hW g4) f1 (by have := wts h9; omega) hc hs (mm_dcs h3) (kk H locs ls hw hS hl)
              · cases h
            · cases h
          · rw [if_neg j1] at h4 h
            by_cases j2 : j = 1002
            · subst j2
              simp only [if_true, Bool.and_eq_true] at h4 h
              obtain ⟨⟨⟨g1, g2⟩, g3⟩, g4⟩ := h4
              split at h
              · split at h
                · rename_i h9
                  cases h
                  exact va_mabs hx hb hml hown (mm_wB B hW g1) (mm_wB B hW g2) (mm_wB B hW g3) (mm_wB B hW g4) f1 (by have := wts h9; omega) hc hs (mm_dcs h3) (kk H locs ls hw hS hl)
                · cases h
              · cases h
            · rw [if_neg j2] at h4 h
              by_cases j3 : j = 1003
              · subst j3
                simp only [if_true] at h
                simp only [Bool.and_eq_true, decide_eq_true_eq] at h4
                obtain ⟨⟨⟨⟨g1, g2⟩, g3⟩, g4⟩, g5⟩ := h4
                split at h
                · split at h
                  · split at h
                    · split at h
                      · rename_i n9 d9 i2 sp9 i9 S9 h9 h8 h7
                        cases h
                        simp only [Bool.and_eq_true, decide_eq_true_eq] at h9 h8 h7
                        obtain ⟨⟨⟨⟨b1, b2⟩, b3⟩, b4⟩, b5⟩ := h9
                        obtain ⟨⟨c1, c2⟩, c3⟩ := h8
                        have neg : ∀ {z : Int32}, 0 ≤ z.toInt → ¬ z < 0 := by
                          intro z hz hz2
                          rw [Int32.lt_iff_toInt_lt] at hz2
                          have : (0 : Int32).toInt = 0 := rfl
                          omega
                        have he0 := mm_wd_get (cs := cs) (ad := ad) (v := v) b1
                        rw [mm_ent0 b2] at he0
                        have he1 := mm_wd_get (cs := cs) (ad := ad) (v := v) b3
                        rw [mm_ent0 b4] at he1
                        have hen : mm_ent cs ad (mm_cp v i9 sp9.toNatClampNeg i2 d9.toNatClampNeg n9.toNatClampNeg) i2 = .inl (cs 0, (mm_sh i2).2.1, .inl (va_cpy (v i9) (v i2) sp9.toNatClampNeg d9.toNatClampNeg n9.toNatClampNeg)) := by rw [mm_ent0 b4, ← mm_cp_at]
                        exact va_copyi hx hb hml hown (mm_wB B hW g1) (mm_wB B hW g4) (mm_wB B hW g2) (mm_wB B hW g3) hK hw.2.2.1 hw.2.2.2.1 hS i9 i2 0 0 he0 he1 rfl rfl rfl (neg c1) (neg c2) (neg c3) h7.1 h7.2 (fun _ _ => rfl) f1 (by have := wts b5; have := X.2.2.2.2.2.2.2.2.2.2.1; omega) (mm_dcs h3) (fun H1 locs1 hP1 hD1 hS1 => kk H1 locs1 ls (mm_put hw X b3 hen (fun j hj => mm_cp_row hj) hP1 hD1 hS1) hS1 hl)
                      · cases h
                    · cases h
                  · cases h
                · cases h
              · rw [if_neg j3] at h
                split at h <;> cases h
      · cases h4
    · rw [if_neg (by omega), if_neg (by omega), if_neg (by omega), if_neg (by omega)] at h
      split at h <;> cases h
  | invokevirtual j =>
    simp only [mm_ex] at h
    split at h
    · split at h <;> cases h
    · cases h
  | ireturn =>
    simp only [mm_ex] at h
    split at h
    · split at h <;> cases h
    · cases h
  | freturn =>
    simp only [mm_ex] at h
    split at h <;> cases h
  | return_ =>
    simp only [mm_ex] at h
    split at h <;> cases h
  | athrow =>
    simp only [mm_ex] at h
    split at h <;> cases h
  | _ => simp only [mm_ex] at h; cases h
end MMS
end
section
/-! an exception whose constructor hands on to its superclass's by any entry of its own file (java.util.NoSuchElementException: 13) -/
def mm_chX (X : String) (ix : Nat) (rx : ByteArray) (Y : String) (r : List String) : List Cond := Bundle.passSAtoms X Y ix rx ++ Bundle.chainSAtoms Y r
def mm_owX (own : String) (ic : Nat) (X : String) (ix : Nat) (rx : ByteArray) (Y : String) (r : List String) : List Cond :=
  Bundle.throwableAtoms ++ Bundle.throwableSAtoms ++ mm_chX X ix rx Y r ++
  [.methodLink own ic (Bundle.initS X), .instantiable X 6, .castable X X, .selects X Bundle.tFill0 Bundle.tFill0, .selects X Bundle.tFill Bundle.tFill,
   .lays X Bundle.tN "cause" "Ljava/lang/Throwable;", .lays X Bundle.tN "stackTrace" Bundle.steD, .lays X Bundle.tN "suppressedExceptions" Bundle.listD, .lays X Bundle.tN "detailMessage" "Ljava/lang/String;",
   .isRef (.static Bundle.tN "UNASSIGNED_STACK" Bundle.steD), .isRef (.static Bundle.tN "SUPPRESSED_SENTINEL" Bundle.listD),
   .fieldLink Bundle.tN 198 Bundle.tN "backtrace" "Ljava/lang/Object;", .lays Bundle.tN Bundle.tN "backtrace" "Ljava/lang/Object;", .lays X Bundle.tN "backtrace" "Ljava/lang/Object;"]
theorem mm_chainX {args : Array Value} {s : State} {pl : Platform} (hpl : pl.magicAccessors = ({} : Platform).magicAccessors) {top : MethodId} (htop : s.methodNamed? (Bundle.initS Bundle.tN) = some top)
    {ix : Nat} {rx : ByteArray} (x0 : decode rx 0 = .ok (.aload_n 0, 1)) (x1 : decode rx 1 = .ok (.aload_n 1, 1)) (x2 : decode rx 2 = .ok (.invokespecial ix, 3)) (x5 : decode rx 5 = .ok (.return_, 1))
    (X Y : String) (r : List String) (hX : Bundle.fit X = true) (hn : ∀ n ∈ Y :: r, Bundle.fit n = true) (h : ∀ c ∈ mm_chX X ix rx Y r, c.before args s = true) :
      ∃ (P1 : PassC) (Ps : List PassC), Ps.length = (Y :: r).length ∧ P1.LinksS pl s ∧ (∀ P, P ∈ Ps → P.LinksS pl s) ∧ s.methodNamed? (Bundle.initS X) = some P1.m ∧
        P1.sup = firstOf top (Ps.map (·.toPassT)) ∧ PassesOn top (Ps.map (·.toPassT)) := by
  obtain ⟨P, L, hm, hs⟩ := PassC.ofS_atoms (args := args) (s := s) hpl (X := X) (Y := Y) (Bundle.fit_spec hX).1 (Bundle.fit_spec (hn Y List.mem_cons_self)).2 x0 x1 x2 x5
    (fun c hc => h c (List.mem_append_left _ hc))
  obtain ⟨P', Ps, hlen, L', hL, hm', hsup, hpass⟩ := Bundle.chainS (args := args) hpl htop r Y (hn Y List.mem_cons_self) (fun n hn' => hn n (List.mem_cons_of_mem _ hn')) (fun c hc => h c (List.mem_append_right _ hc))
  refine ⟨P, P' :: Ps, by simp [hlen], L, ?_, hm, Option.some.inj (hs.symm.trans hm'), hsup, hpass⟩
  intro Q hQ
  rcases List.mem_cons.mp hQ with rfl | hQ
  · exact L'
  · exact hL Q hQ
section MMX
variable {p : Program} {l : Launch} {e : Env} {R : Room} {s : State} {m₀ : MethodId} {args : Array Value} {below : List Frame} {meth : Method} {c : Code} {W : State} {locs : List Loc} {cells slots : Nat}
set_option maxHeartbeats 4000000 in
theorem mm_ctorX (X : Stand p l e R s m₀ args below meth c W locs cells slots) (hexec : p.tables.exec = Jvm.exec) (htr : e.platform.stackTraces = false) {own cls Y0 : String} {rn : List String} {ic ix : Nat} {rx : ByteArray} (x0 : decode rx 0 = .ok (.aload_n 0, 1)) (x1 : decode rx 1 = .ok (.aload_n 1, 1)) (x2 : decode rx 2 = .ok (.invokespecial ix, 3)) (x5 : decode rx 5 = .ok (.return_, 1))
    (hown : s.vm.findClass own = some m₀.cls) (hcls : Bundle.fit cls = true) (hnames : ∀ n ∈ Y0 :: rn, Bundle.fit n = true)
    (h : ∀ a ∈ mm_owX own ic cls ix rx Y0 rn, a.before args s = true)
    (hlocs : ∀ x ∈ locs, ∀ cell, s.heap[x.base]? = some cell → cell.vm.isStatics = false)
    {a : Addr} {cX : ClassId} {kX : Class} (hfoundX : s.vm.findClass cls = some cX) (hkX : s.vm.classes[cX]? = some kX) (hcell : W.heap[a]? = some (freshCell cX kX)) (hnew : s.heap.size ≤ a)
    {msg : Value} (hmsg : msg.isRef = true)
    {g : JFrame} (hg : g.method = m₀) (hsize : g.locals.size = c.maxLocals) (hlocked : g.locked = none) (hentered : g.entered = []) {rest : List Value} (hstack : g.stack = msg :: .ref a :: .ref a :: rest)
    (hd6 : decode c.code g.pc = .ok (.invokespecial ic, 3)) (hd9 : decode c.code (g.pc + 3) = .ok (.athrow, 1)) (hout : ∀ x ∈ c.exceptionTable.toList, covers x (g.pc + 3) = false)
    (hRframes : (Y0 :: rn).length + 3 < R.frames) (hRlocals : 2 * g.monitorRoom + ((Value.ref a :: rest).map fun v => v.category).sum + (13 * ((Y0 :: rn).length + 1) + 42) ≤ R.locals) (hlocks : meth.locks = false := by first | assumption | exact BodyLoose.notSynchronized (by assumption) | exact Body.notSynchronized (by assumption)) :
    ∃ U : State, Steps p.tables e below (W.setTop g) U ∧ U.status = .running ∧ Ended U below (.threw a) ∧ s.WarmedH U.vm ∧ s.sameButNew ({ U with vm := s.vm } : State) locs cells slots ∧
      ∃ ce, U.heap[a]? = some ce ∧ s.vm.findClass cls = some ce.cls ∧ ce.vm = .none := by
  have howns : e.platform.frameOwnsMonitors = true := by rw [X.admits.platform]
  have hfin : e.platform.finalization = false := by rw [X.admits.platform]
  have hpl : e.platform.magicAccessors = ({} : Platform).magicAccessors := by rw [X.admits.platform]
  have a' : ∀ x, x ∈ mm_owX own ic cls ix rx Y0 rn → x.holds args s none s [] = true := fun x hx => h x hx
  obtain ⟨T, Z0, L, -, Y⟩ := ThrowableC.of_atoms (args := args) howns hfin hpl (fun x hx => h x (by simp [mm_owX, hx]))
  obtain ⟨Z, M, LZ, LM, hnZ⟩ := Init0T.ofS_atoms (args := args) hpl L Y (fun x hx => h x (by simp [mm_owX, hx]))
  obtain ⟨P1, Ps, hlen, L1, hL, hP1m, hlink1, hlink⟩ := mm_chainX (args := args) hpl hnZ x0 x1 x2 x5 cls Y0 rn hcls hnames (fun x hx => h x (by simp [mm_owX, hx]))
              
  have hfound : s.vm.findClass cls = some P1.m.cls := findClass_of_methodNamed hP1m
  cases Option.some.inj (hfoundX.symm.trans hfound)
  obtain ⟨c1, kX', hc1, hk, hord, -, -, hn6⟩ := Cond.instantiable_spec (a' (.instantiable cls 6) (by simp [mm_owX]))
  cases Option.some.inj (hc1.symm.trans hfound)
  cases Option.some.inj (hkX.symm.trans hk)
  have hsel0 : selectMethod e.platform s.vm P1.m.cls T.fill0 = .method T.fill0 := by
    obtain ⟨c2, r2, m2, q1, q2, q3, q4, -⟩ := Cond.selects_spec (a' (.selects cls Bundle.tFill0 Bundle.tFill0) (by simp [mm_owX]))
    cases Option.some.inj (q1.symm.trans hfound)
    cases Option.some.inj (q2.symm.trans (State.methodFound?_of_named Y.fill0 (by decide)))
    cases Option.some.inj (q3.symm.trans Y.fill0)
    rw [Launch.admits_selectMethod X.admits]; exact q4
  have hselF : selectMethod e.platform s.vm P1.m.cls T.fill = .method T.fill := by
    obtain ⟨c2, r2, m2, q1, q2, q3, q4, -⟩ := Cond.selects_spec (a' (.selects cls Bundle.tFill Bundle.tFill) (by simp [mm_owX]))
    cases Option.some.inj (q1.symm.trans hfound)
    cases Option.some.inj (q2.symm.trans (State.methodFound?_of_named Y.fill (by decide)))
    cases Option.some.inj (q3.symm.trans Y.fill)
    rw [Launch.admits_selectMethod X.admits]; exact q4
  obtain ⟨cellS0, hcS0, hiss⟩ := Y.statics
  obtain ⟨u0, hu0⟩ := Cond.staticRefV Y.unassigned L.unassignedStatic L.statics hcS0 hiss (a' (.isRef (.static Bundle.tN "UNASSIGNED_STACK" Bundle.steD)) (by simp [mm_owX]))
  obtain ⟨sen, hsen⟩ := Cond.staticRefV Y.sentinel L.sentinelStatic L.statics hcS0 hiss (a' (.isRef (.static Bundle.tN "SUPPRESSED_SENTINEL" Bundle.listD)) (by simp [mm_owX]))
  obtain ⟨ci198, i198, fB, hk198, hg198, ha198, hsB, -, hnB, htB, hffB⟩ := Cond.ownField (t := .object "java/lang/Object") Y.found L.cls (by decide +kernel) (a' (.fieldLink Bundle.tN 198 Bundle.tN "backtrace" "Ljava/lang/Object;") (by simp [mm_owX])) (a' (.lays Bundle.tN Bundle.tN "backtrace" "Ljava/lang/Object;") (by simp [mm_owX])) e.platform hpl
  obtain ⟨cellS, hcS', heS, -, hkeep⟩ := X.same.2.2.2.2.2 T.aS cellS0 hcS0
  have hcellS : W.heap[T.aS]? = some cellS := hcS'
  have hout' : ∀ i, (⟨T.aS, i⟩ : Loc) ∉ locs := fun i hmem => by
    have := hlocs _ hmem cellS0 hcS0
    rw [hiss] at this; cases this
  have hknownS : cellS.vm ≠ .unknown := by
    rw [heS]; intro hu
    rw [show cellS0.vm = .unknown from hu] at hiss
    cases hiss
  have hneS : T.aS ≠ a := Nat.ne_of_lt (Nat.lt_of_lt_of_le (Array.getElem?_eq_some_iff.mp hcS0).1 hnew)
  obtain ⟨iM, hffM⟩ := Y.msg
  obtain ⟨tyC, dC, hdC, hdnC⟩ := Cond.laysAt hfound hk Y.cause (a' (.lays cls Bundle.tN "cause" "Ljava/lang/Throwable;") (by simp [mm_owX]))
  obtain ⟨tyS, dS, hdS, hdnS⟩ := Cond.laysAt hfound hk Y.stack (a' (.lays cls Bundle.tN "stackTrace" Bundle.steD) (by simp [mm_owX]))
  obtain ⟨tyP, dP, hdP, hdnP⟩ := Cond.laysAt hfound hk Y.supp (a' (.lays cls Bundle.tN "suppressedExceptions" Bundle.listD) (by simp [mm_owX]))
  obtain ⟨tyM, dM, hdM, hdnM⟩ := Cond.laysAt hfound hk hffM (a' (.lays cls Bundle.tN "detailMessage" "Ljava/lang/String;") (by simp [mm_owX]))
  obtain ⟨tyB, dB, hdB, hdnB⟩ := Cond.laysAt hfound hk hffB (a' (.lays cls Bundle.tN "backtrace" "Ljava/lang/Object;") (by simp [mm_owX]))
  have bC := Cond.laysApart hdB hdC hdnB hdnC (by rw [hnB, Y.causeName]; decide)
  have bS := Cond.laysApart hdB hdS hdnB hdnS (by rw [hnB, Y.stackName]; decide)
  have bP := Cond.laysApart hdB hdP hdnB hdnP (by rw [hnB, Y.suppName]; decide)
  have hskip : SkipFacts T e.platform s (fun u => u) u0 ((preparedCellV T.toThrowableT (freshCell P1.m.cls kX) a u0 sen).withEntry W.cur) :=
    ⟨{ ci198 := ci198, i198 := i198, fBack := fB }, ⟨hk198, hg198, ha198, hsB⟩, by
      have := fresh_default (c := P1.m.cls) tyB
      rw [htB] at this
      simpa [preparedCellV, Cell.setSlot, Cell.withEntry, Array.getElem?_setIfInBounds, bC, bS, bP, bC.symm, bS.symm, bP.symm, defaultValue] using this, fun _ _ => rfl⟩
                                     
  obtain ⟨tm, methC, cdC, kC, vm₁, hnC, -, -, -, -, -, -, -, hW₁, st1⟩ := Steps.initColdS (tb := p.tables) (e := e) (below := below) (s := s) (U := W) X.here hexec X.warmed hpl hown (t := Bundle.initS cls) rfl rfl (Bundle.fit_spec hcls).2
    (a' (.methodLink own ic (Bundle.initS cls)) (by simp [mm_owX])) (h (.instanceMethod (Bundle.initS cls)) (by simp [mm_owX, mm_chX, Bundle.passSAtoms])) (bytes := rx) (maxL := 2) (h (.code (Bundle.initS cls) rx 2 none) (by simp [mm_owX, mm_chX, Bundle.passSAtoms]))
    (f := g) hg (a := a) (msg := msg) (rest := .ref a :: rest) hstack hd6
  cases Option.some.inj (hnC.symm.trans hP1m)
  have X₁ := X.noted hW₁
                                 
  obtain ⟨vm₂, X₂, st2⟩ := X₁.ctorMessageOffV hexec (g := { g with stack := .ref a :: rest }) hg hsize T L Z LZ M LM (P1 :: Ps)
    (fun P hP => by rcases List.mem_cons.mp hP with rfl | hP; exact L1; exact hL P hP) ⟨hlink1, hlink⟩ (u0 := u0) (sen := sen) (self := a) hmsg (cell := freshCell P1.m.cls kX) (cellS := cellS)
    hcell (fun _ => by simp) (by simp) rfl rfl hsel0 hselF hcellS hneS hknownS (by rw [hkeep _ (hout' _)]; exact hu0) (by rw [hkeep _ (hout' _)]; exact hsen)
    (Takes.of_laid hk hord tyC (by rw [Y.causeType]; rfl)) (Takes.of_laid hk hord tyS (by rw [Y.stackType]; exact fits_refV_array _ u0)) (Takes.of_laid hk hord tyP (by rw [Y.suppType]; exact fits_refV_object _ sen))
    (Takes.of_laid hk hord tyM (by rw [Y.msgType]; exact fits_refV_object _ ⟨msg, hmsg⟩)) Y.objLocals hskip htr [] hd6
    (by simp only [List.length_cons, hlen]; omega) (by simp only [List.length_cons, hlen]; exact hRlocals)
                                    
  obtain ⟨hwalk, hrun, hended, hWU, hsame⟩ := X₂.athrowLeaves hexec (g := { g with stack := .ref a :: rest, pc := g.pc + 3 }) hg hlocked hentered hout (a := a) (rest := rest) rfl hd9
  obtain ⟨c3, c4, hc3, hc4, hasg⟩ := Cond.castable_spec (a' (.castable cls cls) (by simp [mm_owX]))
  cases Option.some.inj (hc3.symm.trans hfound)
  cases Option.some.inj (hc4.symm.trans hfound)
  have hlt : a < ((W.setVm vm₁).setVm vm₂).heap.size := (Array.getElem?_eq_some_iff.mp hcell).1
  have hU := heapAt_setCell_self (s := (W.setVm vm₁).setVm vm₂) (plainBareV T.toThrowableT (freshCell P1.m.cls kX) a u0 sen msg) hlt
  have hnM : T.fMsg.name = "detailMessage" := (State.fieldFound?_type hffM (t := .object "java/lang/String") (by decide +kernel)).1
  have nCS := Cond.laysApart hdC hdS hdnC hdnS (by rw [Y.causeName, Y.stackName]; decide)
  have nCP := Cond.laysApart hdC hdP hdnC hdnP (by rw [Y.causeName, Y.suppName]; decide)
  have nCM := Cond.laysApart hdC hdM hdnC hdnM (by rw [Y.causeName, hnM]; decide)
  have nSP := Cond.laysApart hdS hdP hdnS hdnP (by rw [Y.stackName, Y.suppName]; decide)
  have nSM := Cond.laysApart hdS hdM hdnS hdnM (by rw [Y.stackName, hnM]; decide)
  have nPM := Cond.laysApart hdP hdM hdnP hdnM (by rw [Y.suppName, hnM]; decide)
  have lC : T.fCause.slot < kX.instanceTypes.size := (Array.getElem?_eq_some_iff.mp tyC).1
  have lS : T.fStack.slot < kX.instanceTypes.size := (Array.getElem?_eq_some_iff.mp tyS).1
  have lP : T.fSupp.slot < kX.instanceTypes.size := (Array.getElem?_eq_some_iff.mp tyP).1
  have lM : T.fMsg.slot < kX.instanceTypes.size := (Array.getElem?_eq_some_iff.mp tyM).1
  have evU : ∀ o, (Term.static Bundle.tN "UNASSIGNED_STACK" Bundle.steD).eval args s o [] s = some u0.v := by
    intro o
    simp [Term.eval, State.fieldNamed?, Y.unassigned, L.unassignedStatic, L.statics, hcS0, hiss, hu0]
  have evS : ∀ o, (Term.static Bundle.tN "SUPPRESSED_SENTINEL" Bundle.listD).eval args s o [] s = some sen.v := by
    intro o
    simp [Term.eval, State.fieldNamed?, Y.sentinel, L.sentinelStatic, L.statics, hcS0, hiss, hsen]
  refine ⟨_, st1 _ (fun acts => ?_), hrun, hended, hWU, hsame.weaken (fun y hy hlt' => ?_) (Nat.le_refl _) (Nat.le_refl _), _, hU, ?_⟩
  · rw [doInvoke_state]
    exact st2 _ hwalk
  · rcases List.mem_append.mp hy with h1 | h1
    · exact h1
    · exfalso
      have hb : y.base = a := by
        simp only [List.mem_cons, List.not_mem_nil, or_false] at h1
        rcases h1 with rfl | rfl | rfl | rfl | rfl <;> rfl
      rw [hb] at hlt'
      exact Nat.not_lt.mpr hnew hlt'
  · exact ⟨hfound, rfl⟩
end MMX
section MMXE
variable {p : Program} {l : Launch} {e : Env} {R : Room} {s : State} {m : MethodId} {args : Array Value} {below : List Frame} {meth : Method} {c : Code} {H : Heap} {locs : List Loc} {cells slots : Nat} {Q : State → Prop}
variable {mc ms : Nat} {free : Addr → Prop} {A0 A1 : Nat → Prop} {H0 : Heap} {a : Array Value} {ls : Array Slot} {st0 rest : List Value}
variable {Qc : Array Value → State → Outcome → State → Prop} {XC : String → State → State → Prop}
set_option maxHeartbeats 4000000 in
theorem mm_throwX {cc : ByteArray} {pc : Nat} (hexec : p.tables.exec = Jvm.exec) (hb : c.code = cc) (hl : l.stackTraces = false) {own cls text Y0 : String} {rn : List String} {ix : Nat} {rx : ByteArray} (x0 : decode rx 0 = .ok (.aload_n 0, 1)) (x1 : decode rx 1 = .ok (.aload_n 1, 1)) (x2 : decode rx 2 = .ok (.invokespecial ix, 3)) (x5 : decode rx 5 = .ok (.return_, 1)) {ik is ic mc ms sa : Nat} {A : Nat → Prop}
    (hown : s.vm.findClass own = some m.cls) (hcls : Bundle.fit cls = true) (hnames : ∀ n ∈ Y0 :: rn, Bundle.fit n = true)
    (hk : (Cond.classLink own ik cls).before args s = true) (hini : (Cond.initialized cls).before args s = true) (hstr : vk_R own is text sa s) (hat : ∀ w ∈ (mm_owX own ic cls ix rx Y0 rn).filter vx_no, w.before args s = true)
    (hgood : ∀ w ∈ Cond.classLink own ik cls :: Cond.initialized cls :: (mm_owX own ic cls ix rx Y0 rn).filter vx_no, vx_ot w = true)
    (hU : vx_Zq Bundle.tN "UNASSIGNED_STACK" Bundle.steD A s s.heap) (hN : vx_Zq Bundle.tN "SUPPRESSED_SENTINEL" Bundle.listD A s s.heap) (hS : va_S A s.heap H locs) (hsize : ls.size = c.maxLocals)
    (d0 : decode cc pc = .ok (.new ik, 3)) (d3 : decode cc (pc + 3) = .ok (.dup, 1)) (d4 : decode cc (pc + 4) = .ok (.ldc is, 2)) (d6 : decode cc (pc + 6) = .ok (.invokespecial ic, 3)) (d9 : decode cc (pc + 9) = .ok (.athrow, 1))
    (hout : ∀ x ∈ c.exceptionTable.toList, covers x (pc + 9) = false)
    (hRframes : (Y0 :: rn).length + 3 < R.frames) (hRlocals : (rest.map fun v => v.category).sum + (13 * ((Y0 :: rn).length + 1) + 43) ≤ R.locals) (hRcells : cells + 1 ≤ R.cells) (hRslots : slots + 6 ≤ R.slots) (hlocks : meth.locks = false)
    (hx : ∀ t : State, s.vm.Alike t.vm → H.size ≤ t.heap.size → (∀ q : Nat, q < H.size → t.heap[q]? = H[q]?) → XC cls s t)
    (hf : ∀ z ∈ locs, free z.base) (hc : cells + 1 ≤ mc) (hs : slots + 6 ≤ ms) :
    W p l e R s m args below meth c H locs cells slots (vx_MQ below Qc XC args s mc ms free) (F0 m pc ls rest) := by
  intro T hT X
  have htr : e.platform.stackTraces = false := (show e.platform.stackTraces = l.stackTraces by rw [X.admits.platform]).trans hl
  have Y := vx_rebase X (R' := { frames := R.frames, locals := R.locals, cells := 1, slots := 6 }) (Nat.le_refl _) (Nat.le_refl _) hRcells hRslots
  obtain ⟨s', hA⟩ : ∃ z, z = (T.setVm s.vm).setFrames (.invoking m args :: below) := ⟨_, rfl⟩
  rw [← hA] at Y
  have hvm : s'.vm = s.vm := by rw [hA]; rfl
  have hhp : s'.heap = H := by rw [hA]; exact hT
  have hW0 : s.WarmedH s'.vm := by rw [hvm]; exact State.WarmedH.refl s
  have hat' : ∀ w ∈ (mm_owX own ic cls ix rx Y0 rn).filter vx_no, w.before args s' = true := fun w hw => vx_ot_at hW0 hvm.symm (hgood w (List.mem_cons_of_mem _ (List.mem_cons_of_mem _ hw))) (hat w hw)
  have hk' : (Cond.classLink own ik cls).before args s' = true := vx_ot_at hW0 hvm.symm (hgood _ List.mem_cons_self) hk
  have hini' : (Cond.initialized cls).before args s' = true := vx_ot_at hW0 hvm.symm (hgood _ (List.mem_cons_of_mem _ List.mem_cons_self)) hini
  have hU' : vx_Zq Bundle.tN "UNASSIGNED_STACK" Bundle.steD A s' s'.heap := by rw [hhp]; exact vx_Zq.moved hW0.alike (hU.kept hS.2.1)
  have hN' : vx_Zq Bundle.tN "SUPPRESSED_SENTINEL" Bundle.listD A s' s'.heap := by rw [hhp]; exact vx_Zq.moved hW0.alike (hN.kept hS.2.1)
  have h : ∀ w ∈ mm_owX own ic cls ix rx Y0 rn, w.before args s' = true := vx_own hat' (vx_isRefq hU'.1) (vx_isRefq hN'.1) hU'.2.word hN'.2.word
  have hown' : s'.vm.findClass own = some m.cls := by rw [hvm]; exact hown
  have hins : (Cond.instantiable cls 6).before args s' = true := h _ (by simp [mm_owX])
  obtain ⟨vm₁, cX, kX, hfX, hkX, -, -, X₁, st1⟩ := Y.newCold hexec (own := own) (C := cls) (index := ik) (n := 6) hown' hk' hins hini'
    (g := F0 m pc ls rest) rfl (by rw [hb]; exact d0) (Nat.le_refl _) (Nat.le_refl _)
  generalize hT1 : (T.setVm vm₁).pushCell { cls := cX, slots := kX.instanceTypes.map defaultValue, vm := .none } = T1 at X₁ st1
  have hcat : (Value.ref T.heap.size).category = 1 := rfl
  have hcellA : T1.heap[T.heap.size]? = some (freshCell cX kX) := by rw [← hT1]; exact State.heap_pushCell_size _ _
  have d3' : decode c.code (pc + 3) = .ok (.dup, 1) := by rw [hb]; exact d3
  have d4' : decode c.code (pc + 4) = .ok (.ldc is, 2) := by rw [hb]; exact d4
  have hstr' : vk_R own is text sa s' := vk_R.warm hW0 hstr
  obtain ⟨U, hsteps, hrun, hend, hW, hsame, ce, hce, hO, hO2⟩ := mm_ctorX X₁ hexec htr x0 x1 x2 x5 (own := own) (cls := cls) (ic := ic) hown' hcls hnames h (fun x hx => nomatch hx) hfX hkX hcellA (by rw [hhp, hT]; exact Nat.le_refl _) (msg := .ref sa) rfl
    (g := { method := m, pc := pc + 6, locals := ls, stack := .ref sa :: .ref T.heap.size :: .ref T.heap.size :: rest, locked := none }) rfl hsize rfl rfl (rest := rest) rfl
    (by rw [hb]; exact d6) (by rw [hb]; exact d9) hout hRframes (by simp only [List.map_cons, List.sum_cons, hcat]; omega) hlocks
  obtain ⟨f1, f2⟩ := vx_frame hsame
  rw [hhp] at f1 f2
  have hWs : s.WarmedH U.vm := State.WarmedH.trans hW0 hW
  have hcl : s.vm.findClass cls = some ce.cls := by
    have h9 := hO
    rw [hvm] at h9
    exact h9
  have hall : s.sameButNew ({ U with vm := s.vm } : State) locs mc ms := by
    subst hA
    obtain ⟨e1, e2⟩ := hsame
    rw [State.setFrames_setFrames] at e1
    have h2 : (T.setVm s.vm).sameButNew ({ U with vm := s.vm } : State) [] (0 + 1) (0 + 6) := ⟨e1, e2⟩
    have h3 := X.same.trans h2
    rw [List.append_nil] at h3
    exact h3.mono hc hs
  refine ⟨U, ?_, .threw T.heap.size, hrun, hend, Or.inr ⟨T.heap.size, rfl, cls, ce, locs, hx U hWs.alike f1 (fun q hq => f2 q hq (fun z hz => nomatch hz)), hce, hO2, hcl, hWs, hall, hf⟩⟩
  refine st1 _ ?_
  show Steps p.tables e below (T1.setTop { method := m, pc := pc + 3, locals := ls, stack := .ref T.heap.size :: rest, locked := none }) _
  jvm_step X₁.here [X₁.here.top, hexec, d3', Value.category]
  exact X₁.ldcString hexec (own := own) (text := text) (index := is) (a := sa) hown' hstr'.1 hstr'.2
    (g := { method := m, pc := pc + 4, locals := ls, stack := .ref T.heap.size :: .ref T.heap.size :: rest, locked := none }) rfl d4' _ hsteps
set_option maxHeartbeats 4000000 in
theorem mm_throwXW {cc : ByteArray} {pc : Nat} (hexec : p.tables.exec = Jvm.exec) (hb : c.code = cc) (hl : l.stackTraces = false) {own cls text Y0 : String} {rn : List String} {ix : Nat} {rx : ByteArray} (x0 : decode rx 0 = .ok (.aload_n 0, 1)) (x1 : decode rx 1 = .ok (.aload_n 1, 1)) (x2 : decode rx 2 = .ok (.invokespecial ix, 3)) (x5 : decode rx 5 = .ok (.return_, 1)) {ik is ic mc ms sa : Nat} {A : Nat → Prop}
    (hown : s.vm.findClass own = some m.cls) (hcls : Bundle.fit cls = true) (hnames : ∀ n ∈ Y0 :: rn, Bundle.fit n = true)
    (hk : (Cond.classLink own ik cls).before args s = true) (hini : (Cond.initialized cls).before args s = true) (hstr : vk_R own is text sa s) (hat : ∀ w ∈ (mm_owX own ic cls ix rx Y0 rn).filter vx_no, w.before args s = true)
    (hgood : ∀ w ∈ Cond.classLink own ik cls :: Cond.initialized cls :: (mm_owX own ic cls ix rx Y0 rn).filter vx_no, vx_ot w = true)
    (hU : vx_Zq Bundle.tN "UNASSIGNED_STACK" Bundle.steD A s s.heap) (hN : vx_Zq Bundle.tN "SUPPRESSED_SENTINEL" Bundle.listD A s s.heap) (hS : va_S A s.heap H locs) (hsize : ls.size = c.maxLocals)
    (d0 : decode cc pc = .ok (.new ik, 3)) (d3 : decode cc (pc + 3) = .ok (.dup, 1)) (d4 : decode cc (pc + 4) = .ok (.ldc_w is, 3)) (d7 : decode cc (pc + 7) = .ok (.invokespecial ic, 3)) (d10 : decode cc (pc + 10) = .ok (.athrow, 1))
    (hout : ∀ x ∈ c.exceptionTable.toList, covers x (pc + 10) = false)
    (hRframes : (Y0 :: rn).length + 3 < R.frames) (hRlocals : (rest.map fun v => v.category).sum + (13 * ((Y0 :: rn).length + 1) + 43) ≤ R.locals) (hRcells : cells + 1 ≤ R.cells) (hRslots : slots + 6 ≤ R.slots) (hlocks : meth.locks = false)
    (hx : ∀ t : State, s.vm.Alike t.vm → H.size ≤ t.heap.size → (∀ q : Nat, q < H.size → t.heap[q]? = H[q]?) → XC cls s t)
    (hf : ∀ z ∈ locs, free z.base) (hc : cells + 1 ≤ mc) (hs : slots + 6 ≤ ms) :
    W p l e R s m args below meth c H locs cells slots (vx_MQ below Qc XC args s mc ms free) (F0 m pc ls rest) := by
  intro T hT X
  have htr : e.platform.stackTraces = false := (show e.platform.stackTraces = l.stackTraces by rw [X.admits.platform]).trans hl
  have Y := vx_rebase X (R' := { frames := R.frames, locals := R.locals, cells := 1, slots := 6 }) (Nat.le_refl _) (Nat.le_refl _) hRcells hRslots
  obtain ⟨s', hA⟩ : ∃ z, z = (T.setVm s.vm).setFrames (.invoking m args :: below) := ⟨_, rfl⟩
  rw [← hA] at Y
  have hvm : s'.vm = s.vm := by rw [hA]; rfl
  have hhp : s'.heap = H := by rw [hA]; exact hT
  have hW0 : s.WarmedH s'.vm := by rw [hvm]; exact State.WarmedH.refl s
  have hat' : ∀ w ∈ (mm_owX own ic cls ix rx Y0 rn).filter vx_no, w.before args s' = true := fun w hw => vx_ot_at hW0 hvm.symm (hgood w (List.mem_cons_of_mem _ (List.mem_cons_of_mem _ hw))) (hat w hw)
  have hk' : (Cond.classLink own ik cls).before args s' = true := vx_ot_at hW0 hvm.symm (hgood _ List.mem_cons_self) hk
  have hini' : (Cond.initialized cls).before args s' = true := vx_ot_at hW0 hvm.symm (hgood _ (List.mem_cons_of_mem _ List.mem_cons_self)) hini
  have hU' : vx_Zq Bundle.tN "UNASSIGNED_STACK" Bundle.steD A s' s'.heap := by rw [hhp]; exact vx_Zq.moved hW0.alike (hU.kept hS.2.1)
  have hN' : vx_Zq Bundle.tN "SUPPRESSED_SENTINEL" Bundle.listD A s' s'.heap := by rw [hhp]; exact vx_Zq.moved hW0.alike (hN.kept hS.2.1)
  have h : ∀ w ∈ mm_owX own ic cls ix rx Y0 rn, w.before args s' = true := vx_own hat' (vx_isRefq hU'.1) (vx_isRefq hN'.1) hU'.2.word hN'.2.word
  have hown' : s'.vm.findClass own = some m.cls := by rw [hvm]; exact hown
  have hins : (Cond.instantiable cls 6).before args s' = true := h _ (by simp [mm_owX])
  obtain ⟨vm₁, cX, kX, hfX, hkX, -, -, X₁, st1⟩ := Y.newCold hexec (own := own) (C := cls) (index := ik) (n := 6) hown' hk' hins hini'
    (g := F0 m pc ls rest) rfl (by rw [hb]; exact d0) (Nat.le_refl _) (Nat.le_refl _)
  generalize hT1 : (T.setVm vm₁).pushCell { cls := cX, slots := kX.instanceTypes.map defaultValue, vm := .none } = T1 at X₁ st1
  have hcat : (Value.ref T.heap.size).category = 1 := rfl
  have hcellA : T1.heap[T.heap.size]? = some (freshCell cX kX) := by rw [← hT1]; exact State.heap_pushCell_size _ _
  have d3' : decode c.code (pc + 3) = .ok (.dup, 1) := by rw [hb]; exact d3
  have d4' : decode c.code (pc + 4) = .ok (.ldc_w is, 3) := by rw [hb]; exact d4
  have hstr' : vk_R own is text sa s' := vk_R.warm hW0 hstr
  obtain ⟨U, hsteps, hrun, hend, hW, hsame, ce, hce, hO, hO2⟩ := mm_ctorX X₁ hexec htr x0 x1 x2 x5 (own := own) (cls := cls) (ic := ic) hown' hcls hnames h (fun x hx => nomatch hx) hfX hkX hcellA (by rw [hhp, hT]; exact Nat.le_refl _) (msg := .ref sa) rfl
    (g := { method := m, pc := pc + 7, locals := ls, stack := .ref sa :: .ref T.heap.size :: .ref T.heap.size :: rest, locked := none }) rfl hsize rfl rfl (rest := rest) rfl
    (by rw [hb]; exact d7) (by rw [hb]; exact d10) hout hRframes (by simp only [List.map_cons, List.sum_cons, hcat]; omega) hlocks
  obtain ⟨f1, f2⟩ := vx_frame hsame
  rw [hhp] at f1 f2
  have hWs : s.WarmedH U.vm := State.WarmedH.trans hW0 hW
  have hcl : s.vm.findClass cls = some ce.cls := by
    have h9 := hO
    rw [hvm] at h9
    exact h9
  have hall : s.sameButNew ({ U with vm := s.vm } : State) locs mc ms := by
    subst hA
    obtain ⟨e1, e2⟩ := hsame
    rw [State.setFrames_setFrames] at e1
    have h2 : (T.setVm s.vm).sameButNew ({ U with vm := s.vm } : State) [] (0 + 1) (0 + 6) := ⟨e1, e2⟩
    have h3 := X.same.trans h2
    rw [List.append_nil] at h3
    exact h3.mono hc hs
  refine ⟨U, ?_, .threw T.heap.size, hrun, hend, Or.inr ⟨T.heap.size, rfl, cls, ce, locs, hx U hWs.alike f1 (fun q hq => f2 q hq (fun z hz => nomatch hz)), hce, hO2, hcl, hWs, hall, hf⟩⟩
  refine st1 _ ?_
  show Steps p.tables e below (T1.setTop { method := m, pc := pc + 3, locals := ls, stack := .ref T.heap.size :: rest, locked := none }) _
  jvm_step X₁.here [X₁.here.top, hexec, d3', Value.category]
  exact X₁.ldcStringW hexec (own := own) (text := text) (index := is) (a := sa) hown' hstr'.1 hstr'.2
    (g := { method := m, pc := pc + 4, locals := ls, stack := .ref T.heap.size :: .ref T.heap.size :: rest, locked := none }) rfl d4' _ hsteps
end MMXE
end
section
/-! calls, answers, throws: the mini machine's run is the machine's -/
def mm_rm1 (j : Nat) : Room := { frames := mm_fr j, cells := mm_mc j, slots := 6 * mm_mc j, locals := mm_lo j }
def mm_Pc (s0 : State) (D : va_G) (cs : Nat → ClassId) (ad : Nat → Nat) (b Ls : Nat) (xs : Nat → Int32) (ar : List Value) (v : mmM) : Array Value → State → Prop := va_Pc (ar.map (mm_vm ad)) (fun U => s0.WarmedH U.vm ∧ mm_HW s0 D cs ad b Ls xs v U.heap)
def mm_Qo (s0 : State) (D : va_G) (cs : Nat → ClassId) (ad : Nat → Nat) (b Ls : Nat) (xs : Nat → Int32) (o : mmO) (v : mmM) : Array Value → State → Outcome → State → Prop := fun _ st oc t => ∃ r : Option Value, o = .inl r ∧ oc = .returned (r.map (mm_vm ad)) ∧ mm_HW s0 D cs ad b Ls xs v t.heap ∧ va_F (mm_A s0) st t
def mm_Xo (s0 : State) (D : va_G) (cs : Nat → ClassId) (ad : Nat → Nat) (b Ls : Nat) (xs : Nat → Int32) (o : mmO) (v : mmM) : String → State → State → Prop := fun E st t => ∃ e : Nat, o = .inr e ∧ e < 5 ∧ E = mm_eN e ∧ mm_HW s0 D cs ad b Ls xs v t.heap ∧ va_F (mm_A s0) st t
def mm_rx : ByteArray := ⟨#[0x2a, 0x2b, 0xb7, 0x00, 0x0d, 0xb1]⟩
def mm_wsE (e : Nat) : List Cond := if e = 4 then (mm_owX RX5 (mm_eI 4).2 (mm_eN 4) 13 mm_rx "java/lang/RuntimeException" ["java/lang/Exception"]).filter vx_no else vx_atS RX5 (mm_eI e).2 (mm_eN e) mm_names
/-- an exception of the class's -/
def mm_ekk (e : Nat) : Bool := decide (Bundle.fit (mm_eN e) = true) && mm_names.all (fun n => decide (Bundle.fit n = true)) &&
  decide (Cond.classLink RX5 (mm_eI e).1 (mm_eN e) ∈ lw_tbl) && decide (Cond.initialized (mm_eN e) ∈ lw_tbl) && decide (Cond.castable (mm_eN e) (mm_eN e) ∈ lw_tbl) && (mm_wsE e).all (fun w => decide (w ∈ lw_tbl) && w.onTables && w.keepsOver && vx_ot w)
theorem mm_eka {e : Nat} (h : e < 5) : mm_ekk e = true := by
  have h0 : mm_ekk 0 = true := by decide +kernel
  have h1 : mm_ekk 1 = true := by decide +kernel
  have h2 : mm_ekk 2 = true := by decide +kernel
  have h3 : mm_ekk 3 = true := by decide +kernel
  have h4 : mm_ekk 4 = true := by decide +kernel
  match e, h with
  | 0, _ => exact h0
  | 1, _ => exact h1
  | 2, _ => exact h2
  | 3, _ => exact h3
  | 4, _ => exact h4
theorem mm_wrap_int : (List.range 199).all (fun k => (mm_hh k).isEmpty || (decide (mm_ret k = some .int) && decide (mm_own k = 7))) = true := by decide +kernel
theorem mm_tL_lt : mm_tL.all (fun t => decide (t.1 < 5)) = true := by decide +kernel
section MMC
variable {l : Launch} {s0 : State} {a0 : Array Value} {D : va_G} {cs : Nat → ClassId} {ad : Nat → Nat} {b Ls : Nat} {xs : Nat → Int32}
variable {p : Program} {e : Env} {R : Room} {s : State} {m : MethodId} {args : Array Value} {below : List Frame} {meth : Method} {c : Code} {H : Heap} {locs : List Loc} {cells slots : Nat} {Q : State → Prop} {k pc : Nat} {ls : Array Slot} {L S : List Value} {v v' : mmM}
theorem mm_HW.kept {H1 : Heap} (hw : mm_HW s0 D cs ad b Ls xs v H) (hz : H.size ≤ H1.size) (hq : ∀ q : Nat, q < H.size → H1[q]? = H[q]?) : mm_HW s0 D cs ad b Ls xs v H1 := by
  obtain ⟨w1, w2, w3, w4, w5⟩ := hw
  exact ⟨Nat.le_trans w1 hz, fun q h => (hq q (Nat.lt_of_lt_of_le h w1)).trans (w2 q h), w3.kept fun k q h => hq q.1 (w3 k q h).lt, w4, w5⟩
theorem mm_blind {ar : List Value} : FrameBlind (mm_Pc s0 D cs ad b Ls xs ar v) := by
  intro a U g mk h
  obtain ⟨h1, h2, h3⟩ := h
  exact ⟨h1, h2, h3⟩
/-- behind a call -/
theorem mm_call {o : mmO} {aa : Array Value} {mc ms : Nat} {rest st0 : List Value} (hr : vx_Run p l e R s m args below meth c H locs cells slots mc ms (F0 m pc ls st0) rest (mm_Qo s0 D cs ad b Ls xs o v' aa) (mm_Xo s0 D cs ad b Ls xs o v') (mm_A s0)) (hS : va_S (mm_A s0) s.heap H locs)
    (kk : ∀ (r : Option Value) (H1 : Heap) (locs1 : List Loc), o = .inl r → mm_HW s0 D cs ad b Ls xs v' H1 → va_S (mm_A s0) s.heap H1 locs1 → W p l e R s m args below meth c H1 locs1 (cells + mc) (slots + ms) Q (F0 m (pc + 3) ls ((r.map (mm_vm ad)).toList ++ rest)))
    (kx : ∀ (e1 : Nat) (q : Addr) (ce : Cell) (H1 : Heap) (locs1 : List Loc), o = .inr e1 → e1 < 5 → mm_HW s0 D cs ad b Ls xs v' H1 → va_S (mm_A s0) s.heap H1 locs1 → H1[q]? = some ce → ce.vm = .none → s.vm.findClass (mm_eN e1) = some ce.cls → vx_W p l e R s m args below meth c H1 locs1 (cells + mc) (slots + ms) Q (F0 m pc ls rest) q) :
    W p l e R s m args below meth c H locs cells slots Q (F0 m pc ls st0) := by
  intro T hT X
  rcases hr T hT X with ⟨v9, st₀, t, T', L, h0, X', hL, e1, e2, ⟨r, ho, hv, hw, hF⟩, st⟩ | ⟨q, st₀, t, T', L, E, ce, h0, X', hL, e1, e2, ⟨e9, ho, he, hE, hw, hF⟩, hce, hcv, hcl, st⟩
  · cases hv
    obtain ⟨k1, k2, k3⟩ := vx_keep h0 e1 hS (fun _ _ h => h) (fun _ h => h) hL hF
    obtain ⟨t2, a1, b1⟩ := kk r T'.heap (locs ++ L) ho (by rw [e1]; exact hw) k3 T' rfl X'
    exact ⟨t2, st t2 a1, b1⟩
  · obtain ⟨k1, k2, k3⟩ := vx_keep h0 e1 hS (fun _ _ h => h) (fun _ h => h) hL hF
    obtain ⟨t2, a1, b1⟩ := kx e9 q ce T'.heap (locs ++ L) ho he (by rw [e1]; exact hw) k3 (by rw [e1]; exact hce) hcv (by rw [← hE]; exact hcl) T' rfl X'
    exact ⟨t2, st.trans a1, b1⟩
/-- what mm_fm says -/
theorem mm_fm_sp {j : Nat} (h : mm_fm j = true) : plainName (mm_y j).cls = true ∧ ((mm_y j).cls ≠ "java/lang/invoke/MethodHandle" ∧ (mm_y j).cls ≠ "java/lang/invoke/VarHandle") ∧ (mm_y j).cls = mm_rn (mm_own j) ∧ (parseMethodDescriptor (mm_y j).desc).map (fun d => d.parameters.length) = some (mm_np j) ∧ mm_np j + (if mm_stt j then 0 else 1) ≤ mm_maxL j ∧
    mm_w (mm_ix j).1 (mm_cw j) = true ∧ goodWord (mm_cw j) = true ∧ (mm_stt j = true → mm_w (mm_ix j).2.1 (.static (mm_y j)) = true) ∧ (mm_stt j = false → mm_w (mm_ix j).2.1 (.instanceMethod (mm_y j)) = true ∧ mm_w (mm_ix j).2.2.1 (.selects (mm_rn (mm_own j)) (mm_y j) (mm_y j)) = true ∧ mm_own j < 7) ∧ mm_w (mm_ix j).2.2.2 (.initialized (mm_rn (mm_own j))) = true := by
  unfold mm_fm at h
  simp only [Bool.and_eq_true, decide_eq_true_eq] at h
  obtain ⟨⟨⟨⟨⟨⟨⟨⟨⟨⟨h1, h2⟩, h3⟩, h4⟩, -⟩, h5⟩, h6⟩, h7⟩, h8⟩, h9⟩, h10⟩ := h
  refine ⟨h1, ⟨h2, h3⟩, h4, h5, h6, h7, h8, fun q => ?_, fun q => ?_, h10⟩
  · rw [q] at h9
    simpa using h9
  · rw [q] at h9
    simp only [Bool.false_eq_true, if_false, Bool.and_eq_true, decide_eq_true_eq] at h9
    exact ⟨h9.1.1, h9.1.2, h9.2⟩
theorem mm_hlen {j n : Nat} {y : MethodName} (h : (parseMethodDescriptor y.desc).map (fun d => d.parameters.length) = some n) : ∀ sig, parseMethodDescriptor y.desc = some sig → n = sig.parameters.length := by
  intro sig hs
  rw [hs] at h
  exact (Option.some.inj h).symm
/-- a call of the mini machine is a call of the machine -/
theorem mm_run (B : mm_Bs l s0 a0 D cs b Ls xs) (X : mm_Fx s0 k p R s m meth c) {op : Instr × Nat × Nat} (hop : mm_op k pc = some op) {j np : Nat} {ar rest : List Value}
    (h : mm_ex none (fun c a => if c then a else none) (fun c a b => if c then a else b) (fun pc L S v => some (.inl (pc, L, S, v))) (fun j a r np => some (.inr (.inl (j, a, r, np)))) (fun r => some (.inr (.inr (.inl r)))) (fun e => some (.inr (.inr (.inr e)))) k pc op L S v = (some (.inr (.inl (j, ar, rest, np))) : Option mmR))
    (hw : mm_HW s0 D cs ad b Ls xs v H) (hl : mm_LR ad ls L) (hL : L.length = mm_maxL k) {o : mmO} (hM : vx_Met l (mm_y j) [mm_cw j] (mm_rm1 j) (mm_Pc s0 D cs ad b Ls xs ar v) (mm_Qo s0 D cs ad b Ls xs o v') (mm_Xo s0 D cs ad b Ls xs o v') (mm_mc j) (6 * mm_mc j) (mm_A s0)) (hc : cells + mm_mc j ≤ R.cells) (hs : slots + 6 * mm_mc j ≤ R.slots) :
    np = pc + 3 ∧ mm_cv k pc = true ∧ mm_fm j = true ∧ ar.length ≤ mm_maxL j ∧ (∀ x ∈ ar, x.category = 1) ∧ ∃ aa, vx_Run p l e R s m args below meth c H locs cells slots (mm_mc j) (6 * mm_mc j) (F0 m pc ls (S.map (mm_vm ad))) (rest.map (mm_vm ad)) (mm_Qo s0 D cs ad b Ls xs o v' aa) (mm_Xo s0 D cs ad b Ls xs o v') (mm_A s0) := by
  have hck := mm_opc hop
  obtain ⟨x1, x2, x3, x4, x5, x6, x7, x8, x9, x10, x11, x12, x13, x14⟩ := X
  have hK := mm_K B x7
  have hsize : ls.size = mm_maxL k := by rw [hl.1, hL]
  have wts : ∀ {T : List Value}, mm_wt T = true → ((T.map (mm_vm ad)).map fun v => v.category).sum ≤ 8 := by
    intro T hT
    rw [mm_vm_cats]
    exact of_decide_eq_true hT
  have hws : ∀ w ∈ [mm_cw j], mm_w (mm_ix j).1 (mm_cw j) = true → ∀ (a' : Array Value) (U : State), s.WarmedH U.vm → w.before a' U = true := by
    intro w hw1 hw2 a' U hU
    have : w = mm_cw j := by simpa using hw1
    subst this
    exact mm_wB B (State.WarmedH.trans x7 hU) hw2
  have hPS : ∀ (U : State), U.heap = H → s.WarmedH U.vm → mm_Pc s0 D cs ad b Ls xs ar v (ar.map (mm_vm ad)).toArray U := fun U h1 h2 => ⟨rfl, State.WarmedH.trans x7 h2, by rw [h1]; exact hw⟩
  have FX : CallFix p m c (mm_b k) (mm_maxL k) s args [] (mm_rn (mm_own k)) := ⟨x1, x2, x4, x5, fun w h => absurd h List.not_mem_nil⟩
  obtain ⟨i, np0, x⟩ := op
  cases i with
  | invokevirtual j0 =>
    simp only [mm_ex] at h
    split at h
    · rename_i i9 rest9 hdrop
      split at h
      · rename_i h9
        cases h
        simp only [Bool.and_eq_true, decide_eq_true_eq] at h9
        obtain ⟨⟨⟨⟨⟨n1, n2⟩, n3⟩, n4⟩, n5⟩, n6⟩ := h9
        simp only [mm_ck, Bool.and_eq_true, decide_eq_true_eq, Bool.not_eq_true'] at hck
        obtain ⟨⟨⟨⟨⟨⟨⟨rfl, h3⟩, h4⟩, h5⟩, h6⟩, h7⟩, h8⟩, h9⟩ := hck
        obtain ⟨f1, f2, f3, f4, f5, f6, f7, -, f9, f10⟩ := mm_fm_sp h6
        obtain ⟨f11, f12, f13⟩ := f9 h7
        unfold mm_rm at h5
        simp only [Bool.and_eq_true, decide_eq_true_eq] at h5
        have he := mm_wd_get (cs := cs) (ad := ad) (v := v) n1
        rw [mm_ent3 n2, n3] at he
        have hcw : mm_cw j = .code (mm_y j) (mm_b j) (mm_maxL j) (mm_ret j) := by unfold mm_cw; rw [if_pos h8]
        have hrecv := va_recv hK hw.2.2.1 (mm_clok f13) he
        have hcat : ∀ x ∈ Value.ref i9 :: (S.take (mm_np j)).reverse, x.category = 1 := by
          intro x hx
          rcases List.mem_cons.mp hx with rfl | hx
          · rfl
          · exact of_decide_eq_true (List.all_eq_true.mp n5 x (List.mem_reverse.mp hx))
        have htl : (S.take (mm_np j)).length = mm_np j := by rw [List.length_take]; omega
        have hlen9 : (Value.ref i9 :: (S.take (mm_np j)).reverse).length ≤ mm_maxL j := by
          rw [List.length_cons, List.length_reverse, htl]
          rw [h7] at f5
          simpa using f5
        have hsplit : S = S.take (mm_np j) ++ (Value.ref i9 :: rest) := by rw [← hdrop, List.take_append_drop]
        have hstk : S.map (mm_vm ad) = ((S.take (mm_np j)).reverse.map (mm_vm ad)).reverse ++ .ref (ad i9) :: rest.map (mm_vm ad) := by
          conv => lhs; rw [hsplit]
          rw [List.map_append, List.map_reverse, List.reverse_reverse]
          rfl
        refine ⟨rfl, h9, h6, hlen9, hcat, (Value.ref (ad i9) :: (S.take (mm_np j)).reverse.map (mm_vm ad)).toArray, ?_⟩
        have hpv : PreV s H (mm_rn (mm_own j)) (ad i9) (mm_Pc s0 D cs ad b Ls xs (Value.ref i9 :: (S.take (mm_np j)).reverse) v) ((S.take (mm_np j)).reverse.map (mm_vm ad)) := ⟨mm_blind, hrecv, hPS⟩
        have hAs : ((S.take (mm_np j)).reverse.map (mm_vm ad)).length = mm_np j := by rw [List.length_map, List.length_reverse, htl]
        have hcin : Cond.code (mm_y j) (mm_b j) (mm_maxL j) (mm_ret j) ∈ [mm_cw j] := by rw [hcw]; exact List.mem_cons_self
        have hini : (Cond.initialized (mm_y j).cls).before args s = true := by rw [f3]; exact mm_wB B x7 f10
        have hcode : (Cond.code (mm_y j) (mm_b j) (mm_maxL j) (mm_ret j)).before args s = true := by rw [← hcw]; exact mm_wB B x7 f6
        unfold mm_lk at h4
        split at h4
        · rename_i j' w hlk
          simp only [Bool.and_eq_true, decide_eq_true_eq] at h4
          obtain ⟨⟨-, h4⟩, -⟩ := h4
          exact vx_runVN (bytes := mm_b j) (maxL := mm_maxL j) (ret := mm_ret j) (As := (S.take (mm_np j)).reverse.map (mm_vm ad)) FX hM ⟨⟨⟨rfl, rfl, Nat.le_trans h5.1 x10, Nat.le_trans h5.2 x11, fun w hw1 => hws w hw1 f6, hcin⟩, hcode, hini, f2, mm_hlen (j := j) f4, mm_nM B x7 h4⟩, mm_wB B x7 f11, mm_wB B x7 f12⟩ hpv rfl hAs hsize hstk (lv_room (wts n4)) (mm_dcs h3) ⟨hc, hs⟩
        · rename_i j' w hlk
          simp only [Bool.and_eq_true, decide_eq_true_eq] at h4
          exact vx_runV (bytes := mm_b j) (maxL := mm_maxL j) (ret := mm_ret j) (As := (S.take (mm_np j)).reverse.map (mm_vm ad)) FX hM ⟨⟨rfl, rfl, Nat.le_trans h5.1 x10, Nat.le_trans h5.2 x11, fun w hw1 => hws w hw1 f6, hcin, hcode, hini, f2, mm_hlen (j := j) f4, mm_wB B x7 h4.2⟩, mm_wB B x7 f11, mm_wB B x7 f12⟩ hpv rfl hAs hsize hstk (lv_room (wts n4)) (mm_dcs h3) ⟨hc, hs⟩
        · cases h4
      · cases h
    · cases h
  | invokestatic j0 =>
    simp only [mm_ex] at h
    by_cases j1 : j0 = 1000
    · rw [if_pos j1] at h
      split at h
      · split at h <;> cases h
      · cases h
    rw [if_neg j1] at h
    by_cases j2 : j0 = 1001
    · rw [if_pos j2] at h
      split at h
      · split at h <;> cases h
      · cases h
    rw [if_neg j2] at h
    by_cases j3 : j0 = 1002
    · rw [if_pos j3] at h
      split at h
      · split at h <;> cases h
      · cases h
    rw [if_neg j3] at h
    by_cases j4 : j0 = 1003
    · rw [if_pos j4] at h
      split at h
      · split at h
        · split at h
          · split at h <;> cases h
          · cases h
        · cases h
      · cases h
    rw [if_neg j4] at h
    split at h
    · rename_i h9
      cases h
      simp only [Bool.and_eq_true, decide_eq_true_eq] at h9
      obtain ⟨⟨n6, n4⟩, n5⟩ := h9
      simp only [mm_ck, Bool.and_eq_true, decide_eq_true_eq] at hck
      obtain ⟨⟨rfl, h3⟩, h4⟩ := hck
      by_cases hj : 1000 ≤ j
      · rw [if_pos hj] at h4
        unfold mm_bk at h4
        simp only [Bool.and_eq_true, decide_eq_true_eq] at h4
        obtain ⟨-, h4⟩ := h4
        exfalso
        have hq : mm_lL.all (fun q => decide (q.2.2.1 < 1004)) = true := by decide +kernel
        split at h4
        · rename_i w9 hlk
          simp only [Bool.and_eq_true, decide_eq_true_eq] at h4
          have hmem : ∀ (l : List ((Nat × Nat) × (Bool × Nat × Nat))) (q : Nat × Nat) (z : Bool × Nat × Nat), l.lookup q = some z → (q, z) ∈ l := by
            intro l
            induction l with
            | nil => intro q z h; cases h
            | cons a l ih =>
              intro q z h
              obtain ⟨a1, a2⟩ := a
              rw [List.lookup_cons] at h
              by_cases e9 : q = a1
              · subst e9
                rw [beq_self_eq_true] at h
                cases h
                exact List.mem_cons_self
              · rw [show (q == a1) = false from beq_eq_false_iff_ne.mpr e9] at h
                exact List.mem_cons_of_mem _ (ih q z h)
          have h8 := of_decide_eq_true (List.all_eq_true.mp hq _ (hmem _ _ _ hlk))
          simp only at h8
          have h7 := h4.1
          omega
        · cases h4
      rw [if_neg hj] at h4
      simp only [Bool.and_eq_true] at h4
      obtain ⟨⟨⟨⟨h4, h5⟩, h6⟩, h7⟩, h9⟩ := h4
      obtain ⟨f1, f2, f3, f4, f5, f6, f7, f8, -, f10⟩ := mm_fm_sp h6
      have f8 := f8 h7
      unfold mm_rm at h5
      simp only [Bool.and_eq_true, decide_eq_true_eq] at h5
      have htl : (S.take (mm_np j)).length = mm_np j := by rw [List.length_take]; omega
      have hcat : ∀ x ∈ (S.take (mm_np j)).reverse, x.category = 1 := by
        intro x hx
        exact of_decide_eq_true (List.all_eq_true.mp n5 x (List.mem_reverse.mp hx))
      have hlen9 : ((S.take (mm_np j)).reverse).length ≤ mm_maxL j := by
        rw [List.length_reverse, htl]
        rw [h7] at f5
        simpa using f5
      have hstk : S.map (mm_vm ad) = ((S.take (mm_np j)).reverse.map (mm_vm ad)).reverse ++ (S.drop (mm_np j)).map (mm_vm ad) := by
        rw [List.map_reverse, List.reverse_reverse, ← List.map_append, List.take_append_drop]
      refine ⟨rfl, h9, h6, hlen9, hcat, ((S.take (mm_np j)).reverse.map (mm_vm ad)).toArray, ?_⟩
      have hps : PreS s H (mm_Pc s0 D cs ad b Ls xs (S.take (mm_np j)).reverse v) ((S.take (mm_np j)).reverse.map (mm_vm ad)) := ⟨mm_blind, hPS⟩
      have hAs : ((S.take (mm_np j)).reverse.map (mm_vm ad)).length = mm_np j := by rw [List.length_map, List.length_reverse, htl]
      have hini : (Cond.initialized (mm_y j).cls).before args s = true := by rw [f3]; exact mm_wB B x7 f10
      unfold mm_lk at h4
      split at h4
      · rename_i j' w hlk
        simp only [Bool.and_eq_true, decide_eq_true_eq] at h4
        obtain ⟨⟨-, h4⟩, hem⟩ := h4
        have hcw : mm_cw j = .code (mm_y j) (mm_b j) (mm_maxL j) (mm_ret j) := by unfold mm_cw; rw [if_pos hem]
        have hcin : Cond.code (mm_y j) (mm_b j) (mm_maxL j) (mm_ret j) ∈ [mm_cw j] := by rw [hcw]; exact List.mem_cons_self
        have hcode : (Cond.code (mm_y j) (mm_b j) (mm_maxL j) (mm_ret j)).before args s = true := by rw [← hcw]; exact mm_wB B x7 f6
        exact vx_runSN (bytes := mm_b j) (maxL := mm_maxL j) (ret := mm_ret j) (As := (S.take (mm_np j)).reverse.map (mm_vm ad)) FX hM ⟨⟨⟨rfl, rfl, Nat.le_trans h5.1 x10, Nat.le_trans h5.2 x11, fun w hw1 => hws w hw1 f6, hcin⟩, hcode, hini, f2, mm_hlen (j := j) f4, mm_nM B x7 h4⟩, mm_wB B x7 f8, trivial⟩ hps rfl hAs hsize hstk (lv_room (wts n4)) (mm_dcs h3) ⟨hc, hs⟩
      · rename_i j' w hlk
        simp only [Bool.and_eq_true, decide_eq_true_eq] at h4
        by_cases hem : (mm_hh j).isEmpty = true
        · have hcw : mm_cw j = .code (mm_y j) (mm_b j) (mm_maxL j) (mm_ret j) := by unfold mm_cw; rw [if_pos hem]
          have hcin : Cond.code (mm_y j) (mm_b j) (mm_maxL j) (mm_ret j) ∈ [mm_cw j] := by rw [hcw]; exact List.mem_cons_self
          have hcode : (Cond.code (mm_y j) (mm_b j) (mm_maxL j) (mm_ret j)).before args s = true := by rw [← hcw]; exact mm_wB B x7 f6
          exact vx_runS (bytes := mm_b j) (maxL := mm_maxL j) (ret := mm_ret j) (As := (S.take (mm_np j)).reverse.map (mm_vm ad)) FX hM ⟨⟨rfl, rfl, Nat.le_trans h5.1 x10, Nat.le_trans h5.2 x11, fun w hw1 => hws w hw1 f6, hcin, hcode, hini, f2, mm_hlen (j := j) f4, mm_wB B x7 h4.2⟩, mm_wB B x7 f8⟩ hps rfl hAs hsize hstk (lv_room (wts n4)) (mm_dcs h3) ⟨hc, hs⟩
        · have hcw : mm_cw j = .codeWith (mm_y j) (mm_b j) (mm_maxL j) (mm_ret j) (mm_hh j) := by unfold mm_cw; rw [if_neg hem]
          have hcin : Cond.codeWith (mm_y j) (mm_b j) (mm_maxL j) (mm_ret j) (mm_hh j) ∈ [mm_cw j] := by rw [hcw]; exact List.mem_cons_self
          have hcode : (Cond.codeWith (mm_y j) (mm_b j) (mm_maxL j) (mm_ret j) (mm_hh j)).before args s = true := by rw [← hcw]; exact mm_wB B x7 f6
          exact vx_runSX (hh := mm_hh j) (bytes := mm_b j) (maxL := mm_maxL j) (ret := mm_ret j) (As := (S.take (mm_np j)).reverse.map (mm_vm ad)) FX hM ⟨⟨rfl, rfl, Nat.le_trans h5.1 x10, Nat.le_trans h5.2 x11, fun w hw1 => hws w hw1 f6, hcin⟩, hcode, hini, f2, mm_hlen (j := j) f4, mm_wB B x7 h4.2, mm_wB B x7 f8⟩ hps rfl hAs hsize hstk (lv_room (wts n4)) (mm_dcs h3) ⟨hc, hs⟩
      · cases h4
    · cases h
  | _ =>
    exfalso
    simp only [mm_ex] at h
    (repeat' split at h) <;> cases h
end MMC
end
section
/-! THE MINI MACHINE IS THE MACHINE: a run that ends gives a contract -/
def mm_rtk (k pc : Nat) : Option Value → Prop
  | some (.int x) => decode (mm_b k) pc = .ok (.ireturn, 1) ∧ ∃ ty, mm_ret k = some ty ∧ narrow ty (.int x) = .int x
  | some (.float _) => decode (mm_b k) pc = .ok (.freturn, 1) ∧ mm_ret k = some .float
  | none => decode (mm_b k) pc = .ok (.return_, 1) ∧ mm_ret k = none
  | _ => False
def mm_SP (l : Launch) (s0 : State) (D : va_G) (cs : Nat → ClassId) (ad : Nat → Nat) (b Ls : Nat) (xs : Nat → Int32) (n : Nat) : Prop :=
  ∀ (k pc : Nat) (L S : List Value) (v : mmM) (c : Nat) (o : mmO) (v' : mmM), mm_go n k pc L S v c = some (o, v') →
  ∀ (p : Program) (e : Env) (R : Room) (s : State) (m : MethodId) (args : Array Value) (below : List Frame) (meth : Method) (cd : Code) (Q : State → Prop), mm_Fx s0 k p R s m meth cd → L.length = mm_maxL k → c ≤ mm_mc k →
  (∀ (r : Option Value) (pc1 : Nat) (H : Heap) (locs : List Loc) (ls : Array Slot) (c1 : Nat), o = .inl r → mm_HW s0 D cs ad b Ls xs v' H → va_S (mm_A s0) s.heap H locs → c1 ≤ mm_mc k → mm_rtk k pc1 r → W p l e R s m args below meth cd H locs c1 (6 * c1) Q (F0 m pc1 ls (r.map (mm_vm ad)).toList)) →
  (∀ (t pc1 : Nat) (H : Heap) (locs : List Loc) (ls : Array Slot) (c1 : Nat), o = .inr (mm_tL.getD t (0, 0, 0, 0, 0, "", false)).1 → mm_tk k pc1 t = true → mm_HW s0 D cs ad b Ls xs v' H → va_S (mm_A s0) s.heap H locs → ls.size = mm_maxL k → c1 + 1 ≤ mm_mc k → W p l e R s m args below meth cd H locs c1 (6 * c1) Q (F0 m pc1 ls [])) →
  (∀ (e1 : Nat) (q : Addr) (ce : Cell) (pc1 : Nat) (H : Heap) (locs : List Loc) (ls : Array Slot) (c1 : Nat) (rest : List Value), o = .inr e1 → e1 < 5 → mm_hh k = [] → mm_HW s0 D cs ad b Ls xs v' H → va_S (mm_A s0) s.heap H locs → H[q]? = some ce → ce.vm = .none → s.vm.findClass (mm_eN e1) = some ce.cls → c1 ≤ mm_mc k → vx_W p l e R s m args below meth cd H locs c1 (6 * c1) Q (F0 m pc1 ls rest) q) →
  mm_G l s0 D cs ad b Ls xs p e R s m args below meth cd c (6 * c) Q v L S pc
section MMM
variable {l : Launch} {s0 : State} {a0 : Array Value} {D : va_G} {cs : Nat → ClassId} {ad : Nat → Nat} {b Ls : Nat} {xs : Nat → Int32}
variable {p : Program} {e : Env} {R : Room} {s : State} {m : MethodId} {args : Array Value} {below : List Frame} {meth : Method} {c : Code} {H : Heap} {locs : List Loc} {cells slots : Nat} {Q : State → Prop} {k pc : Nat} {ls : Array Slot} {L S : List Value} {v v' : mmM}
theorem mm_noTab (X : mm_Fx s0 k p R s m meth c) (h : mm_hh k = []) : ∀ x ∈ c.exceptionTable.toList, False := by
  intro x hx
  have := X.2.2.2.2.2.2.2.2.2.2.2.2.2
  rw [h] at this
  rw [this] at hx
  exact absurd hx List.not_mem_nil
/-- a throw of the class's own -/
theorem mm_thr (B : mm_Bs l s0 a0 D cs b Ls xs) (X : mm_Fx s0 k p R s m meth c) {t c1 : Nat} {o : mmO} (ht : mm_tk k pc t = true) (ho : o = .inr (mm_tL.getD t (0, 0, 0, 0, 0, "", false)).1) (hw : mm_HW s0 D cs ad b Ls xs v' H) (hS : va_S (mm_A s0) s.heap H locs) (hls : ls.size = mm_maxL k) (hc : c1 + 1 ≤ mm_mc k) :
    W p l e R s m args below meth c H locs c1 (6 * c1) (vx_MQ below (mm_Qo s0 D cs ad b Ls xs o v') (mm_Xo s0 D cs ad b Ls xs o v') args s (mm_mc k) (6 * mm_mc k) (mm_A s0)) (F0 m pc ls []) := by
  obtain ⟨x1, x2, x3, x4, x5, x6, x7, x8, x9, x10, x11, x12, x13, x14⟩ := id X
  unfold mm_tk at ht
  cases hq : mm_tL[t]? with
  | none => rw [hq] at ht; cases ht
  | some q =>
    obtain ⟨e1, own, ik, is, ic, tx, wd⟩ := q
    rw [hq] at ht
    simp only [Bool.and_eq_true, decide_eq_true_eq] at ht
    obtain ⟨⟨⟨⟨⟨⟨⟨⟨⟨⟨t1, t2⟩, t3⟩, t4⟩, t5⟩, t6⟩, t7⟩, t8⟩, t9⟩, t10⟩, t11⟩ := ht
    have hem : mm_hh k = [] := by simpa using t8
    have hget : (mm_tL.getD t (0, 0, 0, 0, 0, "", false)).1 = e1 := by rw [List.getD_eq_getElem?_getD, hq]; rfl
    rw [hget] at ho
    obtain ⟨sa, hsa⟩ := B.2.2.2.2.2.1 _ (List.mem_of_getElem? hq)
    have hsb : vk_R RX5 is tx sa s := vk_R.warm x7 hsa
    have hek := mm_eka t1
    unfold mm_ekk at hek
    simp only [Bool.and_eq_true, decide_eq_true_eq] at hek
    obtain ⟨⟨⟨⟨⟨g1, g2⟩, g3⟩, g4⟩, g5⟩, g6⟩ := hek
    have hik : ik = (mm_eI e1).1 := congrArg Prod.fst t4
    have hic : ic = (mm_eI e1).2 := congrArg Prod.snd t4
    subst hik; subst hic
    have hown : s.vm.findClass RX5 = some m.cls := by rw [t3] at x5; exact x5
    have hnm : ∀ n ∈ mm_names, Bundle.fit n = true := fun n hn => of_decide_eq_true (List.all_eq_true.mp g2 n hn)
    have k1 : (Cond.classLink RX5 (mm_eI e1).1 (mm_eN e1)).before args s = true := mm_wk x7 rfl rfl (B.2.1 _ g3)
    have k2 : (Cond.initialized (mm_eN e1)).before args s = true := mm_wk x7 rfl rfl (B.2.1 _ g4)
    have k3 : ∀ w ∈ mm_wsE e1, w.before args s = true := by
      intro w hw1
      have h1 := List.all_eq_true.mp g6 w hw1
      simp only [Bool.and_eq_true, decide_eq_true_eq] at h1
      exact mm_wk x7 h1.1.1.2 h1.1.2 (B.2.1 w h1.1.1.1)
    have k4 : ∀ w ∈ Cond.classLink RX5 (mm_eI e1).1 (mm_eN e1) :: Cond.initialized (mm_eN e1) :: mm_wsE e1, vx_ot w = true := by
      intro w hw1
      rcases List.mem_cons.mp hw1 with rfl | hw1
      · rfl
      · rcases List.mem_cons.mp hw1 with rfl | hw1
        · rfl
        · have h1 := List.all_eq_true.mp g6 w hw1
          simp only [Bool.and_eq_true, decide_eq_true_eq] at h1
          exact h1.2
    have hq9 : ∀ a : Nat, a < s0.heap.size → ¬ mm_A s0 a → s.heap[a]? = s0.heap[a]? := fun a h _ => x9 a h
    have hU : vx_Zq Bundle.tN "UNASSIGNED_STACK" Bundle.steD (mm_A s0) s s.heap := (vx_Zq.moved x7.alike B.2.2.2.1).kept hq9
    have hN : vx_Zq Bundle.tN "SUPPRESSED_SENTINEL" Bundle.listD (mm_A s0) s s.heap := (vx_Zq.moved x7.alike B.2.2.2.2.1).kept hq9
    have hsz : ls.size = c.maxLocals := by rw [hls, x4]
    have hx : ∀ t : State, s.vm.Alike t.vm → H.size ≤ t.heap.size → (∀ q : Nat, q < H.size → t.heap[q]? = H[q]?) → mm_Xo s0 D cs ad b Ls xs o v' (mm_eN e1) s t := by
      intro t _ h1 h2
      exact ⟨e1, ho, t1, rfl, hw.kept h1 h2, Nat.le_trans hS.1 h1, fun q q1 q2 => (h2 q (Nat.lt_of_lt_of_le q1 hS.1)).trans (hS.2.1 q q1 q2)⟩
    have r1 : 5 < R.frames := Nat.lt_of_lt_of_le t6 x10
    have r2 : 82 ≤ R.locals := Nat.le_trans t7 x11
    have r3 : c1 + 1 ≤ R.cells := Nat.le_trans hc x12
    have r4 : 6 * c1 + 6 ≤ R.slots := by omega
    have y0 : decode mm_rx 0 = .ok (.aload_n 0, 1) := by decide +kernel
    have y1 : decode mm_rx 1 = .ok (.aload_n 1, 1) := by decide +kernel
    have y2 : decode mm_rx 2 = .ok (.invokespecial 13, 3) := by decide +kernel
    have y5 : decode mm_rx 5 = .ok (.return_, 1) := by decide +kernel
    by_cases e4 : e1 = 4
    · subst e4
      have k3' : ∀ w ∈ (mm_owX RX5 (mm_eI 4).2 (mm_eN 4) 13 mm_rx "java/lang/RuntimeException" ["java/lang/Exception"]).filter vx_no, w.before args s = true := k3
      cases wd with
      | false =>
        simp only [Bool.false_eq_true, if_false, Bool.and_eq_true] at t11
        exact mm_throwX (A := mm_A s0) x1 x2 B.1 y0 y1 y2 y5 hown g1 hnm k1 k2 hsb k3' k4 hU hN hS hsz (mm_dcs t9) (mm_dcs t10) (mm_dcs t11.1.1) (mm_dcs t11.1.2) (mm_dcs t11.2) (fun x hx => (mm_noTab X hem x hx).elim) r1 r2 r3 r4 x6 hx hS.2.2 hc (by omega)
      | true =>
        simp only [if_true, Bool.and_eq_true] at t11
        exact mm_throwXW (A := mm_A s0) x1 x2 B.1 y0 y1 y2 y5 hown g1 hnm k1 k2 hsb k3' k4 hU hN hS hsz (mm_dcs t9) (mm_dcs t10) (mm_dcs t11.1.1) (mm_dcs t11.1.2) (mm_dcs t11.2) (fun x hx => (mm_noTab X hem x hx).elim) r1 r2 r3 r4 x6 hx hS.2.2 hc (by omega)
    · have ew : mm_wsE e1 = vx_atS RX5 (mm_eI e1).2 (mm_eN e1) mm_names := by unfold mm_wsE; rw [if_neg e4]
      rw [ew] at k3 k4
      cases wd with
      | false =>
        simp only [Bool.false_eq_true, if_false, Bool.and_eq_true] at t11
        exact vx_throwS (A := mm_A s0) x1 x2 B.1 hown g1 hnm k1 k2 hsb k3 k4 hU hN hS hsz (mm_dcs t9) (mm_dcs t10) (mm_dcs t11.1.1) (mm_dcs t11.1.2) (mm_dcs t11.2) (fun x hx => (mm_noTab X hem x hx).elim) r1 r2 r3 r4 x6 hx hS.2.2 hc (by omega)
      | true =>
        simp only [if_true, Bool.and_eq_true] at t11
        exact vx_throwSW (A := mm_A s0) x1 x2 B.1 hown g1 hnm k1 k2 hsb k3 k4 hU hN hS hsz (mm_dcs t9) (mm_dcs t10) (mm_dcs t11.1.1) (mm_dcs t11.1.2) (mm_dcs t11.2) (fun x hx => (mm_noTab X hem x hx).elim) r1 r2 r3 r4 x6 hx hS.2.2 hc (by omega)
theorem mm_ofN (i : Nat) : Int32.ofInt ((i : Int) + 1) = Int32.ofNat (i + 1) := by
  rw [show ((i : Int) + 1) = ((i + 1 : Nat) : Int) by omega]
  first | rfl | exact Int32.ofInt_eq_ofNat | simp
theorem mm_cn_eN {h : Nat × Nat × Nat × Nat} (hk : k < 199) : ∃ e2, e2 < 5 ∧ mm_hd.mm_cn k h = mm_eN e2 := by
  unfold mm_hd.mm_cn
  split
  · exact ⟨0, by decide, rfl⟩
  · exact ⟨1, by decide, rfl⟩
  · exact ⟨2, by decide, rfl⟩
  · exact ⟨3, by decide, rfl⟩
  · rw [if_pos (by omega)]
    exact ⟨4, by decide, rfl⟩
/-- a handler of the law's little methods -/
theorem mm_catch (B : mm_Bs l s0 a0 D cs b Ls xs) (X : mm_Fx s0 k p R s m meth c) (hk : k < 199) (hcv : mm_cv k pc = true) {e1 : Nat} {x : Int32} (hd : mm_hd k e1 = some x) (he : e1 < 5) {q : Addr} {ce : Cell} {rest : List Value} (hl : mm_LR ad ls L) (hL : L.length = mm_maxL k)
    (hcell : H[q]? = some ce) (hv : ce.vm = .none) (hcl : s.vm.findClass (mm_eN e1) = some ce.cls)
    (kk : ∀ (pc2 : Nat) (ls2 : Array Slot), decode (mm_b k) pc2 = .ok (.ireturn, 1) → W p l e R s m args below meth c H locs cells slots Q (F0 m pc2 ls2 [.int x])) :
    vx_W p l e R s m args below meth c H locs cells slots Q (F0 m pc ls rest) q := by
  obtain ⟨x1, x2, x3, x4, x5, x6, x7, x8, x9, x10, x11, x12, x13, x14⟩ := id X
  unfold mm_hd at hd
  cases hf : (mm_hh k).findIdx? (fun h => decide (mm_hd.mm_cn k h = mm_eN e1)) with
  | none => rw [hf] at hd; cases hd
  | some i =>
    rw [hf] at hd
    cases hd
    obtain ⟨hi, h1, h2⟩ := List.findIdx?_eq_some_iff_getElem.mp hf
    have h1 := of_decide_eq_true h1
    have hz : ((mm_hh k)[i], i) ∈ (mm_hh k).zipIdx := by
      refine List.mem_of_getElem? (i := i) ?_
      rw [List.getElem?_zipIdx, List.getElem?_eq_getElem hi]
      simp
    have hkc := List.all_eq_true.mp (mm_hkc hk) _ hz
    simp only [Bool.and_eq_true, decide_eq_true_eq] at hkc
    obtain ⟨⟨⟨c1, c2⟩, c3⟩, c4⟩ := hkc
    have hown : s.vm.findClass RL = some m.cls := by rw [c3] at x5; exact x5
    have hsplit : c.exceptionTable.toList = tableOf ((mm_hh k).take i) ++ (⟨(mm_hh k)[i].1, (mm_hh k)[i].2.1, (mm_hh k)[i].2.2.1, (mm_hh k)[i].2.2.2⟩ : ExceptionTableEntry) :: tableOf ((mm_hh k).drop (i + 1)) := by
      rw [x14]
      conv => lhs; rw [← List.take_append_drop i (mm_hh k), List.drop_eq_getElem_cons hi]
      unfold tableOf
      rw [List.map_append, List.map_cons]
    have hcov := List.all_eq_true.mp hcv _ (List.getElem_mem hi)
    simp only [Bool.and_eq_true, decide_eq_true_eq] at hcov
    have hkk := mm_eka he
    unfold mm_ekk at hkk
    simp only [Bool.and_eq_true, decide_eq_true_eq] at hkk
    refine vx_catch (own := RL) (name := mm_eN e1) hown _ _ _ hsplit (fun z hz => ?_) ?_ c1 (mm_wk x7 rfl rfl (B.2.1 _ (h1 ▸ c2))) (mm_wk x7 rfl rfl (B.2.1 _ hkk.1.2)) hcell hv hcl ?_
    · right
      unfold tableOf at hz
      obtain ⟨h9, hm9, rfl⟩ := List.mem_map.mp hz
      obtain ⟨i9, hi9, e9⟩ := List.mem_take_iff_getElem.mp hm9
      have hi9' : i9 < i := by omega
      have hne := h2 i9 hi9'
      have hz9 : ((mm_hh k)[i9], i9) ∈ (mm_hh k).zipIdx := by
        refine List.mem_of_getElem? (i := i9) ?_
        rw [List.getElem?_zipIdx, List.getElem?_eq_getElem (by omega)]
        simp
      have hkc9 := List.all_eq_true.mp (mm_hkc hk) _ hz9
      simp only [Bool.and_eq_true, decide_eq_true_eq] at hkc9
      obtain ⟨⟨⟨d1, d2⟩, -⟩, -⟩ := hkc9
      obtain ⟨e2, he2, hn2⟩ := mm_cn_eN (k := k) (h := (mm_hh k)[i9]) hk
      subst e9
      refine ⟨d1, mm_eN e2, mm_wk x7 rfl rfl (B.2.1 _ (hn2 ▸ d2)), va_Nc.moved x7.alike (B.2.2.2.2.2.2.1 e1 e2 he he2 (fun q => ?_))⟩
      subst q
      exact hne (by simpa using hn2)
    · simp [covers, hcov.1, hcov.2]
    · show W p l e R s m args below meth c H locs cells slots Q (F0 m (mm_hh k)[i].2.2.1 ls [.ref q])
      split at c4
      · rename_i a hdec
        simp only [Bool.and_eq_true, decide_eq_true_eq] at c4
        obtain ⟨⟨c5, c6⟩, c7⟩ := c4
        exact lv_astore_n x1 x2 hdec rfl hl.has (by rw [hL]; exact c5) rfl (fun ls1 _ => lv_iconst x1 x2 (mm_dcs c6) (mm_ofN i) (kk _ ls1 (mm_dcs c7)))
      · rename_i a hdec
        simp only [Bool.and_eq_true, decide_eq_true_eq] at c4
        obtain ⟨⟨c5, c6⟩, c7⟩ := c4
        exact lv_astore x1 x2 hdec hl.has (by rw [hL]; exact c5) rfl (fun ls1 _ => lv_iconst x1 x2 (mm_dcs c6) (mm_ofN i) (kk _ ls1 (mm_dcs c7)))
      · cases c4
end MMM
end
section
section MMT
variable {l : Launch} {s0 : State} {a0 : Array Value} {D : va_G} {cs : Nat → ClassId} {ad : Nat → Nat} {b Ls : Nat} {xs : Nat → Int32}
theorem mm_rt_end {p : Program} {e : Env} {R : Room} {s : State} {m : MethodId} {args : Array Value} {below : List Frame} {meth : Method} {c : Code} {k pc1 c1 : Nat} {o : mmO} {v' : mmM} {r : Option Value} {H : Heap} {locs : List Loc} {ls : Array Slot} (X : mm_Fx s0 k p R s m meth c) (ho : o = .inl r) (hw : mm_HW s0 D cs ad b Ls xs v' H) (hS : va_S (mm_A s0) s.heap H locs) (hc : c1 ≤ mm_mc k) (hr : mm_rtk k pc1 r) :
    W p l e R s m args below meth c H locs c1 (6 * c1) (vx_MQ below (mm_Qo s0 D cs ad b Ls xs o v') (mm_Xo s0 D cs ad b Ls xs o v') args s (mm_mc k) (6 * mm_mc k) (mm_A s0)) (F0 m pc1 ls (r.map (mm_vm ad)).toList) := by
  obtain ⟨x1, x2, x3, x4, x5, x6, -⟩ := id X
  refine vx_ret (W.widen (k := mm_mc k) (n := 6 * mm_mc k) hc (by omega) ?_)
  have hq : ∀ t : State, t.heap = H → s.WarmedH t.vm → mm_Qo s0 D cs ad b Ls xs o v' args s (.returned (r.map (mm_vm ad))) t := fun t ht _ => ⟨r, ho, rfl, by rw [ht]; exact hw, hS.F ht⟩
  match r, hr, hq with
  | none, hr, hq => exact W.vret x1 x2 (x3.trans hr.2) hq hS.2.2 hr.1 x6
  | some (.int x), hr, hq =>
    obtain ⟨h1, ty, h2, h3⟩ := hr
    exact W.zret x1 x2 (x3.trans h2) h3 hq hS.2.2 h1 x6
  | some (.float x), hr, hq => exact W.fret x1 x2 (x3.trans hr.2) hq hS.2.2 hr.1 x6
theorem mm_met (B : mm_Bs l s0 a0 D cs b Ls xs) {n : Nat} (P : mm_SP l s0 D cs ad b Ls xs n) {j : Nat} {ar : List Value} {v v' : mmM} {o : mmO} (hf : mm_fm j = true) (hgo : mm_go n j 0 (mm_en j ar) [] v 0 = some (o, v')) (hle : ar.length ≤ mm_maxL j) (hcat : ∀ x ∈ ar, x.category = 1) :
    vx_Met l (mm_y j) [mm_cw j] (mm_rm1 j) (mm_Pc s0 D cs ad b Ls xs ar v) (mm_Qo s0 D cs ad b Ls xs o v') (mm_Xo s0 D cs ad b Ls xs o v') (mm_mc j) (6 * mm_mc j) (mm_A s0) := by
  obtain ⟨f1, f2, f3, f4, f5, f6, f7, f8, f9, f10⟩ := mm_fm_sp hf
  have hlen : (mm_en j ar).length = mm_maxL j := by
    unfold mm_en
    rw [List.length_append, List.length_replicate]
    omega
  by_cases hem : (mm_hh j).isEmpty = true
  · have hnil : mm_hh j = [] := by simpa using hem
    refine vx_ofW (cc := mm_b j) (maxL := mm_maxL j) (ret := mm_ret j) f1 (ws' := []) (by unfold mm_cw; rw [if_pos hem]) ?_
    intro p e s m args below meth c s₁ B' hml hex hv
    obtain ⟨rfl, hW, hw⟩ := hv
    have X : mm_Fx s0 j p (mm_rm1 j) s m meth c := ⟨B'.exec, B'.bytes, B'.returns, hml, by rw [← f3]; exact findClass_of_methodNamed B'.named, B'.notSynchronized, hW, hw.1, hw.2.1, Nat.le_refl _, Nat.le_refl _, Nat.le_refl _, Nat.le_refl _, by
      rw [hnil]
      exact List.eq_nil_iff_forall_not_mem.mpr fun x hx => hex x hx⟩
    rw [lg_entry_eq]
    exact P j 0 (mm_en j ar) [] v 0 o v' hgo p e (mm_rm1 j) s m _ below meth c _ X hlen (Nat.zero_le _)
      (fun r pc1 H locs ls c1 ho hw1 hS1 hc1 hr1 => mm_rt_end X ho hw1 hS1 hc1 hr1)
      (fun t pc1 H locs ls c1 ho ht hw1 hS1 hls hc1 => mm_thr B X ht ho hw1 hS1 hls hc1)
      (fun e1 q ce pc1 H locs ls c1 rest ho he hn hw1 hS1 hce hcv hcl hc1 => vx_out (fun x hx => (mm_noTab X hn x hx).elim) X.2.2.2.2.2.1 hce hcv hcl (fun t ht _ => ⟨e1, ho, he, rfl, by rw [ht]; exact hw1, hS1.F ht⟩) hS1.2.2 hc1 (by omega))
      s.heap [] _ hw va_S.rf (mm_LR.entry hcat hle)
  · have hne : mm_hh j ≠ [] := fun q => hem (by rw [q]; rfl)
    have hcw : mm_cw j = .codeWith (mm_y j) (mm_b j) (mm_maxL j) (mm_ret j) (mm_hh j) := by unfold mm_cw; rw [if_neg hem]
    refine vx_ofWH (cc := mm_b j) (maxL := mm_maxL j) (ret := mm_ret j) (hh := mm_hh j) f1 (ws' := []) (by rw [hcw]) ?_
    intro p e s m args below meth c s₁ B' hml hv
    obtain ⟨rfl, hW, hw⟩ := hv
    have X : mm_Fx s0 j p (mm_rm1 j) s m meth c := ⟨B'.exec, B'.bytes, B'.returns, hml, by rw [← f3]; exact findClass_of_methodNamed B'.named, B'.notSynchronized, hW, hw.1, hw.2.1, Nat.le_refl _, Nat.le_refl _, Nat.le_refl _, Nat.le_refl _, vx_table (x := mm_y j) B' (bytes := mm_b j) (maxL' := mm_maxL j) (ret' := mm_ret j) (by
      rw [← hcw]
      exact mm_wB B hW f6)⟩
    rw [lg_entry_eq]
    exact P j 0 (mm_en j ar) [] v 0 o v' hgo p e (mm_rm1 j) s m _ below meth c _ X hlen (Nat.zero_le _)
      (fun r pc1 H locs ls c1 ho hw1 hS1 hc1 hr1 => mm_rt_end X ho hw1 hS1 hc1 hr1)
      (fun t pc1 H locs ls c1 ho ht hw1 hS1 hls hc1 => mm_thr B X ht ho hw1 hS1 hls hc1)
      (fun e1 q ce pc1 H locs ls c1 rest ho he hn hw1 hS1 hce hcv hcl hc1 => absurd hn hne)
      s.heap [] _ hw va_S.rf (mm_LR.entry hcat hle)
/-- answers and throws of the mini machine -/
theorem mm_ex_rt {k pc : Nat} {op : Instr × Nat × Nat} {L S : List Value} {v : mmM} {r : Option Value} (hop : mm_op k pc = some op)
    (h : mm_ex none (fun c a => if c then a else none) (fun c a b => if c then a else b) (fun pc L S v => some (.inl (pc, L, S, v))) (fun j a r np => some (.inr (.inl (j, a, r, np)))) (fun r => some (.inr (.inr (.inl r)))) (fun e => some (.inr (.inr (.inr e)))) k pc op L S v = (some (.inr (.inr (.inl r))) : Option mmR)) : mm_rtk k pc r ∧ S = r.toList ∧ ∀ ad, S.map (mm_vm ad) = (r.map (mm_vm ad)).toList := by
  have hck := mm_opc hop
  obtain ⟨i, np, x⟩ := op
  cases i with
  | ireturn =>
    simp only [mm_ex] at h
    split at h
    · rename_i hr9
      split at h
      · rename_i h9
        cases h
        simp only [mm_ck, Bool.and_eq_true, decide_eq_true_eq] at hck
        exact ⟨⟨mm_dcs hck.2, _, hr9, of_decide_eq_true h9⟩, rfl, fun _ => rfl⟩
      · cases h
    · cases h
  | freturn =>
    simp only [mm_ex] at h
    split at h
    · cases h
      simp only [mm_ck, Bool.and_eq_true, decide_eq_true_eq] at hck
      exact ⟨⟨mm_dcs hck.1, hck.2⟩, rfl, fun _ => rfl⟩
    · cases h
  | return_ =>
    simp only [mm_ex] at h
    split at h
    · cases h
      simp only [mm_ck, Bool.and_eq_true, decide_eq_true_eq] at hck
      exact ⟨⟨mm_dcs hck.1, hck.2⟩, rfl, fun _ => rfl⟩
    · cases h
  | _ =>
    exfalso
    simp only [mm_ex] at h
    (repeat' split at h) <;> cases h
theorem mm_ex_th {k pc : Nat} {op : Instr × Nat × Nat} {L S : List Value} {v : mmM} {e1 : Nat} (hop : mm_op k pc = some op)
    (h : mm_ex none (fun c a => if c then a else none) (fun c a b => if c then a else b) (fun pc L S v => some (.inl (pc, L, S, v))) (fun j a r np => some (.inr (.inl (j, a, r, np)))) (fun r => some (.inr (.inr (.inl r)))) (fun e => some (.inr (.inr (.inr e)))) k pc op L S v = (some (.inr (.inr (.inr e1))) : Option mmR)) : S = [] ∧ ∃ t, mm_tk k pc t = true ∧ e1 = (mm_tL.getD t (0, 0, 0, 0, 0, "", false)).1 := by
  have hck := mm_opc hop
  obtain ⟨i, np, x⟩ := op
  cases i with
  | athrow =>
    simp only [mm_ex] at h
    split at h
    · cases h
      simp only [mm_ck] at hck
      exact ⟨rfl, x, hck, rfl⟩
    · cases h
  | _ =>
    exfalso
    simp only [mm_ex] at h
    (repeat' split at h) <;> cases h
theorem mm_ex_len {k pc : Nat} {op : Instr × Nat × Nat} {L S : List Value} {v : mmM} {pc1 : Nat} {L1 S1 : List Value} {v1 : mmM}
    (h : mm_ex none (fun c a => if c then a else none) (fun c a b => if c then a else b) (fun pc L S v => some (.inl (pc, L, S, v))) (fun j a r np => some (.inr (.inl (j, a, r, np)))) (fun r => some (.inr (.inr (.inl r)))) (fun e => some (.inr (.inr (.inr e)))) k pc op L S v = (some (.inl (pc1, L1, S1, v1)) : Option mmR)) : L1.length = L.length := by
  obtain ⟨i, np, x⟩ := op
  cases i <;> simp only [mm_ex] at h <;> (repeat' split at h) <;> first | (cases h; done) | (cases h; rfl) | (cases h; exact List.length_set)
theorem mm_ex_cl {k pc : Nat} {op : Instr × Nat × Nat} {L S : List Value} {v : mmM} {j np : Nat} {ar rest : List Value} (hop : mm_op k pc = some op)
    (h : mm_ex none (fun c a => if c then a else none) (fun c a b => if c then a else b) (fun pc L S v => some (.inl (pc, L, S, v))) (fun j a r np => some (.inr (.inl (j, a, r, np)))) (fun r => some (.inr (.inr (.inl r)))) (fun e => some (.inr (.inr (.inr e)))) k pc op L S v = (some (.inr (.inl (j, ar, rest, np))) : Option mmR)) : mm_fm j = true ∧ ar.length ≤ mm_maxL j ∧ ∀ x ∈ ar, x.category = 1 := by
  have hck := mm_opc hop
  obtain ⟨i, np0, x⟩ := op
  cases i with
  | invokevirtual j0 =>
    simp only [mm_ex] at h
    split at h
    · rename_i i9 rest9 hdrop
      split at h
      · rename_i h9
        cases h
        simp only [Bool.and_eq_true, decide_eq_true_eq] at h9
        obtain ⟨⟨⟨⟨⟨n1, n2⟩, n3⟩, n4⟩, n5⟩, n6⟩ := h9
        simp only [mm_ck, Bool.and_eq_true, decide_eq_true_eq, Bool.not_eq_true'] at hck
        obtain ⟨⟨⟨⟨⟨⟨⟨rfl, h3⟩, h4⟩, h5⟩, h6⟩, h7⟩, h8⟩, h9⟩ := hck
        obtain ⟨f1, f2, f3, f4, f5, -⟩ := mm_fm_sp h6
        have htl : (S.take (mm_np j)).length = mm_np j := by rw [List.length_take]; omega
        refine ⟨h6, ?_, fun x hx => ?_⟩
        · rw [List.length_cons, List.length_reverse, htl]
          rw [h7] at f5
          simpa using f5
        · rcases List.mem_cons.mp hx with rfl | hx
          · rfl
          · exact of_decide_eq_true (List.all_eq_true.mp n5 x (List.mem_reverse.mp hx))
      · cases h
    · cases h
  | invokestatic j0 =>
    simp only [mm_ex] at h
    by_cases hj : 1000 ≤ j0
    · exfalso
      simp only [mm_ck, Bool.and_eq_true, decide_eq_true_eq] at hck
      have hck := hck.2
      rw [if_pos hj] at hck
      unfold mm_bk at hck
      have hq : mm_lL.all (fun q => decide (q.2.2.1 < 1004)) = true := by decide +kernel
      simp only [Bool.and_eq_true, decide_eq_true_eq] at hck
      obtain ⟨-, h4⟩ := hck
      have hmem : ∀ (l : List ((Nat × Nat) × (Bool × Nat × Nat))) (q : Nat × Nat) (z : Bool × Nat × Nat), l.lookup q = some z → (q, z) ∈ l := by
        intro l
        induction l with
        | nil => intro q z h; cases h
        | cons a l ih =>
          intro q z h
          obtain ⟨a1, a2⟩ := a
          rw [List.lookup_cons] at h
          by_cases e9 : q = a1
          · subst e9
            rw [beq_self_eq_true] at h
            cases h
            exact List.mem_cons_self
          · rw [show (q == a1) = false from beq_eq_false_iff_ne.mpr e9] at h
            exact List.mem_cons_of_mem _ (ih q z h)
      split at h4
      · rename_i w9 hlk
        simp only [Bool.and_eq_true, decide_eq_true_eq] at h4
        have h8 := of_decide_eq_true (List.all_eq_true.mp hq _ (hmem _ _ _ hlk))
        simp only at h8
        have h7 := h4.1
        have hcase : j0 = 1000 ∨ j0 = 1001 ∨ j0 = 1002 ∨ j0 = 1003 := by omega
        rcases hcase with q | q | q | q <;> subst q <;> simp only [if_true, if_false, Nat.reduceEqDiff] at h <;> (repeat' split at h) <;> cases h
      · cases h4
    · rw [if_neg (by omega), if_neg (by omega), if_neg (by omega), if_neg (by omega)] at h
      split at h
      · rename_i h9
        cases h
        simp only [Bool.and_eq_true, decide_eq_true_eq] at h9
        obtain ⟨⟨n6, n4⟩, n5⟩ := h9
        simp only [mm_ck, Bool.and_eq_true, decide_eq_true_eq] at hck
        obtain ⟨⟨rfl, h3⟩, h4⟩ := hck
        rw [if_neg hj] at h4
        simp only [Bool.and_eq_true] at h4
        obtain ⟨⟨⟨⟨h4, h5⟩, h6⟩, h7⟩, h9⟩ := h4
        obtain ⟨f1, f2, f3, f4, f5, -⟩ := mm_fm_sp h6
        have htl : (S.take (mm_np j)).length = mm_np j := by rw [List.length_take]; omega
        refine ⟨h6, ?_, fun x hx => of_decide_eq_true (List.all_eq_true.mp n5 x (List.mem_reverse.mp hx))⟩
        rw [List.length_reverse, htl]
        rw [h7] at f5
        simpa using f5
      · cases h
  | _ =>
    exfalso
    simp only [mm_ex] at h
    (repeat' split at h) <;> cases h
/-- EVERY RUN of the mini machine -/
theorem mm_snd (B : mm_Bs l s0 a0 D cs b Ls xs) : ∀ n, mm_SP l s0 D cs ad b Ls xs n := by
  intro n
  induction n with
  | zero =>
    intro k pc L S v c o v' hgo
    cases hgo
  | succ n P =>
    intro k pc L S v c o v' hgo p e R s m args below meth cd Q X hL hc hfin hthr hpro
    unfold mm_go at hgo
    cases hop : mm_op k pc with
    | none =>
      have : mm_stp k pc L S v = none := by unfold mm_stp; rw [hop]
      rw [this] at hgo
      cases hgo
    | some op =>
      have hk := mm_op_lt hop
      obtain ⟨x1, x2, x3, x4, x5, x6, x7, x8, x9, x10, x11, x12, x13, x14⟩ := id X
      cases hst : mm_stp k pc L S v with
      | none => rw [hst] at hgo; cases hgo
      | some r =>
        rw [hst] at hgo
        unfold mm_stp at hst
        rw [hop] at hst
        simp only at hst
        match r, hst, hgo with
        | .inl (pc1, L1, S1, v1), hst, hgo =>
          simp only at hgo
          have hL1 : L1.length = mm_maxL k := (mm_ex_len hst).trans hL
          refine mm_sn B X (Nat.le_trans hc x12) (Nat.le_trans (Nat.mul_le_mul_left 6 hc) x13) hop hst hL ?_
          intro H locs ls hw hS hl
          exact P k pc1 L1 S1 v1 c o v' hgo p e R s m args below meth cd Q X hL1 hc hfin hthr hpro H locs ls hw hS hl
        | .inr (.inl (j, ar, rest, np)), hst, hgo =>
          simp only at hgo
          split at hgo
          · rename_i hcj
            intro H locs ls hw hS hl
            cases hj : mm_go n j 0 (mm_en j ar) [] v 0 with
            | none => rw [hj] at hgo; cases hgo
            | some q =>
              obtain ⟨o1, v1⟩ := q
              rw [hj] at hgo
              obtain ⟨q1, q2, q3⟩ := mm_ex_cl hop hst
              have hM := mm_met B P q1 hj q2 q3
              have d1 : c + mm_mc j ≤ R.cells := Nat.le_trans hcj x12
              have d2 : 6 * c + 6 * mm_mc j ≤ R.slots := by omega
              obtain ⟨rfl, hcv, -, -, -, aa, hrun⟩ := mm_run (cells := c) (slots := 6 * c) (e := e) (args := args) (below := below) B X hop hst hw hl hL hM d1 d2
              refine mm_call hrun hS (fun r H1 locs1 ho hw1 hS1 => ?_) (fun e1 q9 ce H1 locs1 ho he hw1 hS1 hce hcv9 hcl => ?_)
              · subst ho
                simp only at hgo
                have e6 : 6 * c + 6 * mm_mc j = 6 * (c + mm_mc j) := by omega
                rw [e6]
                have g := P k (pc + 3) L (r.toList ++ rest) v1 (c + mm_mc j) o v' hgo p e R s m args below meth cd Q X hL hcj hfin hthr hpro H1 locs1 ls hw1 hS1 hl
                have es : (r.toList ++ rest).map (mm_vm ad) = (r.map (mm_vm ad)).toList ++ rest.map (mm_vm ad) := by
                  rw [List.map_append]
                  cases r <;> rfl
                rw [es] at g
                exact g
              · subst ho
                simp only at hgo
                have e6 : 6 * c + 6 * mm_mc j = 6 * (c + mm_mc j) := by omega
                rw [e6]
                by_cases hem : (mm_hh k).isEmpty = true
                · rw [if_pos hem] at hgo
                  cases hgo
                  exact hpro e1 q9 ce pc H1 locs1 ls (c + mm_mc j) _ rfl he (by simpa using hem) hw1 hS1 hce hcv9 hcl hcj
                · rw [if_neg hem] at hgo
                  cases hd : mm_hd k e1 with
                  | none => rw [hd] at hgo; cases hgo
                  | some x =>
                    rw [hd] at hgo
                    cases hgo
                    have hwr := List.all_eq_true.mp mm_wrap_int k (List.mem_range.mpr hk)
                    simp only [Bool.or_eq_true, Bool.and_eq_true, decide_eq_true_eq] at hwr
                    have hri : mm_ret k = some .int := by
                      rcases hwr with h | h
                      · exact absurd h hem
                      · exact h.1
                    exact mm_catch B X hk hcv hd he hl hL hce hcv9 hcl (fun pc2 ls2 hdec => hfin (some (.int x)) pc2 H1 locs1 ls2 (c + mm_mc j) rfl hw1 hS1 hcj ⟨hdec, .int, hri, rfl⟩)
          · cases hgo
        | .inr (.inr (.inl r)), hst, hgo =>
          simp only at hgo
          cases hgo
          obtain ⟨h1, h2, h3⟩ := mm_ex_rt hop hst
          intro H locs ls hw hS hl
          rw [h3 ad]
          exact hfin r pc H locs ls c rfl hw hS hc h1
        | .inr (.inr (.inr e1)), hst, hgo =>
          simp only at hgo
          split at hgo
          · rename_i hc1
            cases hgo
            obtain ⟨h1, t, h2, h3⟩ := mm_ex_th hop hst
            subst h1
            intro H locs ls hw hS hl
            exact hthr t pc H locs ls c (by rw [h3]) h2 hw hS (hl.1.trans hL) hc1
          · cases hgo
end MMT
end
