section
-- ===== PART A: goes FIRST, ahead of the names: the tables' words, and 'selects' of the private methods out of them =====
/-- a private method of a class that the tables say can be made, by its rows of tables_1 -/
def lw_okq (q : MethodName × Nat) : Prop := (q.1.cls ≠ "java/lang/invoke/MethodHandle" ∧ q.1.cls ≠ "java/lang/invoke/VarHandle") ∧ Cond.instantiable q.1.cls q.2 ∈ tables_1 ∧ Cond.privateMethod q.1 ∈ tables_1 ∧ Cond.instanceMethod q.1 ∈ tables_1
theorem lw_p0 : lw_okq (⟨"UmbrellaQueue", "recorded", "(I)I"⟩, 7) := ⟨⟨by decide +kernel, by decide +kernel⟩, List.mem_of_getElem? (i := 9) (by decide +kernel), List.mem_of_getElem? (i := 192) (by decide +kernel), List.mem_of_getElem? (i := 193) (by decide +kernel)⟩
theorem lw_p1 : lw_okq (⟨"UmbrellaQueue$State", "remove", "(I)V"⟩, 17) := ⟨⟨by decide +kernel, by decide +kernel⟩, List.mem_of_getElem? (i := 17) (by decide +kernel), List.mem_of_getElem? (i := 212) (by decide +kernel), List.mem_of_getElem? (i := 213) (by decide +kernel)⟩
theorem lw_p2 : lw_okq (⟨"UmbrellaQueue$State", "wetterBy", "(III)I"⟩, 17) := ⟨⟨by decide +kernel, by decide +kernel⟩, List.mem_of_getElem? (i := 17) (by decide +kernel), List.mem_of_getElem? (i := 274) (by decide +kernel), List.mem_of_getElem? (i := 275) (by decide +kernel)⟩
theorem lw_p3 : lw_okq (⟨"UmbrellaQueue$State", "removeSoaked", "()I"⟩, 17) := ⟨⟨by decide +kernel, by decide +kernel⟩, List.mem_of_getElem? (i := 17) (by decide +kernel), List.mem_of_getElem? (i := 300) (by decide +kernel), List.mem_of_getElem? (i := 301) (by decide +kernel)⟩
theorem lw_p4 : lw_okq (⟨"UmbrellaQueue$State", "peopleToServe", "()I"⟩, 17) := ⟨⟨by decide +kernel, by decide +kernel⟩, List.mem_of_getElem? (i := 17) (by decide +kernel), List.mem_of_getElem? (i := 321) (by decide +kernel), List.mem_of_getElem? (i := 322) (by decide +kernel)⟩
theorem lw_p5 : lw_okq (⟨"UmbrellaQueue$State", "fareForAll", "()I"⟩, 17) := ⟨⟨by decide +kernel, by decide +kernel⟩, List.mem_of_getElem? (i := 17) (by decide +kernel), List.mem_of_getElem? (i := 333) (by decide +kernel), List.mem_of_getElem? (i := 334) (by decide +kernel)⟩
theorem lw_p6 : lw_okq (⟨"UmbrellaQueue$Weather", "readThing", "()Z"⟩, 7) := ⟨⟨by decide +kernel, by decide +kernel⟩, List.mem_of_getElem? (i := 110) (by decide +kernel), List.mem_of_getElem? (i := 361) (by decide +kernel), List.mem_of_getElem? (i := 362) (by decide +kernel)⟩
theorem lw_p7 : lw_okq (⟨"UmbrellaQueue$Weather", "character", "()I"⟩, 7) := ⟨⟨by decide +kernel, by decide +kernel⟩, List.mem_of_getElem? (i := 110) (by decide +kernel), List.mem_of_getElem? (i := 365) (by decide +kernel), List.mem_of_getElem? (i := 366) (by decide +kernel)⟩
theorem lw_p8 : lw_okq (⟨"UmbrellaQueue$Weather", "readNumber", "(II)I"⟩, 7) := ⟨⟨by decide +kernel, by decide +kernel⟩, List.mem_of_getElem? (i := 110) (by decide +kernel), List.mem_of_getElem? (i := 369) (by decide +kernel), List.mem_of_getElem? (i := 370) (by decide +kernel)⟩
theorem lw_p9 : lw_okq (⟨"UmbrellaQueue$Weather", "digit", "()I"⟩, 7) := ⟨⟨by decide +kernel, by decide +kernel⟩, List.mem_of_getElem? (i := 110) (by decide +kernel), List.mem_of_getElem? (i := 373) (by decide +kernel), List.mem_of_getElem? (i := 374) (by decide +kernel)⟩
theorem lw_p10 : lw_okq (⟨"UmbrellaQueue$Weather", "readSide", "()I"⟩, 7) := ⟨⟨by decide +kernel, by decide +kernel⟩, List.mem_of_getElem? (i := 110) (by decide +kernel), List.mem_of_getElem? (i := 378) (by decide +kernel), List.mem_of_getElem? (i := 379) (by decide +kernel)⟩
theorem lw_p11 : lw_okq (⟨"UmbrellaQueue", "happen", "(CII)I"⟩, 7) := ⟨⟨by decide +kernel, by decide +kernel⟩, List.mem_of_getElem? (i := 9) (by decide +kernel), List.mem_of_getElem? (i := 382) (by decide +kernel), List.mem_of_getElem? (i := 383) (by decide +kernel)⟩
theorem lw_p12 : lw_okq (⟨"UmbrellaQueue$State", "totalWetnessAfter", "(II)I"⟩, 17) := ⟨⟨by decide +kernel, by decide +kernel⟩, List.mem_of_getElem? (i := 17) (by decide +kernel), List.mem_of_getElem? (i := 448) (by decide +kernel), List.mem_of_getElem? (i := 449) (by decide +kernel)⟩
theorem lw_p13 : lw_okq (⟨"UmbrellaQueueModel", "know", "()V"⟩, 16) := ⟨⟨by decide +kernel, by decide +kernel⟩, List.mem_of_getElem? (i := 483) (by decide +kernel), List.mem_of_getElem? (i := 545) (by decide +kernel), List.mem_of_getElem? (i := 546) (by decide +kernel)⟩
theorem lw_p14 : lw_okq (⟨"UmbrellaQueueModel", "looks", "()V"⟩, 16) := ⟨⟨by decide +kernel, by decide +kernel⟩, List.mem_of_getElem? (i := 483) (by decide +kernel), List.mem_of_getElem? (i := 549) (by decide +kernel), List.mem_of_getElem? (i := 550) (by decide +kernel)⟩
theorem lw_p15 : lw_okq (⟨"UmbrellaQueueModel", "records", "()V"⟩, 16) := ⟨⟨by decide +kernel, by decide +kernel⟩, List.mem_of_getElem? (i := 483) (by decide +kernel), List.mem_of_getElem? (i := 553) (by decide +kernel), List.mem_of_getElem? (i := 554) (by decide +kernel)⟩
def lw_privs_1 : List (MethodName × Nat) := [(⟨"UmbrellaQueue", "recorded", "(I)I"⟩, 7), (⟨"UmbrellaQueue$State", "remove", "(I)V"⟩, 17), (⟨"UmbrellaQueue$State", "wetterBy", "(III)I"⟩, 17), (⟨"UmbrellaQueue$State", "removeSoaked", "()I"⟩, 17), (⟨"UmbrellaQueue$State", "peopleToServe", "()I"⟩, 17), (⟨"UmbrellaQueue$State", "fareForAll", "()I"⟩, 17), (⟨"UmbrellaQueue$Weather", "readThing", "()Z"⟩, 7), (⟨"UmbrellaQueue$Weather", "character", "()I"⟩, 7), (⟨"UmbrellaQueue$Weather", "readNumber", "(II)I"⟩, 7), (⟨"UmbrellaQueue$Weather", "digit", "()I"⟩, 7), (⟨"UmbrellaQueue$Weather", "readSide", "()I"⟩, 7), (⟨"UmbrellaQueue", "happen", "(CII)I"⟩, 7), (⟨"UmbrellaQueue$State", "totalWetnessAfter", "(II)I"⟩, 17), (⟨"UmbrellaQueueModel", "know", "()V"⟩, 16), (⟨"UmbrellaQueueModel", "looks", "()V"⟩, 16), (⟨"UmbrellaQueueModel", "records", "()V"⟩, 16)]
theorem lw_r1 : ∀ q ∈ lw_privs_1, lw_okq q := List.forall_mem_cons.mpr ⟨lw_p0, List.forall_mem_cons.mpr ⟨lw_p1, List.forall_mem_cons.mpr ⟨lw_p2, List.forall_mem_cons.mpr ⟨lw_p3, List.forall_mem_cons.mpr ⟨lw_p4, List.forall_mem_cons.mpr ⟨lw_p5, List.forall_mem_cons.mpr ⟨lw_p6, List.forall_mem_cons.mpr ⟨lw_p7, List.forall_mem_cons.mpr ⟨lw_p8, List.forall_mem_cons.mpr ⟨lw_p9, List.forall_mem_cons.mpr ⟨lw_p10, List.forall_mem_cons.mpr ⟨lw_p11, List.forall_mem_cons.mpr ⟨lw_p12, List.forall_mem_cons.mpr ⟨lw_p13, List.forall_mem_cons.mpr ⟨lw_p14, List.forall_mem_cons.mpr ⟨lw_p15, fun _ h => absurd h List.not_mem_nil⟩⟩⟩⟩⟩⟩⟩⟩⟩⟩⟩⟩⟩⟩⟩⟩
theorem lw_p16 : lw_okq (⟨"UmbrellaQueueModel", "isPlace", "(I)Z"⟩, 16) := ⟨⟨by decide +kernel, by decide +kernel⟩, List.mem_of_getElem? (i := 483) (by decide +kernel), List.mem_of_getElem? (i := 564) (by decide +kernel), List.mem_of_getElem? (i := 565) (by decide +kernel)⟩
theorem lw_p17 : lw_okq (⟨"UmbrellaQueueModel", "of", "(II)I"⟩, 16) := ⟨⟨by decide +kernel, by decide +kernel⟩, List.mem_of_getElem? (i := 483) (by decide +kernel), List.mem_of_getElem? (i := 568) (by decide +kernel), List.mem_of_getElem? (i := 569) (by decide +kernel)⟩
theorem lw_p18 : lw_okq (⟨"UmbrellaQueueModel", "goes", "(I)V"⟩, 16) := ⟨⟨by decide +kernel, by decide +kernel⟩, List.mem_of_getElem? (i := 483) (by decide +kernel), List.mem_of_getElem? (i := 572) (by decide +kernel), List.mem_of_getElem? (i := 573) (by decide +kernel)⟩
theorem lw_p19 : lw_okq (⟨"UmbrellaQueueModel", "arePair", "(I)Z"⟩, 16) := ⟨⟨by decide +kernel, by decide +kernel⟩, List.mem_of_getElem? (i := 483) (by decide +kernel), List.mem_of_getElem? (i := 580) (by decide +kernel), List.mem_of_getElem? (i := 581) (by decide +kernel)⟩
theorem lw_p20 : lw_okq (⟨"UmbrellaQueueModel", "exchange", "(II)V"⟩, 16) := ⟨⟨by decide +kernel, by decide +kernel⟩, List.mem_of_getElem? (i := 483) (by decide +kernel), List.mem_of_getElem? (i := 584) (by decide +kernel), List.mem_of_getElem? (i := 585) (by decide +kernel)⟩
theorem lw_p21 : lw_okq (⟨"UmbrellaQueueModel", "swaps", "(I)I"⟩, 16) := ⟨⟨by decide +kernel, by decide +kernel⟩, List.mem_of_getElem? (i := 483) (by decide +kernel), List.mem_of_getElem? (i := 592) (by decide +kernel), List.mem_of_getElem? (i := 593) (by decide +kernel)⟩
theorem lw_p22 : lw_okq (⟨"UmbrellaQueueModel", "why", "(I)I"⟩, 16) := ⟨⟨by decide +kernel, by decide +kernel⟩, List.mem_of_getElem? (i := 483) (by decide +kernel), List.mem_of_getElem? (i := 596) (by decide +kernel), List.mem_of_getElem? (i := 597) (by decide +kernel)⟩
theorem lw_p23 : lw_okq (⟨"UmbrellaQueueModel", "acted", "(I)I"⟩, 16) := ⟨⟨by decide +kernel, by decide +kernel⟩, List.mem_of_getElem? (i := 483) (by decide +kernel), List.mem_of_getElem? (i := 600) (by decide +kernel), List.mem_of_getElem? (i := 601) (by decide +kernel)⟩
theorem lw_p24 : lw_okq (⟨"UmbrellaQueueModel", "gusts", "(II)I"⟩, 16) := ⟨⟨by decide +kernel, by decide +kernel⟩, List.mem_of_getElem? (i := 483) (by decide +kernel), List.mem_of_getElem? (i := 615) (by decide +kernel), List.mem_of_getElem? (i := 616) (by decide +kernel)⟩
theorem lw_p25 : lw_okq (⟨"UmbrellaQueueModel", "wetBy", "(III)I"⟩, 16) := ⟨⟨by decide +kernel, by decide +kernel⟩, List.mem_of_getElem? (i := 483) (by decide +kernel), List.mem_of_getElem? (i := 619) (by decide +kernel), List.mem_of_getElem? (i := 620) (by decide +kernel)⟩
theorem lw_p26 : lw_okq (⟨"UmbrellaQueueModel", "wetter", "(III)I"⟩, 16) := ⟨⟨by decide +kernel, by decide +kernel⟩, List.mem_of_getElem? (i := 483) (by decide +kernel), List.mem_of_getElem? (i := 623) (by decide +kernel), List.mem_of_getElem? (i := 624) (by decide +kernel)⟩
theorem lw_p27 : lw_okq (⟨"UmbrellaQueueModel", "isCovered", "(II)Z"⟩, 16) := ⟨⟨by decide +kernel, by decide +kernel⟩, List.mem_of_getElem? (i := 483) (by decide +kernel), List.mem_of_getElem? (i := 627) (by decide +kernel), List.mem_of_getElem? (i := 628) (by decide +kernel)⟩
theorem lw_p28 : lw_okq (⟨"UmbrellaQueueModel", "reaching", "(I)I"⟩, 16) := ⟨⟨by decide +kernel, by decide +kernel⟩, List.mem_of_getElem? (i := 483) (by decide +kernel), List.mem_of_getElem? (i := 631) (by decide +kernel), List.mem_of_getElem? (i := 632) (by decide +kernel)⟩
theorem lw_p29 : lw_okq (⟨"UmbrellaQueueModel", "leastOf", "(I)I"⟩, 16) := ⟨⟨by decide +kernel, by decide +kernel⟩, List.mem_of_getElem? (i := 483) (by decide +kernel), List.mem_of_getElem? (i := 635) (by decide +kernel), List.mem_of_getElem? (i := 636) (by decide +kernel)⟩
theorem lw_p30 : lw_okq (⟨"UmbrellaQueueModel", "greatestOf", "(I)I"⟩, 16) := ⟨⟨by decide +kernel, by decide +kernel⟩, List.mem_of_getElem? (i := 483) (by decide +kernel), List.mem_of_getElem? (i := 639) (by decide +kernel), List.mem_of_getElem? (i := 640) (by decide +kernel)⟩
theorem lw_p31 : lw_okq (⟨"UmbrellaQueueModel", "running", "(I)I"⟩, 16) := ⟨⟨by decide +kernel, by decide +kernel⟩, List.mem_of_getElem? (i := 483) (by decide +kernel), List.mem_of_getElem? (i := 643) (by decide +kernel), List.mem_of_getElem? (i := 644) (by decide +kernel)⟩
def lw_privs_2 : List (MethodName × Nat) := [(⟨"UmbrellaQueueModel", "isPlace", "(I)Z"⟩, 16), (⟨"UmbrellaQueueModel", "of", "(II)I"⟩, 16), (⟨"UmbrellaQueueModel", "goes", "(I)V"⟩, 16), (⟨"UmbrellaQueueModel", "arePair", "(I)Z"⟩, 16), (⟨"UmbrellaQueueModel", "exchange", "(II)V"⟩, 16), (⟨"UmbrellaQueueModel", "swaps", "(I)I"⟩, 16), (⟨"UmbrellaQueueModel", "why", "(I)I"⟩, 16), (⟨"UmbrellaQueueModel", "acted", "(I)I"⟩, 16), (⟨"UmbrellaQueueModel", "gusts", "(II)I"⟩, 16), (⟨"UmbrellaQueueModel", "wetBy", "(III)I"⟩, 16), (⟨"UmbrellaQueueModel", "wetter", "(III)I"⟩, 16), (⟨"UmbrellaQueueModel", "isCovered", "(II)Z"⟩, 16), (⟨"UmbrellaQueueModel", "reaching", "(I)I"⟩, 16), (⟨"UmbrellaQueueModel", "leastOf", "(I)I"⟩, 16), (⟨"UmbrellaQueueModel", "greatestOf", "(I)I"⟩, 16), (⟨"UmbrellaQueueModel", "running", "(I)I"⟩, 16)]
theorem lw_r2 : ∀ q ∈ lw_privs_2, lw_okq q := List.forall_mem_cons.mpr ⟨lw_p16, List.forall_mem_cons.mpr ⟨lw_p17, List.forall_mem_cons.mpr ⟨lw_p18, List.forall_mem_cons.mpr ⟨lw_p19, List.forall_mem_cons.mpr ⟨lw_p20, List.forall_mem_cons.mpr ⟨lw_p21, List.forall_mem_cons.mpr ⟨lw_p22, List.forall_mem_cons.mpr ⟨lw_p23, List.forall_mem_cons.mpr ⟨lw_p24, List.forall_mem_cons.mpr ⟨lw_p25, List.forall_mem_cons.mpr ⟨lw_p26, List.forall_mem_cons.mpr ⟨lw_p27, List.forall_mem_cons.mpr ⟨lw_p28, List.forall_mem_cons.mpr ⟨lw_p29, List.forall_mem_cons.mpr ⟨lw_p30, List.forall_mem_cons.mpr ⟨lw_p31, fun _ h => absurd h List.not_mem_nil⟩⟩⟩⟩⟩⟩⟩⟩⟩⟩⟩⟩⟩⟩⟩⟩
theorem lw_p32 : lw_okq (⟨"UmbrellaQueueModel", "passes", "(I)I"⟩, 16) := ⟨⟨by decide +kernel, by decide +kernel⟩, List.mem_of_getElem? (i := 483) (by decide +kernel), List.mem_of_getElem? (i := 651) (by decide +kernel), List.mem_of_getElem? (i := 652) (by decide +kernel)⟩
theorem lw_p33 : lw_okq (⟨"UmbrellaQueueModel", "serves", "()I"⟩, 16) := ⟨⟨by decide +kernel, by decide +kernel⟩, List.mem_of_getElem? (i := 483) (by decide +kernel), List.mem_of_getElem? (i := 660) (by decide +kernel), List.mem_of_getElem? (i := 661) (by decide +kernel)⟩
theorem lw_p34 : lw_okq (⟨"UmbrellaQueueModel", "served", "()I"⟩, 16) := ⟨⟨by decide +kernel, by decide +kernel⟩, List.mem_of_getElem? (i := 483) (by decide +kernel), List.mem_of_getElem? (i := 664) (by decide +kernel), List.mem_of_getElem? (i := 665) (by decide +kernel)⟩
theorem lw_p35 : lw_okq (⟨"UmbrellaQueueModel", "coinsPaid", "()I"⟩, 16) := ⟨⟨by decide +kernel, by decide +kernel⟩, List.mem_of_getElem? (i := 483) (by decide +kernel), List.mem_of_getElem? (i := 668) (by decide +kernel), List.mem_of_getElem? (i := 669) (by decide +kernel)⟩
theorem lw_p36 : lw_okq (⟨"UmbrellaQueueModel", "driest", "()I"⟩, 16) := ⟨⟨by decide +kernel, by decide +kernel⟩, List.mem_of_getElem? (i := 483) (by decide +kernel), List.mem_of_getElem? (i := 672) (by decide +kernel), List.mem_of_getElem? (i := 673) (by decide +kernel)⟩
theorem lw_p37 : lw_okq (⟨"UmbrellaQueueModel", "runs", "(Z)I"⟩, 16) := ⟨⟨by decide +kernel, by decide +kernel⟩, List.mem_of_getElem? (i := 483) (by decide +kernel), List.mem_of_getElem? (i := 688) (by decide +kernel), List.mem_of_getElem? (i := 689) (by decide +kernel)⟩
theorem lw_p38 : lw_okq (⟨"UmbrellaQueueModel", "readThing", "()V"⟩, 16) := ⟨⟨by decide +kernel, by decide +kernel⟩, List.mem_of_getElem? (i := 483) (by decide +kernel), List.mem_of_getElem? (i := 692) (by decide +kernel), List.mem_of_getElem? (i := 693) (by decide +kernel)⟩
theorem lw_p39 : lw_okq (⟨"UmbrellaQueueModel", "takesNumber", "(II)I"⟩, 16) := ⟨⟨by decide +kernel, by decide +kernel⟩, List.mem_of_getElem? (i := 483) (by decide +kernel), List.mem_of_getElem? (i := 696) (by decide +kernel), List.mem_of_getElem? (i := 697) (by decide +kernel)⟩
theorem lw_p40 : lw_okq (⟨"UmbrellaQueueModel", "takes", "(II)I"⟩, 16) := ⟨⟨by decide +kernel, by decide +kernel⟩, List.mem_of_getElem? (i := 483) (by decide +kernel), List.mem_of_getElem? (i := 700) (by decide +kernel), List.mem_of_getElem? (i := 701) (by decide +kernel)⟩
theorem lw_p41 : lw_okq (⟨"UmbrellaQueueModel", "isNext", "(II)Z"⟩, 16) := ⟨⟨by decide +kernel, by decide +kernel⟩, List.mem_of_getElem? (i := 483) (by decide +kernel), List.mem_of_getElem? (i := 704) (by decide +kernel), List.mem_of_getElem? (i := 705) (by decide +kernel)⟩
theorem lw_p42 : lw_okq (⟨"UmbrellaQueueModel", "does", "()I"⟩, 16) := ⟨⟨by decide +kernel, by decide +kernel⟩, List.mem_of_getElem? (i := 483) (by decide +kernel), List.mem_of_getElem? (i := 708) (by decide +kernel), List.mem_of_getElem? (i := 709) (by decide +kernel)⟩
theorem lw_p43 : lw_okq (⟨"UmbrellaQueueModel", "told", "(IIII)I"⟩, 16) := ⟨⟨by decide +kernel, by decide +kernel⟩, List.mem_of_getElem? (i := 483) (by decide +kernel), List.mem_of_getElem? (i := 740) (by decide +kernel), List.mem_of_getElem? (i := 741) (by decide +kernel)⟩
theorem lw_p44 : lw_okq (⟨"UmbrellaQueueModel", "allWetBy", "(II)I"⟩, 16) := ⟨⟨by decide +kernel, by decide +kernel⟩, List.mem_of_getElem? (i := 483) (by decide +kernel), List.mem_of_getElem? (i := 752) (by decide +kernel), List.mem_of_getElem? (i := 753) (by decide +kernel)⟩
theorem lw_p45 : lw_okq (⟨"UmbrellaQueueModel", "sumWet", "()I"⟩, 16) := ⟨⟨by decide +kernel, by decide +kernel⟩, List.mem_of_getElem? (i := 483) (by decide +kernel), List.mem_of_getElem? (i := 768) (by decide +kernel), List.mem_of_getElem? (i := 769) (by decide +kernel)⟩
theorem lw_p46 : lw_okq (⟨"UmbrellaQueueModel", "wettest", "()I"⟩, 16) := ⟨⟨by decide +kernel, by decide +kernel⟩, List.mem_of_getElem? (i := 483) (by decide +kernel), List.mem_of_getElem? (i := 772) (by decide +kernel), List.mem_of_getElem? (i := 773) (by decide +kernel)⟩
theorem lw_p47 : lw_okq (⟨"UmbrellaQueueModel", "unreached", "()I"⟩, 16) := ⟨⟨by decide +kernel, by decide +kernel⟩, List.mem_of_getElem? (i := 483) (by decide +kernel), List.mem_of_getElem? (i := 776) (by decide +kernel), List.mem_of_getElem? (i := 777) (by decide +kernel)⟩
def lw_privs_3 : List (MethodName × Nat) := [(⟨"UmbrellaQueueModel", "passes", "(I)I"⟩, 16), (⟨"UmbrellaQueueModel", "serves", "()I"⟩, 16), (⟨"UmbrellaQueueModel", "served", "()I"⟩, 16), (⟨"UmbrellaQueueModel", "coinsPaid", "()I"⟩, 16), (⟨"UmbrellaQueueModel", "driest", "()I"⟩, 16), (⟨"UmbrellaQueueModel", "runs", "(Z)I"⟩, 16), (⟨"UmbrellaQueueModel", "readThing", "()V"⟩, 16), (⟨"UmbrellaQueueModel", "takesNumber", "(II)I"⟩, 16), (⟨"UmbrellaQueueModel", "takes", "(II)I"⟩, 16), (⟨"UmbrellaQueueModel", "isNext", "(II)Z"⟩, 16), (⟨"UmbrellaQueueModel", "does", "()I"⟩, 16), (⟨"UmbrellaQueueModel", "told", "(IIII)I"⟩, 16), (⟨"UmbrellaQueueModel", "allWetBy", "(II)I"⟩, 16), (⟨"UmbrellaQueueModel", "sumWet", "()I"⟩, 16), (⟨"UmbrellaQueueModel", "wettest", "()I"⟩, 16), (⟨"UmbrellaQueueModel", "unreached", "()I"⟩, 16)]
theorem lw_r3 : ∀ q ∈ lw_privs_3, lw_okq q := List.forall_mem_cons.mpr ⟨lw_p32, List.forall_mem_cons.mpr ⟨lw_p33, List.forall_mem_cons.mpr ⟨lw_p34, List.forall_mem_cons.mpr ⟨lw_p35, List.forall_mem_cons.mpr ⟨lw_p36, List.forall_mem_cons.mpr ⟨lw_p37, List.forall_mem_cons.mpr ⟨lw_p38, List.forall_mem_cons.mpr ⟨lw_p39, List.forall_mem_cons.mpr ⟨lw_p40, List.forall_mem_cons.mpr ⟨lw_p41, List.forall_mem_cons.mpr ⟨lw_p42, List.forall_mem_cons.mpr ⟨lw_p43, List.forall_mem_cons.mpr ⟨lw_p44, List.forall_mem_cons.mpr ⟨lw_p45, List.forall_mem_cons.mpr ⟨lw_p46, List.forall_mem_cons.mpr ⟨lw_p47, fun _ h => absurd h List.not_mem_nil⟩⟩⟩⟩⟩⟩⟩⟩⟩⟩⟩⟩⟩⟩⟩⟩
def lw_privs : List (MethodName × Nat) := lw_privs_1 ++ (lw_privs_2 ++ (lw_privs_3))
def lw_tbl : List Cond := k2_sels lw_privs ++ tables_1
theorem lw_privs_ok : ∀ q ∈ lw_privs, lw_okq q := by
  show ∀ q ∈ lw_privs_1 ++ (lw_privs_2 ++ (lw_privs_3)), lw_okq q
  exact List.forall_mem_append.mpr ⟨lw_r1, List.forall_mem_append.mpr ⟨lw_r2, lw_r3⟩⟩
end
section
/-! ===== BEGIN words of one list among another's, by their places ===== -/
theorem goodIn_r {big : List Cond} (ws : List Cond) (ps : List Nat) (hp : ws = ps.filterMap (fun i => big[i]?)) (h : ws.all goodWord = true) : GoodIn big ws := by
  intro w hw
  have h1 := List.all_eq_true.mp h w hw
  rw [hp] at hw
  obtain ⟨i, -, hi⟩ := List.mem_filterMap.mp hw
  have hm : w ∈ big := by first | exact List.mem_of_getElem? hi | exact List.getElem?_mem hi
  exact ⟨hm, good_of_word h1⟩
theorem goodIn_app {big a b : List Cond} (ha : GoodIn big a) (hb : GoodIn big b) : GoodIn big (a ++ b) := fun w h => (List.mem_append.mp h).elim (ha w) (hb w)
theorem goodIn_ca {big a b : List Cond} {c : Cond} (ha : GoodIn big (c :: a)) (hb : GoodIn big b) : GoodIn big (c :: (a ++ b)) := fun w h => (List.mem_cons.mp h).elim (fun e => ha w (List.mem_cons.mpr (Or.inl e))) (fun h => (List.mem_append.mp h).elim (fun h => ha w (List.mem_cons.mpr (Or.inr h))) (hb w))
theorem goodIn_sub {big ws : List Cond} (hm : ∀ w ∈ ws, w ∈ big) (h : ws.all goodWord = true) : GoodIn big ws := fun w hw => ⟨hm w hw, good_of_word (List.all_eq_true.mp h w hw)⟩
/-! ===== END ===== -/

/-! ===== BEGIN printed: names, fields, word lists, decode rows ===== -/
def RX0 : String := "UmbrellaQueue$History"
def TX0 : u_T := fun k => match k with
  | 0 => ("UmbrellaQueue$History", "states", "[LUmbrellaQueue$State;", true)
  | _ => ("UmbrellaQueue$History", "depth", "I", false)
def tyX0 : Nat → FieldType := fun k => match k with
  | 0 => .array (.object "UmbrellaQueue$State")
  | _ => .int
abbrev wsX00 : List Cond := u_ws RX0 TX0 2
theorem nmX0 : ∀ a, a < 2 → ∀ b, b < 2 → a ≠ b → (TX0 a).2.1 ≠ (TX0 b).2.1 := by decide +kernel
theorem tyX0_ok : ∀ k, k < 2 → parseFieldDescriptor (TX0 k).2.2.1 = some (tyX0 k) := by decide +kernel
abbrev cX0_init : ByteArray := prog_2_method_1_code
def yX0_init : MethodName := ⟨RX0, "<init>", "()V"⟩
abbrev cX0_drafted : ByteArray := prog_2_method_2_code
def yX0_drafted : MethodName := ⟨RX0, "drafted", "()LUmbrellaQueue$State;"⟩
abbrev cX0_draft : ByteArray := prog_2_method_3_code
def yX0_draft : MethodName := ⟨RX0, "draft", "(LUmbrellaQueue$State;)V"⟩
abbrev cX0_keepDraft : ByteArray := prog_2_method_4_code
def yX0_keepDraft : MethodName := ⟨RX0, "keepDraft", "()V"⟩
abbrev cX0_takeLatest : ByteArray := prog_2_method_5_code
def yX0_takeLatest : MethodName := ⟨RX0, "takeLatest", "()LUmbrellaQueue$State;"⟩
def RX1 : String := "UmbrellaQueue$State"
def TX1 : u_T := fun k => match k with
  | 0 => ("UmbrellaQueue$State", "numbers", "[I", true)
  | 1 => ("UmbrellaQueue$State", "wetness", "[I", true)
  | 2 => ("UmbrellaQueue$State", "patience", "[I", true)
  | 3 => ("UmbrellaQueue$State", "coins", "[I", true)
  | 4 => ("UmbrellaQueue$State", "widths", "[I", true)
  | 5 => ("UmbrellaQueue$State", "swapped", "[I", true)
  | 6 => ("UmbrellaQueue$State", "settings", "[I", true)
  | 7 => ("UmbrellaQueue$State", "size", "I", false)
  | 8 => ("UmbrellaQueue$State", "came", "I", false)
  | 9 => ("UmbrellaQueue$State", "left", "I", false)
  | 10 => ("UmbrellaQueue$State", "soaked", "I", false)
  | 11 => ("UmbrellaQueue$State", "served", "I", false)
  | 12 => ("UmbrellaQueue$State", "paid", "I", false)
  | 13 => ("UmbrellaQueue$State", "unpaid", "I", false)
  | 14 => ("UmbrellaQueue$State", "swaps", "I", false)
  | 15 => ("UmbrellaQueue$State", "gusts", "I", false)
  | _ => ("UmbrellaQueue$State", "minutes", "I", false)
def tyX1 : Nat → FieldType := fun k => match k with
  | 0 => .array .int
  | 1 => .array .int
  | 2 => .array .int
  | 3 => .array .int
  | 4 => .array .int
  | 5 => .array .int
  | 6 => .array .int
  | 7 => .int
  | 8 => .int
  | 9 => .int
  | 10 => .int
  | 11 => .int
  | 12 => .int
  | 13 => .int
  | 14 => .int
  | 15 => .int
  | _ => .int
abbrev wsX10 : List Cond := u_ws RX1 TX1 17
theorem nmX1 : ∀ a, a < 17 → ∀ b, b < 17 → a ≠ b → (TX1 a).2.1 ≠ (TX1 b).2.1 := by decide +kernel
theorem tyX1_ok : ∀ k, k < 17 → parseFieldDescriptor (TX1 k).2.2.1 = some (tyX1 k) := by decide +kernel
abbrev cX1_init : ByteArray := prog_3_method_1_code
def yX1_init : MethodName := ⟨RX1, "<init>", "()V"⟩
abbrev cX1_copyFrom : ByteArray := prog_3_method_2_code
def yX1_copyFrom : MethodName := ⟨RX1, "copyFrom", "(LUmbrellaQueue$State;)V"⟩
abbrev cX1_isPlace : ByteArray := prog_3_method_3_code
def yX1_isPlace : MethodName := ⟨RX1, "isPlace", "(I)Z"⟩
abbrev cX1_hasNeighbour : ByteArray := prog_3_method_4_code
def yX1_hasNeighbour : MethodName := ⟨RX1, "hasNeighbour", "(I)Z"⟩
abbrev cX1_admit : ByteArray := prog_3_method_5_code
def yX1_admit : MethodName := ⟨RX1, "admit", "(III)I"⟩
abbrev cX1_dismiss : ByteArray := prog_3_method_6_code
def yX1_dismiss : MethodName := ⟨RX1, "dismiss", "(I)I"⟩
abbrev cX1_changePlaces : ByteArray := prog_3_method_7_code
def yX1_changePlaces : MethodName := ⟨RX1, "changePlaces", "(I)I"⟩
abbrev cX1_swapUmbrellas : ByteArray := prog_3_method_8_code
def yX1_swapUmbrellas : MethodName := ⟨RX1, "swapUmbrellas", "(I)I"⟩
abbrev cX1_changeSetting : ByteArray := prog_3_method_9_code
def yX1_changeSetting : MethodName := ⟨RX1, "changeSetting", "(II)I"⟩
abbrev cX1_rain : ByteArray := prog_3_method_10_code
def yX1_rain : MethodName := ⟨RX1, "rain", "(II)I"⟩
abbrev cX1_dry : ByteArray := prog_3_method_11_code
def yX1_dry : MethodName := ⟨RX1, "dry", "(I)I"⟩
abbrev cX1_serveFirst : ByteArray := prog_3_method_12_code
def yX1_serveFirst : MethodName := ⟨RX1, "serveFirst", "()I"⟩
abbrev cX1_removeSoaked : ByteArray := prog_3_method_13_code
def yX1_removeSoaked : MethodName := ⟨RX1, "removeSoaked", "()I"⟩
abbrev cX1_remove : ByteArray := prog_3_method_14_code
def yX1_remove : MethodName := ⟨RX1, "remove", "(I)V"⟩
abbrev cX1_closeGap : ByteArray := prog_3_method_15_code
def yX1_closeGap : MethodName := ⟨RX1, "closeGap", "([II)V"⟩
abbrev cX1_exchange : ByteArray := prog_3_method_16_code
def yX1_exchange : MethodName := ⟨RX1, "exchange", "([II)V"⟩
abbrev cX1_leastReached : ByteArray := prog_3_method_17_code
def yX1_leastReached : MethodName := ⟨RX1, "leastReached", "(I)I"⟩
abbrev cX1_greatestReached : ByteArray := prog_3_method_18_code
def yX1_greatestReached : MethodName := ⟨RX1, "greatestReached", "(I)I"⟩
abbrev cX1_umbrellasOver : ByteArray := prog_3_method_19_code
def yX1_umbrellasOver : MethodName := ⟨RX1, "umbrellasOver", "(I)I"⟩
abbrev cX1_umbrellasRunningOnto : ByteArray := prog_3_method_20_code
def yX1_umbrellasRunningOnto : MethodName := ⟨RX1, "umbrellasRunningOnto", "(I)I"⟩
abbrev cX1_placesUnreached : ByteArray := prog_3_method_21_code
def yX1_placesUnreached : MethodName := ⟨RX1, "placesUnreached", "()I"⟩
abbrev cX1_isCovered : ByteArray := prog_3_method_22_code
def yX1_isCovered : MethodName := ⟨RX1, "isCovered", "(II)Z"⟩
abbrev cX1_wetnessAfter : ByteArray := prog_3_method_23_code
def yX1_wetnessAfter : MethodName := ⟨RX1, "wetnessAfter", "(III)I"⟩
abbrev cX1_wetterBy : ByteArray := prog_3_method_24_code
def yX1_wetterBy : MethodName := ⟨RX1, "wetterBy", "(III)I"⟩
abbrev cX1_gustsBorne : ByteArray := prog_3_method_25_code
def yX1_gustsBorne : MethodName := ⟨RX1, "gustsBorne", "(II)I"⟩
abbrev cX1_totalWetnessAfter : ByteArray := prog_3_method_26_code
def yX1_totalWetnessAfter : MethodName := ⟨RX1, "totalWetnessAfter", "(II)I"⟩
abbrev cX1_refusal : ByteArray := prog_3_method_27_code
def yX1_refusal : MethodName := ⟨RX1, "refusal", "(I)I"⟩
abbrev cX1_driestSwap : ByteArray := prog_3_method_28_code
def yX1_driestSwap : MethodName := ⟨RX1, "driestSwap", "(II)I"⟩
abbrev cX1_peopleToServe : ByteArray := prog_3_method_29_code
def yX1_peopleToServe : MethodName := ⟨RX1, "peopleToServe", "()I"⟩
abbrev cX1_fareForAll : ByteArray := prog_3_method_30_code
def yX1_fareForAll : MethodName := ⟨RX1, "fareForAll", "()I"⟩
abbrev cX1_driestToServe : ByteArray := prog_3_method_31_code
def yX1_driestToServe : MethodName := ⟨RX1, "driestToServe", "()I"⟩
abbrev cX1_paidFrom : ByteArray := prog_3_method_32_code
def yX1_paidFrom : MethodName := ⟨RX1, "paidFrom", "(I)I"⟩
abbrev cX1_totalWetness : ByteArray := prog_3_method_33_code
def yX1_totalWetness : MethodName := ⟨RX1, "totalWetness", "()I"⟩
abbrev cX1_wettest : ByteArray := prog_3_method_34_code
def yX1_wettest : MethodName := ⟨RX1, "wettest", "()I"⟩
def RX2 : String := "UmbrellaQueue$Weather"
def TX2 : u_T := fun k => match k with
  | 0 => ("UmbrellaQueue$Weather", "text", "[C", true)
  | 1 => ("UmbrellaQueue$Weather", "length", "I", false)
  | 2 => ("UmbrellaQueue$Weather", "kinds", "[C", true)
  | 3 => ("UmbrellaQueue$Weather", "amounts", "[I", true)
  | 4 => ("UmbrellaQueue$Weather", "sides", "[I", true)
  | 5 => ("UmbrellaQueue$Weather", "things", "I", false)
  | _ => ("UmbrellaQueue$Weather", "index", "I", false)
def tyX2 : Nat → FieldType := fun k => match k with
  | 0 => .array .char
  | 1 => .int
  | 2 => .array .char
  | 3 => .array .int
  | 4 => .array .int
  | 5 => .int
  | _ => .int
abbrev wsX20 : List Cond := u_ws RX2 TX2 7
theorem nmX2 : ∀ a, a < 7 → ∀ b, b < 7 → a ≠ b → (TX2 a).2.1 ≠ (TX2 b).2.1 := by decide +kernel
theorem tyX2_ok : ∀ k, k < 7 → parseFieldDescriptor (TX2 k).2.2.1 = some (tyX2 k) := by decide +kernel
abbrev cX2_init : ByteArray := prog_4_method_1_code
def yX2_init : MethodName := ⟨RX2, "<init>", "()V"⟩
abbrev cX2_append : ByteArray := prog_4_method_2_code
def yX2_append : MethodName := ⟨RX2, "append", "(C)I"⟩
abbrev cX2_empty : ByteArray := prog_4_method_3_code
def yX2_empty : MethodName := ⟨RX2, "empty", "()I"⟩
abbrev cX2_read : ByteArray := prog_4_method_4_code
def yX2_read : MethodName := ⟨RX2, "read", "()I"⟩
abbrev cX2_readThing : ByteArray := prog_4_method_5_code
def yX2_readThing : MethodName := ⟨RX2, "readThing", "()Z"⟩
abbrev cX2_readNumber : ByteArray := prog_4_method_6_code
def yX2_readNumber : MethodName := ⟨RX2, "readNumber", "(II)I"⟩
abbrev cX2_readSide : ByteArray := prog_4_method_7_code
def yX2_readSide : MethodName := ⟨RX2, "readSide", "()I"⟩
abbrev cX2_digit : ByteArray := prog_4_method_8_code
def yX2_digit : MethodName := ⟨RX2, "digit", "()I"⟩
abbrev cX2_character : ByteArray := prog_4_method_9_code
def yX2_character : MethodName := ⟨RX2, "character", "()I"⟩
def RX3 : String := "UmbrellaQueue"
def TX3 : u_T := fun k => match k with
  | 0 => ("UmbrellaQueue", "now", "LUmbrellaQueue$State;", true)
  | 1 => ("UmbrellaQueue", "snapshot", "LUmbrellaQueue$State;", true)
  | 2 => ("UmbrellaQueue", "history", "LUmbrellaQueue$History;", true)
  | 3 => ("UmbrellaQueue", "weather", "LUmbrellaQueue$Weather;", true)
  | 4 => ("UmbrellaQueue", "hasSnapshot", "Z", false)
  | 5 => ("UmbrellaQueue", "stopNumber", "I", false)
  | _ => ("UmbrellaQueue", "stopError", "I", false)
def tyX3 : Nat → FieldType := fun k => match k with
  | 0 => .object "UmbrellaQueue$State"
  | 1 => .object "UmbrellaQueue$State"
  | 2 => .object "UmbrellaQueue$History"
  | 3 => .object "UmbrellaQueue$Weather"
  | 4 => .boolean
  | 5 => .int
  | _ => .int
abbrev wsX30 : List Cond := u_ws RX3 TX3 7
theorem nmX3 : ∀ a, a < 7 → ∀ b, b < 7 → a ≠ b → (TX3 a).2.1 ≠ (TX3 b).2.1 := by decide +kernel
theorem tyX3_ok : ∀ k, k < 7 → parseFieldDescriptor (TX3 k).2.2.1 = some (tyX3 k) := by decide +kernel
abbrev cX3_init : ByteArray := prog_1_method_1_code
def yX3_init : MethodName := ⟨RX3, "<init>", "()V"⟩
abbrev cX3_come : ByteArray := prog_1_method_2_code
def yX3_come : MethodName := ⟨RX3, "come", "(III)I"⟩
abbrev cX3_leave : ByteArray := prog_1_method_3_code
def yX3_leave : MethodName := ⟨RX3, "leave", "(I)I"⟩
abbrev cX3_letAhead : ByteArray := prog_1_method_4_code
def yX3_letAhead : MethodName := ⟨RX3, "letAhead", "(I)I"⟩
abbrev cX3_swap : ByteArray := prog_1_method_5_code
def yX3_swap : MethodName := ⟨RX3, "swap", "(I)I"⟩
abbrev cX3_set : ByteArray := prog_1_method_6_code
def yX3_set : MethodName := ⟨RX3, "set", "(II)I"⟩
abbrev cX3_gust : ByteArray := prog_1_method_7_code
def yX3_gust : MethodName := ⟨RX3, "gust", "(II)I"⟩
abbrev cX3_pass : ByteArray := prog_1_method_8_code
def yX3_pass : MethodName := ⟨RX3, "pass", "(I)I"⟩
abbrev cX3_serve : ByteArray := prog_1_method_9_code
def yX3_serve : MethodName := ⟨RX3, "serve", "()I"⟩
abbrev cX3_type : ByteArray := prog_1_method_10_code
def yX3_type : MethodName := ⟨RX3, "type", "(C)I"⟩
abbrev cX3_clearText : ByteArray := prog_1_method_11_code
def yX3_clearText : MethodName := ⟨RX3, "clearText", "()I"⟩
abbrev cX3_perform : ByteArray := prog_1_method_12_code
def yX3_perform : MethodName := ⟨RX3, "perform", "()I"⟩
abbrev cX3_stopped : ByteArray := prog_1_method_13_code
def yX3_stopped : MethodName := ⟨RX3, "stopped", "(I)I"⟩
abbrev cX3_undo : ByteArray := prog_1_method_14_code
def yX3_undo : MethodName := ⟨RX3, "undo", "()I"⟩
abbrev cX3_keep : ByteArray := prog_1_method_15_code
def yX3_keep : MethodName := ⟨RX3, "keep", "()I"⟩
abbrev cX3_restore : ByteArray := prog_1_method_16_code
def yX3_restore : MethodName := ⟨RX3, "restore", "()I"⟩
abbrev cX3_person : ByteArray := prog_1_method_17_code
def yX3_person : MethodName := ⟨RX3, "person", "(II)I"⟩
abbrev cX3_placeOf : ByteArray := prog_1_method_18_code
def yX3_placeOf : MethodName := ⟨RX3, "placeOf", "(I)I"⟩
abbrev cX3_ifGust : ByteArray := prog_1_method_19_code
def yX3_ifGust : MethodName := ⟨RX3, "ifGust", "(IIII)I"⟩
abbrev cX3_reason : ByteArray := prog_1_method_20_code
def yX3_reason : MethodName := ⟨RX3, "reason", "(I)I"⟩
abbrev cX3_bestSwap : ByteArray := prog_1_method_21_code
def yX3_bestSwap : MethodName := ⟨RX3, "bestSwap", "(II)I"⟩
abbrev cX3_payer : ByteArray := prog_1_method_22_code
def yX3_payer : MethodName := ⟨RX3, "payer", "(I)I"⟩
abbrev cX3_bears : ByteArray := prog_1_method_23_code
def yX3_bears : MethodName := ⟨RX3, "bears", "(II)I"⟩
abbrev cX3_count : ByteArray := prog_1_method_24_code
def yX3_count : MethodName := ⟨RX3, "count", "(I)I"⟩
abbrev cX3_recorded : ByteArray := prog_1_method_25_code
def yX3_recorded : MethodName := ⟨RX3, "recorded", "(I)I"⟩
abbrev cX3_happen : ByteArray := prog_1_method_26_code
def yX3_happen : MethodName := ⟨RX3, "happen", "(CII)I"⟩
abbrev cX3_isStop : ByteArray := prog_1_method_27_code
def yX3_isStop : MethodName := ⟨RX3, "isStop", "(I)Z"⟩
abbrev cX3_isGust : ByteArray := prog_1_method_28_code
def yX3_isGust : MethodName := ⟨RX3, "isGust", "(II)Z"⟩
abbrev cX3_isWithin : ByteArray := prog_1_method_29_code
def yX3_isWithin : MethodName := ⟨RX3, "isWithin", "(III)Z"⟩
def RX4 : String := "UmbrellaQueueModel"
def TX4 : u_T := fun k => match k with
  | 0 => ("UmbrellaQueueModel", "s", "[I", true)
  | 1 => ("UmbrellaQueueModel", "ahead", "[I", true)
  | 2 => ("UmbrellaQueueModel", "snapshot", "[I", true)
  | 3 => ("UmbrellaQueueModel", "isKept", "Z", false)
  | 4 => ("UmbrellaQueueModel", "before", "[I", true)
  | 5 => ("UmbrellaQueueModel", "known", "I", false)
  | 6 => ("UmbrellaQueueModel", "text", "[I", true)
  | 7 => ("UmbrellaQueueModel", "length", "I", false)
  | 8 => ("UmbrellaQueueModel", "stopAt", "I", false)
  | 9 => ("UmbrellaQueueModel", "stopBy", "I", false)
  | 10 => ("UmbrellaQueueModel", "position", "I", false)
  | 11 => ("UmbrellaQueueModel", "isWrong", "Z", false)
  | 12 => ("UmbrellaQueueModel", "letter", "I", false)
  | 13 => ("UmbrellaQueueModel", "number", "I", false)
  | 14 => ("UmbrellaQueueModel", "side", "I", false)
  | _ => ("UmbrellaQueueModel", "stop", "I", false)
def tyX4 : Nat → FieldType := fun k => match k with
  | 0 => .array .int
  | 1 => .array .int
  | 2 => .array .int
  | 3 => .boolean
  | 4 => .array .int
  | 5 => .int
  | 6 => .array .int
  | 7 => .int
  | 8 => .int
  | 9 => .int
  | 10 => .int
  | 11 => .boolean
  | 12 => .int
  | 13 => .int
  | 14 => .int
  | _ => .int
abbrev wsX40 : List Cond := u_ws RX4 TX4 16
theorem nmX4 : ∀ a, a < 16 → ∀ b, b < 16 → a ≠ b → (TX4 a).2.1 ≠ (TX4 b).2.1 := by decide +kernel
theorem tyX4_ok : ∀ k, k < 16 → parseFieldDescriptor (TX4 k).2.2.1 = some (tyX4 k) := by decide +kernel
abbrev cX4_init : ByteArray := prog_6_method_1_code
def yX4_init : MethodName := ⟨RX4, "<init>", "()V"⟩
abbrev cX4_in : ByteArray := prog_6_method_3_code
def yX4_in : MethodName := ⟨RX4, "in", "(III)Z"⟩
abbrev cX4_isPlace : ByteArray := prog_6_method_4_code
def yX4_isPlace : MethodName := ⟨RX4, "isPlace", "(I)Z"⟩
abbrev cX4_at : ByteArray := prog_6_method_5_code
def yX4_at : MethodName := ⟨RX4, "at", "(II)I"⟩
abbrev cX4_of : ByteArray := prog_6_method_6_code
def yX4_of : MethodName := ⟨RX4, "of", "(II)I"⟩
abbrev cX4_looks : ByteArray := prog_6_method_7_code
def yX4_looks : MethodName := ⟨RX4, "looks", "()V"⟩
abbrev cX4_records : ByteArray := prog_6_method_8_code
def yX4_records : MethodName := ⟨RX4, "records", "()V"⟩
abbrev cX4_know : ByteArray := prog_6_method_9_code
def yX4_know : MethodName := ⟨RX4, "know", "()V"⟩
abbrev cX4_leastOf : ByteArray := prog_6_method_10_code
def yX4_leastOf : MethodName := ⟨RX4, "leastOf", "(I)I"⟩
abbrev cX4_greatestOf : ByteArray := prog_6_method_11_code
def yX4_greatestOf : MethodName := ⟨RX4, "greatestOf", "(I)I"⟩
abbrev cX4_reaching : ByteArray := prog_6_method_12_code
def yX4_reaching : MethodName := ⟨RX4, "reaching", "(I)I"⟩
abbrev cX4_isCovered : ByteArray := prog_6_method_13_code
def yX4_isCovered : MethodName := ⟨RX4, "isCovered", "(II)Z"⟩
abbrev cX4_running : ByteArray := prog_6_method_14_code
def yX4_running : MethodName := ⟨RX4, "running", "(I)I"⟩
abbrev cX4_wetter : ByteArray := prog_6_method_15_code
def yX4_wetter : MethodName := ⟨RX4, "wetter", "(III)I"⟩
abbrev cX4_wetBy : ByteArray := prog_6_method_16_code
def yX4_wetBy : MethodName := ⟨RX4, "wetBy", "(III)I"⟩
abbrev cX4_goes : ByteArray := prog_6_method_17_code
def yX4_goes : MethodName := ⟨RX4, "goes", "(I)V"⟩
abbrev cX4_gusts : ByteArray := prog_6_method_18_code
def yX4_gusts : MethodName := ⟨RX4, "gusts", "(II)I"⟩
abbrev cX4_passes : ByteArray := prog_6_method_19_code
def yX4_passes : MethodName := ⟨RX4, "passes", "(I)I"⟩
abbrev cX4_served : ByteArray := prog_6_method_20_code
def yX4_served : MethodName := ⟨RX4, "served", "()I"⟩
abbrev cX4_driest : ByteArray := prog_6_method_21_code
def yX4_driest : MethodName := ⟨RX4, "driest", "()I"⟩
abbrev cX4_coinsPaid : ByteArray := prog_6_method_22_code
def yX4_coinsPaid : MethodName := ⟨RX4, "coinsPaid", "()I"⟩
abbrev cX4_serves : ByteArray := prog_6_method_23_code
def yX4_serves : MethodName := ⟨RX4, "serves", "()I"⟩
abbrev cX4_arePair : ByteArray := prog_6_method_24_code
def yX4_arePair : MethodName := ⟨RX4, "arePair", "(I)Z"⟩
abbrev cX4_why : ByteArray := prog_6_method_25_code
def yX4_why : MethodName := ⟨RX4, "why", "(I)I"⟩
abbrev cX4_exchange : ByteArray := prog_6_method_26_code
def yX4_exchange : MethodName := ⟨RX4, "exchange", "(II)V"⟩
abbrev cX4_swaps : ByteArray := prog_6_method_27_code
def yX4_swaps : MethodName := ⟨RX4, "swaps", "(I)I"⟩
abbrev cX4_acted : ByteArray := prog_6_method_28_code
def yX4_acted : MethodName := ⟨RX4, "acted", "(I)I"⟩
abbrev cX4_come : ByteArray := prog_6_method_29_code
def yX4_come : MethodName := ⟨RX4, "come", "(III)I"⟩
abbrev cX4_leave : ByteArray := prog_6_method_30_code
def yX4_leave : MethodName := ⟨RX4, "leave", "(I)I"⟩
abbrev cX4_letAhead : ByteArray := prog_6_method_31_code
def yX4_letAhead : MethodName := ⟨RX4, "letAhead", "(I)I"⟩
abbrev cX4_swap : ByteArray := prog_6_method_32_code
def yX4_swap : MethodName := ⟨RX4, "swap", "(I)I"⟩
abbrev cX4_set : ByteArray := prog_6_method_33_code
def yX4_set : MethodName := ⟨RX4, "set", "(II)I"⟩
abbrev cX4_isGust : ByteArray := prog_6_method_34_code
def yX4_isGust : MethodName := ⟨RX4, "isGust", "(II)Z"⟩
abbrev cX4_gust : ByteArray := prog_6_method_35_code
def yX4_gust : MethodName := ⟨RX4, "gust", "(II)I"⟩
abbrev cX4_pass : ByteArray := prog_6_method_36_code
def yX4_pass : MethodName := ⟨RX4, "pass", "(I)I"⟩
abbrev cX4_serve : ByteArray := prog_6_method_37_code
def yX4_serve : MethodName := ⟨RX4, "serve", "()I"⟩
abbrev cX4_type : ByteArray := prog_6_method_38_code
def yX4_type : MethodName := ⟨RX4, "type", "(C)I"⟩
abbrev cX4_clearText : ByteArray := prog_6_method_39_code
def yX4_clearText : MethodName := ⟨RX4, "clearText", "()I"⟩
abbrev cX4_isNext : ByteArray := prog_6_method_40_code
def yX4_isNext : MethodName := ⟨RX4, "isNext", "(II)Z"⟩
abbrev cX4_takes : ByteArray := prog_6_method_41_code
def yX4_takes : MethodName := ⟨RX4, "takes", "(II)I"⟩
abbrev cX4_takesNumber : ByteArray := prog_6_method_42_code
def yX4_takesNumber : MethodName := ⟨RX4, "takesNumber", "(II)I"⟩
abbrev cX4_readThing : ByteArray := prog_6_method_43_code
def yX4_readThing : MethodName := ⟨RX4, "readThing", "()V"⟩
abbrev cX4_does : ByteArray := prog_6_method_44_code
def yX4_does : MethodName := ⟨RX4, "does", "()I"⟩
abbrev cX4_runs : ByteArray := prog_6_method_45_code
def yX4_runs : MethodName := ⟨RX4, "runs", "(Z)I"⟩
abbrev cX4_perform : ByteArray := prog_6_method_46_code
def yX4_perform : MethodName := ⟨RX4, "perform", "()I"⟩
abbrev cX4_stopped : ByteArray := prog_6_method_47_code
def yX4_stopped : MethodName := ⟨RX4, "stopped", "(I)I"⟩
abbrev cX4_undo : ByteArray := prog_6_method_48_code
def yX4_undo : MethodName := ⟨RX4, "undo", "()I"⟩
abbrev cX4_keep : ByteArray := prog_6_method_49_code
def yX4_keep : MethodName := ⟨RX4, "keep", "()I"⟩
abbrev cX4_restore : ByteArray := prog_6_method_50_code
def yX4_restore : MethodName := ⟨RX4, "restore", "()I"⟩
abbrev cX4_person : ByteArray := prog_6_method_51_code
def yX4_person : MethodName := ⟨RX4, "person", "(II)I"⟩
abbrev cX4_placeOf : ByteArray := prog_6_method_52_code
def yX4_placeOf : MethodName := ⟨RX4, "placeOf", "(I)I"⟩
abbrev cX4_told : ByteArray := prog_6_method_53_code
def yX4_told : MethodName := ⟨RX4, "told", "(IIII)I"⟩
abbrev cX4_ifGust : ByteArray := prog_6_method_54_code
def yX4_ifGust : MethodName := ⟨RX4, "ifGust", "(IIII)I"⟩
abbrev cX4_reason : ByteArray := prog_6_method_55_code
def yX4_reason : MethodName := ⟨RX4, "reason", "(I)I"⟩
abbrev cX4_allWetBy : ByteArray := prog_6_method_56_code
def yX4_allWetBy : MethodName := ⟨RX4, "allWetBy", "(II)I"⟩
abbrev cX4_bestSwap : ByteArray := prog_6_method_57_code
def yX4_bestSwap : MethodName := ⟨RX4, "bestSwap", "(II)I"⟩
abbrev cX4_payer : ByteArray := prog_6_method_58_code
def yX4_payer : MethodName := ⟨RX4, "payer", "(I)I"⟩
abbrev cX4_bears : ByteArray := prog_6_method_59_code
def yX4_bears : MethodName := ⟨RX4, "bears", "(II)I"⟩
abbrev cX4_sumWet : ByteArray := prog_6_method_60_code
def yX4_sumWet : MethodName := ⟨RX4, "sumWet", "()I"⟩
abbrev cX4_wettest : ByteArray := prog_6_method_61_code
def yX4_wettest : MethodName := ⟨RX4, "wettest", "()I"⟩
abbrev cX4_unreached : ByteArray := prog_6_method_62_code
def yX4_unreached : MethodName := ⟨RX4, "unreached", "()I"⟩
abbrev cX4_count : ByteArray := prog_6_method_63_code
def yX4_count : MethodName := ⟨RX4, "count", "(I)I"⟩
def RJ9 : String := "java/lang/Math"
def TJ9 : u_T := fun k => match k with
  | _ => ("", "", "", false)
def tyJ9 : Nat → FieldType := fun k => match k with
  | _ => .int
abbrev wsJ90 : List Cond := u_ws RJ9 TJ9 0
theorem nmJ9 : ∀ a, a < 0 → ∀ b, b < 0 → a ≠ b → (TJ9 a).2.1 ≠ (TJ9 b).2.1 := by decide +kernel
theorem tyJ9_ok : ∀ k, k < 0 → parseFieldDescriptor (TJ9 k).2.2.1 = some (tyJ9 k) := by decide +kernel
abbrev cJ9_max_7cf53 : ByteArray := prog_7_method_65_code
def yJ9_max_7cf53 : MethodName := ⟨RJ9, "max", "(II)I"⟩
abbrev cJ9_min_7cf53 : ByteArray := prog_7_method_69_code
def yJ9_min_7cf53 : MethodName := ⟨RJ9, "min", "(II)I"⟩
def RJ10 : String := "java/lang/System"
def TJ10 : u_T := fun k => match k with
  | _ => ("", "", "", false)
def tyJ10 : Nat → FieldType := fun k => match k with
  | _ => .int
abbrev wsJ100 : List Cond := u_ws RJ10 TJ10 0
theorem nmJ10 : ∀ a, a < 0 → ∀ b, b < 0 → a ≠ b → (TJ10 a).2.1 ≠ (TJ10 b).2.1 := by decide +kernel
theorem tyJ10_ok : ∀ k, k < 0 → parseFieldDescriptor (TJ10 k).2.2.1 = some (tyJ10 k) := by decide +kernel
def RL : String := "UmbrellaQueueLaw"
abbrev cL_law : ByteArray := code
def yL_law : MethodName := ⟨RL, "law", "([I)Z"⟩
def wsX1_init : List Cond := .code yX1_init cX1_init 1 none :: ([.methodLink RX1 3 objectInit, .instanceMethod objectInit, .code objectInit ⟨#[0xb1]⟩ 1 none, .arrayClass .int, .fieldLink RX1 9 "UmbrellaQueue$State" "numbers" "[I", .fieldLink RX1 15 "UmbrellaQueue$State" "wetness" "[I", .fieldLink RX1 18 "UmbrellaQueue$State" "patience" "[I", .fieldLink RX1 21 "UmbrellaQueue$State" "coins" "[I", .fieldLink RX1 24 "UmbrellaQueue$State" "widths" "[I", .fieldLink RX1 27 "UmbrellaQueue$State" "swapped" "[I", .fieldLink RX1 30 "UmbrellaQueue$State" "settings" "[I"] ++ wsX10)
def wsX0_init : List Cond := .code yX0_init cX0_init 2 none :: ([.methodLink RX0 1 objectInit, .instanceMethod objectInit, .code objectInit ⟨#[0xb1]⟩ 1 none, .classLink RX0 9 RX1, .fieldLink RX0 11 "UmbrellaQueue$History" "states" "[LUmbrellaQueue$State;", .instantiable RX1 17, .initialized RX1, .instanceMethod yX1_init, .code yX1_init cX1_init 1 none, .methodLink RX1 3 objectInit, .arrayClass .int, .fieldLink RX1 9 "UmbrellaQueue$State" "numbers" "[I", .fieldLink RX1 15 "UmbrellaQueue$State" "wetness" "[I", .fieldLink RX1 18 "UmbrellaQueue$State" "patience" "[I", .fieldLink RX1 21 "UmbrellaQueue$State" "coins" "[I", .fieldLink RX1 24 "UmbrellaQueue$State" "widths" "[I", .fieldLink RX1 27 "UmbrellaQueue$State" "swapped" "[I", .fieldLink RX1 30 "UmbrellaQueue$State" "settings" "[I"] ++ wsX00 ++ wsX10)
def wsX0_drafted : List Cond := .code yX0_drafted cX0_drafted 1 (some (.object "UmbrellaQueue$State")) :: ([.fieldLink RX0 11 "UmbrellaQueue$History" "states" "[LUmbrellaQueue$State;", .fieldLink RX0 16 "UmbrellaQueue$History" "depth" "I"] ++ wsX00)
def wsX1_copyFrom : List Cond := .code yX1_copyFrom cX1_copyFrom 2 none :: ([.fieldLink RX1 9 "UmbrellaQueue$State" "numbers" "[I", .methodLink RX1 33 arraycopyName, .native arraycopyName, .static arraycopyName, .initialized "java/lang/System", .fieldLink RX1 15 "UmbrellaQueue$State" "wetness" "[I", .fieldLink RX1 18 "UmbrellaQueue$State" "patience" "[I", .fieldLink RX1 21 "UmbrellaQueue$State" "coins" "[I", .fieldLink RX1 24 "UmbrellaQueue$State" "widths" "[I", .fieldLink RX1 27 "UmbrellaQueue$State" "swapped" "[I", .fieldLink RX1 30 "UmbrellaQueue$State" "settings" "[I", .fieldLink RX1 39 "UmbrellaQueue$State" "size" "I", .fieldLink RX1 43 "UmbrellaQueue$State" "came" "I", .fieldLink RX1 46 "UmbrellaQueue$State" "left" "I", .fieldLink RX1 49 "UmbrellaQueue$State" "soaked" "I", .fieldLink RX1 52 "UmbrellaQueue$State" "served" "I", .fieldLink RX1 55 "UmbrellaQueue$State" "paid" "I", .fieldLink RX1 58 "UmbrellaQueue$State" "unpaid" "I", .fieldLink RX1 61 "UmbrellaQueue$State" "swaps" "I", .fieldLink RX1 64 "UmbrellaQueue$State" "gusts" "I", .fieldLink RX1 67 "UmbrellaQueue$State" "minutes" "I"] ++ wsX10)
def wsX0_draft_r1 : List Cond := [Cond.methodLink RX0 20 yX0_drafted, Cond.instanceMethod yX0_drafted, Cond.selects RX0 yX0_drafted yX0_drafted, Cond.initialized RX0, Cond.code yX0_drafted cX0_drafted 1 (some (.object "UmbrellaQueue$State")), Cond.fieldLink RX0 11 "UmbrellaQueue$History" "states" "[LUmbrellaQueue$State;", Cond.fieldLink RX0 16 "UmbrellaQueue$History" "depth" "I", Cond.methodLink RX0 24 yX1_copyFrom, Cond.instanceMethod yX1_copyFrom, Cond.selects RX1 yX1_copyFrom yX1_copyFrom, Cond.initialized RX1, Cond.code yX1_copyFrom cX1_copyFrom 2 none, Cond.fieldLink RX1 9 "UmbrellaQueue$State" "numbers" "[I", Cond.methodLink RX1 33 arraycopyName, Cond.native arraycopyName, Cond.static arraycopyName, Cond.initialized "java/lang/System", Cond.fieldLink RX1 15 "UmbrellaQueue$State" "wetness" "[I", Cond.fieldLink RX1 18 "UmbrellaQueue$State" "patience" "[I", Cond.fieldLink RX1 21 "UmbrellaQueue$State" "coins" "[I", Cond.fieldLink RX1 24 "UmbrellaQueue$State" "widths" "[I", Cond.fieldLink RX1 27 "UmbrellaQueue$State" "swapped" "[I", Cond.fieldLink RX1 30 "UmbrellaQueue$State" "settings" "[I", Cond.fieldLink RX1 39 "UmbrellaQueue$State" "size" "I"]
def wsX0_draft_r2 : List Cond := [Cond.fieldLink RX1 43 "UmbrellaQueue$State" "came" "I", Cond.fieldLink RX1 46 "UmbrellaQueue$State" "left" "I", Cond.fieldLink RX1 49 "UmbrellaQueue$State" "soaked" "I", Cond.fieldLink RX1 52 "UmbrellaQueue$State" "served" "I", Cond.fieldLink RX1 55 "UmbrellaQueue$State" "paid" "I", Cond.fieldLink RX1 58 "UmbrellaQueue$State" "unpaid" "I", Cond.fieldLink RX1 61 "UmbrellaQueue$State" "swaps" "I", Cond.fieldLink RX1 64 "UmbrellaQueue$State" "gusts" "I", Cond.fieldLink RX1 67 "UmbrellaQueue$State" "minutes" "I"]
def wsX0_draft : List Cond := .code yX0_draft cX0_draft 2 none :: ((wsX0_draft_r1 ++ wsX0_draft_r2) ++ wsX00 ++ wsX10)
def wsX0_keepDraft : List Cond := .code yX0_keepDraft cX0_keepDraft 3 none :: ([.fieldLink RX0 16 "UmbrellaQueue$History" "depth" "I", .fieldLink RX0 11 "UmbrellaQueue$History" "states" "[LUmbrellaQueue$State;"] ++ wsX00)
def wsX0_takeLatest : List Cond := .code yX0_takeLatest cX0_takeLatest 1 (some (.object "UmbrellaQueue$State")) :: ([.fieldLink RX0 16 "UmbrellaQueue$History" "depth" "I", .fieldLink RX0 11 "UmbrellaQueue$History" "states" "[LUmbrellaQueue$State;"] ++ wsX00)
def wsX1_isPlace : List Cond := .code yX1_isPlace cX1_isPlace 2 (some .boolean) :: ([.fieldLink RX1 39 "UmbrellaQueue$State" "size" "I"] ++ wsX10)
def wsX1_hasNeighbour : List Cond := .code yX1_hasNeighbour cX1_hasNeighbour 2 (some .boolean) :: ([.fieldLink RX1 39 "UmbrellaQueue$State" "size" "I"] ++ wsX10)
def wsX3_isWithin : List Cond := .code yX3_isWithin cX3_isWithin 3 (some .boolean) :: ([])
def wsX1_admit : List Cond := .code yX1_admit cX1_admit 5 (some .int) :: ([.fieldLink RX1 39 "UmbrellaQueue$State" "size" "I", .fieldLink RX1 43 "UmbrellaQueue$State" "came" "I", .fieldLink RX1 9 "UmbrellaQueue$State" "numbers" "[I", .fieldLink RX1 15 "UmbrellaQueue$State" "wetness" "[I", .fieldLink RX1 18 "UmbrellaQueue$State" "patience" "[I", .fieldLink RX1 21 "UmbrellaQueue$State" "coins" "[I", .fieldLink RX1 24 "UmbrellaQueue$State" "widths" "[I", .fieldLink RX1 27 "UmbrellaQueue$State" "swapped" "[I", .static yX3_isWithin, .initialized RX3, .code yX3_isWithin cX3_isWithin 3 (some .boolean)] ++ wsX10)
def wsX1_closeGap : List Cond := .code yX1_closeGap cX1_closeGap 2 none :: ([.methodLink RX1 33 arraycopyName, .native arraycopyName, .static arraycopyName, .initialized "java/lang/System"])
def wsX1_remove : List Cond := .code yX1_remove cX1_remove 2 none :: ([.fieldLink RX1 9 "UmbrellaQueue$State" "numbers" "[I", .fieldLink RX1 15 "UmbrellaQueue$State" "wetness" "[I", .fieldLink RX1 18 "UmbrellaQueue$State" "patience" "[I", .fieldLink RX1 21 "UmbrellaQueue$State" "coins" "[I", .fieldLink RX1 24 "UmbrellaQueue$State" "widths" "[I", .fieldLink RX1 27 "UmbrellaQueue$State" "swapped" "[I", .fieldLink RX1 39 "UmbrellaQueue$State" "size" "I", .methodLink RX1 130 yX1_closeGap, .static yX1_closeGap, .initialized RX1, .code yX1_closeGap cX1_closeGap 2 none, .methodLink RX1 33 arraycopyName, .native arraycopyName, .static arraycopyName, .initialized "java/lang/System"] ++ wsX10)
def wsX1_dismiss : List Cond := .code yX1_dismiss cX1_dismiss 3 (some .int) :: ([.fieldLink RX1 15 "UmbrellaQueue$State" "wetness" "[I", .fieldLink RX1 46 "UmbrellaQueue$State" "left" "I", .methodLink RX1 74 yX1_isPlace, .instanceMethod yX1_isPlace, .selects RX1 yX1_isPlace yX1_isPlace, .initialized RX1, .code yX1_isPlace cX1_isPlace 2 (some .boolean), .fieldLink RX1 39 "UmbrellaQueue$State" "size" "I", .methodLink RX1 78 yX1_remove, .instanceMethod yX1_remove, .selects RX1 yX1_remove yX1_remove, .code yX1_remove cX1_remove 2 none, .fieldLink RX1 9 "UmbrellaQueue$State" "numbers" "[I", .fieldLink RX1 18 "UmbrellaQueue$State" "patience" "[I", .fieldLink RX1 21 "UmbrellaQueue$State" "coins" "[I", .fieldLink RX1 24 "UmbrellaQueue$State" "widths" "[I", .fieldLink RX1 27 "UmbrellaQueue$State" "swapped" "[I", .methodLink RX1 130 yX1_closeGap, .static yX1_closeGap, .code yX1_closeGap cX1_closeGap 2 none, .methodLink RX1 33 arraycopyName, .native arraycopyName, .static arraycopyName, .initialized "java/lang/System"] ++ wsX10)
def wsX1_exchange : List Cond := .code yX1_exchange cX1_exchange 3 none :: ([])
def wsX1_changePlaces : List Cond := .code yX1_changePlaces cX1_changePlaces 2 (some .int) :: ([.fieldLink RX1 9 "UmbrellaQueue$State" "numbers" "[I", .fieldLink RX1 15 "UmbrellaQueue$State" "wetness" "[I", .fieldLink RX1 18 "UmbrellaQueue$State" "patience" "[I", .fieldLink RX1 21 "UmbrellaQueue$State" "coins" "[I", .fieldLink RX1 24 "UmbrellaQueue$State" "widths" "[I", .fieldLink RX1 27 "UmbrellaQueue$State" "swapped" "[I", .methodLink RX1 82 yX1_hasNeighbour, .instanceMethod yX1_hasNeighbour, .selects RX1 yX1_hasNeighbour yX1_hasNeighbour, .initialized RX1, .code yX1_hasNeighbour cX1_hasNeighbour 2 (some .boolean), .fieldLink RX1 39 "UmbrellaQueue$State" "size" "I", .methodLink RX1 85 yX1_exchange, .static yX1_exchange, .code yX1_exchange cX1_exchange 3 none] ++ wsX10)
def wsX1_refusal : List Cond := .code yX1_refusal cX1_refusal 7 (some .int) :: ([.fieldLink RX1 24 "UmbrellaQueue$State" "widths" "[I", .fieldLink RX1 15 "UmbrellaQueue$State" "wetness" "[I"] ++ wsX10)
def wsX1_swapUmbrellas : List Cond := .code yX1_swapUmbrellas cX1_swapUmbrellas 3 (some .int) :: ([.fieldLink RX1 24 "UmbrellaQueue$State" "widths" "[I", .fieldLink RX1 27 "UmbrellaQueue$State" "swapped" "[I", .fieldLink RX1 61 "UmbrellaQueue$State" "swaps" "I", .methodLink RX1 82 yX1_hasNeighbour, .instanceMethod yX1_hasNeighbour, .selects RX1 yX1_hasNeighbour yX1_hasNeighbour, .initialized RX1, .code yX1_hasNeighbour cX1_hasNeighbour 2 (some .boolean), .fieldLink RX1 39 "UmbrellaQueue$State" "size" "I", .methodLink RX1 89 yX1_refusal, .instanceMethod yX1_refusal, .selects RX1 yX1_refusal yX1_refusal, .code yX1_refusal cX1_refusal 7 (some .int), .fieldLink RX1 15 "UmbrellaQueue$State" "wetness" "[I", .methodLink RX1 85 yX1_exchange, .static yX1_exchange, .code yX1_exchange cX1_exchange 3 none] ++ wsX10)
def wsX1_changeSetting : List Cond := .code yX1_changeSetting cX1_changeSetting 4 (some .int) :: ([.fieldLink RX1 30 "UmbrellaQueue$State" "settings" "[I", .static yX3_isWithin, .initialized RX3, .code yX3_isWithin cX3_isWithin 3 (some .boolean)] ++ wsX10)
def wsX3_isGust : List Cond := .code yX3_isGust cX3_isGust 2 (some .boolean) :: ([.methodLink RX3 157 yX3_isWithin, .static yX3_isWithin, .initialized RX3, .code yX3_isWithin cX3_isWithin 3 (some .boolean)])
def wsX1_leastReached : List Cond := .code yX1_leastReached cX1_leastReached 2 (some .int) :: ([.fieldLink RX1 24 "UmbrellaQueue$State" "widths" "[I", .methodLink RX1 112 Lib.Math.max.name, .static Lib.Math.max.name, .initialized "java/lang/Math", .code Lib.Math.max.name Lib.Math.max.code 2 (some .int)] ++ wsX10)
def wsX1_greatestReached : List Cond := .code yX1_greatestReached cX1_greatestReached 2 (some .int) :: ([.fieldLink RX1 39 "UmbrellaQueue$State" "size" "I", .fieldLink RX1 24 "UmbrellaQueue$State" "widths" "[I", .methodLink RX1 133 Lib.Math.min.name, .static Lib.Math.min.name, .initialized "java/lang/Math", .code Lib.Math.min.name Lib.Math.min.code 2 (some .int)] ++ wsX10)
def wsX1_umbrellasRunningOnto : List Cond := .code yX1_umbrellasRunningOnto cX1_umbrellasRunningOnto 4 (some .int) :: ([.fieldLink RX1 39 "UmbrellaQueue$State" "size" "I", .fieldLink RX1 24 "UmbrellaQueue$State" "widths" "[I", .methodLink RX1 136 yX1_leastReached, .instanceMethod yX1_leastReached, .selects RX1 yX1_leastReached yX1_leastReached, .initialized RX1, .code yX1_leastReached cX1_leastReached 2 (some .int), .methodLink RX1 112 Lib.Math.max.name, .static Lib.Math.max.name, .initialized "java/lang/Math", .code Lib.Math.max.name Lib.Math.max.code 2 (some .int), .methodLink RX1 139 yX1_greatestReached, .instanceMethod yX1_greatestReached, .selects RX1 yX1_greatestReached yX1_greatestReached, .code yX1_greatestReached cX1_greatestReached 2 (some .int), .methodLink RX1 133 Lib.Math.min.name, .static Lib.Math.min.name, .code Lib.Math.min.name Lib.Math.min.code 2 (some .int)] ++ wsX10)
def wsX1_isCovered : List Cond := .code yX1_isCovered cX1_isCovered 6 (some .boolean) :: ([.fieldLink RX1 39 "UmbrellaQueue$State" "size" "I", .fieldLink RX1 24 "UmbrellaQueue$State" "widths" "[I", .methodLink RX1 136 yX1_leastReached, .instanceMethod yX1_leastReached, .selects RX1 yX1_leastReached yX1_leastReached, .initialized RX1, .code yX1_leastReached cX1_leastReached 2 (some .int), .methodLink RX1 112 Lib.Math.max.name, .static Lib.Math.max.name, .initialized "java/lang/Math", .code Lib.Math.max.name Lib.Math.max.code 2 (some .int), .methodLink RX1 139 yX1_greatestReached, .instanceMethod yX1_greatestReached, .selects RX1 yX1_greatestReached yX1_greatestReached, .code yX1_greatestReached cX1_greatestReached 2 (some .int), .methodLink RX1 133 Lib.Math.min.name, .static Lib.Math.min.name, .code Lib.Math.min.name Lib.Math.min.code 2 (some .int)] ++ wsX10)
def wsX1_wetterBy_r1 : List Cond := [Cond.methodLink RX1 148 yX1_umbrellasRunningOnto, Cond.instanceMethod yX1_umbrellasRunningOnto, Cond.selects RX1 yX1_umbrellasRunningOnto yX1_umbrellasRunningOnto, Cond.initialized RX1, Cond.code yX1_umbrellasRunningOnto cX1_umbrellasRunningOnto 4 (some .int), Cond.fieldLink RX1 39 "UmbrellaQueue$State" "size" "I", Cond.fieldLink RX1 24 "UmbrellaQueue$State" "widths" "[I", Cond.methodLink RX1 136 yX1_leastReached, Cond.instanceMethod yX1_leastReached, Cond.selects RX1 yX1_leastReached yX1_leastReached, Cond.code yX1_leastReached cX1_leastReached 2 (some .int), Cond.methodLink RX1 112 Lib.Math.max.name, Cond.static Lib.Math.max.name, Cond.initialized "java/lang/Math", Cond.code Lib.Math.max.name Lib.Math.max.code 2 (some .int), Cond.methodLink RX1 139 yX1_greatestReached, Cond.instanceMethod yX1_greatestReached, Cond.selects RX1 yX1_greatestReached yX1_greatestReached, Cond.code yX1_greatestReached cX1_greatestReached 2 (some .int), Cond.methodLink RX1 133 Lib.Math.min.name, Cond.static Lib.Math.min.name, Cond.code Lib.Math.min.name Lib.Math.min.code 2 (some .int), Cond.methodLink RX1 151 yX1_isCovered, Cond.instanceMethod yX1_isCovered]
def wsX1_wetterBy_r2 : List Cond := [Cond.selects RX1 yX1_isCovered yX1_isCovered, Cond.code yX1_isCovered cX1_isCovered 6 (some .boolean)]
def wsX1_wetterBy : List Cond := .code yX1_wetterBy cX1_wetterBy 5 (some .int) :: ((wsX1_wetterBy_r1 ++ wsX1_wetterBy_r2) ++ wsX10)
def wsX1_wetnessAfter_r1 : List Cond := [Cond.fieldLink RX1 15 "UmbrellaQueue$State" "wetness" "[I", Cond.methodLink RX1 133 Lib.Math.min.name, Cond.static Lib.Math.min.name, Cond.initialized "java/lang/Math", Cond.code Lib.Math.min.name Lib.Math.min.code 2 (some .int), Cond.methodLink RX1 145 yX1_wetterBy, Cond.instanceMethod yX1_wetterBy, Cond.selects RX1 yX1_wetterBy yX1_wetterBy, Cond.initialized RX1, Cond.code yX1_wetterBy cX1_wetterBy 5 (some .int), Cond.methodLink RX1 148 yX1_umbrellasRunningOnto, Cond.instanceMethod yX1_umbrellasRunningOnto, Cond.selects RX1 yX1_umbrellasRunningOnto yX1_umbrellasRunningOnto, Cond.code yX1_umbrellasRunningOnto cX1_umbrellasRunningOnto 4 (some .int), Cond.fieldLink RX1 39 "UmbrellaQueue$State" "size" "I", Cond.fieldLink RX1 24 "UmbrellaQueue$State" "widths" "[I", Cond.methodLink RX1 136 yX1_leastReached, Cond.instanceMethod yX1_leastReached, Cond.selects RX1 yX1_leastReached yX1_leastReached, Cond.code yX1_leastReached cX1_leastReached 2 (some .int), Cond.methodLink RX1 112 Lib.Math.max.name, Cond.static Lib.Math.max.name, Cond.code Lib.Math.max.name Lib.Math.max.code 2 (some .int), Cond.methodLink RX1 139 yX1_greatestReached]
def wsX1_wetnessAfter_r2 : List Cond := [Cond.instanceMethod yX1_greatestReached, Cond.selects RX1 yX1_greatestReached yX1_greatestReached, Cond.code yX1_greatestReached cX1_greatestReached 2 (some .int), Cond.methodLink RX1 151 yX1_isCovered, Cond.instanceMethod yX1_isCovered, Cond.selects RX1 yX1_isCovered yX1_isCovered, Cond.code yX1_isCovered cX1_isCovered 6 (some .boolean)]
def wsX1_wetnessAfter : List Cond := .code yX1_wetnessAfter cX1_wetnessAfter 4 (some .int) :: ((wsX1_wetnessAfter_r1 ++ wsX1_wetnessAfter_r2) ++ wsX10)
def wsX1_removeSoaked : List Cond := .code yX1_removeSoaked cX1_removeSoaked 3 (some .int) :: ([.fieldLink RX1 39 "UmbrellaQueue$State" "size" "I", .fieldLink RX1 15 "UmbrellaQueue$State" "wetness" "[I", .fieldLink RX1 18 "UmbrellaQueue$State" "patience" "[I", .fieldLink RX1 49 "UmbrellaQueue$State" "soaked" "I", .methodLink RX1 78 yX1_remove, .instanceMethod yX1_remove, .selects RX1 yX1_remove yX1_remove, .initialized RX1, .code yX1_remove cX1_remove 2 none, .fieldLink RX1 9 "UmbrellaQueue$State" "numbers" "[I", .fieldLink RX1 21 "UmbrellaQueue$State" "coins" "[I", .fieldLink RX1 24 "UmbrellaQueue$State" "widths" "[I", .fieldLink RX1 27 "UmbrellaQueue$State" "swapped" "[I", .methodLink RX1 130 yX1_closeGap, .static yX1_closeGap, .code yX1_closeGap cX1_closeGap 2 none, .methodLink RX1 33 arraycopyName, .native arraycopyName, .static arraycopyName, .initialized "java/lang/System"] ++ wsX10)
def wsX1_rain_r1 : List Cond := [Cond.fieldLink RX1 39 "UmbrellaQueue$State" "size" "I", Cond.fieldLink RX1 15 "UmbrellaQueue$State" "wetness" "[I", Cond.fieldLink RX1 64 "UmbrellaQueue$State" "gusts" "I", Cond.static yX3_isGust, Cond.initialized RX3, Cond.code yX3_isGust cX3_isGust 2 (some .boolean), Cond.methodLink RX3 157 yX3_isWithin, Cond.static yX3_isWithin, Cond.code yX3_isWithin cX3_isWithin 3 (some .boolean), Cond.methodLink RX1 103 yX1_wetnessAfter, Cond.instanceMethod yX1_wetnessAfter, Cond.selects RX1 yX1_wetnessAfter yX1_wetnessAfter, Cond.initialized RX1, Cond.code yX1_wetnessAfter cX1_wetnessAfter 4 (some .int), Cond.methodLink RX1 133 Lib.Math.min.name, Cond.static Lib.Math.min.name, Cond.initialized "java/lang/Math", Cond.code Lib.Math.min.name Lib.Math.min.code 2 (some .int), Cond.methodLink RX1 145 yX1_wetterBy, Cond.instanceMethod yX1_wetterBy, Cond.selects RX1 yX1_wetterBy yX1_wetterBy, Cond.code yX1_wetterBy cX1_wetterBy 5 (some .int), Cond.methodLink RX1 148 yX1_umbrellasRunningOnto, Cond.instanceMethod yX1_umbrellasRunningOnto]
def wsX1_rain_r2 : List Cond := [Cond.selects RX1 yX1_umbrellasRunningOnto yX1_umbrellasRunningOnto, Cond.code yX1_umbrellasRunningOnto cX1_umbrellasRunningOnto 4 (some .int), Cond.fieldLink RX1 24 "UmbrellaQueue$State" "widths" "[I", Cond.methodLink RX1 136 yX1_leastReached, Cond.instanceMethod yX1_leastReached, Cond.selects RX1 yX1_leastReached yX1_leastReached, Cond.code yX1_leastReached cX1_leastReached 2 (some .int), Cond.methodLink RX1 112 Lib.Math.max.name, Cond.static Lib.Math.max.name, Cond.code Lib.Math.max.name Lib.Math.max.code 2 (some .int), Cond.methodLink RX1 139 yX1_greatestReached, Cond.instanceMethod yX1_greatestReached, Cond.selects RX1 yX1_greatestReached yX1_greatestReached, Cond.code yX1_greatestReached cX1_greatestReached 2 (some .int), Cond.methodLink RX1 151 yX1_isCovered, Cond.instanceMethod yX1_isCovered, Cond.selects RX1 yX1_isCovered yX1_isCovered, Cond.code yX1_isCovered cX1_isCovered 6 (some .boolean), Cond.methodLink RX1 107 yX1_removeSoaked, Cond.instanceMethod yX1_removeSoaked, Cond.selects RX1 yX1_removeSoaked yX1_removeSoaked, Cond.code yX1_removeSoaked cX1_removeSoaked 3 (some .int), Cond.fieldLink RX1 18 "UmbrellaQueue$State" "patience" "[I", Cond.fieldLink RX1 49 "UmbrellaQueue$State" "soaked" "I"]
def wsX1_rain_r3 : List Cond := [Cond.methodLink RX1 78 yX1_remove, Cond.instanceMethod yX1_remove, Cond.selects RX1 yX1_remove yX1_remove, Cond.code yX1_remove cX1_remove 2 none, Cond.fieldLink RX1 9 "UmbrellaQueue$State" "numbers" "[I", Cond.fieldLink RX1 21 "UmbrellaQueue$State" "coins" "[I", Cond.fieldLink RX1 27 "UmbrellaQueue$State" "swapped" "[I", Cond.methodLink RX1 130 yX1_closeGap, Cond.static yX1_closeGap, Cond.code yX1_closeGap cX1_closeGap 2 none, Cond.methodLink RX1 33 arraycopyName, Cond.native arraycopyName, Cond.static arraycopyName, Cond.initialized "java/lang/System"]
def wsX1_rain : List Cond := .code yX1_rain cX1_rain 4 (some .int) :: ((wsX1_rain_r1 ++ (wsX1_rain_r2 ++ wsX1_rain_r3)) ++ wsX10)
def wsX1_dry : List Cond := .code yX1_dry cX1_dry 4 (some .int) :: ([.fieldLink RX1 67 "UmbrellaQueue$State" "minutes" "I", .constant RX1 111 (99999), .fieldLink RX1 39 "UmbrellaQueue$State" "size" "I", .fieldLink RX1 15 "UmbrellaQueue$State" "wetness" "[I", .fieldLink RX1 30 "UmbrellaQueue$State" "settings" "[I", .methodLink RX1 112 Lib.Math.max.name, .static Lib.Math.max.name, .initialized "java/lang/Math", .code Lib.Math.max.name Lib.Math.max.code 2 (some .int), .static yX3_isWithin, .initialized RX3, .code yX3_isWithin cX3_isWithin 3 (some .boolean)] ++ wsX10)
def wsX1_peopleToServe : List Cond := .code yX1_peopleToServe cX1_peopleToServe 1 (some .int) :: ([.fieldLink RX1 39 "UmbrellaQueue$State" "size" "I", .fieldLink RX1 30 "UmbrellaQueue$State" "settings" "[I", .methodLink RX1 133 Lib.Math.min.name, .static Lib.Math.min.name, .initialized "java/lang/Math", .code Lib.Math.min.name Lib.Math.min.code 2 (some .int)] ++ wsX10)
def wsX1_driestToServe : List Cond := .code yX1_driestToServe cX1_driestToServe 4 (some .int) :: ([.fieldLink RX1 15 "UmbrellaQueue$State" "wetness" "[I", .methodLink RX1 118 yX1_peopleToServe, .instanceMethod yX1_peopleToServe, .selects RX1 yX1_peopleToServe yX1_peopleToServe, .initialized RX1, .code yX1_peopleToServe cX1_peopleToServe 1 (some .int), .fieldLink RX1 39 "UmbrellaQueue$State" "size" "I", .fieldLink RX1 30 "UmbrellaQueue$State" "settings" "[I", .methodLink RX1 133 Lib.Math.min.name, .static Lib.Math.min.name, .initialized "java/lang/Math", .code Lib.Math.min.name Lib.Math.min.code 2 (some .int)] ++ wsX10)
def wsX1_fareForAll : List Cond := .code yX1_fareForAll cX1_fareForAll 1 (some .int) :: ([.fieldLink RX1 30 "UmbrellaQueue$State" "settings" "[I", .methodLink RX1 118 yX1_peopleToServe, .instanceMethod yX1_peopleToServe, .selects RX1 yX1_peopleToServe yX1_peopleToServe, .initialized RX1, .code yX1_peopleToServe cX1_peopleToServe 1 (some .int), .fieldLink RX1 39 "UmbrellaQueue$State" "size" "I", .methodLink RX1 133 Lib.Math.min.name, .static Lib.Math.min.name, .initialized "java/lang/Math", .code Lib.Math.min.name Lib.Math.min.code 2 (some .int)] ++ wsX10)
def wsX1_paidFrom : List Cond := .code yX1_paidFrom cX1_paidFrom 2 (some .int) :: ([.fieldLink RX1 21 "UmbrellaQueue$State" "coins" "[I", .methodLink RX1 133 Lib.Math.min.name, .static Lib.Math.min.name, .initialized "java/lang/Math", .code Lib.Math.min.name Lib.Math.min.code 2 (some .int), .methodLink RX1 127 yX1_fareForAll, .instanceMethod yX1_fareForAll, .selects RX1 yX1_fareForAll yX1_fareForAll, .initialized RX1, .code yX1_fareForAll cX1_fareForAll 1 (some .int), .fieldLink RX1 30 "UmbrellaQueue$State" "settings" "[I", .methodLink RX1 118 yX1_peopleToServe, .instanceMethod yX1_peopleToServe, .selects RX1 yX1_peopleToServe yX1_peopleToServe, .code yX1_peopleToServe cX1_peopleToServe 1 (some .int), .fieldLink RX1 39 "UmbrellaQueue$State" "size" "I"] ++ wsX10)
def wsX1_serveFirst_r1 : List Cond := [Cond.fieldLink RX1 39 "UmbrellaQueue$State" "size" "I", Cond.fieldLink RX1 55 "UmbrellaQueue$State" "paid" "I", Cond.fieldLink RX1 58 "UmbrellaQueue$State" "unpaid" "I", Cond.fieldLink RX1 52 "UmbrellaQueue$State" "served" "I", Cond.methodLink RX1 118 yX1_peopleToServe, Cond.instanceMethod yX1_peopleToServe, Cond.selects RX1 yX1_peopleToServe yX1_peopleToServe, Cond.initialized RX1, Cond.code yX1_peopleToServe cX1_peopleToServe 1 (some .int), Cond.fieldLink RX1 30 "UmbrellaQueue$State" "settings" "[I", Cond.methodLink RX1 133 Lib.Math.min.name, Cond.static Lib.Math.min.name, Cond.initialized "java/lang/Math", Cond.code Lib.Math.min.name Lib.Math.min.code 2 (some .int), Cond.methodLink RX1 121 yX1_driestToServe, Cond.instanceMethod yX1_driestToServe, Cond.selects RX1 yX1_driestToServe yX1_driestToServe, Cond.code yX1_driestToServe cX1_driestToServe 4 (some .int), Cond.fieldLink RX1 15 "UmbrellaQueue$State" "wetness" "[I", Cond.methodLink RX1 124 yX1_paidFrom, Cond.instanceMethod yX1_paidFrom, Cond.selects RX1 yX1_paidFrom yX1_paidFrom, Cond.code yX1_paidFrom cX1_paidFrom 2 (some .int), Cond.fieldLink RX1 21 "UmbrellaQueue$State" "coins" "[I"]
def wsX1_serveFirst_r2 : List Cond := [Cond.methodLink RX1 127 yX1_fareForAll, Cond.instanceMethod yX1_fareForAll, Cond.selects RX1 yX1_fareForAll yX1_fareForAll, Cond.code yX1_fareForAll cX1_fareForAll 1 (some .int), Cond.methodLink RX1 78 yX1_remove, Cond.instanceMethod yX1_remove, Cond.selects RX1 yX1_remove yX1_remove, Cond.code yX1_remove cX1_remove 2 none, Cond.fieldLink RX1 9 "UmbrellaQueue$State" "numbers" "[I", Cond.fieldLink RX1 18 "UmbrellaQueue$State" "patience" "[I", Cond.fieldLink RX1 24 "UmbrellaQueue$State" "widths" "[I", Cond.fieldLink RX1 27 "UmbrellaQueue$State" "swapped" "[I", Cond.methodLink RX1 130 yX1_closeGap, Cond.static yX1_closeGap, Cond.code yX1_closeGap cX1_closeGap 2 none, Cond.methodLink RX1 33 arraycopyName, Cond.native arraycopyName, Cond.static arraycopyName, Cond.initialized "java/lang/System"]
def wsX1_serveFirst : List Cond := .code yX1_serveFirst cX1_serveFirst 4 (some .int) :: ((wsX1_serveFirst_r1 ++ wsX1_serveFirst_r2) ++ wsX10)
def wsX1_umbrellasOver : List Cond := .code yX1_umbrellasOver cX1_umbrellasOver 4 (some .int) :: ([.fieldLink RX1 39 "UmbrellaQueue$State" "size" "I", .fieldLink RX1 24 "UmbrellaQueue$State" "widths" "[I", .methodLink RX1 136 yX1_leastReached, .instanceMethod yX1_leastReached, .selects RX1 yX1_leastReached yX1_leastReached, .initialized RX1, .code yX1_leastReached cX1_leastReached 2 (some .int), .methodLink RX1 112 Lib.Math.max.name, .static Lib.Math.max.name, .initialized "java/lang/Math", .code Lib.Math.max.name Lib.Math.max.code 2 (some .int), .methodLink RX1 139 yX1_greatestReached, .instanceMethod yX1_greatestReached, .selects RX1 yX1_greatestReached yX1_greatestReached, .code yX1_greatestReached cX1_greatestReached 2 (some .int), .methodLink RX1 133 Lib.Math.min.name, .static Lib.Math.min.name, .code Lib.Math.min.name Lib.Math.min.code 2 (some .int), .static yX3_isWithin, .initialized RX3, .code yX3_isWithin cX3_isWithin 3 (some .boolean)] ++ wsX10)
def wsX1_placesUnreached_r1 : List Cond := [Cond.fieldLink RX1 39 "UmbrellaQueue$State" "size" "I", Cond.methodLink RX1 142 yX1_umbrellasOver, Cond.instanceMethod yX1_umbrellasOver, Cond.selects RX1 yX1_umbrellasOver yX1_umbrellasOver, Cond.initialized RX1, Cond.code yX1_umbrellasOver cX1_umbrellasOver 4 (some .int), Cond.fieldLink RX1 24 "UmbrellaQueue$State" "widths" "[I", Cond.methodLink RX1 136 yX1_leastReached, Cond.instanceMethod yX1_leastReached, Cond.selects RX1 yX1_leastReached yX1_leastReached, Cond.code yX1_leastReached cX1_leastReached 2 (some .int), Cond.methodLink RX1 112 Lib.Math.max.name, Cond.static Lib.Math.max.name, Cond.initialized "java/lang/Math", Cond.code Lib.Math.max.name Lib.Math.max.code 2 (some .int), Cond.methodLink RX1 139 yX1_greatestReached, Cond.instanceMethod yX1_greatestReached, Cond.selects RX1 yX1_greatestReached yX1_greatestReached, Cond.code yX1_greatestReached cX1_greatestReached 2 (some .int), Cond.methodLink RX1 133 Lib.Math.min.name, Cond.static Lib.Math.min.name, Cond.code Lib.Math.min.name Lib.Math.min.code 2 (some .int), Cond.static yX3_isWithin, Cond.initialized RX3]
def wsX1_placesUnreached_r2 : List Cond := [Cond.code yX3_isWithin cX3_isWithin 3 (some .boolean)]
def wsX1_placesUnreached : List Cond := .code yX1_placesUnreached cX1_placesUnreached 3 (some .int) :: ((wsX1_placesUnreached_r1 ++ wsX1_placesUnreached_r2) ++ wsX10)
def wsX1_gustsBorne_r1 : List Cond := [Cond.fieldLink RX1 18 "UmbrellaQueue$State" "patience" "[I", Cond.fieldLink RX1 15 "UmbrellaQueue$State" "wetness" "[I", Cond.methodLink RX1 145 yX1_wetterBy, Cond.instanceMethod yX1_wetterBy, Cond.selects RX1 yX1_wetterBy yX1_wetterBy, Cond.initialized RX1, Cond.code yX1_wetterBy cX1_wetterBy 5 (some .int), Cond.methodLink RX1 148 yX1_umbrellasRunningOnto, Cond.instanceMethod yX1_umbrellasRunningOnto, Cond.selects RX1 yX1_umbrellasRunningOnto yX1_umbrellasRunningOnto, Cond.code yX1_umbrellasRunningOnto cX1_umbrellasRunningOnto 4 (some .int), Cond.fieldLink RX1 39 "UmbrellaQueue$State" "size" "I", Cond.fieldLink RX1 24 "UmbrellaQueue$State" "widths" "[I", Cond.methodLink RX1 136 yX1_leastReached, Cond.instanceMethod yX1_leastReached, Cond.selects RX1 yX1_leastReached yX1_leastReached, Cond.code yX1_leastReached cX1_leastReached 2 (some .int), Cond.methodLink RX1 112 Lib.Math.max.name, Cond.static Lib.Math.max.name, Cond.initialized "java/lang/Math", Cond.code Lib.Math.max.name Lib.Math.max.code 2 (some .int), Cond.methodLink RX1 139 yX1_greatestReached, Cond.instanceMethod yX1_greatestReached, Cond.selects RX1 yX1_greatestReached yX1_greatestReached]
def wsX1_gustsBorne_r2 : List Cond := [Cond.code yX1_greatestReached cX1_greatestReached 2 (some .int), Cond.methodLink RX1 133 Lib.Math.min.name, Cond.static Lib.Math.min.name, Cond.code Lib.Math.min.name Lib.Math.min.code 2 (some .int), Cond.methodLink RX1 151 yX1_isCovered, Cond.instanceMethod yX1_isCovered, Cond.selects RX1 yX1_isCovered yX1_isCovered, Cond.code yX1_isCovered cX1_isCovered 6 (some .boolean)]
def wsX1_gustsBorne : List Cond := .code yX1_gustsBorne cX1_gustsBorne 4 (some .int) :: ((wsX1_gustsBorne_r1 ++ wsX1_gustsBorne_r2) ++ wsX10)
def wsX1_totalWetnessAfter_r1 : List Cond := [Cond.fieldLink RX1 39 "UmbrellaQueue$State" "size" "I", Cond.methodLink RX1 103 yX1_wetnessAfter, Cond.instanceMethod yX1_wetnessAfter, Cond.selects RX1 yX1_wetnessAfter yX1_wetnessAfter, Cond.initialized RX1, Cond.code yX1_wetnessAfter cX1_wetnessAfter 4 (some .int), Cond.fieldLink RX1 15 "UmbrellaQueue$State" "wetness" "[I", Cond.methodLink RX1 133 Lib.Math.min.name, Cond.static Lib.Math.min.name, Cond.initialized "java/lang/Math", Cond.code Lib.Math.min.name Lib.Math.min.code 2 (some .int), Cond.methodLink RX1 145 yX1_wetterBy, Cond.instanceMethod yX1_wetterBy, Cond.selects RX1 yX1_wetterBy yX1_wetterBy, Cond.code yX1_wetterBy cX1_wetterBy 5 (some .int), Cond.methodLink RX1 148 yX1_umbrellasRunningOnto, Cond.instanceMethod yX1_umbrellasRunningOnto, Cond.selects RX1 yX1_umbrellasRunningOnto yX1_umbrellasRunningOnto, Cond.code yX1_umbrellasRunningOnto cX1_umbrellasRunningOnto 4 (some .int), Cond.fieldLink RX1 24 "UmbrellaQueue$State" "widths" "[I", Cond.methodLink RX1 136 yX1_leastReached, Cond.instanceMethod yX1_leastReached, Cond.selects RX1 yX1_leastReached yX1_leastReached, Cond.code yX1_leastReached cX1_leastReached 2 (some .int)]
def wsX1_totalWetnessAfter_r2 : List Cond := [Cond.methodLink RX1 112 Lib.Math.max.name, Cond.static Lib.Math.max.name, Cond.code Lib.Math.max.name Lib.Math.max.code 2 (some .int), Cond.methodLink RX1 139 yX1_greatestReached, Cond.instanceMethod yX1_greatestReached, Cond.selects RX1 yX1_greatestReached yX1_greatestReached, Cond.code yX1_greatestReached cX1_greatestReached 2 (some .int), Cond.methodLink RX1 151 yX1_isCovered, Cond.instanceMethod yX1_isCovered, Cond.selects RX1 yX1_isCovered yX1_isCovered, Cond.code yX1_isCovered cX1_isCovered 6 (some .boolean)]
def wsX1_totalWetnessAfter : List Cond := .code yX1_totalWetnessAfter cX1_totalWetnessAfter 5 (some .int) :: ((wsX1_totalWetnessAfter_r1 ++ wsX1_totalWetnessAfter_r2) ++ wsX10)
def wsX1_driestSwap_r1 : List Cond := [Cond.fieldLink RX1 39 "UmbrellaQueue$State" "size" "I", Cond.fieldLink RX1 24 "UmbrellaQueue$State" "widths" "[I", Cond.methodLink RX1 154 yX1_totalWetnessAfter, Cond.instanceMethod yX1_totalWetnessAfter, Cond.selects RX1 yX1_totalWetnessAfter yX1_totalWetnessAfter, Cond.initialized RX1, Cond.code yX1_totalWetnessAfter cX1_totalWetnessAfter 5 (some .int), Cond.methodLink RX1 103 yX1_wetnessAfter, Cond.instanceMethod yX1_wetnessAfter, Cond.selects RX1 yX1_wetnessAfter yX1_wetnessAfter, Cond.code yX1_wetnessAfter cX1_wetnessAfter 4 (some .int), Cond.fieldLink RX1 15 "UmbrellaQueue$State" "wetness" "[I", Cond.methodLink RX1 133 Lib.Math.min.name, Cond.static Lib.Math.min.name, Cond.initialized "java/lang/Math", Cond.code Lib.Math.min.name Lib.Math.min.code 2 (some .int), Cond.methodLink RX1 145 yX1_wetterBy, Cond.instanceMethod yX1_wetterBy, Cond.selects RX1 yX1_wetterBy yX1_wetterBy, Cond.code yX1_wetterBy cX1_wetterBy 5 (some .int), Cond.methodLink RX1 148 yX1_umbrellasRunningOnto, Cond.instanceMethod yX1_umbrellasRunningOnto, Cond.selects RX1 yX1_umbrellasRunningOnto yX1_umbrellasRunningOnto, Cond.code yX1_umbrellasRunningOnto cX1_umbrellasRunningOnto 4 (some .int)]
def wsX1_driestSwap_r2 : List Cond := [Cond.methodLink RX1 136 yX1_leastReached, Cond.instanceMethod yX1_leastReached, Cond.selects RX1 yX1_leastReached yX1_leastReached, Cond.code yX1_leastReached cX1_leastReached 2 (some .int), Cond.methodLink RX1 112 Lib.Math.max.name, Cond.static Lib.Math.max.name, Cond.code Lib.Math.max.name Lib.Math.max.code 2 (some .int), Cond.methodLink RX1 139 yX1_greatestReached, Cond.instanceMethod yX1_greatestReached, Cond.selects RX1 yX1_greatestReached yX1_greatestReached, Cond.code yX1_greatestReached cX1_greatestReached 2 (some .int), Cond.methodLink RX1 151 yX1_isCovered, Cond.instanceMethod yX1_isCovered, Cond.selects RX1 yX1_isCovered yX1_isCovered, Cond.code yX1_isCovered cX1_isCovered 6 (some .boolean), Cond.methodLink RX1 89 yX1_refusal, Cond.instanceMethod yX1_refusal, Cond.selects RX1 yX1_refusal yX1_refusal, Cond.code yX1_refusal cX1_refusal 7 (some .int), Cond.methodLink RX1 85 yX1_exchange, Cond.static yX1_exchange, Cond.code yX1_exchange cX1_exchange 3 none]
def wsX1_driestSwap : List Cond := .code yX1_driestSwap cX1_driestSwap 7 (some .int) :: ((wsX1_driestSwap_r1 ++ wsX1_driestSwap_r2) ++ wsX10)
def wsX1_totalWetness : List Cond := .code yX1_totalWetness cX1_totalWetness 3 (some .int) :: ([.fieldLink RX1 39 "UmbrellaQueue$State" "size" "I", .fieldLink RX1 15 "UmbrellaQueue$State" "wetness" "[I"] ++ wsX10)
def wsX1_wettest : List Cond := .code yX1_wettest cX1_wettest 4 (some .int) :: ([.fieldLink RX1 39 "UmbrellaQueue$State" "size" "I", .fieldLink RX1 15 "UmbrellaQueue$State" "wetness" "[I"] ++ wsX10)
def wsX2_init : List Cond := .code yX2_init cX2_init 1 none :: ([.methodLink RX2 3 objectInit, .instanceMethod objectInit, .code objectInit ⟨#[0xb1]⟩ 1 none, .arrayClass .char, .fieldLink RX2 11 "UmbrellaQueue$Weather" "text" "[C", .fieldLink RX2 15 "UmbrellaQueue$Weather" "kinds" "[C", .arrayClass .int, .fieldLink RX2 18 "UmbrellaQueue$Weather" "amounts" "[I", .fieldLink RX2 22 "UmbrellaQueue$Weather" "sides" "[I"] ++ wsX20)
def wsX2_append : List Cond := .code yX2_append cX2_append 2 (some .int) :: ([.fieldLink RX2 25 "UmbrellaQueue$Weather" "length" "I", .fieldLink RX2 11 "UmbrellaQueue$Weather" "text" "[C"] ++ wsX20)
def wsX2_empty : List Cond := .code yX2_empty cX2_empty 2 (some .int) :: ([.fieldLink RX2 25 "UmbrellaQueue$Weather" "length" "I"] ++ wsX20)
def wsX2_character : List Cond := .code yX2_character cX2_character 1 (some .int) :: ([.fieldLink RX2 32 "UmbrellaQueue$Weather" "index" "I", .fieldLink RX2 25 "UmbrellaQueue$Weather" "length" "I", .fieldLink RX2 11 "UmbrellaQueue$Weather" "text" "[C"] ++ wsX20)
def wsX2_digit : List Cond := .code yX2_digit cX2_digit 2 (some .int) :: ([.methodLink RX2 39 yX2_character, .instanceMethod yX2_character, .selects RX2 yX2_character yX2_character, .initialized RX2, .code yX2_character cX2_character 1 (some .int), .fieldLink RX2 32 "UmbrellaQueue$Weather" "index" "I", .fieldLink RX2 25 "UmbrellaQueue$Weather" "length" "I", .fieldLink RX2 11 "UmbrellaQueue$Weather" "text" "[C", .static yX3_isWithin, .initialized RX3, .code yX3_isWithin cX3_isWithin 3 (some .boolean)] ++ wsX20)
def wsX2_readNumber : List Cond := .code yX2_readNumber cX2_readNumber 5 (some .int) :: ([.fieldLink RX2 32 "UmbrellaQueue$Weather" "index" "I", .methodLink RX2 50 yX2_digit, .instanceMethod yX2_digit, .selects RX2 yX2_digit yX2_digit, .initialized RX2, .code yX2_digit cX2_digit 2 (some .int), .methodLink RX2 39 yX2_character, .instanceMethod yX2_character, .selects RX2 yX2_character yX2_character, .code yX2_character cX2_character 1 (some .int), .fieldLink RX2 25 "UmbrellaQueue$Weather" "length" "I", .fieldLink RX2 11 "UmbrellaQueue$Weather" "text" "[C", .static yX3_isWithin, .initialized RX3, .code yX3_isWithin cX3_isWithin 3 (some .boolean)] ++ wsX20)
def wsX2_readSide : List Cond := .code yX2_readSide cX2_readSide 2 (some .int) :: ([.fieldLink RX2 32 "UmbrellaQueue$Weather" "index" "I", .methodLink RX2 39 yX2_character, .instanceMethod yX2_character, .selects RX2 yX2_character yX2_character, .initialized RX2, .code yX2_character cX2_character 1 (some .int), .fieldLink RX2 25 "UmbrellaQueue$Weather" "length" "I", .fieldLink RX2 11 "UmbrellaQueue$Weather" "text" "[C"] ++ wsX20)
def wsX2_readThing_r1 : List Cond := [Cond.fieldLink RX2 32 "UmbrellaQueue$Weather" "index" "I", Cond.fieldLink RX2 15 "UmbrellaQueue$Weather" "kinds" "[C", Cond.fieldLink RX2 29 "UmbrellaQueue$Weather" "things" "I", Cond.fieldLink RX2 18 "UmbrellaQueue$Weather" "amounts" "[I", Cond.fieldLink RX2 22 "UmbrellaQueue$Weather" "sides" "[I", Cond.methodLink RX2 39 yX2_character, Cond.instanceMethod yX2_character, Cond.selects RX2 yX2_character yX2_character, Cond.initialized RX2, Cond.code yX2_character cX2_character 1 (some .int), Cond.fieldLink RX2 25 "UmbrellaQueue$Weather" "length" "I", Cond.fieldLink RX2 11 "UmbrellaQueue$Weather" "text" "[C", Cond.methodLink RX2 43 yX2_readNumber, Cond.instanceMethod yX2_readNumber, Cond.selects RX2 yX2_readNumber yX2_readNumber, Cond.code yX2_readNumber cX2_readNumber 5 (some .int), Cond.methodLink RX2 50 yX2_digit, Cond.instanceMethod yX2_digit, Cond.selects RX2 yX2_digit yX2_digit, Cond.code yX2_digit cX2_digit 2 (some .int), Cond.static yX3_isWithin, Cond.initialized RX3, Cond.code yX3_isWithin cX3_isWithin 3 (some .boolean), Cond.methodLink RX2 47 yX2_readSide]
def wsX2_readThing_r2 : List Cond := [Cond.instanceMethod yX2_readSide, Cond.selects RX2 yX2_readSide yX2_readSide, Cond.code yX2_readSide cX2_readSide 2 (some .int)]
def wsX2_readThing : List Cond := .code yX2_readThing cX2_readThing 3 (some .boolean) :: ((wsX2_readThing_r1 ++ wsX2_readThing_r2) ++ wsX20)
def wsX2_read_r1 : List Cond := [Cond.fieldLink RX2 29 "UmbrellaQueue$Weather" "things" "I", Cond.fieldLink RX2 32 "UmbrellaQueue$Weather" "index" "I", Cond.fieldLink RX2 25 "UmbrellaQueue$Weather" "length" "I", Cond.methodLink RX2 35 yX2_readThing, Cond.instanceMethod yX2_readThing, Cond.selects RX2 yX2_readThing yX2_readThing, Cond.initialized RX2, Cond.code yX2_readThing cX2_readThing 3 (some .boolean), Cond.fieldLink RX2 15 "UmbrellaQueue$Weather" "kinds" "[C", Cond.fieldLink RX2 18 "UmbrellaQueue$Weather" "amounts" "[I", Cond.fieldLink RX2 22 "UmbrellaQueue$Weather" "sides" "[I", Cond.methodLink RX2 39 yX2_character, Cond.instanceMethod yX2_character, Cond.selects RX2 yX2_character yX2_character, Cond.code yX2_character cX2_character 1 (some .int), Cond.fieldLink RX2 11 "UmbrellaQueue$Weather" "text" "[C", Cond.methodLink RX2 43 yX2_readNumber, Cond.instanceMethod yX2_readNumber, Cond.selects RX2 yX2_readNumber yX2_readNumber, Cond.code yX2_readNumber cX2_readNumber 5 (some .int), Cond.methodLink RX2 50 yX2_digit, Cond.instanceMethod yX2_digit, Cond.selects RX2 yX2_digit yX2_digit, Cond.code yX2_digit cX2_digit 2 (some .int)]
def wsX2_read_r2 : List Cond := [Cond.static yX3_isWithin, Cond.initialized RX3, Cond.code yX3_isWithin cX3_isWithin 3 (some .boolean), Cond.methodLink RX2 47 yX2_readSide, Cond.instanceMethod yX2_readSide, Cond.selects RX2 yX2_readSide yX2_readSide, Cond.code yX2_readSide cX2_readSide 2 (some .int)]
def wsX2_read : List Cond := .code yX2_read cX2_read 2 (some .int) :: ((wsX2_read_r1 ++ wsX2_read_r2) ++ wsX20)
def wsX3_init_r1 : List Cond := [Cond.methodLink RX3 1 objectInit, Cond.instanceMethod objectInit, Cond.code objectInit ⟨#[0xb1]⟩ 1 none, Cond.classLink RX3 7 RX1, Cond.instantiable RX1 17, Cond.initialized RX1, Cond.fieldLink RX3 10 "UmbrellaQueue" "now" "LUmbrellaQueue$State;", Cond.fieldLink RX3 16 "UmbrellaQueue" "snapshot" "LUmbrellaQueue$State;", Cond.classLink RX3 19 RX0, Cond.instantiable RX0 2, Cond.initialized RX0, Cond.fieldLink RX3 22 "UmbrellaQueue" "history" "LUmbrellaQueue$History;", Cond.classLink RX3 26 RX2, Cond.instantiable RX2 7, Cond.initialized RX2, Cond.fieldLink RX3 29 "UmbrellaQueue" "weather" "LUmbrellaQueue$Weather;", Cond.fieldLink RX3 33 "UmbrellaQueue" "stopNumber" "I", Cond.fieldLink RX3 37 "UmbrellaQueue" "stopError" "I", Cond.instanceMethod yX1_init, Cond.code yX1_init cX1_init 1 none, Cond.methodLink RX1 3 objectInit, Cond.arrayClass .int, Cond.fieldLink RX1 9 "UmbrellaQueue$State" "numbers" "[I", Cond.fieldLink RX1 15 "UmbrellaQueue$State" "wetness" "[I"]
def wsX3_init_r2 : List Cond := [Cond.fieldLink RX1 18 "UmbrellaQueue$State" "patience" "[I", Cond.fieldLink RX1 21 "UmbrellaQueue$State" "coins" "[I", Cond.fieldLink RX1 24 "UmbrellaQueue$State" "widths" "[I", Cond.fieldLink RX1 27 "UmbrellaQueue$State" "swapped" "[I", Cond.fieldLink RX1 30 "UmbrellaQueue$State" "settings" "[I", Cond.methodLink RX3 21 yX0_init, Cond.instanceMethod yX0_init, Cond.code yX0_init cX0_init 2 none, Cond.methodLink RX0 1 objectInit, Cond.classLink RX0 9 RX1, Cond.fieldLink RX0 11 "UmbrellaQueue$History" "states" "[LUmbrellaQueue$State;", Cond.instanceMethod yX2_init, Cond.code yX2_init cX2_init 1 none, Cond.methodLink RX2 3 objectInit, Cond.arrayClass .char, Cond.fieldLink RX2 11 "UmbrellaQueue$Weather" "text" "[C", Cond.fieldLink RX2 15 "UmbrellaQueue$Weather" "kinds" "[C", Cond.fieldLink RX2 18 "UmbrellaQueue$Weather" "amounts" "[I", Cond.fieldLink RX2 22 "UmbrellaQueue$Weather" "sides" "[I"]
def wsX3_init : List Cond := .code yX3_init cX3_init 1 none :: ((wsX3_init_r1 ++ wsX3_init_r2) ++ wsX10 ++ wsX30 ++ wsX00 ++ wsX20)
def wsX3_recorded : List Cond := .code yX3_recorded cX3_recorded 2 (some .int) :: ([.fieldLink RX3 22 "UmbrellaQueue" "history" "LUmbrellaQueue$History;", .methodLink RX3 234 yX0_keepDraft, .instanceMethod yX0_keepDraft, .selects RX0 yX0_keepDraft yX0_keepDraft, .initialized RX0, .code yX0_keepDraft cX0_keepDraft 3 none, .fieldLink RX0 16 "UmbrellaQueue$History" "depth" "I", .fieldLink RX0 11 "UmbrellaQueue$History" "states" "[LUmbrellaQueue$State;"] ++ wsX30 ++ wsX00)
def wsX3_come_r1 : List Cond := [Cond.fieldLink RX3 22 "UmbrellaQueue" "history" "LUmbrellaQueue$History;", Cond.fieldLink RX3 10 "UmbrellaQueue" "now" "LUmbrellaQueue$State;", Cond.methodLink RX3 40 yX0_draft, Cond.instanceMethod yX0_draft, Cond.selects RX0 yX0_draft yX0_draft, Cond.initialized RX0, Cond.code yX0_draft cX0_draft 2 none, Cond.methodLink RX0 20 yX0_drafted, Cond.instanceMethod yX0_drafted, Cond.selects RX0 yX0_drafted yX0_drafted, Cond.code yX0_drafted cX0_drafted 1 (some (.object "UmbrellaQueue$State")), Cond.fieldLink RX0 11 "UmbrellaQueue$History" "states" "[LUmbrellaQueue$State;", Cond.fieldLink RX0 16 "UmbrellaQueue$History" "depth" "I", Cond.methodLink RX0 24 yX1_copyFrom, Cond.instanceMethod yX1_copyFrom, Cond.selects RX1 yX1_copyFrom yX1_copyFrom, Cond.initialized RX1, Cond.code yX1_copyFrom cX1_copyFrom 2 none, Cond.fieldLink RX1 9 "UmbrellaQueue$State" "numbers" "[I", Cond.methodLink RX1 33 arraycopyName, Cond.native arraycopyName, Cond.static arraycopyName, Cond.initialized "java/lang/System", Cond.fieldLink RX1 15 "UmbrellaQueue$State" "wetness" "[I"]
def wsX3_come_r2 : List Cond := [Cond.fieldLink RX1 18 "UmbrellaQueue$State" "patience" "[I", Cond.fieldLink RX1 21 "UmbrellaQueue$State" "coins" "[I", Cond.fieldLink RX1 24 "UmbrellaQueue$State" "widths" "[I", Cond.fieldLink RX1 27 "UmbrellaQueue$State" "swapped" "[I", Cond.fieldLink RX1 30 "UmbrellaQueue$State" "settings" "[I", Cond.fieldLink RX1 39 "UmbrellaQueue$State" "size" "I", Cond.fieldLink RX1 43 "UmbrellaQueue$State" "came" "I", Cond.fieldLink RX1 46 "UmbrellaQueue$State" "left" "I", Cond.fieldLink RX1 49 "UmbrellaQueue$State" "soaked" "I", Cond.fieldLink RX1 52 "UmbrellaQueue$State" "served" "I", Cond.fieldLink RX1 55 "UmbrellaQueue$State" "paid" "I", Cond.fieldLink RX1 58 "UmbrellaQueue$State" "unpaid" "I", Cond.fieldLink RX1 61 "UmbrellaQueue$State" "swaps" "I", Cond.fieldLink RX1 64 "UmbrellaQueue$State" "gusts" "I", Cond.fieldLink RX1 67 "UmbrellaQueue$State" "minutes" "I", Cond.methodLink RX3 44 yX1_admit, Cond.instanceMethod yX1_admit, Cond.selects RX1 yX1_admit yX1_admit, Cond.code yX1_admit cX1_admit 5 (some .int), Cond.static yX3_isWithin, Cond.initialized RX3, Cond.code yX3_isWithin cX3_isWithin 3 (some .boolean), Cond.methodLink RX3 48 yX3_recorded, Cond.instanceMethod yX3_recorded]
def wsX3_come_r3 : List Cond := [Cond.selects RX3 yX3_recorded yX3_recorded, Cond.code yX3_recorded cX3_recorded 2 (some .int), Cond.methodLink RX3 234 yX0_keepDraft, Cond.instanceMethod yX0_keepDraft, Cond.selects RX0 yX0_keepDraft yX0_keepDraft, Cond.code yX0_keepDraft cX0_keepDraft 3 none]
def wsX3_come : List Cond := .code yX3_come cX3_come 4 (some .int) :: ((wsX3_come_r1 ++ (wsX3_come_r2 ++ wsX3_come_r3)) ++ wsX30 ++ wsX00 ++ wsX10)
def wsX3_leave_r1 : List Cond := [Cond.fieldLink RX3 22 "UmbrellaQueue" "history" "LUmbrellaQueue$History;", Cond.fieldLink RX3 10 "UmbrellaQueue" "now" "LUmbrellaQueue$State;", Cond.methodLink RX3 40 yX0_draft, Cond.instanceMethod yX0_draft, Cond.selects RX0 yX0_draft yX0_draft, Cond.initialized RX0, Cond.code yX0_draft cX0_draft 2 none, Cond.methodLink RX0 20 yX0_drafted, Cond.instanceMethod yX0_drafted, Cond.selects RX0 yX0_drafted yX0_drafted, Cond.code yX0_drafted cX0_drafted 1 (some (.object "UmbrellaQueue$State")), Cond.fieldLink RX0 11 "UmbrellaQueue$History" "states" "[LUmbrellaQueue$State;", Cond.fieldLink RX0 16 "UmbrellaQueue$History" "depth" "I", Cond.methodLink RX0 24 yX1_copyFrom, Cond.instanceMethod yX1_copyFrom, Cond.selects RX1 yX1_copyFrom yX1_copyFrom, Cond.initialized RX1, Cond.code yX1_copyFrom cX1_copyFrom 2 none, Cond.fieldLink RX1 9 "UmbrellaQueue$State" "numbers" "[I", Cond.methodLink RX1 33 arraycopyName, Cond.native arraycopyName, Cond.static arraycopyName, Cond.initialized "java/lang/System", Cond.fieldLink RX1 15 "UmbrellaQueue$State" "wetness" "[I"]
def wsX3_leave_r2 : List Cond := [Cond.fieldLink RX1 18 "UmbrellaQueue$State" "patience" "[I", Cond.fieldLink RX1 21 "UmbrellaQueue$State" "coins" "[I", Cond.fieldLink RX1 24 "UmbrellaQueue$State" "widths" "[I", Cond.fieldLink RX1 27 "UmbrellaQueue$State" "swapped" "[I", Cond.fieldLink RX1 30 "UmbrellaQueue$State" "settings" "[I", Cond.fieldLink RX1 39 "UmbrellaQueue$State" "size" "I", Cond.fieldLink RX1 43 "UmbrellaQueue$State" "came" "I", Cond.fieldLink RX1 46 "UmbrellaQueue$State" "left" "I", Cond.fieldLink RX1 49 "UmbrellaQueue$State" "soaked" "I", Cond.fieldLink RX1 52 "UmbrellaQueue$State" "served" "I", Cond.fieldLink RX1 55 "UmbrellaQueue$State" "paid" "I", Cond.fieldLink RX1 58 "UmbrellaQueue$State" "unpaid" "I", Cond.fieldLink RX1 61 "UmbrellaQueue$State" "swaps" "I", Cond.fieldLink RX1 64 "UmbrellaQueue$State" "gusts" "I", Cond.fieldLink RX1 67 "UmbrellaQueue$State" "minutes" "I", Cond.methodLink RX3 52 yX1_dismiss, Cond.instanceMethod yX1_dismiss, Cond.selects RX1 yX1_dismiss yX1_dismiss, Cond.code yX1_dismiss cX1_dismiss 3 (some .int), Cond.methodLink RX1 74 yX1_isPlace, Cond.instanceMethod yX1_isPlace, Cond.selects RX1 yX1_isPlace yX1_isPlace, Cond.code yX1_isPlace cX1_isPlace 2 (some .boolean), Cond.methodLink RX1 78 yX1_remove]
def wsX3_leave_r3 : List Cond := [Cond.instanceMethod yX1_remove, Cond.selects RX1 yX1_remove yX1_remove, Cond.code yX1_remove cX1_remove 2 none, Cond.methodLink RX1 130 yX1_closeGap, Cond.static yX1_closeGap, Cond.code yX1_closeGap cX1_closeGap 2 none, Cond.methodLink RX3 48 yX3_recorded, Cond.instanceMethod yX3_recorded, Cond.selects RX3 yX3_recorded yX3_recorded, Cond.initialized RX3, Cond.code yX3_recorded cX3_recorded 2 (some .int), Cond.methodLink RX3 234 yX0_keepDraft, Cond.instanceMethod yX0_keepDraft, Cond.selects RX0 yX0_keepDraft yX0_keepDraft, Cond.code yX0_keepDraft cX0_keepDraft 3 none]
def wsX3_leave : List Cond := .code yX3_leave cX3_leave 2 (some .int) :: ((wsX3_leave_r1 ++ (wsX3_leave_r2 ++ wsX3_leave_r3)) ++ wsX30 ++ wsX00 ++ wsX10)
def wsX3_letAhead_r1 : List Cond := [Cond.fieldLink RX3 22 "UmbrellaQueue" "history" "LUmbrellaQueue$History;", Cond.fieldLink RX3 10 "UmbrellaQueue" "now" "LUmbrellaQueue$State;", Cond.methodLink RX3 40 yX0_draft, Cond.instanceMethod yX0_draft, Cond.selects RX0 yX0_draft yX0_draft, Cond.initialized RX0, Cond.code yX0_draft cX0_draft 2 none, Cond.methodLink RX0 20 yX0_drafted, Cond.instanceMethod yX0_drafted, Cond.selects RX0 yX0_drafted yX0_drafted, Cond.code yX0_drafted cX0_drafted 1 (some (.object "UmbrellaQueue$State")), Cond.fieldLink RX0 11 "UmbrellaQueue$History" "states" "[LUmbrellaQueue$State;", Cond.fieldLink RX0 16 "UmbrellaQueue$History" "depth" "I", Cond.methodLink RX0 24 yX1_copyFrom, Cond.instanceMethod yX1_copyFrom, Cond.selects RX1 yX1_copyFrom yX1_copyFrom, Cond.initialized RX1, Cond.code yX1_copyFrom cX1_copyFrom 2 none, Cond.fieldLink RX1 9 "UmbrellaQueue$State" "numbers" "[I", Cond.methodLink RX1 33 arraycopyName, Cond.native arraycopyName, Cond.static arraycopyName, Cond.initialized "java/lang/System", Cond.fieldLink RX1 15 "UmbrellaQueue$State" "wetness" "[I"]
def wsX3_letAhead_r2 : List Cond := [Cond.fieldLink RX1 18 "UmbrellaQueue$State" "patience" "[I", Cond.fieldLink RX1 21 "UmbrellaQueue$State" "coins" "[I", Cond.fieldLink RX1 24 "UmbrellaQueue$State" "widths" "[I", Cond.fieldLink RX1 27 "UmbrellaQueue$State" "swapped" "[I", Cond.fieldLink RX1 30 "UmbrellaQueue$State" "settings" "[I", Cond.fieldLink RX1 39 "UmbrellaQueue$State" "size" "I", Cond.fieldLink RX1 43 "UmbrellaQueue$State" "came" "I", Cond.fieldLink RX1 46 "UmbrellaQueue$State" "left" "I", Cond.fieldLink RX1 49 "UmbrellaQueue$State" "soaked" "I", Cond.fieldLink RX1 52 "UmbrellaQueue$State" "served" "I", Cond.fieldLink RX1 55 "UmbrellaQueue$State" "paid" "I", Cond.fieldLink RX1 58 "UmbrellaQueue$State" "unpaid" "I", Cond.fieldLink RX1 61 "UmbrellaQueue$State" "swaps" "I", Cond.fieldLink RX1 64 "UmbrellaQueue$State" "gusts" "I", Cond.fieldLink RX1 67 "UmbrellaQueue$State" "minutes" "I", Cond.methodLink RX3 55 yX1_changePlaces, Cond.instanceMethod yX1_changePlaces, Cond.selects RX1 yX1_changePlaces yX1_changePlaces, Cond.code yX1_changePlaces cX1_changePlaces 2 (some .int), Cond.methodLink RX1 82 yX1_hasNeighbour, Cond.instanceMethod yX1_hasNeighbour, Cond.selects RX1 yX1_hasNeighbour yX1_hasNeighbour, Cond.code yX1_hasNeighbour cX1_hasNeighbour 2 (some .boolean), Cond.methodLink RX1 85 yX1_exchange]
def wsX3_letAhead_r3 : List Cond := [Cond.static yX1_exchange, Cond.code yX1_exchange cX1_exchange 3 none, Cond.methodLink RX3 48 yX3_recorded, Cond.instanceMethod yX3_recorded, Cond.selects RX3 yX3_recorded yX3_recorded, Cond.initialized RX3, Cond.code yX3_recorded cX3_recorded 2 (some .int), Cond.methodLink RX3 234 yX0_keepDraft, Cond.instanceMethod yX0_keepDraft, Cond.selects RX0 yX0_keepDraft yX0_keepDraft, Cond.code yX0_keepDraft cX0_keepDraft 3 none]
def wsX3_letAhead : List Cond := .code yX3_letAhead cX3_letAhead 2 (some .int) :: ((wsX3_letAhead_r1 ++ (wsX3_letAhead_r2 ++ wsX3_letAhead_r3)) ++ wsX30 ++ wsX00 ++ wsX10)
def wsX3_swap_r1 : List Cond := [Cond.fieldLink RX3 22 "UmbrellaQueue" "history" "LUmbrellaQueue$History;", Cond.fieldLink RX3 10 "UmbrellaQueue" "now" "LUmbrellaQueue$State;", Cond.methodLink RX3 40 yX0_draft, Cond.instanceMethod yX0_draft, Cond.selects RX0 yX0_draft yX0_draft, Cond.initialized RX0, Cond.code yX0_draft cX0_draft 2 none, Cond.methodLink RX0 20 yX0_drafted, Cond.instanceMethod yX0_drafted, Cond.selects RX0 yX0_drafted yX0_drafted, Cond.code yX0_drafted cX0_drafted 1 (some (.object "UmbrellaQueue$State")), Cond.fieldLink RX0 11 "UmbrellaQueue$History" "states" "[LUmbrellaQueue$State;", Cond.fieldLink RX0 16 "UmbrellaQueue$History" "depth" "I", Cond.methodLink RX0 24 yX1_copyFrom, Cond.instanceMethod yX1_copyFrom, Cond.selects RX1 yX1_copyFrom yX1_copyFrom, Cond.initialized RX1, Cond.code yX1_copyFrom cX1_copyFrom 2 none, Cond.fieldLink RX1 9 "UmbrellaQueue$State" "numbers" "[I", Cond.methodLink RX1 33 arraycopyName, Cond.native arraycopyName, Cond.static arraycopyName, Cond.initialized "java/lang/System", Cond.fieldLink RX1 15 "UmbrellaQueue$State" "wetness" "[I"]
def wsX3_swap_r2 : List Cond := [Cond.fieldLink RX1 18 "UmbrellaQueue$State" "patience" "[I", Cond.fieldLink RX1 21 "UmbrellaQueue$State" "coins" "[I", Cond.fieldLink RX1 24 "UmbrellaQueue$State" "widths" "[I", Cond.fieldLink RX1 27 "UmbrellaQueue$State" "swapped" "[I", Cond.fieldLink RX1 30 "UmbrellaQueue$State" "settings" "[I", Cond.fieldLink RX1 39 "UmbrellaQueue$State" "size" "I", Cond.fieldLink RX1 43 "UmbrellaQueue$State" "came" "I", Cond.fieldLink RX1 46 "UmbrellaQueue$State" "left" "I", Cond.fieldLink RX1 49 "UmbrellaQueue$State" "soaked" "I", Cond.fieldLink RX1 52 "UmbrellaQueue$State" "served" "I", Cond.fieldLink RX1 55 "UmbrellaQueue$State" "paid" "I", Cond.fieldLink RX1 58 "UmbrellaQueue$State" "unpaid" "I", Cond.fieldLink RX1 61 "UmbrellaQueue$State" "swaps" "I", Cond.fieldLink RX1 64 "UmbrellaQueue$State" "gusts" "I", Cond.fieldLink RX1 67 "UmbrellaQueue$State" "minutes" "I", Cond.methodLink RX3 58 yX1_swapUmbrellas, Cond.instanceMethod yX1_swapUmbrellas, Cond.selects RX1 yX1_swapUmbrellas yX1_swapUmbrellas, Cond.code yX1_swapUmbrellas cX1_swapUmbrellas 3 (some .int), Cond.methodLink RX1 82 yX1_hasNeighbour, Cond.instanceMethod yX1_hasNeighbour, Cond.selects RX1 yX1_hasNeighbour yX1_hasNeighbour, Cond.code yX1_hasNeighbour cX1_hasNeighbour 2 (some .boolean), Cond.methodLink RX1 89 yX1_refusal]
def wsX3_swap_r3 : List Cond := [Cond.instanceMethod yX1_refusal, Cond.selects RX1 yX1_refusal yX1_refusal, Cond.code yX1_refusal cX1_refusal 7 (some .int), Cond.methodLink RX1 85 yX1_exchange, Cond.static yX1_exchange, Cond.code yX1_exchange cX1_exchange 3 none, Cond.methodLink RX3 48 yX3_recorded, Cond.instanceMethod yX3_recorded, Cond.selects RX3 yX3_recorded yX3_recorded, Cond.initialized RX3, Cond.code yX3_recorded cX3_recorded 2 (some .int), Cond.methodLink RX3 234 yX0_keepDraft, Cond.instanceMethod yX0_keepDraft, Cond.selects RX0 yX0_keepDraft yX0_keepDraft, Cond.code yX0_keepDraft cX0_keepDraft 3 none]
def wsX3_swap : List Cond := .code yX3_swap cX3_swap 2 (some .int) :: ((wsX3_swap_r1 ++ (wsX3_swap_r2 ++ wsX3_swap_r3)) ++ wsX30 ++ wsX00 ++ wsX10)
def wsX3_set_r1 : List Cond := [Cond.fieldLink RX3 22 "UmbrellaQueue" "history" "LUmbrellaQueue$History;", Cond.fieldLink RX3 10 "UmbrellaQueue" "now" "LUmbrellaQueue$State;", Cond.methodLink RX3 40 yX0_draft, Cond.instanceMethod yX0_draft, Cond.selects RX0 yX0_draft yX0_draft, Cond.initialized RX0, Cond.code yX0_draft cX0_draft 2 none, Cond.methodLink RX0 20 yX0_drafted, Cond.instanceMethod yX0_drafted, Cond.selects RX0 yX0_drafted yX0_drafted, Cond.code yX0_drafted cX0_drafted 1 (some (.object "UmbrellaQueue$State")), Cond.fieldLink RX0 11 "UmbrellaQueue$History" "states" "[LUmbrellaQueue$State;", Cond.fieldLink RX0 16 "UmbrellaQueue$History" "depth" "I", Cond.methodLink RX0 24 yX1_copyFrom, Cond.instanceMethod yX1_copyFrom, Cond.selects RX1 yX1_copyFrom yX1_copyFrom, Cond.initialized RX1, Cond.code yX1_copyFrom cX1_copyFrom 2 none, Cond.fieldLink RX1 9 "UmbrellaQueue$State" "numbers" "[I", Cond.methodLink RX1 33 arraycopyName, Cond.native arraycopyName, Cond.static arraycopyName, Cond.initialized "java/lang/System", Cond.fieldLink RX1 15 "UmbrellaQueue$State" "wetness" "[I"]
def wsX3_set_r2 : List Cond := [Cond.fieldLink RX1 18 "UmbrellaQueue$State" "patience" "[I", Cond.fieldLink RX1 21 "UmbrellaQueue$State" "coins" "[I", Cond.fieldLink RX1 24 "UmbrellaQueue$State" "widths" "[I", Cond.fieldLink RX1 27 "UmbrellaQueue$State" "swapped" "[I", Cond.fieldLink RX1 30 "UmbrellaQueue$State" "settings" "[I", Cond.fieldLink RX1 39 "UmbrellaQueue$State" "size" "I", Cond.fieldLink RX1 43 "UmbrellaQueue$State" "came" "I", Cond.fieldLink RX1 46 "UmbrellaQueue$State" "left" "I", Cond.fieldLink RX1 49 "UmbrellaQueue$State" "soaked" "I", Cond.fieldLink RX1 52 "UmbrellaQueue$State" "served" "I", Cond.fieldLink RX1 55 "UmbrellaQueue$State" "paid" "I", Cond.fieldLink RX1 58 "UmbrellaQueue$State" "unpaid" "I", Cond.fieldLink RX1 61 "UmbrellaQueue$State" "swaps" "I", Cond.fieldLink RX1 64 "UmbrellaQueue$State" "gusts" "I", Cond.fieldLink RX1 67 "UmbrellaQueue$State" "minutes" "I", Cond.methodLink RX3 61 yX1_changeSetting, Cond.instanceMethod yX1_changeSetting, Cond.selects RX1 yX1_changeSetting yX1_changeSetting, Cond.code yX1_changeSetting cX1_changeSetting 4 (some .int), Cond.static yX3_isWithin, Cond.initialized RX3, Cond.code yX3_isWithin cX3_isWithin 3 (some .boolean), Cond.methodLink RX3 48 yX3_recorded, Cond.instanceMethod yX3_recorded]
def wsX3_set_r3 : List Cond := [Cond.selects RX3 yX3_recorded yX3_recorded, Cond.code yX3_recorded cX3_recorded 2 (some .int), Cond.methodLink RX3 234 yX0_keepDraft, Cond.instanceMethod yX0_keepDraft, Cond.selects RX0 yX0_keepDraft yX0_keepDraft, Cond.code yX0_keepDraft cX0_keepDraft 3 none]
def wsX3_set : List Cond := .code yX3_set cX3_set 3 (some .int) :: ((wsX3_set_r1 ++ (wsX3_set_r2 ++ wsX3_set_r3)) ++ wsX30 ++ wsX00 ++ wsX10)
def wsX3_gust_r1 : List Cond := [Cond.fieldLink RX3 22 "UmbrellaQueue" "history" "LUmbrellaQueue$History;", Cond.fieldLink RX3 10 "UmbrellaQueue" "now" "LUmbrellaQueue$State;", Cond.methodLink RX3 40 yX0_draft, Cond.instanceMethod yX0_draft, Cond.selects RX0 yX0_draft yX0_draft, Cond.initialized RX0, Cond.code yX0_draft cX0_draft 2 none, Cond.methodLink RX0 20 yX0_drafted, Cond.instanceMethod yX0_drafted, Cond.selects RX0 yX0_drafted yX0_drafted, Cond.code yX0_drafted cX0_drafted 1 (some (.object "UmbrellaQueue$State")), Cond.fieldLink RX0 11 "UmbrellaQueue$History" "states" "[LUmbrellaQueue$State;", Cond.fieldLink RX0 16 "UmbrellaQueue$History" "depth" "I", Cond.methodLink RX0 24 yX1_copyFrom, Cond.instanceMethod yX1_copyFrom, Cond.selects RX1 yX1_copyFrom yX1_copyFrom, Cond.initialized RX1, Cond.code yX1_copyFrom cX1_copyFrom 2 none, Cond.fieldLink RX1 9 "UmbrellaQueue$State" "numbers" "[I", Cond.methodLink RX1 33 arraycopyName, Cond.native arraycopyName, Cond.static arraycopyName, Cond.initialized "java/lang/System", Cond.fieldLink RX1 15 "UmbrellaQueue$State" "wetness" "[I"]
def wsX3_gust_r2 : List Cond := [Cond.fieldLink RX1 18 "UmbrellaQueue$State" "patience" "[I", Cond.fieldLink RX1 21 "UmbrellaQueue$State" "coins" "[I", Cond.fieldLink RX1 24 "UmbrellaQueue$State" "widths" "[I", Cond.fieldLink RX1 27 "UmbrellaQueue$State" "swapped" "[I", Cond.fieldLink RX1 30 "UmbrellaQueue$State" "settings" "[I", Cond.fieldLink RX1 39 "UmbrellaQueue$State" "size" "I", Cond.fieldLink RX1 43 "UmbrellaQueue$State" "came" "I", Cond.fieldLink RX1 46 "UmbrellaQueue$State" "left" "I", Cond.fieldLink RX1 49 "UmbrellaQueue$State" "soaked" "I", Cond.fieldLink RX1 52 "UmbrellaQueue$State" "served" "I", Cond.fieldLink RX1 55 "UmbrellaQueue$State" "paid" "I", Cond.fieldLink RX1 58 "UmbrellaQueue$State" "unpaid" "I", Cond.fieldLink RX1 61 "UmbrellaQueue$State" "swaps" "I", Cond.fieldLink RX1 64 "UmbrellaQueue$State" "gusts" "I", Cond.fieldLink RX1 67 "UmbrellaQueue$State" "minutes" "I", Cond.methodLink RX3 65 yX1_rain, Cond.instanceMethod yX1_rain, Cond.selects RX1 yX1_rain yX1_rain, Cond.code yX1_rain cX1_rain 4 (some .int), Cond.static yX3_isGust, Cond.initialized RX3, Cond.code yX3_isGust cX3_isGust 2 (some .boolean), Cond.methodLink RX3 157 yX3_isWithin, Cond.static yX3_isWithin]
def wsX3_gust_r3 : List Cond := [Cond.code yX3_isWithin cX3_isWithin 3 (some .boolean), Cond.methodLink RX1 103 yX1_wetnessAfter, Cond.instanceMethod yX1_wetnessAfter, Cond.selects RX1 yX1_wetnessAfter yX1_wetnessAfter, Cond.code yX1_wetnessAfter cX1_wetnessAfter 4 (some .int), Cond.methodLink RX1 133 Lib.Math.min.name, Cond.static Lib.Math.min.name, Cond.initialized "java/lang/Math", Cond.code Lib.Math.min.name Lib.Math.min.code 2 (some .int), Cond.methodLink RX1 145 yX1_wetterBy, Cond.instanceMethod yX1_wetterBy, Cond.selects RX1 yX1_wetterBy yX1_wetterBy, Cond.code yX1_wetterBy cX1_wetterBy 5 (some .int), Cond.methodLink RX1 148 yX1_umbrellasRunningOnto, Cond.instanceMethod yX1_umbrellasRunningOnto, Cond.selects RX1 yX1_umbrellasRunningOnto yX1_umbrellasRunningOnto, Cond.code yX1_umbrellasRunningOnto cX1_umbrellasRunningOnto 4 (some .int), Cond.methodLink RX1 136 yX1_leastReached, Cond.instanceMethod yX1_leastReached, Cond.selects RX1 yX1_leastReached yX1_leastReached, Cond.code yX1_leastReached cX1_leastReached 2 (some .int), Cond.methodLink RX1 112 Lib.Math.max.name, Cond.static Lib.Math.max.name, Cond.code Lib.Math.max.name Lib.Math.max.code 2 (some .int)]
def wsX3_gust_r4 : List Cond := [Cond.methodLink RX1 139 yX1_greatestReached, Cond.instanceMethod yX1_greatestReached, Cond.selects RX1 yX1_greatestReached yX1_greatestReached, Cond.code yX1_greatestReached cX1_greatestReached 2 (some .int), Cond.methodLink RX1 151 yX1_isCovered, Cond.instanceMethod yX1_isCovered, Cond.selects RX1 yX1_isCovered yX1_isCovered, Cond.code yX1_isCovered cX1_isCovered 6 (some .boolean), Cond.methodLink RX1 107 yX1_removeSoaked, Cond.instanceMethod yX1_removeSoaked, Cond.selects RX1 yX1_removeSoaked yX1_removeSoaked, Cond.code yX1_removeSoaked cX1_removeSoaked 3 (some .int), Cond.methodLink RX1 78 yX1_remove, Cond.instanceMethod yX1_remove, Cond.selects RX1 yX1_remove yX1_remove, Cond.code yX1_remove cX1_remove 2 none, Cond.methodLink RX1 130 yX1_closeGap, Cond.static yX1_closeGap, Cond.code yX1_closeGap cX1_closeGap 2 none, Cond.methodLink RX3 48 yX3_recorded, Cond.instanceMethod yX3_recorded, Cond.selects RX3 yX3_recorded yX3_recorded, Cond.code yX3_recorded cX3_recorded 2 (some .int), Cond.methodLink RX3 234 yX0_keepDraft]
def wsX3_gust_r5 : List Cond := [Cond.instanceMethod yX0_keepDraft, Cond.selects RX0 yX0_keepDraft yX0_keepDraft, Cond.code yX0_keepDraft cX0_keepDraft 3 none]
def wsX3_gust : List Cond := .code yX3_gust cX3_gust 3 (some .int) :: ((wsX3_gust_r1 ++ (wsX3_gust_r2 ++ (wsX3_gust_r3 ++ (wsX3_gust_r4 ++ wsX3_gust_r5)))) ++ wsX30 ++ wsX00 ++ wsX10)
def wsX3_pass_r1 : List Cond := [Cond.fieldLink RX3 22 "UmbrellaQueue" "history" "LUmbrellaQueue$History;", Cond.fieldLink RX3 10 "UmbrellaQueue" "now" "LUmbrellaQueue$State;", Cond.methodLink RX3 40 yX0_draft, Cond.instanceMethod yX0_draft, Cond.selects RX0 yX0_draft yX0_draft, Cond.initialized RX0, Cond.code yX0_draft cX0_draft 2 none, Cond.methodLink RX0 20 yX0_drafted, Cond.instanceMethod yX0_drafted, Cond.selects RX0 yX0_drafted yX0_drafted, Cond.code yX0_drafted cX0_drafted 1 (some (.object "UmbrellaQueue$State")), Cond.fieldLink RX0 11 "UmbrellaQueue$History" "states" "[LUmbrellaQueue$State;", Cond.fieldLink RX0 16 "UmbrellaQueue$History" "depth" "I", Cond.methodLink RX0 24 yX1_copyFrom, Cond.instanceMethod yX1_copyFrom, Cond.selects RX1 yX1_copyFrom yX1_copyFrom, Cond.initialized RX1, Cond.code yX1_copyFrom cX1_copyFrom 2 none, Cond.fieldLink RX1 9 "UmbrellaQueue$State" "numbers" "[I", Cond.methodLink RX1 33 arraycopyName, Cond.native arraycopyName, Cond.static arraycopyName, Cond.initialized "java/lang/System", Cond.fieldLink RX1 15 "UmbrellaQueue$State" "wetness" "[I"]
def wsX3_pass_r2 : List Cond := [Cond.fieldLink RX1 18 "UmbrellaQueue$State" "patience" "[I", Cond.fieldLink RX1 21 "UmbrellaQueue$State" "coins" "[I", Cond.fieldLink RX1 24 "UmbrellaQueue$State" "widths" "[I", Cond.fieldLink RX1 27 "UmbrellaQueue$State" "swapped" "[I", Cond.fieldLink RX1 30 "UmbrellaQueue$State" "settings" "[I", Cond.fieldLink RX1 39 "UmbrellaQueue$State" "size" "I", Cond.fieldLink RX1 43 "UmbrellaQueue$State" "came" "I", Cond.fieldLink RX1 46 "UmbrellaQueue$State" "left" "I", Cond.fieldLink RX1 49 "UmbrellaQueue$State" "soaked" "I", Cond.fieldLink RX1 52 "UmbrellaQueue$State" "served" "I", Cond.fieldLink RX1 55 "UmbrellaQueue$State" "paid" "I", Cond.fieldLink RX1 58 "UmbrellaQueue$State" "unpaid" "I", Cond.fieldLink RX1 61 "UmbrellaQueue$State" "swaps" "I", Cond.fieldLink RX1 64 "UmbrellaQueue$State" "gusts" "I", Cond.fieldLink RX1 67 "UmbrellaQueue$State" "minutes" "I", Cond.methodLink RX3 68 yX1_dry, Cond.instanceMethod yX1_dry, Cond.selects RX1 yX1_dry yX1_dry, Cond.code yX1_dry cX1_dry 4 (some .int), Cond.constant RX1 111 (99999), Cond.methodLink RX1 112 Lib.Math.max.name, Cond.static Lib.Math.max.name, Cond.initialized "java/lang/Math", Cond.code Lib.Math.max.name Lib.Math.max.code 2 (some .int)]
def wsX3_pass_r3 : List Cond := [Cond.static yX3_isWithin, Cond.initialized RX3, Cond.code yX3_isWithin cX3_isWithin 3 (some .boolean), Cond.methodLink RX3 48 yX3_recorded, Cond.instanceMethod yX3_recorded, Cond.selects RX3 yX3_recorded yX3_recorded, Cond.code yX3_recorded cX3_recorded 2 (some .int), Cond.methodLink RX3 234 yX0_keepDraft, Cond.instanceMethod yX0_keepDraft, Cond.selects RX0 yX0_keepDraft yX0_keepDraft, Cond.code yX0_keepDraft cX0_keepDraft 3 none]
def wsX3_pass : List Cond := .code yX3_pass cX3_pass 2 (some .int) :: ((wsX3_pass_r1 ++ (wsX3_pass_r2 ++ wsX3_pass_r3)) ++ wsX30 ++ wsX00 ++ wsX10)
def wsX3_serve_r1 : List Cond := [Cond.fieldLink RX3 22 "UmbrellaQueue" "history" "LUmbrellaQueue$History;", Cond.fieldLink RX3 10 "UmbrellaQueue" "now" "LUmbrellaQueue$State;", Cond.methodLink RX3 40 yX0_draft, Cond.instanceMethod yX0_draft, Cond.selects RX0 yX0_draft yX0_draft, Cond.initialized RX0, Cond.code yX0_draft cX0_draft 2 none, Cond.methodLink RX0 20 yX0_drafted, Cond.instanceMethod yX0_drafted, Cond.selects RX0 yX0_drafted yX0_drafted, Cond.code yX0_drafted cX0_drafted 1 (some (.object "UmbrellaQueue$State")), Cond.fieldLink RX0 11 "UmbrellaQueue$History" "states" "[LUmbrellaQueue$State;", Cond.fieldLink RX0 16 "UmbrellaQueue$History" "depth" "I", Cond.methodLink RX0 24 yX1_copyFrom, Cond.instanceMethod yX1_copyFrom, Cond.selects RX1 yX1_copyFrom yX1_copyFrom, Cond.initialized RX1, Cond.code yX1_copyFrom cX1_copyFrom 2 none, Cond.fieldLink RX1 9 "UmbrellaQueue$State" "numbers" "[I", Cond.methodLink RX1 33 arraycopyName, Cond.native arraycopyName, Cond.static arraycopyName, Cond.initialized "java/lang/System", Cond.fieldLink RX1 15 "UmbrellaQueue$State" "wetness" "[I"]
def wsX3_serve_r2 : List Cond := [Cond.fieldLink RX1 18 "UmbrellaQueue$State" "patience" "[I", Cond.fieldLink RX1 21 "UmbrellaQueue$State" "coins" "[I", Cond.fieldLink RX1 24 "UmbrellaQueue$State" "widths" "[I", Cond.fieldLink RX1 27 "UmbrellaQueue$State" "swapped" "[I", Cond.fieldLink RX1 30 "UmbrellaQueue$State" "settings" "[I", Cond.fieldLink RX1 39 "UmbrellaQueue$State" "size" "I", Cond.fieldLink RX1 43 "UmbrellaQueue$State" "came" "I", Cond.fieldLink RX1 46 "UmbrellaQueue$State" "left" "I", Cond.fieldLink RX1 49 "UmbrellaQueue$State" "soaked" "I", Cond.fieldLink RX1 52 "UmbrellaQueue$State" "served" "I", Cond.fieldLink RX1 55 "UmbrellaQueue$State" "paid" "I", Cond.fieldLink RX1 58 "UmbrellaQueue$State" "unpaid" "I", Cond.fieldLink RX1 61 "UmbrellaQueue$State" "swaps" "I", Cond.fieldLink RX1 64 "UmbrellaQueue$State" "gusts" "I", Cond.fieldLink RX1 67 "UmbrellaQueue$State" "minutes" "I", Cond.methodLink RX3 71 yX1_serveFirst, Cond.instanceMethod yX1_serveFirst, Cond.selects RX1 yX1_serveFirst yX1_serveFirst, Cond.code yX1_serveFirst cX1_serveFirst 4 (some .int), Cond.methodLink RX1 118 yX1_peopleToServe, Cond.instanceMethod yX1_peopleToServe, Cond.selects RX1 yX1_peopleToServe yX1_peopleToServe, Cond.code yX1_peopleToServe cX1_peopleToServe 1 (some .int), Cond.methodLink RX1 133 Lib.Math.min.name]
def wsX3_serve_r3 : List Cond := [Cond.static Lib.Math.min.name, Cond.initialized "java/lang/Math", Cond.code Lib.Math.min.name Lib.Math.min.code 2 (some .int), Cond.methodLink RX1 121 yX1_driestToServe, Cond.instanceMethod yX1_driestToServe, Cond.selects RX1 yX1_driestToServe yX1_driestToServe, Cond.code yX1_driestToServe cX1_driestToServe 4 (some .int), Cond.methodLink RX1 124 yX1_paidFrom, Cond.instanceMethod yX1_paidFrom, Cond.selects RX1 yX1_paidFrom yX1_paidFrom, Cond.code yX1_paidFrom cX1_paidFrom 2 (some .int), Cond.methodLink RX1 127 yX1_fareForAll, Cond.instanceMethod yX1_fareForAll, Cond.selects RX1 yX1_fareForAll yX1_fareForAll, Cond.code yX1_fareForAll cX1_fareForAll 1 (some .int), Cond.methodLink RX1 78 yX1_remove, Cond.instanceMethod yX1_remove, Cond.selects RX1 yX1_remove yX1_remove, Cond.code yX1_remove cX1_remove 2 none, Cond.methodLink RX1 130 yX1_closeGap, Cond.static yX1_closeGap, Cond.code yX1_closeGap cX1_closeGap 2 none, Cond.methodLink RX3 48 yX3_recorded, Cond.instanceMethod yX3_recorded]
def wsX3_serve_r4 : List Cond := [Cond.selects RX3 yX3_recorded yX3_recorded, Cond.initialized RX3, Cond.code yX3_recorded cX3_recorded 2 (some .int), Cond.methodLink RX3 234 yX0_keepDraft, Cond.instanceMethod yX0_keepDraft, Cond.selects RX0 yX0_keepDraft yX0_keepDraft, Cond.code yX0_keepDraft cX0_keepDraft 3 none]
def wsX3_serve : List Cond := .code yX3_serve cX3_serve 1 (some .int) :: ((wsX3_serve_r1 ++ (wsX3_serve_r2 ++ (wsX3_serve_r3 ++ wsX3_serve_r4))) ++ wsX30 ++ wsX00 ++ wsX10)
def wsX3_type : List Cond := .code yX3_type cX3_type 2 (some .int) :: ([.fieldLink RX3 29 "UmbrellaQueue" "weather" "LUmbrellaQueue$Weather;", .methodLink RX3 75 yX2_append, .instanceMethod yX2_append, .selects RX2 yX2_append yX2_append, .initialized RX2, .code yX2_append cX2_append 2 (some .int), .fieldLink RX2 25 "UmbrellaQueue$Weather" "length" "I", .fieldLink RX2 11 "UmbrellaQueue$Weather" "text" "[C"] ++ wsX30 ++ wsX20)
def wsX3_clearText : List Cond := .code yX3_clearText cX3_clearText 1 (some .int) :: ([.fieldLink RX3 29 "UmbrellaQueue" "weather" "LUmbrellaQueue$Weather;", .methodLink RX3 79 yX2_empty, .instanceMethod yX2_empty, .selects RX2 yX2_empty yX2_empty, .initialized RX2, .code yX2_empty cX2_empty 2 (some .int), .fieldLink RX2 25 "UmbrellaQueue$Weather" "length" "I"] ++ wsX30 ++ wsX20)
def wsX3_happen_r1 : List Cond := [Cond.fieldLink RX3 10 "UmbrellaQueue" "now" "LUmbrellaQueue$State;", Cond.methodLink RX3 65 yX1_rain, Cond.instanceMethod yX1_rain, Cond.selects RX1 yX1_rain yX1_rain, Cond.initialized RX1, Cond.code yX1_rain cX1_rain 4 (some .int), Cond.fieldLink RX1 39 "UmbrellaQueue$State" "size" "I", Cond.fieldLink RX1 15 "UmbrellaQueue$State" "wetness" "[I", Cond.fieldLink RX1 64 "UmbrellaQueue$State" "gusts" "I", Cond.static yX3_isGust, Cond.initialized RX3, Cond.code yX3_isGust cX3_isGust 2 (some .boolean), Cond.methodLink RX3 157 yX3_isWithin, Cond.static yX3_isWithin, Cond.code yX3_isWithin cX3_isWithin 3 (some .boolean), Cond.methodLink RX1 103 yX1_wetnessAfter, Cond.instanceMethod yX1_wetnessAfter, Cond.selects RX1 yX1_wetnessAfter yX1_wetnessAfter, Cond.code yX1_wetnessAfter cX1_wetnessAfter 4 (some .int), Cond.methodLink RX1 133 Lib.Math.min.name, Cond.static Lib.Math.min.name, Cond.initialized "java/lang/Math", Cond.code Lib.Math.min.name Lib.Math.min.code 2 (some .int), Cond.methodLink RX1 145 yX1_wetterBy]
def wsX3_happen_r2 : List Cond := [Cond.instanceMethod yX1_wetterBy, Cond.selects RX1 yX1_wetterBy yX1_wetterBy, Cond.code yX1_wetterBy cX1_wetterBy 5 (some .int), Cond.methodLink RX1 148 yX1_umbrellasRunningOnto, Cond.instanceMethod yX1_umbrellasRunningOnto, Cond.selects RX1 yX1_umbrellasRunningOnto yX1_umbrellasRunningOnto, Cond.code yX1_umbrellasRunningOnto cX1_umbrellasRunningOnto 4 (some .int), Cond.fieldLink RX1 24 "UmbrellaQueue$State" "widths" "[I", Cond.methodLink RX1 136 yX1_leastReached, Cond.instanceMethod yX1_leastReached, Cond.selects RX1 yX1_leastReached yX1_leastReached, Cond.code yX1_leastReached cX1_leastReached 2 (some .int), Cond.methodLink RX1 112 Lib.Math.max.name, Cond.static Lib.Math.max.name, Cond.code Lib.Math.max.name Lib.Math.max.code 2 (some .int), Cond.methodLink RX1 139 yX1_greatestReached, Cond.instanceMethod yX1_greatestReached, Cond.selects RX1 yX1_greatestReached yX1_greatestReached, Cond.code yX1_greatestReached cX1_greatestReached 2 (some .int), Cond.methodLink RX1 151 yX1_isCovered, Cond.instanceMethod yX1_isCovered, Cond.selects RX1 yX1_isCovered yX1_isCovered, Cond.code yX1_isCovered cX1_isCovered 6 (some .boolean), Cond.methodLink RX1 107 yX1_removeSoaked]
def wsX3_happen_r3 : List Cond := [Cond.instanceMethod yX1_removeSoaked, Cond.selects RX1 yX1_removeSoaked yX1_removeSoaked, Cond.code yX1_removeSoaked cX1_removeSoaked 3 (some .int), Cond.fieldLink RX1 18 "UmbrellaQueue$State" "patience" "[I", Cond.fieldLink RX1 49 "UmbrellaQueue$State" "soaked" "I", Cond.methodLink RX1 78 yX1_remove, Cond.instanceMethod yX1_remove, Cond.selects RX1 yX1_remove yX1_remove, Cond.code yX1_remove cX1_remove 2 none, Cond.fieldLink RX1 9 "UmbrellaQueue$State" "numbers" "[I", Cond.fieldLink RX1 21 "UmbrellaQueue$State" "coins" "[I", Cond.fieldLink RX1 27 "UmbrellaQueue$State" "swapped" "[I", Cond.methodLink RX1 130 yX1_closeGap, Cond.static yX1_closeGap, Cond.code yX1_closeGap cX1_closeGap 2 none, Cond.methodLink RX1 33 arraycopyName, Cond.native arraycopyName, Cond.static arraycopyName, Cond.initialized "java/lang/System", Cond.methodLink RX3 68 yX1_dry, Cond.instanceMethod yX1_dry, Cond.selects RX1 yX1_dry yX1_dry, Cond.code yX1_dry cX1_dry 4 (some .int), Cond.fieldLink RX1 67 "UmbrellaQueue$State" "minutes" "I"]
def wsX3_happen_r4 : List Cond := [Cond.constant RX1 111 (99999), Cond.fieldLink RX1 30 "UmbrellaQueue$State" "settings" "[I", Cond.methodLink RX3 71 yX1_serveFirst, Cond.instanceMethod yX1_serveFirst, Cond.selects RX1 yX1_serveFirst yX1_serveFirst, Cond.code yX1_serveFirst cX1_serveFirst 4 (some .int), Cond.fieldLink RX1 55 "UmbrellaQueue$State" "paid" "I", Cond.fieldLink RX1 58 "UmbrellaQueue$State" "unpaid" "I", Cond.fieldLink RX1 52 "UmbrellaQueue$State" "served" "I", Cond.methodLink RX1 118 yX1_peopleToServe, Cond.instanceMethod yX1_peopleToServe, Cond.selects RX1 yX1_peopleToServe yX1_peopleToServe, Cond.code yX1_peopleToServe cX1_peopleToServe 1 (some .int), Cond.methodLink RX1 121 yX1_driestToServe, Cond.instanceMethod yX1_driestToServe, Cond.selects RX1 yX1_driestToServe yX1_driestToServe, Cond.code yX1_driestToServe cX1_driestToServe 4 (some .int), Cond.methodLink RX1 124 yX1_paidFrom, Cond.instanceMethod yX1_paidFrom, Cond.selects RX1 yX1_paidFrom yX1_paidFrom, Cond.code yX1_paidFrom cX1_paidFrom 2 (some .int), Cond.methodLink RX1 127 yX1_fareForAll, Cond.instanceMethod yX1_fareForAll, Cond.selects RX1 yX1_fareForAll yX1_fareForAll]
def wsX3_happen_r5 : List Cond := [Cond.code yX1_fareForAll cX1_fareForAll 1 (some .int), Cond.methodLink RX3 58 yX1_swapUmbrellas, Cond.instanceMethod yX1_swapUmbrellas, Cond.selects RX1 yX1_swapUmbrellas yX1_swapUmbrellas, Cond.code yX1_swapUmbrellas cX1_swapUmbrellas 3 (some .int), Cond.fieldLink RX1 61 "UmbrellaQueue$State" "swaps" "I", Cond.methodLink RX1 82 yX1_hasNeighbour, Cond.instanceMethod yX1_hasNeighbour, Cond.selects RX1 yX1_hasNeighbour yX1_hasNeighbour, Cond.code yX1_hasNeighbour cX1_hasNeighbour 2 (some .boolean), Cond.methodLink RX1 89 yX1_refusal, Cond.instanceMethod yX1_refusal, Cond.selects RX1 yX1_refusal yX1_refusal, Cond.code yX1_refusal cX1_refusal 7 (some .int), Cond.methodLink RX1 85 yX1_exchange, Cond.static yX1_exchange, Cond.code yX1_exchange cX1_exchange 3 none]
def wsX3_happen : List Cond := .code yX3_happen cX3_happen 4 (some .int) :: ((wsX3_happen_r1 ++ (wsX3_happen_r2 ++ (wsX3_happen_r3 ++ (wsX3_happen_r4 ++ wsX3_happen_r5)))) ++ wsX30 ++ wsX10)
def wsX3_isStop : List Cond := .code yX3_isStop cX3_isStop 1 (some .boolean) :: ([.methodLink RX3 157 yX3_isWithin, .static yX3_isWithin, .initialized RX3, .code yX3_isWithin cX3_isWithin 3 (some .boolean)])
def wsX3_perform_r1 : List Cond := [Cond.fieldLink RX3 29 "UmbrellaQueue" "weather" "LUmbrellaQueue$Weather;", Cond.fieldLink RX3 22 "UmbrellaQueue" "history" "LUmbrellaQueue$History;", Cond.fieldLink RX3 10 "UmbrellaQueue" "now" "LUmbrellaQueue$State;", Cond.fieldLink RX3 85 "UmbrellaQueue$Weather" "things" "I", Cond.fieldLink RX3 88 "UmbrellaQueue$Weather" "kinds" "[C", Cond.fieldLink RX3 92 "UmbrellaQueue$Weather" "amounts" "[I", Cond.fieldLink RX3 96 "UmbrellaQueue$Weather" "sides" "[I", Cond.fieldLink RX3 33 "UmbrellaQueue" "stopNumber" "I", Cond.fieldLink RX3 37 "UmbrellaQueue" "stopError" "I", Cond.methodLink RX3 82 yX2_read, Cond.instanceMethod yX2_read, Cond.selects RX2 yX2_read yX2_read, Cond.initialized RX2, Cond.code yX2_read cX2_read 2 (some .int), Cond.fieldLink RX2 29 "UmbrellaQueue$Weather" "things" "I", Cond.fieldLink RX2 32 "UmbrellaQueue$Weather" "index" "I", Cond.fieldLink RX2 25 "UmbrellaQueue$Weather" "length" "I", Cond.methodLink RX2 35 yX2_readThing, Cond.instanceMethod yX2_readThing, Cond.selects RX2 yX2_readThing yX2_readThing, Cond.code yX2_readThing cX2_readThing 3 (some .boolean), Cond.fieldLink RX2 15 "UmbrellaQueue$Weather" "kinds" "[C", Cond.fieldLink RX2 18 "UmbrellaQueue$Weather" "amounts" "[I", Cond.fieldLink RX2 22 "UmbrellaQueue$Weather" "sides" "[I"]
def wsX3_perform_r2 : List Cond := [Cond.methodLink RX2 39 yX2_character, Cond.instanceMethod yX2_character, Cond.selects RX2 yX2_character yX2_character, Cond.code yX2_character cX2_character 1 (some .int), Cond.fieldLink RX2 11 "UmbrellaQueue$Weather" "text" "[C", Cond.methodLink RX2 43 yX2_readNumber, Cond.instanceMethod yX2_readNumber, Cond.selects RX2 yX2_readNumber yX2_readNumber, Cond.code yX2_readNumber cX2_readNumber 5 (some .int), Cond.methodLink RX2 50 yX2_digit, Cond.instanceMethod yX2_digit, Cond.selects RX2 yX2_digit yX2_digit, Cond.code yX2_digit cX2_digit 2 (some .int), Cond.static yX3_isWithin, Cond.initialized RX3, Cond.code yX3_isWithin cX3_isWithin 3 (some .boolean), Cond.methodLink RX2 47 yX2_readSide, Cond.instanceMethod yX2_readSide, Cond.selects RX2 yX2_readSide yX2_readSide, Cond.code yX2_readSide cX2_readSide 2 (some .int), Cond.methodLink RX3 40 yX0_draft, Cond.instanceMethod yX0_draft, Cond.selects RX0 yX0_draft yX0_draft, Cond.initialized RX0]
def wsX3_perform_r3 : List Cond := [Cond.code yX0_draft cX0_draft 2 none, Cond.methodLink RX0 20 yX0_drafted, Cond.instanceMethod yX0_drafted, Cond.selects RX0 yX0_drafted yX0_drafted, Cond.code yX0_drafted cX0_drafted 1 (some (.object "UmbrellaQueue$State")), Cond.fieldLink RX0 11 "UmbrellaQueue$History" "states" "[LUmbrellaQueue$State;", Cond.fieldLink RX0 16 "UmbrellaQueue$History" "depth" "I", Cond.methodLink RX0 24 yX1_copyFrom, Cond.instanceMethod yX1_copyFrom, Cond.selects RX1 yX1_copyFrom yX1_copyFrom, Cond.initialized RX1, Cond.code yX1_copyFrom cX1_copyFrom 2 none, Cond.fieldLink RX1 9 "UmbrellaQueue$State" "numbers" "[I", Cond.methodLink RX1 33 arraycopyName, Cond.native arraycopyName, Cond.static arraycopyName, Cond.initialized "java/lang/System", Cond.fieldLink RX1 15 "UmbrellaQueue$State" "wetness" "[I", Cond.fieldLink RX1 18 "UmbrellaQueue$State" "patience" "[I", Cond.fieldLink RX1 21 "UmbrellaQueue$State" "coins" "[I", Cond.fieldLink RX1 24 "UmbrellaQueue$State" "widths" "[I", Cond.fieldLink RX1 27 "UmbrellaQueue$State" "swapped" "[I", Cond.fieldLink RX1 30 "UmbrellaQueue$State" "settings" "[I", Cond.fieldLink RX1 39 "UmbrellaQueue$State" "size" "I"]
def wsX3_perform_r4 : List Cond := [Cond.fieldLink RX1 43 "UmbrellaQueue$State" "came" "I", Cond.fieldLink RX1 46 "UmbrellaQueue$State" "left" "I", Cond.fieldLink RX1 49 "UmbrellaQueue$State" "soaked" "I", Cond.fieldLink RX1 52 "UmbrellaQueue$State" "served" "I", Cond.fieldLink RX1 55 "UmbrellaQueue$State" "paid" "I", Cond.fieldLink RX1 58 "UmbrellaQueue$State" "unpaid" "I", Cond.fieldLink RX1 61 "UmbrellaQueue$State" "swaps" "I", Cond.fieldLink RX1 64 "UmbrellaQueue$State" "gusts" "I", Cond.fieldLink RX1 67 "UmbrellaQueue$State" "minutes" "I", Cond.methodLink RX3 99 yX3_happen, Cond.instanceMethod yX3_happen, Cond.selects RX3 yX3_happen yX3_happen, Cond.code yX3_happen cX3_happen 4 (some .int), Cond.methodLink RX3 65 yX1_rain, Cond.instanceMethod yX1_rain, Cond.selects RX1 yX1_rain yX1_rain, Cond.code yX1_rain cX1_rain 4 (some .int), Cond.static yX3_isGust, Cond.code yX3_isGust cX3_isGust 2 (some .boolean), Cond.methodLink RX3 157 yX3_isWithin, Cond.methodLink RX1 103 yX1_wetnessAfter, Cond.instanceMethod yX1_wetnessAfter, Cond.selects RX1 yX1_wetnessAfter yX1_wetnessAfter, Cond.code yX1_wetnessAfter cX1_wetnessAfter 4 (some .int)]
def wsX3_perform_r5 : List Cond := [Cond.methodLink RX1 133 Lib.Math.min.name, Cond.static Lib.Math.min.name, Cond.initialized "java/lang/Math", Cond.code Lib.Math.min.name Lib.Math.min.code 2 (some .int), Cond.methodLink RX1 145 yX1_wetterBy, Cond.instanceMethod yX1_wetterBy, Cond.selects RX1 yX1_wetterBy yX1_wetterBy, Cond.code yX1_wetterBy cX1_wetterBy 5 (some .int), Cond.methodLink RX1 148 yX1_umbrellasRunningOnto, Cond.instanceMethod yX1_umbrellasRunningOnto, Cond.selects RX1 yX1_umbrellasRunningOnto yX1_umbrellasRunningOnto, Cond.code yX1_umbrellasRunningOnto cX1_umbrellasRunningOnto 4 (some .int), Cond.methodLink RX1 136 yX1_leastReached, Cond.instanceMethod yX1_leastReached, Cond.selects RX1 yX1_leastReached yX1_leastReached, Cond.code yX1_leastReached cX1_leastReached 2 (some .int), Cond.methodLink RX1 112 Lib.Math.max.name, Cond.static Lib.Math.max.name, Cond.code Lib.Math.max.name Lib.Math.max.code 2 (some .int), Cond.methodLink RX1 139 yX1_greatestReached, Cond.instanceMethod yX1_greatestReached, Cond.selects RX1 yX1_greatestReached yX1_greatestReached, Cond.code yX1_greatestReached cX1_greatestReached 2 (some .int), Cond.methodLink RX1 151 yX1_isCovered]
def wsX3_perform_r6 : List Cond := [Cond.instanceMethod yX1_isCovered, Cond.selects RX1 yX1_isCovered yX1_isCovered, Cond.code yX1_isCovered cX1_isCovered 6 (some .boolean), Cond.methodLink RX1 107 yX1_removeSoaked, Cond.instanceMethod yX1_removeSoaked, Cond.selects RX1 yX1_removeSoaked yX1_removeSoaked, Cond.code yX1_removeSoaked cX1_removeSoaked 3 (some .int), Cond.methodLink RX1 78 yX1_remove, Cond.instanceMethod yX1_remove, Cond.selects RX1 yX1_remove yX1_remove, Cond.code yX1_remove cX1_remove 2 none, Cond.methodLink RX1 130 yX1_closeGap, Cond.static yX1_closeGap, Cond.code yX1_closeGap cX1_closeGap 2 none, Cond.methodLink RX3 68 yX1_dry, Cond.instanceMethod yX1_dry, Cond.selects RX1 yX1_dry yX1_dry, Cond.code yX1_dry cX1_dry 4 (some .int), Cond.constant RX1 111 (99999), Cond.methodLink RX3 71 yX1_serveFirst, Cond.instanceMethod yX1_serveFirst, Cond.selects RX1 yX1_serveFirst yX1_serveFirst, Cond.code yX1_serveFirst cX1_serveFirst 4 (some .int), Cond.methodLink RX1 118 yX1_peopleToServe]
def wsX3_perform_r7 : List Cond := [Cond.instanceMethod yX1_peopleToServe, Cond.selects RX1 yX1_peopleToServe yX1_peopleToServe, Cond.code yX1_peopleToServe cX1_peopleToServe 1 (some .int), Cond.methodLink RX1 121 yX1_driestToServe, Cond.instanceMethod yX1_driestToServe, Cond.selects RX1 yX1_driestToServe yX1_driestToServe, Cond.code yX1_driestToServe cX1_driestToServe 4 (some .int), Cond.methodLink RX1 124 yX1_paidFrom, Cond.instanceMethod yX1_paidFrom, Cond.selects RX1 yX1_paidFrom yX1_paidFrom, Cond.code yX1_paidFrom cX1_paidFrom 2 (some .int), Cond.methodLink RX1 127 yX1_fareForAll, Cond.instanceMethod yX1_fareForAll, Cond.selects RX1 yX1_fareForAll yX1_fareForAll, Cond.code yX1_fareForAll cX1_fareForAll 1 (some .int), Cond.methodLink RX3 58 yX1_swapUmbrellas, Cond.instanceMethod yX1_swapUmbrellas, Cond.selects RX1 yX1_swapUmbrellas yX1_swapUmbrellas, Cond.code yX1_swapUmbrellas cX1_swapUmbrellas 3 (some .int), Cond.methodLink RX1 82 yX1_hasNeighbour, Cond.instanceMethod yX1_hasNeighbour, Cond.selects RX1 yX1_hasNeighbour yX1_hasNeighbour, Cond.code yX1_hasNeighbour cX1_hasNeighbour 2 (some .boolean), Cond.methodLink RX1 89 yX1_refusal]
def wsX3_perform_r8 : List Cond := [Cond.instanceMethod yX1_refusal, Cond.selects RX1 yX1_refusal yX1_refusal, Cond.code yX1_refusal cX1_refusal 7 (some .int), Cond.methodLink RX1 85 yX1_exchange, Cond.static yX1_exchange, Cond.code yX1_exchange cX1_exchange 3 none, Cond.methodLink RX3 103 yX3_isStop, Cond.static yX3_isStop, Cond.code yX3_isStop cX3_isStop 1 (some .boolean), Cond.methodLink RX3 107 yX0_drafted, Cond.methodLink RX3 111 yX1_copyFrom, Cond.methodLink RX3 48 yX3_recorded, Cond.instanceMethod yX3_recorded, Cond.selects RX3 yX3_recorded yX3_recorded, Cond.code yX3_recorded cX3_recorded 2 (some .int), Cond.methodLink RX3 234 yX0_keepDraft, Cond.instanceMethod yX0_keepDraft, Cond.selects RX0 yX0_keepDraft yX0_keepDraft, Cond.code yX0_keepDraft cX0_keepDraft 3 none]
def wsX3_perform : List Cond := .code yX3_perform cX3_perform 4 (some .int) :: ((wsX3_perform_r1 ++ (wsX3_perform_r2 ++ (wsX3_perform_r3 ++ (wsX3_perform_r4 ++ (wsX3_perform_r5 ++ (wsX3_perform_r6 ++ (wsX3_perform_r7 ++ wsX3_perform_r8))))))) ++ wsX30 ++ wsX20 ++ wsX00 ++ wsX10)
def wsX3_stopped : List Cond := .code yX3_stopped cX3_stopped 2 (some .int) :: ([.fieldLink RX3 33 "UmbrellaQueue" "stopNumber" "I", .fieldLink RX3 37 "UmbrellaQueue" "stopError" "I"] ++ wsX30)
def wsX3_undo_r1 : List Cond := [Cond.fieldLink RX3 22 "UmbrellaQueue" "history" "LUmbrellaQueue$History;", Cond.fieldLink RX3 114 "UmbrellaQueue$History" "depth" "I", Cond.fieldLink RX3 10 "UmbrellaQueue" "now" "LUmbrellaQueue$State;", Cond.methodLink RX3 117 yX0_takeLatest, Cond.instanceMethod yX0_takeLatest, Cond.selects RX0 yX0_takeLatest yX0_takeLatest, Cond.initialized RX0, Cond.code yX0_takeLatest cX0_takeLatest 1 (some (.object "UmbrellaQueue$State")), Cond.fieldLink RX0 16 "UmbrellaQueue$History" "depth" "I", Cond.fieldLink RX0 11 "UmbrellaQueue$History" "states" "[LUmbrellaQueue$State;", Cond.methodLink RX3 111 yX1_copyFrom, Cond.instanceMethod yX1_copyFrom, Cond.selects RX1 yX1_copyFrom yX1_copyFrom, Cond.initialized RX1, Cond.code yX1_copyFrom cX1_copyFrom 2 none, Cond.fieldLink RX1 9 "UmbrellaQueue$State" "numbers" "[I", Cond.methodLink RX1 33 arraycopyName, Cond.native arraycopyName, Cond.static arraycopyName, Cond.initialized "java/lang/System", Cond.fieldLink RX1 15 "UmbrellaQueue$State" "wetness" "[I", Cond.fieldLink RX1 18 "UmbrellaQueue$State" "patience" "[I", Cond.fieldLink RX1 21 "UmbrellaQueue$State" "coins" "[I", Cond.fieldLink RX1 24 "UmbrellaQueue$State" "widths" "[I"]
def wsX3_undo_r2 : List Cond := [Cond.fieldLink RX1 27 "UmbrellaQueue$State" "swapped" "[I", Cond.fieldLink RX1 30 "UmbrellaQueue$State" "settings" "[I", Cond.fieldLink RX1 39 "UmbrellaQueue$State" "size" "I", Cond.fieldLink RX1 43 "UmbrellaQueue$State" "came" "I", Cond.fieldLink RX1 46 "UmbrellaQueue$State" "left" "I", Cond.fieldLink RX1 49 "UmbrellaQueue$State" "soaked" "I", Cond.fieldLink RX1 52 "UmbrellaQueue$State" "served" "I", Cond.fieldLink RX1 55 "UmbrellaQueue$State" "paid" "I", Cond.fieldLink RX1 58 "UmbrellaQueue$State" "unpaid" "I", Cond.fieldLink RX1 61 "UmbrellaQueue$State" "swaps" "I", Cond.fieldLink RX1 64 "UmbrellaQueue$State" "gusts" "I", Cond.fieldLink RX1 67 "UmbrellaQueue$State" "minutes" "I"]
def wsX3_undo : List Cond := .code yX3_undo cX3_undo 1 (some .int) :: ((wsX3_undo_r1 ++ wsX3_undo_r2) ++ wsX30 ++ wsX00 ++ wsX10)
def wsX3_keep_r1 : List Cond := [Cond.fieldLink RX3 16 "UmbrellaQueue" "snapshot" "LUmbrellaQueue$State;", Cond.fieldLink RX3 10 "UmbrellaQueue" "now" "LUmbrellaQueue$State;", Cond.fieldLink RX3 120 "UmbrellaQueue" "hasSnapshot" "Z", Cond.fieldLink RX3 124 "UmbrellaQueue$State" "size" "I", Cond.methodLink RX3 111 yX1_copyFrom, Cond.instanceMethod yX1_copyFrom, Cond.selects RX1 yX1_copyFrom yX1_copyFrom, Cond.initialized RX1, Cond.code yX1_copyFrom cX1_copyFrom 2 none, Cond.fieldLink RX1 9 "UmbrellaQueue$State" "numbers" "[I", Cond.methodLink RX1 33 arraycopyName, Cond.native arraycopyName, Cond.static arraycopyName, Cond.initialized "java/lang/System", Cond.fieldLink RX1 15 "UmbrellaQueue$State" "wetness" "[I", Cond.fieldLink RX1 18 "UmbrellaQueue$State" "patience" "[I", Cond.fieldLink RX1 21 "UmbrellaQueue$State" "coins" "[I", Cond.fieldLink RX1 24 "UmbrellaQueue$State" "widths" "[I", Cond.fieldLink RX1 27 "UmbrellaQueue$State" "swapped" "[I", Cond.fieldLink RX1 30 "UmbrellaQueue$State" "settings" "[I", Cond.fieldLink RX1 39 "UmbrellaQueue$State" "size" "I", Cond.fieldLink RX1 43 "UmbrellaQueue$State" "came" "I", Cond.fieldLink RX1 46 "UmbrellaQueue$State" "left" "I", Cond.fieldLink RX1 49 "UmbrellaQueue$State" "soaked" "I"]
def wsX3_keep_r2 : List Cond := [Cond.fieldLink RX1 52 "UmbrellaQueue$State" "served" "I", Cond.fieldLink RX1 55 "UmbrellaQueue$State" "paid" "I", Cond.fieldLink RX1 58 "UmbrellaQueue$State" "unpaid" "I", Cond.fieldLink RX1 61 "UmbrellaQueue$State" "swaps" "I", Cond.fieldLink RX1 64 "UmbrellaQueue$State" "gusts" "I", Cond.fieldLink RX1 67 "UmbrellaQueue$State" "minutes" "I"]
def wsX3_keep : List Cond := .code yX3_keep cX3_keep 1 (some .int) :: ((wsX3_keep_r1 ++ wsX3_keep_r2) ++ wsX30 ++ wsX10)
def wsX3_restore_r1 : List Cond := [Cond.fieldLink RX3 120 "UmbrellaQueue" "hasSnapshot" "Z", Cond.fieldLink RX3 22 "UmbrellaQueue" "history" "LUmbrellaQueue$History;", Cond.fieldLink RX3 10 "UmbrellaQueue" "now" "LUmbrellaQueue$State;", Cond.fieldLink RX3 16 "UmbrellaQueue" "snapshot" "LUmbrellaQueue$State;", Cond.fieldLink RX3 124 "UmbrellaQueue$State" "size" "I", Cond.methodLink RX3 40 yX0_draft, Cond.instanceMethod yX0_draft, Cond.selects RX0 yX0_draft yX0_draft, Cond.initialized RX0, Cond.code yX0_draft cX0_draft 2 none, Cond.methodLink RX0 20 yX0_drafted, Cond.instanceMethod yX0_drafted, Cond.selects RX0 yX0_drafted yX0_drafted, Cond.code yX0_drafted cX0_drafted 1 (some (.object "UmbrellaQueue$State")), Cond.fieldLink RX0 11 "UmbrellaQueue$History" "states" "[LUmbrellaQueue$State;", Cond.fieldLink RX0 16 "UmbrellaQueue$History" "depth" "I", Cond.methodLink RX0 24 yX1_copyFrom, Cond.instanceMethod yX1_copyFrom, Cond.selects RX1 yX1_copyFrom yX1_copyFrom, Cond.initialized RX1, Cond.code yX1_copyFrom cX1_copyFrom 2 none, Cond.fieldLink RX1 9 "UmbrellaQueue$State" "numbers" "[I", Cond.methodLink RX1 33 arraycopyName, Cond.native arraycopyName]
def wsX3_restore_r2 : List Cond := [Cond.static arraycopyName, Cond.initialized "java/lang/System", Cond.fieldLink RX1 15 "UmbrellaQueue$State" "wetness" "[I", Cond.fieldLink RX1 18 "UmbrellaQueue$State" "patience" "[I", Cond.fieldLink RX1 21 "UmbrellaQueue$State" "coins" "[I", Cond.fieldLink RX1 24 "UmbrellaQueue$State" "widths" "[I", Cond.fieldLink RX1 27 "UmbrellaQueue$State" "swapped" "[I", Cond.fieldLink RX1 30 "UmbrellaQueue$State" "settings" "[I", Cond.fieldLink RX1 39 "UmbrellaQueue$State" "size" "I", Cond.fieldLink RX1 43 "UmbrellaQueue$State" "came" "I", Cond.fieldLink RX1 46 "UmbrellaQueue$State" "left" "I", Cond.fieldLink RX1 49 "UmbrellaQueue$State" "soaked" "I", Cond.fieldLink RX1 52 "UmbrellaQueue$State" "served" "I", Cond.fieldLink RX1 55 "UmbrellaQueue$State" "paid" "I", Cond.fieldLink RX1 58 "UmbrellaQueue$State" "unpaid" "I", Cond.fieldLink RX1 61 "UmbrellaQueue$State" "swaps" "I", Cond.fieldLink RX1 64 "UmbrellaQueue$State" "gusts" "I", Cond.fieldLink RX1 67 "UmbrellaQueue$State" "minutes" "I", Cond.methodLink RX3 111 yX1_copyFrom, Cond.methodLink RX3 48 yX3_recorded, Cond.instanceMethod yX3_recorded, Cond.selects RX3 yX3_recorded yX3_recorded, Cond.initialized RX3, Cond.code yX3_recorded cX3_recorded 2 (some .int)]
def wsX3_restore_r3 : List Cond := [Cond.methodLink RX3 234 yX0_keepDraft, Cond.instanceMethod yX0_keepDraft, Cond.selects RX0 yX0_keepDraft yX0_keepDraft, Cond.code yX0_keepDraft cX0_keepDraft 3 none]
def wsX3_restore : List Cond := .code yX3_restore cX3_restore 1 (some .int) :: ((wsX3_restore_r1 ++ (wsX3_restore_r2 ++ wsX3_restore_r3)) ++ wsX30 ++ wsX10 ++ wsX00)
def wsX3_person_r1 : List Cond := [Cond.fieldLink RX3 10 "UmbrellaQueue" "now" "LUmbrellaQueue$State;", Cond.fieldLink RX3 130 "UmbrellaQueue$State" "numbers" "[I", Cond.fieldLink RX3 133 "UmbrellaQueue$State" "wetness" "[I", Cond.fieldLink RX3 136 "UmbrellaQueue$State" "patience" "[I", Cond.fieldLink RX3 139 "UmbrellaQueue$State" "coins" "[I", Cond.fieldLink RX3 142 "UmbrellaQueue$State" "widths" "[I", Cond.fieldLink RX3 154 "UmbrellaQueue$State" "swapped" "[I", Cond.methodLink RX3 127 yX1_isPlace, Cond.instanceMethod yX1_isPlace, Cond.selects RX1 yX1_isPlace yX1_isPlace, Cond.initialized RX1, Cond.code yX1_isPlace cX1_isPlace 2 (some .boolean), Cond.fieldLink RX1 39 "UmbrellaQueue$State" "size" "I", Cond.methodLink RX3 145 yX1_leastReached, Cond.instanceMethod yX1_leastReached, Cond.selects RX1 yX1_leastReached yX1_leastReached, Cond.code yX1_leastReached cX1_leastReached 2 (some .int), Cond.fieldLink RX1 24 "UmbrellaQueue$State" "widths" "[I", Cond.methodLink RX1 112 Lib.Math.max.name, Cond.static Lib.Math.max.name, Cond.initialized "java/lang/Math", Cond.code Lib.Math.max.name Lib.Math.max.code 2 (some .int), Cond.methodLink RX3 148 yX1_greatestReached, Cond.instanceMethod yX1_greatestReached]
def wsX3_person_r2 : List Cond := [Cond.selects RX1 yX1_greatestReached yX1_greatestReached, Cond.code yX1_greatestReached cX1_greatestReached 2 (some .int), Cond.methodLink RX1 133 Lib.Math.min.name, Cond.static Lib.Math.min.name, Cond.code Lib.Math.min.name Lib.Math.min.code 2 (some .int), Cond.methodLink RX3 151 yX1_umbrellasOver, Cond.instanceMethod yX1_umbrellasOver, Cond.selects RX1 yX1_umbrellasOver yX1_umbrellasOver, Cond.code yX1_umbrellasOver cX1_umbrellasOver 4 (some .int), Cond.methodLink RX1 136 yX1_leastReached, Cond.methodLink RX1 139 yX1_greatestReached, Cond.static yX3_isWithin, Cond.initialized RX3, Cond.code yX3_isWithin cX3_isWithin 3 (some .boolean)]
def wsX3_person : List Cond := .code yX3_person cX3_person 3 (some .int) :: ((wsX3_person_r1 ++ wsX3_person_r2) ++ wsX30 ++ wsX10)
def wsX3_placeOf : List Cond := .code yX3_placeOf cX3_placeOf 3 (some .int) :: ([.fieldLink RX3 10 "UmbrellaQueue" "now" "LUmbrellaQueue$State;", .fieldLink RX3 124 "UmbrellaQueue$State" "size" "I", .fieldLink RX3 130 "UmbrellaQueue$State" "numbers" "[I", .methodLink RX3 157 yX3_isWithin, .static yX3_isWithin, .initialized RX3, .code yX3_isWithin cX3_isWithin 3 (some .boolean)] ++ wsX30 ++ wsX10)
def wsX3_ifGust_r1 : List Cond := [Cond.fieldLink RX3 10 "UmbrellaQueue" "now" "LUmbrellaQueue$State;", Cond.fieldLink RX3 136 "UmbrellaQueue$State" "patience" "[I", Cond.methodLink RX3 127 yX1_isPlace, Cond.instanceMethod yX1_isPlace, Cond.selects RX1 yX1_isPlace yX1_isPlace, Cond.initialized RX1, Cond.code yX1_isPlace cX1_isPlace 2 (some .boolean), Cond.fieldLink RX1 39 "UmbrellaQueue$State" "size" "I", Cond.methodLink RX3 161 yX3_isGust, Cond.static yX3_isGust, Cond.initialized RX3, Cond.code yX3_isGust cX3_isGust 2 (some .boolean), Cond.methodLink RX3 157 yX3_isWithin, Cond.static yX3_isWithin, Cond.code yX3_isWithin cX3_isWithin 3 (some .boolean), Cond.methodLink RX3 165 yX1_isCovered, Cond.instanceMethod yX1_isCovered, Cond.selects RX1 yX1_isCovered yX1_isCovered, Cond.code yX1_isCovered cX1_isCovered 6 (some .boolean), Cond.fieldLink RX1 24 "UmbrellaQueue$State" "widths" "[I", Cond.methodLink RX1 136 yX1_leastReached, Cond.instanceMethod yX1_leastReached, Cond.selects RX1 yX1_leastReached yX1_leastReached, Cond.code yX1_leastReached cX1_leastReached 2 (some .int)]
def wsX3_ifGust_r2 : List Cond := [Cond.methodLink RX1 112 Lib.Math.max.name, Cond.static Lib.Math.max.name, Cond.initialized "java/lang/Math", Cond.code Lib.Math.max.name Lib.Math.max.code 2 (some .int), Cond.methodLink RX1 139 yX1_greatestReached, Cond.instanceMethod yX1_greatestReached, Cond.selects RX1 yX1_greatestReached yX1_greatestReached, Cond.code yX1_greatestReached cX1_greatestReached 2 (some .int), Cond.methodLink RX1 133 Lib.Math.min.name, Cond.static Lib.Math.min.name, Cond.code Lib.Math.min.name Lib.Math.min.code 2 (some .int), Cond.methodLink RX3 168 yX1_umbrellasRunningOnto, Cond.instanceMethod yX1_umbrellasRunningOnto, Cond.selects RX1 yX1_umbrellasRunningOnto yX1_umbrellasRunningOnto, Cond.code yX1_umbrellasRunningOnto cX1_umbrellasRunningOnto 4 (some .int), Cond.methodLink RX3 171 yX1_wetnessAfter, Cond.instanceMethod yX1_wetnessAfter, Cond.selects RX1 yX1_wetnessAfter yX1_wetnessAfter, Cond.code yX1_wetnessAfter cX1_wetnessAfter 4 (some .int), Cond.fieldLink RX1 15 "UmbrellaQueue$State" "wetness" "[I", Cond.methodLink RX1 145 yX1_wetterBy, Cond.instanceMethod yX1_wetterBy, Cond.selects RX1 yX1_wetterBy yX1_wetterBy, Cond.code yX1_wetterBy cX1_wetterBy 5 (some .int)]
def wsX3_ifGust_r3 : List Cond := [Cond.methodLink RX1 148 yX1_umbrellasRunningOnto, Cond.methodLink RX1 151 yX1_isCovered]
def wsX3_ifGust : List Cond := .code yX3_ifGust cX3_ifGust 5 (some .int) :: ((wsX3_ifGust_r1 ++ (wsX3_ifGust_r2 ++ wsX3_ifGust_r3)) ++ wsX30 ++ wsX10)
def wsX3_reason : List Cond := .code yX3_reason cX3_reason 2 (some .int) :: ([.fieldLink RX3 10 "UmbrellaQueue" "now" "LUmbrellaQueue$State;", .methodLink RX3 174 yX1_hasNeighbour, .instanceMethod yX1_hasNeighbour, .selects RX1 yX1_hasNeighbour yX1_hasNeighbour, .initialized RX1, .code yX1_hasNeighbour cX1_hasNeighbour 2 (some .boolean), .fieldLink RX1 39 "UmbrellaQueue$State" "size" "I", .methodLink RX3 177 yX1_refusal, .instanceMethod yX1_refusal, .selects RX1 yX1_refusal yX1_refusal, .code yX1_refusal cX1_refusal 7 (some .int), .fieldLink RX1 24 "UmbrellaQueue$State" "widths" "[I", .fieldLink RX1 15 "UmbrellaQueue$State" "wetness" "[I"] ++ wsX30 ++ wsX10)
def wsX3_bestSwap_r1 : List Cond := [Cond.fieldLink RX3 10 "UmbrellaQueue" "now" "LUmbrellaQueue$State;", Cond.methodLink RX3 161 yX3_isGust, Cond.static yX3_isGust, Cond.initialized RX3, Cond.code yX3_isGust cX3_isGust 2 (some .boolean), Cond.methodLink RX3 157 yX3_isWithin, Cond.static yX3_isWithin, Cond.code yX3_isWithin cX3_isWithin 3 (some .boolean), Cond.methodLink RX3 180 yX1_driestSwap, Cond.instanceMethod yX1_driestSwap, Cond.selects RX1 yX1_driestSwap yX1_driestSwap, Cond.initialized RX1, Cond.code yX1_driestSwap cX1_driestSwap 7 (some .int), Cond.fieldLink RX1 39 "UmbrellaQueue$State" "size" "I", Cond.fieldLink RX1 24 "UmbrellaQueue$State" "widths" "[I", Cond.methodLink RX1 154 yX1_totalWetnessAfter, Cond.instanceMethod yX1_totalWetnessAfter, Cond.selects RX1 yX1_totalWetnessAfter yX1_totalWetnessAfter, Cond.code yX1_totalWetnessAfter cX1_totalWetnessAfter 5 (some .int), Cond.methodLink RX1 103 yX1_wetnessAfter, Cond.instanceMethod yX1_wetnessAfter, Cond.selects RX1 yX1_wetnessAfter yX1_wetnessAfter, Cond.code yX1_wetnessAfter cX1_wetnessAfter 4 (some .int), Cond.fieldLink RX1 15 "UmbrellaQueue$State" "wetness" "[I"]
def wsX3_bestSwap_r2 : List Cond := [Cond.methodLink RX1 133 Lib.Math.min.name, Cond.static Lib.Math.min.name, Cond.initialized "java/lang/Math", Cond.code Lib.Math.min.name Lib.Math.min.code 2 (some .int), Cond.methodLink RX1 145 yX1_wetterBy, Cond.instanceMethod yX1_wetterBy, Cond.selects RX1 yX1_wetterBy yX1_wetterBy, Cond.code yX1_wetterBy cX1_wetterBy 5 (some .int), Cond.methodLink RX1 148 yX1_umbrellasRunningOnto, Cond.instanceMethod yX1_umbrellasRunningOnto, Cond.selects RX1 yX1_umbrellasRunningOnto yX1_umbrellasRunningOnto, Cond.code yX1_umbrellasRunningOnto cX1_umbrellasRunningOnto 4 (some .int), Cond.methodLink RX1 136 yX1_leastReached, Cond.instanceMethod yX1_leastReached, Cond.selects RX1 yX1_leastReached yX1_leastReached, Cond.code yX1_leastReached cX1_leastReached 2 (some .int), Cond.methodLink RX1 112 Lib.Math.max.name, Cond.static Lib.Math.max.name, Cond.code Lib.Math.max.name Lib.Math.max.code 2 (some .int), Cond.methodLink RX1 139 yX1_greatestReached, Cond.instanceMethod yX1_greatestReached, Cond.selects RX1 yX1_greatestReached yX1_greatestReached, Cond.code yX1_greatestReached cX1_greatestReached 2 (some .int), Cond.methodLink RX1 151 yX1_isCovered]
def wsX3_bestSwap_r3 : List Cond := [Cond.instanceMethod yX1_isCovered, Cond.selects RX1 yX1_isCovered yX1_isCovered, Cond.code yX1_isCovered cX1_isCovered 6 (some .boolean), Cond.methodLink RX1 89 yX1_refusal, Cond.instanceMethod yX1_refusal, Cond.selects RX1 yX1_refusal yX1_refusal, Cond.code yX1_refusal cX1_refusal 7 (some .int), Cond.methodLink RX1 85 yX1_exchange, Cond.static yX1_exchange, Cond.code yX1_exchange cX1_exchange 3 none]
def wsX3_bestSwap : List Cond := .code yX3_bestSwap cX3_bestSwap 3 (some .int) :: ((wsX3_bestSwap_r1 ++ (wsX3_bestSwap_r2 ++ wsX3_bestSwap_r3)) ++ wsX30 ++ wsX10)
def wsX3_payer_r1 : List Cond := [Cond.fieldLink RX3 10 "UmbrellaQueue" "now" "LUmbrellaQueue$State;", Cond.fieldLink RX3 124 "UmbrellaQueue$State" "size" "I", Cond.methodLink RX3 157 yX3_isWithin, Cond.static yX3_isWithin, Cond.initialized RX3, Cond.code yX3_isWithin cX3_isWithin 3 (some .boolean), Cond.methodLink RX3 183 yX1_driestToServe, Cond.instanceMethod yX1_driestToServe, Cond.selects RX1 yX1_driestToServe yX1_driestToServe, Cond.initialized RX1, Cond.code yX1_driestToServe cX1_driestToServe 4 (some .int), Cond.fieldLink RX1 15 "UmbrellaQueue$State" "wetness" "[I", Cond.methodLink RX1 118 yX1_peopleToServe, Cond.instanceMethod yX1_peopleToServe, Cond.selects RX1 yX1_peopleToServe yX1_peopleToServe, Cond.code yX1_peopleToServe cX1_peopleToServe 1 (some .int), Cond.fieldLink RX1 39 "UmbrellaQueue$State" "size" "I", Cond.fieldLink RX1 30 "UmbrellaQueue$State" "settings" "[I", Cond.methodLink RX1 133 Lib.Math.min.name, Cond.static Lib.Math.min.name, Cond.initialized "java/lang/Math", Cond.code Lib.Math.min.name Lib.Math.min.code 2 (some .int), Cond.methodLink RX3 186 yX1_paidFrom, Cond.instanceMethod yX1_paidFrom]
def wsX3_payer_r2 : List Cond := [Cond.selects RX1 yX1_paidFrom yX1_paidFrom, Cond.code yX1_paidFrom cX1_paidFrom 2 (some .int), Cond.fieldLink RX1 21 "UmbrellaQueue$State" "coins" "[I", Cond.methodLink RX1 127 yX1_fareForAll, Cond.instanceMethod yX1_fareForAll, Cond.selects RX1 yX1_fareForAll yX1_fareForAll, Cond.code yX1_fareForAll cX1_fareForAll 1 (some .int)]
def wsX3_payer : List Cond := .code yX3_payer cX3_payer 3 (some .int) :: ((wsX3_payer_r1 ++ wsX3_payer_r2) ++ wsX30 ++ wsX10)
def wsX3_bears_r1 : List Cond := [Cond.fieldLink RX3 10 "UmbrellaQueue" "now" "LUmbrellaQueue$State;", Cond.methodLink RX3 127 yX1_isPlace, Cond.instanceMethod yX1_isPlace, Cond.selects RX1 yX1_isPlace yX1_isPlace, Cond.initialized RX1, Cond.code yX1_isPlace cX1_isPlace 2 (some .boolean), Cond.fieldLink RX1 39 "UmbrellaQueue$State" "size" "I", Cond.methodLink RX3 157 yX3_isWithin, Cond.static yX3_isWithin, Cond.initialized RX3, Cond.code yX3_isWithin cX3_isWithin 3 (some .boolean), Cond.methodLink RX3 189 yX1_gustsBorne, Cond.instanceMethod yX1_gustsBorne, Cond.selects RX1 yX1_gustsBorne yX1_gustsBorne, Cond.code yX1_gustsBorne cX1_gustsBorne 4 (some .int), Cond.fieldLink RX1 18 "UmbrellaQueue$State" "patience" "[I", Cond.fieldLink RX1 15 "UmbrellaQueue$State" "wetness" "[I", Cond.methodLink RX1 145 yX1_wetterBy, Cond.instanceMethod yX1_wetterBy, Cond.selects RX1 yX1_wetterBy yX1_wetterBy, Cond.code yX1_wetterBy cX1_wetterBy 5 (some .int), Cond.methodLink RX1 148 yX1_umbrellasRunningOnto, Cond.instanceMethod yX1_umbrellasRunningOnto, Cond.selects RX1 yX1_umbrellasRunningOnto yX1_umbrellasRunningOnto]
def wsX3_bears_r2 : List Cond := [Cond.code yX1_umbrellasRunningOnto cX1_umbrellasRunningOnto 4 (some .int), Cond.fieldLink RX1 24 "UmbrellaQueue$State" "widths" "[I", Cond.methodLink RX1 136 yX1_leastReached, Cond.instanceMethod yX1_leastReached, Cond.selects RX1 yX1_leastReached yX1_leastReached, Cond.code yX1_leastReached cX1_leastReached 2 (some .int), Cond.methodLink RX1 112 Lib.Math.max.name, Cond.static Lib.Math.max.name, Cond.initialized "java/lang/Math", Cond.code Lib.Math.max.name Lib.Math.max.code 2 (some .int), Cond.methodLink RX1 139 yX1_greatestReached, Cond.instanceMethod yX1_greatestReached, Cond.selects RX1 yX1_greatestReached yX1_greatestReached, Cond.code yX1_greatestReached cX1_greatestReached 2 (some .int), Cond.methodLink RX1 133 Lib.Math.min.name, Cond.static Lib.Math.min.name, Cond.code Lib.Math.min.name Lib.Math.min.code 2 (some .int), Cond.methodLink RX1 151 yX1_isCovered, Cond.instanceMethod yX1_isCovered, Cond.selects RX1 yX1_isCovered yX1_isCovered, Cond.code yX1_isCovered cX1_isCovered 6 (some .boolean)]
def wsX3_bears : List Cond := .code yX3_bears cX3_bears 3 (some .int) :: ((wsX3_bears_r1 ++ wsX3_bears_r2) ++ wsX30 ++ wsX10)
def wsX3_count_r1 : List Cond := [Cond.fieldLink RX3 10 "UmbrellaQueue" "now" "LUmbrellaQueue$State;", Cond.fieldLink RX3 124 "UmbrellaQueue$State" "size" "I", Cond.fieldLink RX3 192 "UmbrellaQueue$State" "came" "I", Cond.fieldLink RX3 195 "UmbrellaQueue$State" "left" "I", Cond.fieldLink RX3 198 "UmbrellaQueue$State" "soaked" "I", Cond.fieldLink RX3 201 "UmbrellaQueue$State" "served" "I", Cond.fieldLink RX3 204 "UmbrellaQueue$State" "paid" "I", Cond.fieldLink RX3 207 "UmbrellaQueue$State" "unpaid" "I", Cond.fieldLink RX3 210 "UmbrellaQueue$State" "swaps" "I", Cond.fieldLink RX3 213 "UmbrellaQueue$State" "gusts" "I", Cond.fieldLink RX3 216 "UmbrellaQueue$State" "minutes" "I", Cond.fieldLink RX3 228 "UmbrellaQueue$State" "settings" "[I", Cond.fieldLink RX3 22 "UmbrellaQueue" "history" "LUmbrellaQueue$History;", Cond.fieldLink RX3 114 "UmbrellaQueue$History" "depth" "I", Cond.fieldLink RX3 29 "UmbrellaQueue" "weather" "LUmbrellaQueue$Weather;", Cond.fieldLink RX3 231 "UmbrellaQueue$Weather" "length" "I", Cond.methodLink RX3 219 yX1_totalWetness, Cond.instanceMethod yX1_totalWetness, Cond.selects RX1 yX1_totalWetness yX1_totalWetness, Cond.initialized RX1, Cond.code yX1_totalWetness cX1_totalWetness 3 (some .int), Cond.fieldLink RX1 39 "UmbrellaQueue$State" "size" "I", Cond.fieldLink RX1 15 "UmbrellaQueue$State" "wetness" "[I", Cond.methodLink RX3 222 yX1_wettest]
def wsX3_count_r2 : List Cond := [Cond.instanceMethod yX1_wettest, Cond.selects RX1 yX1_wettest yX1_wettest, Cond.code yX1_wettest cX1_wettest 4 (some .int), Cond.methodLink RX3 225 yX1_placesUnreached, Cond.instanceMethod yX1_placesUnreached, Cond.selects RX1 yX1_placesUnreached yX1_placesUnreached, Cond.code yX1_placesUnreached cX1_placesUnreached 3 (some .int), Cond.methodLink RX1 142 yX1_umbrellasOver, Cond.instanceMethod yX1_umbrellasOver, Cond.selects RX1 yX1_umbrellasOver yX1_umbrellasOver, Cond.code yX1_umbrellasOver cX1_umbrellasOver 4 (some .int), Cond.fieldLink RX1 24 "UmbrellaQueue$State" "widths" "[I", Cond.methodLink RX1 136 yX1_leastReached, Cond.instanceMethod yX1_leastReached, Cond.selects RX1 yX1_leastReached yX1_leastReached, Cond.code yX1_leastReached cX1_leastReached 2 (some .int), Cond.methodLink RX1 112 Lib.Math.max.name, Cond.static Lib.Math.max.name, Cond.initialized "java/lang/Math", Cond.code Lib.Math.max.name Lib.Math.max.code 2 (some .int), Cond.methodLink RX1 139 yX1_greatestReached, Cond.instanceMethod yX1_greatestReached, Cond.selects RX1 yX1_greatestReached yX1_greatestReached, Cond.code yX1_greatestReached cX1_greatestReached 2 (some .int)]
def wsX3_count_r3 : List Cond := [Cond.methodLink RX1 133 Lib.Math.min.name, Cond.static Lib.Math.min.name, Cond.code Lib.Math.min.name Lib.Math.min.code 2 (some .int), Cond.static yX3_isWithin, Cond.initialized RX3, Cond.code yX3_isWithin cX3_isWithin 3 (some .boolean)]
def wsX3_count : List Cond := .code yX3_count cX3_count 2 (some .int) :: ((wsX3_count_r1 ++ (wsX3_count_r2 ++ wsX3_count_r3)) ++ wsX30 ++ wsX10 ++ wsX00 ++ wsX20)
def wsX4_init : List Cond := .code yX4_init cX4_init 1 none :: ([.methodLink RX4 1 objectInit, .instanceMethod objectInit, .code objectInit ⟨#[0xb1]⟩ 1 none, .arrayClass .int, .fieldLink RX4 7 "UmbrellaQueueModel" "s" "[I", .fieldLink RX4 13 "UmbrellaQueueModel" "ahead" "[I", .fieldLink RX4 16 "UmbrellaQueueModel" "snapshot" "[I", .fieldLink RX4 19 "UmbrellaQueueModel" "before" "[I", .fieldLink RX4 22 "UmbrellaQueueModel" "text" "[I", .fieldLink RX4 25 "UmbrellaQueueModel" "stopAt" "I", .fieldLink RX4 29 "UmbrellaQueueModel" "stopBy" "I"] ++ wsX40)
def wsX4_in : List Cond := .code yX4_in cX4_in 3 (some .boolean) :: ([])
def wsX4_isPlace : List Cond := .code yX4_isPlace cX4_isPlace 2 (some .boolean) :: ([.fieldLink RX4 7 "UmbrellaQueueModel" "s" "[I", .methodLink RX4 32 yX4_in, .static yX4_in, .initialized RX4, .code yX4_in cX4_in 3 (some .boolean)] ++ wsX40)
def wsX4_at : List Cond := .code yX4_at cX4_at 2 (some .int) :: ([])
def wsX4_of : List Cond := .code yX4_of cX4_of 3 (some .int) :: ([.fieldLink RX4 7 "UmbrellaQueueModel" "s" "[I", .methodLink RX4 36 yX4_at, .static yX4_at, .initialized RX4, .code yX4_at cX4_at 2 (some .int)] ++ wsX40)
def wsX4_looks : List Cond := .code yX4_looks cX4_looks 2 none :: ([.fieldLink RX4 13 "UmbrellaQueueModel" "ahead" "[I", .fieldLink RX4 7 "UmbrellaQueueModel" "s" "[I"] ++ wsX40)
def wsX4_records : List Cond := .code yX4_records cX4_records 2 none :: ([.fieldLink RX4 40 "UmbrellaQueueModel" "known" "I", .fieldLink RX4 19 "UmbrellaQueueModel" "before" "[I", .fieldLink RX4 13 "UmbrellaQueueModel" "ahead" "[I"] ++ wsX40)
def wsX4_know : List Cond := .code yX4_know cX4_know 1 none :: ([.methodLink RX4 43 yX4_looks, .instanceMethod yX4_looks, .selects RX4 yX4_looks yX4_looks, .initialized RX4, .code yX4_looks cX4_looks 2 none, .fieldLink RX4 13 "UmbrellaQueueModel" "ahead" "[I", .fieldLink RX4 7 "UmbrellaQueueModel" "s" "[I", .methodLink RX4 46 yX4_records, .instanceMethod yX4_records, .selects RX4 yX4_records yX4_records, .code yX4_records cX4_records 2 none, .fieldLink RX4 40 "UmbrellaQueueModel" "known" "I", .fieldLink RX4 19 "UmbrellaQueueModel" "before" "[I"] ++ wsX40)
def wsX4_leastOf : List Cond := .code yX4_leastOf cX4_leastOf 3 (some .int) :: ([.methodLink RX4 49 yX4_of, .instanceMethod yX4_of, .selects RX4 yX4_of yX4_of, .initialized RX4, .code yX4_of cX4_of 3 (some .int), .fieldLink RX4 7 "UmbrellaQueueModel" "s" "[I", .methodLink RX4 36 yX4_at, .static yX4_at, .code yX4_at cX4_at 2 (some .int)] ++ wsX40)
def wsX4_greatestOf : List Cond := .code yX4_greatestOf cX4_greatestOf 3 (some .int) :: ([.fieldLink RX4 7 "UmbrellaQueueModel" "s" "[I", .methodLink RX4 49 yX4_of, .instanceMethod yX4_of, .selects RX4 yX4_of yX4_of, .initialized RX4, .code yX4_of cX4_of 3 (some .int), .methodLink RX4 36 yX4_at, .static yX4_at, .code yX4_at cX4_at 2 (some .int)] ++ wsX40)
def wsX4_reaching : List Cond := .code yX4_reaching cX4_reaching 4 (some .int) :: ([.fieldLink RX4 7 "UmbrellaQueueModel" "s" "[I", .methodLink RX4 49 yX4_of, .instanceMethod yX4_of, .selects RX4 yX4_of yX4_of, .initialized RX4, .code yX4_of cX4_of 3 (some .int), .methodLink RX4 36 yX4_at, .static yX4_at, .code yX4_at cX4_at 2 (some .int), .methodLink RX4 52 yX4_leastOf, .instanceMethod yX4_leastOf, .selects RX4 yX4_leastOf yX4_leastOf, .code yX4_leastOf cX4_leastOf 3 (some .int), .methodLink RX4 56 yX4_greatestOf, .instanceMethod yX4_greatestOf, .selects RX4 yX4_greatestOf yX4_greatestOf, .code yX4_greatestOf cX4_greatestOf 3 (some .int), .methodLink RX4 32 yX4_in, .static yX4_in, .code yX4_in cX4_in 3 (some .boolean)] ++ wsX40)
def wsX4_isCovered : List Cond := .code yX4_isCovered cX4_isCovered 3 (some .boolean) :: ([.methodLink RX4 59 yX4_reaching, .instanceMethod yX4_reaching, .selects RX4 yX4_reaching yX4_reaching, .initialized RX4, .code yX4_reaching cX4_reaching 4 (some .int), .fieldLink RX4 7 "UmbrellaQueueModel" "s" "[I", .methodLink RX4 49 yX4_of, .instanceMethod yX4_of, .selects RX4 yX4_of yX4_of, .code yX4_of cX4_of 3 (some .int), .methodLink RX4 36 yX4_at, .static yX4_at, .code yX4_at cX4_at 2 (some .int), .methodLink RX4 52 yX4_leastOf, .instanceMethod yX4_leastOf, .selects RX4 yX4_leastOf yX4_leastOf, .code yX4_leastOf cX4_leastOf 3 (some .int), .methodLink RX4 56 yX4_greatestOf, .instanceMethod yX4_greatestOf, .selects RX4 yX4_greatestOf yX4_greatestOf, .code yX4_greatestOf cX4_greatestOf 3 (some .int), .methodLink RX4 32 yX4_in, .static yX4_in, .code yX4_in cX4_in 3 (some .boolean)] ++ wsX40)
def wsX4_running : List Cond := .code yX4_running cX4_running 4 (some .int) :: ([.fieldLink RX4 7 "UmbrellaQueueModel" "s" "[I", .methodLink RX4 49 yX4_of, .instanceMethod yX4_of, .selects RX4 yX4_of yX4_of, .initialized RX4, .code yX4_of cX4_of 3 (some .int), .methodLink RX4 36 yX4_at, .static yX4_at, .code yX4_at cX4_at 2 (some .int), .methodLink RX4 52 yX4_leastOf, .instanceMethod yX4_leastOf, .selects RX4 yX4_leastOf yX4_leastOf, .code yX4_leastOf cX4_leastOf 3 (some .int), .methodLink RX4 56 yX4_greatestOf, .instanceMethod yX4_greatestOf, .selects RX4 yX4_greatestOf yX4_greatestOf, .code yX4_greatestOf cX4_greatestOf 3 (some .int)] ++ wsX40)
def wsX4_wetter_r1 : List Cond := [Cond.methodLink RX4 62 yX4_isCovered, Cond.instanceMethod yX4_isCovered, Cond.selects RX4 yX4_isCovered yX4_isCovered, Cond.initialized RX4, Cond.code yX4_isCovered cX4_isCovered 3 (some .boolean), Cond.methodLink RX4 59 yX4_reaching, Cond.instanceMethod yX4_reaching, Cond.selects RX4 yX4_reaching yX4_reaching, Cond.code yX4_reaching cX4_reaching 4 (some .int), Cond.fieldLink RX4 7 "UmbrellaQueueModel" "s" "[I", Cond.methodLink RX4 49 yX4_of, Cond.instanceMethod yX4_of, Cond.selects RX4 yX4_of yX4_of, Cond.code yX4_of cX4_of 3 (some .int), Cond.methodLink RX4 36 yX4_at, Cond.static yX4_at, Cond.code yX4_at cX4_at 2 (some .int), Cond.methodLink RX4 52 yX4_leastOf, Cond.instanceMethod yX4_leastOf, Cond.selects RX4 yX4_leastOf yX4_leastOf, Cond.code yX4_leastOf cX4_leastOf 3 (some .int), Cond.methodLink RX4 56 yX4_greatestOf, Cond.instanceMethod yX4_greatestOf, Cond.selects RX4 yX4_greatestOf yX4_greatestOf]
def wsX4_wetter_r2 : List Cond := [Cond.code yX4_greatestOf cX4_greatestOf 3 (some .int), Cond.methodLink RX4 32 yX4_in, Cond.static yX4_in, Cond.code yX4_in cX4_in 3 (some .boolean), Cond.methodLink RX4 66 yX4_running, Cond.instanceMethod yX4_running, Cond.selects RX4 yX4_running yX4_running, Cond.code yX4_running cX4_running 4 (some .int)]
def wsX4_wetter : List Cond := .code yX4_wetter cX4_wetter 4 (some .int) :: ((wsX4_wetter_r1 ++ wsX4_wetter_r2) ++ wsX40)
def wsX4_wetBy_r1 : List Cond := [Cond.methodLink RX4 49 yX4_of, Cond.instanceMethod yX4_of, Cond.selects RX4 yX4_of yX4_of, Cond.initialized RX4, Cond.code yX4_of cX4_of 3 (some .int), Cond.fieldLink RX4 7 "UmbrellaQueueModel" "s" "[I", Cond.methodLink RX4 36 yX4_at, Cond.static yX4_at, Cond.code yX4_at cX4_at 2 (some .int), Cond.methodLink RX4 69 yX4_wetter, Cond.instanceMethod yX4_wetter, Cond.selects RX4 yX4_wetter yX4_wetter, Cond.code yX4_wetter cX4_wetter 4 (some .int), Cond.methodLink RX4 62 yX4_isCovered, Cond.instanceMethod yX4_isCovered, Cond.selects RX4 yX4_isCovered yX4_isCovered, Cond.code yX4_isCovered cX4_isCovered 3 (some .boolean), Cond.methodLink RX4 59 yX4_reaching, Cond.instanceMethod yX4_reaching, Cond.selects RX4 yX4_reaching yX4_reaching, Cond.code yX4_reaching cX4_reaching 4 (some .int), Cond.methodLink RX4 52 yX4_leastOf, Cond.instanceMethod yX4_leastOf, Cond.selects RX4 yX4_leastOf yX4_leastOf]
def wsX4_wetBy_r2 : List Cond := [Cond.code yX4_leastOf cX4_leastOf 3 (some .int), Cond.methodLink RX4 56 yX4_greatestOf, Cond.instanceMethod yX4_greatestOf, Cond.selects RX4 yX4_greatestOf yX4_greatestOf, Cond.code yX4_greatestOf cX4_greatestOf 3 (some .int), Cond.methodLink RX4 32 yX4_in, Cond.static yX4_in, Cond.code yX4_in cX4_in 3 (some .boolean), Cond.methodLink RX4 66 yX4_running, Cond.instanceMethod yX4_running, Cond.selects RX4 yX4_running yX4_running, Cond.code yX4_running cX4_running 4 (some .int)]
def wsX4_wetBy : List Cond := .code yX4_wetBy cX4_wetBy 5 (some .int) :: ((wsX4_wetBy_r1 ++ wsX4_wetBy_r2) ++ wsX40)
def wsX4_goes : List Cond := .code yX4_goes cX4_goes 3 none :: ([.fieldLink RX4 7 "UmbrellaQueueModel" "s" "[I", .methodLink RX4 36 yX4_at, .static yX4_at, .initialized RX4, .code yX4_at cX4_at 2 (some .int)] ++ wsX40)
def wsX4_gusts_r1 : List Cond := [Cond.fieldLink RX4 7 "UmbrellaQueueModel" "s" "[I", Cond.methodLink RX4 36 yX4_at, Cond.static yX4_at, Cond.initialized RX4, Cond.code yX4_at cX4_at 2 (some .int), Cond.methodLink RX4 73 yX4_wetBy, Cond.instanceMethod yX4_wetBy, Cond.selects RX4 yX4_wetBy yX4_wetBy, Cond.code yX4_wetBy cX4_wetBy 5 (some .int), Cond.methodLink RX4 49 yX4_of, Cond.instanceMethod yX4_of, Cond.selects RX4 yX4_of yX4_of, Cond.code yX4_of cX4_of 3 (some .int), Cond.methodLink RX4 69 yX4_wetter, Cond.instanceMethod yX4_wetter, Cond.selects RX4 yX4_wetter yX4_wetter, Cond.code yX4_wetter cX4_wetter 4 (some .int), Cond.methodLink RX4 62 yX4_isCovered, Cond.instanceMethod yX4_isCovered, Cond.selects RX4 yX4_isCovered yX4_isCovered, Cond.code yX4_isCovered cX4_isCovered 3 (some .boolean), Cond.methodLink RX4 59 yX4_reaching, Cond.instanceMethod yX4_reaching, Cond.selects RX4 yX4_reaching yX4_reaching]
def wsX4_gusts_r2 : List Cond := [Cond.code yX4_reaching cX4_reaching 4 (some .int), Cond.methodLink RX4 52 yX4_leastOf, Cond.instanceMethod yX4_leastOf, Cond.selects RX4 yX4_leastOf yX4_leastOf, Cond.code yX4_leastOf cX4_leastOf 3 (some .int), Cond.methodLink RX4 56 yX4_greatestOf, Cond.instanceMethod yX4_greatestOf, Cond.selects RX4 yX4_greatestOf yX4_greatestOf, Cond.code yX4_greatestOf cX4_greatestOf 3 (some .int), Cond.methodLink RX4 32 yX4_in, Cond.static yX4_in, Cond.code yX4_in cX4_in 3 (some .boolean), Cond.methodLink RX4 66 yX4_running, Cond.instanceMethod yX4_running, Cond.selects RX4 yX4_running yX4_running, Cond.code yX4_running cX4_running 4 (some .int), Cond.methodLink RX4 76 yX4_goes, Cond.instanceMethod yX4_goes, Cond.selects RX4 yX4_goes yX4_goes, Cond.code yX4_goes cX4_goes 3 none]
def wsX4_gusts : List Cond := .code yX4_gusts cX4_gusts 5 (some .int) :: ((wsX4_gusts_r1 ++ wsX4_gusts_r2) ++ wsX40)
def wsX4_passes : List Cond := .code yX4_passes cX4_passes 5 (some .int) :: ([.fieldLink RX4 7 "UmbrellaQueueModel" "s" "[I", .constant RX4 80 (99999), .methodLink RX4 49 yX4_of, .instanceMethod yX4_of, .selects RX4 yX4_of yX4_of, .initialized RX4, .code yX4_of cX4_of 3 (some .int), .methodLink RX4 36 yX4_at, .static yX4_at, .code yX4_at cX4_at 2 (some .int)] ++ wsX40)
def wsX4_served : List Cond := .code yX4_served cX4_served 1 (some .int) :: ([.fieldLink RX4 7 "UmbrellaQueueModel" "s" "[I"] ++ wsX40)
def wsX4_driest : List Cond := .code yX4_driest cX4_driest 3 (some .int) :: ([.methodLink RX4 81 yX4_served, .instanceMethod yX4_served, .selects RX4 yX4_served yX4_served, .initialized RX4, .code yX4_served cX4_served 1 (some .int), .fieldLink RX4 7 "UmbrellaQueueModel" "s" "[I", .methodLink RX4 49 yX4_of, .instanceMethod yX4_of, .selects RX4 yX4_of yX4_of, .code yX4_of cX4_of 3 (some .int), .methodLink RX4 36 yX4_at, .static yX4_at, .code yX4_at cX4_at 2 (some .int)] ++ wsX40)
def wsX4_coinsPaid : List Cond := .code yX4_coinsPaid cX4_coinsPaid 2 (some .int) :: ([.fieldLink RX4 7 "UmbrellaQueueModel" "s" "[I", .methodLink RX4 81 yX4_served, .instanceMethod yX4_served, .selects RX4 yX4_served yX4_served, .initialized RX4, .code yX4_served cX4_served 1 (some .int), .methodLink RX4 85 yX4_driest, .instanceMethod yX4_driest, .selects RX4 yX4_driest yX4_driest, .code yX4_driest cX4_driest 3 (some .int), .methodLink RX4 49 yX4_of, .instanceMethod yX4_of, .selects RX4 yX4_of yX4_of, .code yX4_of cX4_of 3 (some .int), .methodLink RX4 36 yX4_at, .static yX4_at, .code yX4_at cX4_at 2 (some .int)] ++ wsX40)
def wsX4_serves_r1 : List Cond := [Cond.fieldLink RX4 7 "UmbrellaQueueModel" "s" "[I", Cond.methodLink RX4 81 yX4_served, Cond.instanceMethod yX4_served, Cond.selects RX4 yX4_served yX4_served, Cond.initialized RX4, Cond.code yX4_served cX4_served 1 (some .int), Cond.methodLink RX4 88 yX4_coinsPaid, Cond.instanceMethod yX4_coinsPaid, Cond.selects RX4 yX4_coinsPaid yX4_coinsPaid, Cond.code yX4_coinsPaid cX4_coinsPaid 2 (some .int), Cond.methodLink RX4 85 yX4_driest, Cond.instanceMethod yX4_driest, Cond.selects RX4 yX4_driest yX4_driest, Cond.code yX4_driest cX4_driest 3 (some .int), Cond.methodLink RX4 49 yX4_of, Cond.instanceMethod yX4_of, Cond.selects RX4 yX4_of yX4_of, Cond.code yX4_of cX4_of 3 (some .int), Cond.methodLink RX4 36 yX4_at, Cond.static yX4_at, Cond.code yX4_at cX4_at 2 (some .int), Cond.methodLink RX4 76 yX4_goes, Cond.instanceMethod yX4_goes, Cond.selects RX4 yX4_goes yX4_goes]
def wsX4_serves_r2 : List Cond := [Cond.code yX4_goes cX4_goes 3 none]
def wsX4_serves : List Cond := .code yX4_serves cX4_serves 4 (some .int) :: ((wsX4_serves_r1 ++ wsX4_serves_r2) ++ wsX40)
def wsX4_arePair : List Cond := .code yX4_arePair cX4_arePair 2 (some .boolean) :: ([.methodLink RX4 91 yX4_isPlace, .instanceMethod yX4_isPlace, .selects RX4 yX4_isPlace yX4_isPlace, .initialized RX4, .code yX4_isPlace cX4_isPlace 2 (some .boolean), .fieldLink RX4 7 "UmbrellaQueueModel" "s" "[I", .methodLink RX4 32 yX4_in, .static yX4_in, .code yX4_in cX4_in 3 (some .boolean)] ++ wsX40)
def wsX4_why : List Cond := .code yX4_why cX4_why 5 (some .int) :: ([.methodLink RX4 49 yX4_of, .instanceMethod yX4_of, .selects RX4 yX4_of yX4_of, .initialized RX4, .code yX4_of cX4_of 3 (some .int), .fieldLink RX4 7 "UmbrellaQueueModel" "s" "[I", .methodLink RX4 36 yX4_at, .static yX4_at, .code yX4_at cX4_at 2 (some .int)] ++ wsX40)
def wsX4_exchange : List Cond := .code yX4_exchange cX4_exchange 4 none :: ([.fieldLink RX4 7 "UmbrellaQueueModel" "s" "[I", .methodLink RX4 49 yX4_of, .instanceMethod yX4_of, .selects RX4 yX4_of yX4_of, .initialized RX4, .code yX4_of cX4_of 3 (some .int), .methodLink RX4 36 yX4_at, .static yX4_at, .code yX4_at cX4_at 2 (some .int)] ++ wsX40)
def wsX4_swaps_r1 : List Cond := [Cond.fieldLink RX4 7 "UmbrellaQueueModel" "s" "[I", Cond.methodLink RX4 95 yX4_arePair, Cond.instanceMethod yX4_arePair, Cond.selects RX4 yX4_arePair yX4_arePair, Cond.initialized RX4, Cond.code yX4_arePair cX4_arePair 2 (some .boolean), Cond.methodLink RX4 91 yX4_isPlace, Cond.instanceMethod yX4_isPlace, Cond.selects RX4 yX4_isPlace yX4_isPlace, Cond.code yX4_isPlace cX4_isPlace 2 (some .boolean), Cond.methodLink RX4 32 yX4_in, Cond.static yX4_in, Cond.code yX4_in cX4_in 3 (some .boolean), Cond.methodLink RX4 98 yX4_why, Cond.instanceMethod yX4_why, Cond.selects RX4 yX4_why yX4_why, Cond.code yX4_why cX4_why 5 (some .int), Cond.methodLink RX4 49 yX4_of, Cond.instanceMethod yX4_of, Cond.selects RX4 yX4_of yX4_of, Cond.code yX4_of cX4_of 3 (some .int), Cond.methodLink RX4 36 yX4_at, Cond.static yX4_at, Cond.code yX4_at cX4_at 2 (some .int)]
def wsX4_swaps_r2 : List Cond := [Cond.methodLink RX4 101 yX4_exchange, Cond.instanceMethod yX4_exchange, Cond.selects RX4 yX4_exchange yX4_exchange, Cond.code yX4_exchange cX4_exchange 4 none]
def wsX4_swaps : List Cond := .code yX4_swaps cX4_swaps 2 (some .int) :: ((wsX4_swaps_r1 ++ wsX4_swaps_r2) ++ wsX40)
def wsX4_acted : List Cond := .code yX4_acted cX4_acted 2 (some .int) :: ([.methodLink RX4 46 yX4_records, .instanceMethod yX4_records, .selects RX4 yX4_records yX4_records, .initialized RX4, .code yX4_records cX4_records 2 none, .fieldLink RX4 40 "UmbrellaQueueModel" "known" "I", .fieldLink RX4 19 "UmbrellaQueueModel" "before" "[I", .fieldLink RX4 13 "UmbrellaQueueModel" "ahead" "[I"] ++ wsX40)
def wsX4_come : List Cond := .code yX4_come cX4_come 5 (some .int) :: ([.fieldLink RX4 7 "UmbrellaQueueModel" "s" "[I", .methodLink RX4 32 yX4_in, .static yX4_in, .initialized RX4, .code yX4_in cX4_in 3 (some .boolean), .methodLink RX4 105 yX4_know, .instanceMethod yX4_know, .selects RX4 yX4_know yX4_know, .code yX4_know cX4_know 1 none, .methodLink RX4 43 yX4_looks, .instanceMethod yX4_looks, .selects RX4 yX4_looks yX4_looks, .code yX4_looks cX4_looks 2 none, .fieldLink RX4 13 "UmbrellaQueueModel" "ahead" "[I", .methodLink RX4 46 yX4_records, .instanceMethod yX4_records, .selects RX4 yX4_records yX4_records, .code yX4_records cX4_records 2 none, .fieldLink RX4 40 "UmbrellaQueueModel" "known" "I", .fieldLink RX4 19 "UmbrellaQueueModel" "before" "[I", .methodLink RX4 36 yX4_at, .static yX4_at, .code yX4_at cX4_at 2 (some .int)] ++ wsX40)
def wsX4_leave_r1 : List Cond := [Cond.fieldLink RX4 7 "UmbrellaQueueModel" "s" "[I", Cond.methodLink RX4 91 yX4_isPlace, Cond.instanceMethod yX4_isPlace, Cond.selects RX4 yX4_isPlace yX4_isPlace, Cond.initialized RX4, Cond.code yX4_isPlace cX4_isPlace 2 (some .boolean), Cond.methodLink RX4 32 yX4_in, Cond.static yX4_in, Cond.code yX4_in cX4_in 3 (some .boolean), Cond.methodLink RX4 105 yX4_know, Cond.instanceMethod yX4_know, Cond.selects RX4 yX4_know yX4_know, Cond.code yX4_know cX4_know 1 none, Cond.methodLink RX4 43 yX4_looks, Cond.instanceMethod yX4_looks, Cond.selects RX4 yX4_looks yX4_looks, Cond.code yX4_looks cX4_looks 2 none, Cond.fieldLink RX4 13 "UmbrellaQueueModel" "ahead" "[I", Cond.methodLink RX4 46 yX4_records, Cond.instanceMethod yX4_records, Cond.selects RX4 yX4_records yX4_records, Cond.code yX4_records cX4_records 2 none, Cond.fieldLink RX4 40 "UmbrellaQueueModel" "known" "I", Cond.fieldLink RX4 19 "UmbrellaQueueModel" "before" "[I"]
def wsX4_leave_r2 : List Cond := [Cond.methodLink RX4 49 yX4_of, Cond.instanceMethod yX4_of, Cond.selects RX4 yX4_of yX4_of, Cond.code yX4_of cX4_of 3 (some .int), Cond.methodLink RX4 36 yX4_at, Cond.static yX4_at, Cond.code yX4_at cX4_at 2 (some .int), Cond.methodLink RX4 76 yX4_goes, Cond.instanceMethod yX4_goes, Cond.selects RX4 yX4_goes yX4_goes, Cond.code yX4_goes cX4_goes 3 none]
def wsX4_leave : List Cond := .code yX4_leave cX4_leave 3 (some .int) :: ((wsX4_leave_r1 ++ wsX4_leave_r2) ++ wsX40)
def wsX4_letAhead_r1 : List Cond := [Cond.methodLink RX4 95 yX4_arePair, Cond.instanceMethod yX4_arePair, Cond.selects RX4 yX4_arePair yX4_arePair, Cond.initialized RX4, Cond.code yX4_arePair cX4_arePair 2 (some .boolean), Cond.methodLink RX4 91 yX4_isPlace, Cond.instanceMethod yX4_isPlace, Cond.selects RX4 yX4_isPlace yX4_isPlace, Cond.code yX4_isPlace cX4_isPlace 2 (some .boolean), Cond.fieldLink RX4 7 "UmbrellaQueueModel" "s" "[I", Cond.methodLink RX4 32 yX4_in, Cond.static yX4_in, Cond.code yX4_in cX4_in 3 (some .boolean), Cond.methodLink RX4 105 yX4_know, Cond.instanceMethod yX4_know, Cond.selects RX4 yX4_know yX4_know, Cond.code yX4_know cX4_know 1 none, Cond.methodLink RX4 43 yX4_looks, Cond.instanceMethod yX4_looks, Cond.selects RX4 yX4_looks yX4_looks, Cond.code yX4_looks cX4_looks 2 none, Cond.fieldLink RX4 13 "UmbrellaQueueModel" "ahead" "[I", Cond.methodLink RX4 46 yX4_records, Cond.instanceMethod yX4_records]
def wsX4_letAhead_r2 : List Cond := [Cond.selects RX4 yX4_records yX4_records, Cond.code yX4_records cX4_records 2 none, Cond.fieldLink RX4 40 "UmbrellaQueueModel" "known" "I", Cond.fieldLink RX4 19 "UmbrellaQueueModel" "before" "[I", Cond.methodLink RX4 101 yX4_exchange, Cond.instanceMethod yX4_exchange, Cond.selects RX4 yX4_exchange yX4_exchange, Cond.code yX4_exchange cX4_exchange 4 none, Cond.methodLink RX4 49 yX4_of, Cond.instanceMethod yX4_of, Cond.selects RX4 yX4_of yX4_of, Cond.code yX4_of cX4_of 3 (some .int), Cond.methodLink RX4 36 yX4_at, Cond.static yX4_at, Cond.code yX4_at cX4_at 2 (some .int)]
def wsX4_letAhead : List Cond := .code yX4_letAhead cX4_letAhead 3 (some .int) :: ((wsX4_letAhead_r1 ++ wsX4_letAhead_r2) ++ wsX40)
def wsX4_swap_r1 : List Cond := [Cond.methodLink RX4 43 yX4_looks, Cond.instanceMethod yX4_looks, Cond.selects RX4 yX4_looks yX4_looks, Cond.initialized RX4, Cond.code yX4_looks cX4_looks 2 none, Cond.fieldLink RX4 13 "UmbrellaQueueModel" "ahead" "[I", Cond.fieldLink RX4 7 "UmbrellaQueueModel" "s" "[I", Cond.methodLink RX4 108 yX4_swaps, Cond.instanceMethod yX4_swaps, Cond.selects RX4 yX4_swaps yX4_swaps, Cond.code yX4_swaps cX4_swaps 2 (some .int), Cond.methodLink RX4 95 yX4_arePair, Cond.instanceMethod yX4_arePair, Cond.selects RX4 yX4_arePair yX4_arePair, Cond.code yX4_arePair cX4_arePair 2 (some .boolean), Cond.methodLink RX4 91 yX4_isPlace, Cond.instanceMethod yX4_isPlace, Cond.selects RX4 yX4_isPlace yX4_isPlace, Cond.code yX4_isPlace cX4_isPlace 2 (some .boolean), Cond.methodLink RX4 32 yX4_in, Cond.static yX4_in, Cond.code yX4_in cX4_in 3 (some .boolean), Cond.methodLink RX4 98 yX4_why, Cond.instanceMethod yX4_why]
def wsX4_swap_r2 : List Cond := [Cond.selects RX4 yX4_why yX4_why, Cond.code yX4_why cX4_why 5 (some .int), Cond.methodLink RX4 49 yX4_of, Cond.instanceMethod yX4_of, Cond.selects RX4 yX4_of yX4_of, Cond.code yX4_of cX4_of 3 (some .int), Cond.methodLink RX4 36 yX4_at, Cond.static yX4_at, Cond.code yX4_at cX4_at 2 (some .int), Cond.methodLink RX4 101 yX4_exchange, Cond.instanceMethod yX4_exchange, Cond.selects RX4 yX4_exchange yX4_exchange, Cond.code yX4_exchange cX4_exchange 4 none, Cond.methodLink RX4 111 yX4_acted, Cond.instanceMethod yX4_acted, Cond.selects RX4 yX4_acted yX4_acted, Cond.code yX4_acted cX4_acted 2 (some .int), Cond.methodLink RX4 46 yX4_records, Cond.instanceMethod yX4_records, Cond.selects RX4 yX4_records yX4_records, Cond.code yX4_records cX4_records 2 none, Cond.fieldLink RX4 40 "UmbrellaQueueModel" "known" "I", Cond.fieldLink RX4 19 "UmbrellaQueueModel" "before" "[I"]
def wsX4_swap : List Cond := .code yX4_swap cX4_swap 2 (some .int) :: ((wsX4_swap_r1 ++ wsX4_swap_r2) ++ wsX40)
def wsX4_set : List Cond := .code yX4_set cX4_set 4 (some .int) :: ([.fieldLink RX4 7 "UmbrellaQueueModel" "s" "[I", .methodLink RX4 32 yX4_in, .static yX4_in, .initialized RX4, .code yX4_in cX4_in 3 (some .boolean), .methodLink RX4 105 yX4_know, .instanceMethod yX4_know, .selects RX4 yX4_know yX4_know, .code yX4_know cX4_know 1 none, .methodLink RX4 43 yX4_looks, .instanceMethod yX4_looks, .selects RX4 yX4_looks yX4_looks, .code yX4_looks cX4_looks 2 none, .fieldLink RX4 13 "UmbrellaQueueModel" "ahead" "[I", .methodLink RX4 46 yX4_records, .instanceMethod yX4_records, .selects RX4 yX4_records yX4_records, .code yX4_records cX4_records 2 none, .fieldLink RX4 40 "UmbrellaQueueModel" "known" "I", .fieldLink RX4 19 "UmbrellaQueueModel" "before" "[I"] ++ wsX40)
def wsX4_isGust : List Cond := .code yX4_isGust cX4_isGust 2 (some .boolean) :: ([.methodLink RX4 32 yX4_in, .static yX4_in, .initialized RX4, .code yX4_in cX4_in 3 (some .boolean)])
def wsX4_gust_r1 : List Cond := [Cond.methodLink RX4 43 yX4_looks, Cond.instanceMethod yX4_looks, Cond.selects RX4 yX4_looks yX4_looks, Cond.initialized RX4, Cond.code yX4_looks cX4_looks 2 none, Cond.fieldLink RX4 13 "UmbrellaQueueModel" "ahead" "[I", Cond.fieldLink RX4 7 "UmbrellaQueueModel" "s" "[I", Cond.methodLink RX4 114 yX4_isGust, Cond.static yX4_isGust, Cond.code yX4_isGust cX4_isGust 2 (some .boolean), Cond.methodLink RX4 32 yX4_in, Cond.static yX4_in, Cond.code yX4_in cX4_in 3 (some .boolean), Cond.methodLink RX4 117 yX4_gusts, Cond.instanceMethod yX4_gusts, Cond.selects RX4 yX4_gusts yX4_gusts, Cond.code yX4_gusts cX4_gusts 5 (some .int), Cond.methodLink RX4 36 yX4_at, Cond.static yX4_at, Cond.code yX4_at cX4_at 2 (some .int), Cond.methodLink RX4 73 yX4_wetBy, Cond.instanceMethod yX4_wetBy, Cond.selects RX4 yX4_wetBy yX4_wetBy, Cond.code yX4_wetBy cX4_wetBy 5 (some .int)]
def wsX4_gust_r2 : List Cond := [Cond.methodLink RX4 49 yX4_of, Cond.instanceMethod yX4_of, Cond.selects RX4 yX4_of yX4_of, Cond.code yX4_of cX4_of 3 (some .int), Cond.methodLink RX4 69 yX4_wetter, Cond.instanceMethod yX4_wetter, Cond.selects RX4 yX4_wetter yX4_wetter, Cond.code yX4_wetter cX4_wetter 4 (some .int), Cond.methodLink RX4 62 yX4_isCovered, Cond.instanceMethod yX4_isCovered, Cond.selects RX4 yX4_isCovered yX4_isCovered, Cond.code yX4_isCovered cX4_isCovered 3 (some .boolean), Cond.methodLink RX4 59 yX4_reaching, Cond.instanceMethod yX4_reaching, Cond.selects RX4 yX4_reaching yX4_reaching, Cond.code yX4_reaching cX4_reaching 4 (some .int), Cond.methodLink RX4 52 yX4_leastOf, Cond.instanceMethod yX4_leastOf, Cond.selects RX4 yX4_leastOf yX4_leastOf, Cond.code yX4_leastOf cX4_leastOf 3 (some .int), Cond.methodLink RX4 56 yX4_greatestOf, Cond.instanceMethod yX4_greatestOf, Cond.selects RX4 yX4_greatestOf yX4_greatestOf, Cond.code yX4_greatestOf cX4_greatestOf 3 (some .int)]
def wsX4_gust_r3 : List Cond := [Cond.methodLink RX4 66 yX4_running, Cond.instanceMethod yX4_running, Cond.selects RX4 yX4_running yX4_running, Cond.code yX4_running cX4_running 4 (some .int), Cond.methodLink RX4 76 yX4_goes, Cond.instanceMethod yX4_goes, Cond.selects RX4 yX4_goes yX4_goes, Cond.code yX4_goes cX4_goes 3 none, Cond.methodLink RX4 111 yX4_acted, Cond.instanceMethod yX4_acted, Cond.selects RX4 yX4_acted yX4_acted, Cond.code yX4_acted cX4_acted 2 (some .int), Cond.methodLink RX4 46 yX4_records, Cond.instanceMethod yX4_records, Cond.selects RX4 yX4_records yX4_records, Cond.code yX4_records cX4_records 2 none, Cond.fieldLink RX4 40 "UmbrellaQueueModel" "known" "I", Cond.fieldLink RX4 19 "UmbrellaQueueModel" "before" "[I"]
def wsX4_gust : List Cond := .code yX4_gust cX4_gust 3 (some .int) :: ((wsX4_gust_r1 ++ (wsX4_gust_r2 ++ wsX4_gust_r3)) ++ wsX40)
def wsX4_pass_r1 : List Cond := [Cond.methodLink RX4 43 yX4_looks, Cond.instanceMethod yX4_looks, Cond.selects RX4 yX4_looks yX4_looks, Cond.initialized RX4, Cond.code yX4_looks cX4_looks 2 none, Cond.fieldLink RX4 13 "UmbrellaQueueModel" "ahead" "[I", Cond.fieldLink RX4 7 "UmbrellaQueueModel" "s" "[I", Cond.methodLink RX4 32 yX4_in, Cond.static yX4_in, Cond.code yX4_in cX4_in 3 (some .boolean), Cond.methodLink RX4 120 yX4_passes, Cond.instanceMethod yX4_passes, Cond.selects RX4 yX4_passes yX4_passes, Cond.code yX4_passes cX4_passes 5 (some .int), Cond.constant RX4 80 (99999), Cond.methodLink RX4 49 yX4_of, Cond.instanceMethod yX4_of, Cond.selects RX4 yX4_of yX4_of, Cond.code yX4_of cX4_of 3 (some .int), Cond.methodLink RX4 36 yX4_at, Cond.static yX4_at, Cond.code yX4_at cX4_at 2 (some .int), Cond.methodLink RX4 111 yX4_acted, Cond.instanceMethod yX4_acted]
def wsX4_pass_r2 : List Cond := [Cond.selects RX4 yX4_acted yX4_acted, Cond.code yX4_acted cX4_acted 2 (some .int), Cond.methodLink RX4 46 yX4_records, Cond.instanceMethod yX4_records, Cond.selects RX4 yX4_records yX4_records, Cond.code yX4_records cX4_records 2 none, Cond.fieldLink RX4 40 "UmbrellaQueueModel" "known" "I", Cond.fieldLink RX4 19 "UmbrellaQueueModel" "before" "[I"]
def wsX4_pass : List Cond := .code yX4_pass cX4_pass 2 (some .int) :: ((wsX4_pass_r1 ++ wsX4_pass_r2) ++ wsX40)
def wsX4_serve_r1 : List Cond := [Cond.methodLink RX4 43 yX4_looks, Cond.instanceMethod yX4_looks, Cond.selects RX4 yX4_looks yX4_looks, Cond.initialized RX4, Cond.code yX4_looks cX4_looks 2 none, Cond.fieldLink RX4 13 "UmbrellaQueueModel" "ahead" "[I", Cond.fieldLink RX4 7 "UmbrellaQueueModel" "s" "[I", Cond.methodLink RX4 123 yX4_serves, Cond.instanceMethod yX4_serves, Cond.selects RX4 yX4_serves yX4_serves, Cond.code yX4_serves cX4_serves 4 (some .int), Cond.methodLink RX4 81 yX4_served, Cond.instanceMethod yX4_served, Cond.selects RX4 yX4_served yX4_served, Cond.code yX4_served cX4_served 1 (some .int), Cond.methodLink RX4 88 yX4_coinsPaid, Cond.instanceMethod yX4_coinsPaid, Cond.selects RX4 yX4_coinsPaid yX4_coinsPaid, Cond.code yX4_coinsPaid cX4_coinsPaid 2 (some .int), Cond.methodLink RX4 85 yX4_driest, Cond.instanceMethod yX4_driest, Cond.selects RX4 yX4_driest yX4_driest, Cond.code yX4_driest cX4_driest 3 (some .int), Cond.methodLink RX4 49 yX4_of]
def wsX4_serve_r2 : List Cond := [Cond.instanceMethod yX4_of, Cond.selects RX4 yX4_of yX4_of, Cond.code yX4_of cX4_of 3 (some .int), Cond.methodLink RX4 36 yX4_at, Cond.static yX4_at, Cond.code yX4_at cX4_at 2 (some .int), Cond.methodLink RX4 76 yX4_goes, Cond.instanceMethod yX4_goes, Cond.selects RX4 yX4_goes yX4_goes, Cond.code yX4_goes cX4_goes 3 none, Cond.methodLink RX4 111 yX4_acted, Cond.instanceMethod yX4_acted, Cond.selects RX4 yX4_acted yX4_acted, Cond.code yX4_acted cX4_acted 2 (some .int), Cond.methodLink RX4 46 yX4_records, Cond.instanceMethod yX4_records, Cond.selects RX4 yX4_records yX4_records, Cond.code yX4_records cX4_records 2 none, Cond.fieldLink RX4 40 "UmbrellaQueueModel" "known" "I", Cond.fieldLink RX4 19 "UmbrellaQueueModel" "before" "[I"]
def wsX4_serve : List Cond := .code yX4_serve cX4_serve 1 (some .int) :: ((wsX4_serve_r1 ++ wsX4_serve_r2) ++ wsX40)
def wsX4_type : List Cond := .code yX4_type cX4_type 2 (some .int) :: ([.fieldLink RX4 126 "UmbrellaQueueModel" "length" "I", .fieldLink RX4 22 "UmbrellaQueueModel" "text" "[I"] ++ wsX40)
def wsX4_clearText : List Cond := .code yX4_clearText cX4_clearText 2 (some .int) :: ([.fieldLink RX4 126 "UmbrellaQueueModel" "length" "I"] ++ wsX40)
def wsX4_isNext : List Cond := .code yX4_isNext cX4_isNext 3 (some .boolean) :: ([.fieldLink RX4 129 "UmbrellaQueueModel" "isWrong" "Z", .fieldLink RX4 133 "UmbrellaQueueModel" "position" "I", .fieldLink RX4 126 "UmbrellaQueueModel" "length" "I", .fieldLink RX4 22 "UmbrellaQueueModel" "text" "[I", .methodLink RX4 32 yX4_in, .static yX4_in, .initialized RX4, .code yX4_in cX4_in 3 (some .boolean)] ++ wsX40)
def wsX4_takes : List Cond := .code yX4_takes cX4_takes 4 (some .int) :: ([.fieldLink RX4 133 "UmbrellaQueueModel" "position" "I", .fieldLink RX4 126 "UmbrellaQueueModel" "length" "I", .fieldLink RX4 22 "UmbrellaQueueModel" "text" "[I", .fieldLink RX4 129 "UmbrellaQueueModel" "isWrong" "Z", .methodLink RX4 32 yX4_in, .static yX4_in, .initialized RX4, .code yX4_in cX4_in 3 (some .boolean)] ++ wsX40)
def wsX4_takesNumber : List Cond := .code yX4_takesNumber cX4_takesNumber 5 (some .int) :: ([.fieldLink RX4 22 "UmbrellaQueueModel" "text" "[I", .fieldLink RX4 133 "UmbrellaQueueModel" "position" "I", .methodLink RX4 136 yX4_takes, .instanceMethod yX4_takes, .selects RX4 yX4_takes yX4_takes, .initialized RX4, .code yX4_takes cX4_takes 4 (some .int), .fieldLink RX4 126 "UmbrellaQueueModel" "length" "I", .fieldLink RX4 129 "UmbrellaQueueModel" "isWrong" "Z", .methodLink RX4 32 yX4_in, .static yX4_in, .code yX4_in cX4_in 3 (some .boolean), .methodLink RX4 139 yX4_isNext, .instanceMethod yX4_isNext, .selects RX4 yX4_isNext yX4_isNext, .code yX4_isNext cX4_isNext 3 (some .boolean)] ++ wsX40)
def wsX4_readThing : List Cond := .code yX4_readThing cX4_readThing 1 none :: ([.fieldLink RX4 133 "UmbrellaQueueModel" "position" "I", .fieldLink RX4 126 "UmbrellaQueueModel" "length" "I", .fieldLink RX4 22 "UmbrellaQueueModel" "text" "[I", .fieldLink RX4 142 "UmbrellaQueueModel" "letter" "I", .fieldLink RX4 129 "UmbrellaQueueModel" "isWrong" "Z", .fieldLink RX4 148 "UmbrellaQueueModel" "number" "I", .fieldLink RX4 151 "UmbrellaQueueModel" "side" "I", .methodLink RX4 145 yX4_takesNumber, .instanceMethod yX4_takesNumber, .selects RX4 yX4_takesNumber yX4_takesNumber, .initialized RX4, .code yX4_takesNumber cX4_takesNumber 5 (some .int), .methodLink RX4 136 yX4_takes, .instanceMethod yX4_takes, .selects RX4 yX4_takes yX4_takes, .code yX4_takes cX4_takes 4 (some .int), .methodLink RX4 32 yX4_in, .static yX4_in, .code yX4_in cX4_in 3 (some .boolean), .methodLink RX4 139 yX4_isNext, .instanceMethod yX4_isNext, .selects RX4 yX4_isNext yX4_isNext, .code yX4_isNext cX4_isNext 3 (some .boolean)] ++ wsX40)
def wsX4_does_r1 : List Cond := [Cond.fieldLink RX4 142 "UmbrellaQueueModel" "letter" "I", Cond.fieldLink RX4 148 "UmbrellaQueueModel" "number" "I", Cond.fieldLink RX4 151 "UmbrellaQueueModel" "side" "I", Cond.methodLink RX4 117 yX4_gusts, Cond.instanceMethod yX4_gusts, Cond.selects RX4 yX4_gusts yX4_gusts, Cond.initialized RX4, Cond.code yX4_gusts cX4_gusts 5 (some .int), Cond.fieldLink RX4 7 "UmbrellaQueueModel" "s" "[I", Cond.methodLink RX4 36 yX4_at, Cond.static yX4_at, Cond.code yX4_at cX4_at 2 (some .int), Cond.methodLink RX4 73 yX4_wetBy, Cond.instanceMethod yX4_wetBy, Cond.selects RX4 yX4_wetBy yX4_wetBy, Cond.code yX4_wetBy cX4_wetBy 5 (some .int), Cond.methodLink RX4 49 yX4_of, Cond.instanceMethod yX4_of, Cond.selects RX4 yX4_of yX4_of, Cond.code yX4_of cX4_of 3 (some .int), Cond.methodLink RX4 69 yX4_wetter, Cond.instanceMethod yX4_wetter, Cond.selects RX4 yX4_wetter yX4_wetter, Cond.code yX4_wetter cX4_wetter 4 (some .int)]
def wsX4_does_r2 : List Cond := [Cond.methodLink RX4 62 yX4_isCovered, Cond.instanceMethod yX4_isCovered, Cond.selects RX4 yX4_isCovered yX4_isCovered, Cond.code yX4_isCovered cX4_isCovered 3 (some .boolean), Cond.methodLink RX4 59 yX4_reaching, Cond.instanceMethod yX4_reaching, Cond.selects RX4 yX4_reaching yX4_reaching, Cond.code yX4_reaching cX4_reaching 4 (some .int), Cond.methodLink RX4 52 yX4_leastOf, Cond.instanceMethod yX4_leastOf, Cond.selects RX4 yX4_leastOf yX4_leastOf, Cond.code yX4_leastOf cX4_leastOf 3 (some .int), Cond.methodLink RX4 56 yX4_greatestOf, Cond.instanceMethod yX4_greatestOf, Cond.selects RX4 yX4_greatestOf yX4_greatestOf, Cond.code yX4_greatestOf cX4_greatestOf 3 (some .int), Cond.methodLink RX4 32 yX4_in, Cond.static yX4_in, Cond.code yX4_in cX4_in 3 (some .boolean), Cond.methodLink RX4 66 yX4_running, Cond.instanceMethod yX4_running, Cond.selects RX4 yX4_running yX4_running, Cond.code yX4_running cX4_running 4 (some .int), Cond.methodLink RX4 76 yX4_goes]
def wsX4_does_r3 : List Cond := [Cond.instanceMethod yX4_goes, Cond.selects RX4 yX4_goes yX4_goes, Cond.code yX4_goes cX4_goes 3 none, Cond.methodLink RX4 120 yX4_passes, Cond.instanceMethod yX4_passes, Cond.selects RX4 yX4_passes yX4_passes, Cond.code yX4_passes cX4_passes 5 (some .int), Cond.constant RX4 80 (99999), Cond.methodLink RX4 123 yX4_serves, Cond.instanceMethod yX4_serves, Cond.selects RX4 yX4_serves yX4_serves, Cond.code yX4_serves cX4_serves 4 (some .int), Cond.methodLink RX4 81 yX4_served, Cond.instanceMethod yX4_served, Cond.selects RX4 yX4_served yX4_served, Cond.code yX4_served cX4_served 1 (some .int), Cond.methodLink RX4 88 yX4_coinsPaid, Cond.instanceMethod yX4_coinsPaid, Cond.selects RX4 yX4_coinsPaid yX4_coinsPaid, Cond.code yX4_coinsPaid cX4_coinsPaid 2 (some .int), Cond.methodLink RX4 85 yX4_driest, Cond.instanceMethod yX4_driest, Cond.selects RX4 yX4_driest yX4_driest, Cond.code yX4_driest cX4_driest 3 (some .int)]
def wsX4_does_r4 : List Cond := [Cond.methodLink RX4 108 yX4_swaps, Cond.instanceMethod yX4_swaps, Cond.selects RX4 yX4_swaps yX4_swaps, Cond.code yX4_swaps cX4_swaps 2 (some .int), Cond.methodLink RX4 95 yX4_arePair, Cond.instanceMethod yX4_arePair, Cond.selects RX4 yX4_arePair yX4_arePair, Cond.code yX4_arePair cX4_arePair 2 (some .boolean), Cond.methodLink RX4 91 yX4_isPlace, Cond.instanceMethod yX4_isPlace, Cond.selects RX4 yX4_isPlace yX4_isPlace, Cond.code yX4_isPlace cX4_isPlace 2 (some .boolean), Cond.methodLink RX4 98 yX4_why, Cond.instanceMethod yX4_why, Cond.selects RX4 yX4_why yX4_why, Cond.code yX4_why cX4_why 5 (some .int), Cond.methodLink RX4 101 yX4_exchange, Cond.instanceMethod yX4_exchange, Cond.selects RX4 yX4_exchange yX4_exchange, Cond.code yX4_exchange cX4_exchange 4 none]
def wsX4_does : List Cond := .code yX4_does cX4_does 1 (some .int) :: ((wsX4_does_r1 ++ (wsX4_does_r2 ++ (wsX4_does_r3 ++ wsX4_does_r4))) ++ wsX40)
def wsX4_runs_r1 : List Cond := [Cond.fieldLink RX4 133 "UmbrellaQueueModel" "position" "I", Cond.fieldLink RX4 129 "UmbrellaQueueModel" "isWrong" "Z", Cond.fieldLink RX4 154 "UmbrellaQueueModel" "stop" "I", Cond.fieldLink RX4 126 "UmbrellaQueueModel" "length" "I", Cond.methodLink RX4 157 yX4_readThing, Cond.instanceMethod yX4_readThing, Cond.selects RX4 yX4_readThing yX4_readThing, Cond.initialized RX4, Cond.code yX4_readThing cX4_readThing 1 none, Cond.fieldLink RX4 22 "UmbrellaQueueModel" "text" "[I", Cond.fieldLink RX4 142 "UmbrellaQueueModel" "letter" "I", Cond.fieldLink RX4 148 "UmbrellaQueueModel" "number" "I", Cond.fieldLink RX4 151 "UmbrellaQueueModel" "side" "I", Cond.methodLink RX4 145 yX4_takesNumber, Cond.instanceMethod yX4_takesNumber, Cond.selects RX4 yX4_takesNumber yX4_takesNumber, Cond.code yX4_takesNumber cX4_takesNumber 5 (some .int), Cond.methodLink RX4 136 yX4_takes, Cond.instanceMethod yX4_takes, Cond.selects RX4 yX4_takes yX4_takes, Cond.code yX4_takes cX4_takes 4 (some .int), Cond.methodLink RX4 32 yX4_in, Cond.static yX4_in, Cond.code yX4_in cX4_in 3 (some .boolean)]
def wsX4_runs_r2 : List Cond := [Cond.methodLink RX4 139 yX4_isNext, Cond.instanceMethod yX4_isNext, Cond.selects RX4 yX4_isNext yX4_isNext, Cond.code yX4_isNext cX4_isNext 3 (some .boolean), Cond.methodLink RX4 160 yX4_does, Cond.instanceMethod yX4_does, Cond.selects RX4 yX4_does yX4_does, Cond.code yX4_does cX4_does 1 (some .int), Cond.methodLink RX4 117 yX4_gusts, Cond.instanceMethod yX4_gusts, Cond.selects RX4 yX4_gusts yX4_gusts, Cond.code yX4_gusts cX4_gusts 5 (some .int), Cond.fieldLink RX4 7 "UmbrellaQueueModel" "s" "[I", Cond.methodLink RX4 36 yX4_at, Cond.static yX4_at, Cond.code yX4_at cX4_at 2 (some .int), Cond.methodLink RX4 73 yX4_wetBy, Cond.instanceMethod yX4_wetBy, Cond.selects RX4 yX4_wetBy yX4_wetBy, Cond.code yX4_wetBy cX4_wetBy 5 (some .int), Cond.methodLink RX4 49 yX4_of, Cond.instanceMethod yX4_of, Cond.selects RX4 yX4_of yX4_of, Cond.code yX4_of cX4_of 3 (some .int)]
def wsX4_runs_r3 : List Cond := [Cond.methodLink RX4 69 yX4_wetter, Cond.instanceMethod yX4_wetter, Cond.selects RX4 yX4_wetter yX4_wetter, Cond.code yX4_wetter cX4_wetter 4 (some .int), Cond.methodLink RX4 62 yX4_isCovered, Cond.instanceMethod yX4_isCovered, Cond.selects RX4 yX4_isCovered yX4_isCovered, Cond.code yX4_isCovered cX4_isCovered 3 (some .boolean), Cond.methodLink RX4 59 yX4_reaching, Cond.instanceMethod yX4_reaching, Cond.selects RX4 yX4_reaching yX4_reaching, Cond.code yX4_reaching cX4_reaching 4 (some .int), Cond.methodLink RX4 52 yX4_leastOf, Cond.instanceMethod yX4_leastOf, Cond.selects RX4 yX4_leastOf yX4_leastOf, Cond.code yX4_leastOf cX4_leastOf 3 (some .int), Cond.methodLink RX4 56 yX4_greatestOf, Cond.instanceMethod yX4_greatestOf, Cond.selects RX4 yX4_greatestOf yX4_greatestOf, Cond.code yX4_greatestOf cX4_greatestOf 3 (some .int), Cond.methodLink RX4 66 yX4_running, Cond.instanceMethod yX4_running, Cond.selects RX4 yX4_running yX4_running, Cond.code yX4_running cX4_running 4 (some .int)]
def wsX4_runs_r4 : List Cond := [Cond.methodLink RX4 76 yX4_goes, Cond.instanceMethod yX4_goes, Cond.selects RX4 yX4_goes yX4_goes, Cond.code yX4_goes cX4_goes 3 none, Cond.methodLink RX4 120 yX4_passes, Cond.instanceMethod yX4_passes, Cond.selects RX4 yX4_passes yX4_passes, Cond.code yX4_passes cX4_passes 5 (some .int), Cond.constant RX4 80 (99999), Cond.methodLink RX4 123 yX4_serves, Cond.instanceMethod yX4_serves, Cond.selects RX4 yX4_serves yX4_serves, Cond.code yX4_serves cX4_serves 4 (some .int), Cond.methodLink RX4 81 yX4_served, Cond.instanceMethod yX4_served, Cond.selects RX4 yX4_served yX4_served, Cond.code yX4_served cX4_served 1 (some .int), Cond.methodLink RX4 88 yX4_coinsPaid, Cond.instanceMethod yX4_coinsPaid, Cond.selects RX4 yX4_coinsPaid yX4_coinsPaid, Cond.code yX4_coinsPaid cX4_coinsPaid 2 (some .int), Cond.methodLink RX4 85 yX4_driest, Cond.instanceMethod yX4_driest, Cond.selects RX4 yX4_driest yX4_driest]
def wsX4_runs_r5 : List Cond := [Cond.code yX4_driest cX4_driest 3 (some .int), Cond.methodLink RX4 108 yX4_swaps, Cond.instanceMethod yX4_swaps, Cond.selects RX4 yX4_swaps yX4_swaps, Cond.code yX4_swaps cX4_swaps 2 (some .int), Cond.methodLink RX4 95 yX4_arePair, Cond.instanceMethod yX4_arePair, Cond.selects RX4 yX4_arePair yX4_arePair, Cond.code yX4_arePair cX4_arePair 2 (some .boolean), Cond.methodLink RX4 91 yX4_isPlace, Cond.instanceMethod yX4_isPlace, Cond.selects RX4 yX4_isPlace yX4_isPlace, Cond.code yX4_isPlace cX4_isPlace 2 (some .boolean), Cond.methodLink RX4 98 yX4_why, Cond.instanceMethod yX4_why, Cond.selects RX4 yX4_why yX4_why, Cond.code yX4_why cX4_why 5 (some .int), Cond.methodLink RX4 101 yX4_exchange, Cond.instanceMethod yX4_exchange, Cond.selects RX4 yX4_exchange yX4_exchange, Cond.code yX4_exchange cX4_exchange 4 none]
def wsX4_runs : List Cond := .code yX4_runs cX4_runs 6 (some .int) :: ((wsX4_runs_r1 ++ (wsX4_runs_r2 ++ (wsX4_runs_r3 ++ (wsX4_runs_r4 ++ wsX4_runs_r5)))) ++ wsX40)
def wsX4_perform_r1 : List Cond := [Cond.fieldLink RX4 129 "UmbrellaQueueModel" "isWrong" "Z", Cond.fieldLink RX4 133 "UmbrellaQueueModel" "position" "I", Cond.fieldLink RX4 154 "UmbrellaQueueModel" "stop" "I", Cond.fieldLink RX4 25 "UmbrellaQueueModel" "stopAt" "I", Cond.fieldLink RX4 29 "UmbrellaQueueModel" "stopBy" "I", Cond.fieldLink RX4 7 "UmbrellaQueueModel" "s" "[I", Cond.fieldLink RX4 13 "UmbrellaQueueModel" "ahead" "[I", Cond.methodLink RX4 163 yX4_runs, Cond.instanceMethod yX4_runs, Cond.selects RX4 yX4_runs yX4_runs, Cond.initialized RX4, Cond.code yX4_runs cX4_runs 6 (some .int), Cond.fieldLink RX4 126 "UmbrellaQueueModel" "length" "I", Cond.methodLink RX4 157 yX4_readThing, Cond.instanceMethod yX4_readThing, Cond.selects RX4 yX4_readThing yX4_readThing, Cond.code yX4_readThing cX4_readThing 1 none, Cond.fieldLink RX4 22 "UmbrellaQueueModel" "text" "[I", Cond.fieldLink RX4 142 "UmbrellaQueueModel" "letter" "I", Cond.fieldLink RX4 148 "UmbrellaQueueModel" "number" "I", Cond.fieldLink RX4 151 "UmbrellaQueueModel" "side" "I", Cond.methodLink RX4 145 yX4_takesNumber, Cond.instanceMethod yX4_takesNumber, Cond.selects RX4 yX4_takesNumber yX4_takesNumber]
def wsX4_perform_r2 : List Cond := [Cond.code yX4_takesNumber cX4_takesNumber 5 (some .int), Cond.methodLink RX4 136 yX4_takes, Cond.instanceMethod yX4_takes, Cond.selects RX4 yX4_takes yX4_takes, Cond.code yX4_takes cX4_takes 4 (some .int), Cond.methodLink RX4 32 yX4_in, Cond.static yX4_in, Cond.code yX4_in cX4_in 3 (some .boolean), Cond.methodLink RX4 139 yX4_isNext, Cond.instanceMethod yX4_isNext, Cond.selects RX4 yX4_isNext yX4_isNext, Cond.code yX4_isNext cX4_isNext 3 (some .boolean), Cond.methodLink RX4 160 yX4_does, Cond.instanceMethod yX4_does, Cond.selects RX4 yX4_does yX4_does, Cond.code yX4_does cX4_does 1 (some .int), Cond.methodLink RX4 117 yX4_gusts, Cond.instanceMethod yX4_gusts, Cond.selects RX4 yX4_gusts yX4_gusts, Cond.code yX4_gusts cX4_gusts 5 (some .int), Cond.methodLink RX4 36 yX4_at, Cond.static yX4_at, Cond.code yX4_at cX4_at 2 (some .int), Cond.methodLink RX4 73 yX4_wetBy]
def wsX4_perform_r3 : List Cond := [Cond.instanceMethod yX4_wetBy, Cond.selects RX4 yX4_wetBy yX4_wetBy, Cond.code yX4_wetBy cX4_wetBy 5 (some .int), Cond.methodLink RX4 49 yX4_of, Cond.instanceMethod yX4_of, Cond.selects RX4 yX4_of yX4_of, Cond.code yX4_of cX4_of 3 (some .int), Cond.methodLink RX4 69 yX4_wetter, Cond.instanceMethod yX4_wetter, Cond.selects RX4 yX4_wetter yX4_wetter, Cond.code yX4_wetter cX4_wetter 4 (some .int), Cond.methodLink RX4 62 yX4_isCovered, Cond.instanceMethod yX4_isCovered, Cond.selects RX4 yX4_isCovered yX4_isCovered, Cond.code yX4_isCovered cX4_isCovered 3 (some .boolean), Cond.methodLink RX4 59 yX4_reaching, Cond.instanceMethod yX4_reaching, Cond.selects RX4 yX4_reaching yX4_reaching, Cond.code yX4_reaching cX4_reaching 4 (some .int), Cond.methodLink RX4 52 yX4_leastOf, Cond.instanceMethod yX4_leastOf, Cond.selects RX4 yX4_leastOf yX4_leastOf, Cond.code yX4_leastOf cX4_leastOf 3 (some .int), Cond.methodLink RX4 56 yX4_greatestOf]
def wsX4_perform_r4 : List Cond := [Cond.instanceMethod yX4_greatestOf, Cond.selects RX4 yX4_greatestOf yX4_greatestOf, Cond.code yX4_greatestOf cX4_greatestOf 3 (some .int), Cond.methodLink RX4 66 yX4_running, Cond.instanceMethod yX4_running, Cond.selects RX4 yX4_running yX4_running, Cond.code yX4_running cX4_running 4 (some .int), Cond.methodLink RX4 76 yX4_goes, Cond.instanceMethod yX4_goes, Cond.selects RX4 yX4_goes yX4_goes, Cond.code yX4_goes cX4_goes 3 none, Cond.methodLink RX4 120 yX4_passes, Cond.instanceMethod yX4_passes, Cond.selects RX4 yX4_passes yX4_passes, Cond.code yX4_passes cX4_passes 5 (some .int), Cond.constant RX4 80 (99999), Cond.methodLink RX4 123 yX4_serves, Cond.instanceMethod yX4_serves, Cond.selects RX4 yX4_serves yX4_serves, Cond.code yX4_serves cX4_serves 4 (some .int), Cond.methodLink RX4 81 yX4_served, Cond.instanceMethod yX4_served, Cond.selects RX4 yX4_served yX4_served, Cond.code yX4_served cX4_served 1 (some .int)]
def wsX4_perform_r5 : List Cond := [Cond.methodLink RX4 88 yX4_coinsPaid, Cond.instanceMethod yX4_coinsPaid, Cond.selects RX4 yX4_coinsPaid yX4_coinsPaid, Cond.code yX4_coinsPaid cX4_coinsPaid 2 (some .int), Cond.methodLink RX4 85 yX4_driest, Cond.instanceMethod yX4_driest, Cond.selects RX4 yX4_driest yX4_driest, Cond.code yX4_driest cX4_driest 3 (some .int), Cond.methodLink RX4 108 yX4_swaps, Cond.instanceMethod yX4_swaps, Cond.selects RX4 yX4_swaps yX4_swaps, Cond.code yX4_swaps cX4_swaps 2 (some .int), Cond.methodLink RX4 95 yX4_arePair, Cond.instanceMethod yX4_arePair, Cond.selects RX4 yX4_arePair yX4_arePair, Cond.code yX4_arePair cX4_arePair 2 (some .boolean), Cond.methodLink RX4 91 yX4_isPlace, Cond.instanceMethod yX4_isPlace, Cond.selects RX4 yX4_isPlace yX4_isPlace, Cond.code yX4_isPlace cX4_isPlace 2 (some .boolean), Cond.methodLink RX4 98 yX4_why, Cond.instanceMethod yX4_why, Cond.selects RX4 yX4_why yX4_why, Cond.code yX4_why cX4_why 5 (some .int)]
def wsX4_perform_r6 : List Cond := [Cond.methodLink RX4 101 yX4_exchange, Cond.instanceMethod yX4_exchange, Cond.selects RX4 yX4_exchange yX4_exchange, Cond.code yX4_exchange cX4_exchange 4 none, Cond.methodLink RX4 43 yX4_looks, Cond.instanceMethod yX4_looks, Cond.selects RX4 yX4_looks yX4_looks, Cond.code yX4_looks cX4_looks 2 none, Cond.methodLink RX4 46 yX4_records, Cond.instanceMethod yX4_records, Cond.selects RX4 yX4_records yX4_records, Cond.code yX4_records cX4_records 2 none, Cond.fieldLink RX4 40 "UmbrellaQueueModel" "known" "I", Cond.fieldLink RX4 19 "UmbrellaQueueModel" "before" "[I"]
def wsX4_perform : List Cond := .code yX4_perform cX4_perform 4 (some .int) :: ((wsX4_perform_r1 ++ (wsX4_perform_r2 ++ (wsX4_perform_r3 ++ (wsX4_perform_r4 ++ (wsX4_perform_r5 ++ wsX4_perform_r6))))) ++ wsX40)
def wsX4_stopped : List Cond := .code yX4_stopped cX4_stopped 2 (some .int) :: ([.fieldLink RX4 25 "UmbrellaQueueModel" "stopAt" "I", .fieldLink RX4 29 "UmbrellaQueueModel" "stopBy" "I"] ++ wsX40)
def wsX4_undo : List Cond := .code yX4_undo cX4_undo 2 (some .int) :: ([.fieldLink RX4 40 "UmbrellaQueueModel" "known" "I", .fieldLink RX4 7 "UmbrellaQueueModel" "s" "[I", .fieldLink RX4 19 "UmbrellaQueueModel" "before" "[I"] ++ wsX40)
def wsX4_keep : List Cond := .code yX4_keep cX4_keep 2 (some .int) :: ([.fieldLink RX4 16 "UmbrellaQueueModel" "snapshot" "[I", .fieldLink RX4 7 "UmbrellaQueueModel" "s" "[I", .fieldLink RX4 167 "UmbrellaQueueModel" "isKept" "Z"] ++ wsX40)
def wsX4_restore : List Cond := .code yX4_restore cX4_restore 2 (some .int) :: ([.fieldLink RX4 167 "UmbrellaQueueModel" "isKept" "Z", .fieldLink RX4 7 "UmbrellaQueueModel" "s" "[I", .fieldLink RX4 16 "UmbrellaQueueModel" "snapshot" "[I", .methodLink RX4 105 yX4_know, .instanceMethod yX4_know, .selects RX4 yX4_know yX4_know, .initialized RX4, .code yX4_know cX4_know 1 none, .methodLink RX4 43 yX4_looks, .instanceMethod yX4_looks, .selects RX4 yX4_looks yX4_looks, .code yX4_looks cX4_looks 2 none, .fieldLink RX4 13 "UmbrellaQueueModel" "ahead" "[I", .methodLink RX4 46 yX4_records, .instanceMethod yX4_records, .selects RX4 yX4_records yX4_records, .code yX4_records cX4_records 2 none, .fieldLink RX4 40 "UmbrellaQueueModel" "known" "I", .fieldLink RX4 19 "UmbrellaQueueModel" "before" "[I"] ++ wsX40)
def wsX4_person_r1 : List Cond := [Cond.methodLink RX4 91 yX4_isPlace, Cond.instanceMethod yX4_isPlace, Cond.selects RX4 yX4_isPlace yX4_isPlace, Cond.initialized RX4, Cond.code yX4_isPlace cX4_isPlace 2 (some .boolean), Cond.fieldLink RX4 7 "UmbrellaQueueModel" "s" "[I", Cond.methodLink RX4 32 yX4_in, Cond.static yX4_in, Cond.code yX4_in cX4_in 3 (some .boolean), Cond.methodLink RX4 49 yX4_of, Cond.instanceMethod yX4_of, Cond.selects RX4 yX4_of yX4_of, Cond.code yX4_of cX4_of 3 (some .int), Cond.methodLink RX4 36 yX4_at, Cond.static yX4_at, Cond.code yX4_at cX4_at 2 (some .int), Cond.methodLink RX4 52 yX4_leastOf, Cond.instanceMethod yX4_leastOf, Cond.selects RX4 yX4_leastOf yX4_leastOf, Cond.code yX4_leastOf cX4_leastOf 3 (some .int), Cond.methodLink RX4 56 yX4_greatestOf, Cond.instanceMethod yX4_greatestOf, Cond.selects RX4 yX4_greatestOf yX4_greatestOf, Cond.code yX4_greatestOf cX4_greatestOf 3 (some .int)]
def wsX4_person_r2 : List Cond := [Cond.methodLink RX4 59 yX4_reaching, Cond.instanceMethod yX4_reaching, Cond.selects RX4 yX4_reaching yX4_reaching, Cond.code yX4_reaching cX4_reaching 4 (some .int)]
def wsX4_person : List Cond := .code yX4_person cX4_person 3 (some .int) :: ((wsX4_person_r1 ++ wsX4_person_r2) ++ wsX40)
def wsX4_placeOf : List Cond := .code yX4_placeOf cX4_placeOf 3 (some .int) :: ([.fieldLink RX4 7 "UmbrellaQueueModel" "s" "[I", .methodLink RX4 32 yX4_in, .static yX4_in, .initialized RX4, .code yX4_in cX4_in 3 (some .boolean), .methodLink RX4 49 yX4_of, .instanceMethod yX4_of, .selects RX4 yX4_of yX4_of, .code yX4_of cX4_of 3 (some .int), .methodLink RX4 36 yX4_at, .static yX4_at, .code yX4_at cX4_at 2 (some .int)] ++ wsX40)
def wsX4_told_r1 : List Cond := [Cond.methodLink RX4 62 yX4_isCovered, Cond.instanceMethod yX4_isCovered, Cond.selects RX4 yX4_isCovered yX4_isCovered, Cond.initialized RX4, Cond.code yX4_isCovered cX4_isCovered 3 (some .boolean), Cond.methodLink RX4 59 yX4_reaching, Cond.instanceMethod yX4_reaching, Cond.selects RX4 yX4_reaching yX4_reaching, Cond.code yX4_reaching cX4_reaching 4 (some .int), Cond.fieldLink RX4 7 "UmbrellaQueueModel" "s" "[I", Cond.methodLink RX4 49 yX4_of, Cond.instanceMethod yX4_of, Cond.selects RX4 yX4_of yX4_of, Cond.code yX4_of cX4_of 3 (some .int), Cond.methodLink RX4 36 yX4_at, Cond.static yX4_at, Cond.code yX4_at cX4_at 2 (some .int), Cond.methodLink RX4 52 yX4_leastOf, Cond.instanceMethod yX4_leastOf, Cond.selects RX4 yX4_leastOf yX4_leastOf, Cond.code yX4_leastOf cX4_leastOf 3 (some .int), Cond.methodLink RX4 56 yX4_greatestOf, Cond.instanceMethod yX4_greatestOf, Cond.selects RX4 yX4_greatestOf yX4_greatestOf]
def wsX4_told_r2 : List Cond := [Cond.code yX4_greatestOf cX4_greatestOf 3 (some .int), Cond.methodLink RX4 32 yX4_in, Cond.static yX4_in, Cond.code yX4_in cX4_in 3 (some .boolean), Cond.methodLink RX4 66 yX4_running, Cond.instanceMethod yX4_running, Cond.selects RX4 yX4_running yX4_running, Cond.code yX4_running cX4_running 4 (some .int), Cond.methodLink RX4 73 yX4_wetBy, Cond.instanceMethod yX4_wetBy, Cond.selects RX4 yX4_wetBy yX4_wetBy, Cond.code yX4_wetBy cX4_wetBy 5 (some .int), Cond.methodLink RX4 69 yX4_wetter, Cond.instanceMethod yX4_wetter, Cond.selects RX4 yX4_wetter yX4_wetter, Cond.code yX4_wetter cX4_wetter 4 (some .int)]
def wsX4_told : List Cond := .code yX4_told cX4_told 5 (some .int) :: ((wsX4_told_r1 ++ wsX4_told_r2) ++ wsX40)
def wsX4_ifGust_r1 : List Cond := [Cond.methodLink RX4 91 yX4_isPlace, Cond.instanceMethod yX4_isPlace, Cond.selects RX4 yX4_isPlace yX4_isPlace, Cond.initialized RX4, Cond.code yX4_isPlace cX4_isPlace 2 (some .boolean), Cond.fieldLink RX4 7 "UmbrellaQueueModel" "s" "[I", Cond.methodLink RX4 32 yX4_in, Cond.static yX4_in, Cond.code yX4_in cX4_in 3 (some .boolean), Cond.methodLink RX4 114 yX4_isGust, Cond.static yX4_isGust, Cond.code yX4_isGust cX4_isGust 2 (some .boolean), Cond.methodLink RX4 170 yX4_told, Cond.instanceMethod yX4_told, Cond.selects RX4 yX4_told yX4_told, Cond.code yX4_told cX4_told 5 (some .int), Cond.methodLink RX4 62 yX4_isCovered, Cond.instanceMethod yX4_isCovered, Cond.selects RX4 yX4_isCovered yX4_isCovered, Cond.code yX4_isCovered cX4_isCovered 3 (some .boolean), Cond.methodLink RX4 59 yX4_reaching, Cond.instanceMethod yX4_reaching, Cond.selects RX4 yX4_reaching yX4_reaching, Cond.code yX4_reaching cX4_reaching 4 (some .int)]
def wsX4_ifGust_r2 : List Cond := [Cond.methodLink RX4 49 yX4_of, Cond.instanceMethod yX4_of, Cond.selects RX4 yX4_of yX4_of, Cond.code yX4_of cX4_of 3 (some .int), Cond.methodLink RX4 36 yX4_at, Cond.static yX4_at, Cond.code yX4_at cX4_at 2 (some .int), Cond.methodLink RX4 52 yX4_leastOf, Cond.instanceMethod yX4_leastOf, Cond.selects RX4 yX4_leastOf yX4_leastOf, Cond.code yX4_leastOf cX4_leastOf 3 (some .int), Cond.methodLink RX4 56 yX4_greatestOf, Cond.instanceMethod yX4_greatestOf, Cond.selects RX4 yX4_greatestOf yX4_greatestOf, Cond.code yX4_greatestOf cX4_greatestOf 3 (some .int), Cond.methodLink RX4 66 yX4_running, Cond.instanceMethod yX4_running, Cond.selects RX4 yX4_running yX4_running, Cond.code yX4_running cX4_running 4 (some .int), Cond.methodLink RX4 73 yX4_wetBy, Cond.instanceMethod yX4_wetBy, Cond.selects RX4 yX4_wetBy yX4_wetBy, Cond.code yX4_wetBy cX4_wetBy 5 (some .int), Cond.methodLink RX4 69 yX4_wetter]
def wsX4_ifGust_r3 : List Cond := [Cond.instanceMethod yX4_wetter, Cond.selects RX4 yX4_wetter yX4_wetter, Cond.code yX4_wetter cX4_wetter 4 (some .int)]
def wsX4_ifGust : List Cond := .code yX4_ifGust cX4_ifGust 5 (some .int) :: ((wsX4_ifGust_r1 ++ (wsX4_ifGust_r2 ++ wsX4_ifGust_r3)) ++ wsX40)
def wsX4_reason : List Cond := .code yX4_reason cX4_reason 2 (some .int) :: ([.methodLink RX4 95 yX4_arePair, .instanceMethod yX4_arePair, .selects RX4 yX4_arePair yX4_arePair, .initialized RX4, .code yX4_arePair cX4_arePair 2 (some .boolean), .methodLink RX4 91 yX4_isPlace, .instanceMethod yX4_isPlace, .selects RX4 yX4_isPlace yX4_isPlace, .code yX4_isPlace cX4_isPlace 2 (some .boolean), .fieldLink RX4 7 "UmbrellaQueueModel" "s" "[I", .methodLink RX4 32 yX4_in, .static yX4_in, .code yX4_in cX4_in 3 (some .boolean), .methodLink RX4 98 yX4_why, .instanceMethod yX4_why, .selects RX4 yX4_why yX4_why, .code yX4_why cX4_why 5 (some .int), .methodLink RX4 49 yX4_of, .instanceMethod yX4_of, .selects RX4 yX4_of yX4_of, .code yX4_of cX4_of 3 (some .int), .methodLink RX4 36 yX4_at, .static yX4_at, .code yX4_at cX4_at 2 (some .int)] ++ wsX40)
def wsX4_allWetBy_r1 : List Cond := [Cond.fieldLink RX4 7 "UmbrellaQueueModel" "s" "[I", Cond.methodLink RX4 73 yX4_wetBy, Cond.instanceMethod yX4_wetBy, Cond.selects RX4 yX4_wetBy yX4_wetBy, Cond.initialized RX4, Cond.code yX4_wetBy cX4_wetBy 5 (some .int), Cond.methodLink RX4 49 yX4_of, Cond.instanceMethod yX4_of, Cond.selects RX4 yX4_of yX4_of, Cond.code yX4_of cX4_of 3 (some .int), Cond.methodLink RX4 36 yX4_at, Cond.static yX4_at, Cond.code yX4_at cX4_at 2 (some .int), Cond.methodLink RX4 69 yX4_wetter, Cond.instanceMethod yX4_wetter, Cond.selects RX4 yX4_wetter yX4_wetter, Cond.code yX4_wetter cX4_wetter 4 (some .int), Cond.methodLink RX4 62 yX4_isCovered, Cond.instanceMethod yX4_isCovered, Cond.selects RX4 yX4_isCovered yX4_isCovered, Cond.code yX4_isCovered cX4_isCovered 3 (some .boolean), Cond.methodLink RX4 59 yX4_reaching, Cond.instanceMethod yX4_reaching, Cond.selects RX4 yX4_reaching yX4_reaching]
def wsX4_allWetBy_r2 : List Cond := [Cond.code yX4_reaching cX4_reaching 4 (some .int), Cond.methodLink RX4 52 yX4_leastOf, Cond.instanceMethod yX4_leastOf, Cond.selects RX4 yX4_leastOf yX4_leastOf, Cond.code yX4_leastOf cX4_leastOf 3 (some .int), Cond.methodLink RX4 56 yX4_greatestOf, Cond.instanceMethod yX4_greatestOf, Cond.selects RX4 yX4_greatestOf yX4_greatestOf, Cond.code yX4_greatestOf cX4_greatestOf 3 (some .int), Cond.methodLink RX4 32 yX4_in, Cond.static yX4_in, Cond.code yX4_in cX4_in 3 (some .boolean), Cond.methodLink RX4 66 yX4_running, Cond.instanceMethod yX4_running, Cond.selects RX4 yX4_running yX4_running, Cond.code yX4_running cX4_running 4 (some .int)]
def wsX4_allWetBy : List Cond := .code yX4_allWetBy cX4_allWetBy 5 (some .int) :: ((wsX4_allWetBy_r1 ++ wsX4_allWetBy_r2) ++ wsX40)
def wsX4_bestSwap_r1 : List Cond := [Cond.fieldLink RX4 7 "UmbrellaQueueModel" "s" "[I", Cond.methodLink RX4 114 yX4_isGust, Cond.static yX4_isGust, Cond.initialized RX4, Cond.code yX4_isGust cX4_isGust 2 (some .boolean), Cond.methodLink RX4 32 yX4_in, Cond.static yX4_in, Cond.code yX4_in cX4_in 3 (some .boolean), Cond.methodLink RX4 174 yX4_allWetBy, Cond.instanceMethod yX4_allWetBy, Cond.selects RX4 yX4_allWetBy yX4_allWetBy, Cond.code yX4_allWetBy cX4_allWetBy 5 (some .int), Cond.methodLink RX4 73 yX4_wetBy, Cond.instanceMethod yX4_wetBy, Cond.selects RX4 yX4_wetBy yX4_wetBy, Cond.code yX4_wetBy cX4_wetBy 5 (some .int), Cond.methodLink RX4 49 yX4_of, Cond.instanceMethod yX4_of, Cond.selects RX4 yX4_of yX4_of, Cond.code yX4_of cX4_of 3 (some .int), Cond.methodLink RX4 36 yX4_at, Cond.static yX4_at, Cond.code yX4_at cX4_at 2 (some .int), Cond.methodLink RX4 69 yX4_wetter]
def wsX4_bestSwap_r2 : List Cond := [Cond.instanceMethod yX4_wetter, Cond.selects RX4 yX4_wetter yX4_wetter, Cond.code yX4_wetter cX4_wetter 4 (some .int), Cond.methodLink RX4 62 yX4_isCovered, Cond.instanceMethod yX4_isCovered, Cond.selects RX4 yX4_isCovered yX4_isCovered, Cond.code yX4_isCovered cX4_isCovered 3 (some .boolean), Cond.methodLink RX4 59 yX4_reaching, Cond.instanceMethod yX4_reaching, Cond.selects RX4 yX4_reaching yX4_reaching, Cond.code yX4_reaching cX4_reaching 4 (some .int), Cond.methodLink RX4 52 yX4_leastOf, Cond.instanceMethod yX4_leastOf, Cond.selects RX4 yX4_leastOf yX4_leastOf, Cond.code yX4_leastOf cX4_leastOf 3 (some .int), Cond.methodLink RX4 56 yX4_greatestOf, Cond.instanceMethod yX4_greatestOf, Cond.selects RX4 yX4_greatestOf yX4_greatestOf, Cond.code yX4_greatestOf cX4_greatestOf 3 (some .int), Cond.methodLink RX4 66 yX4_running, Cond.instanceMethod yX4_running, Cond.selects RX4 yX4_running yX4_running, Cond.code yX4_running cX4_running 4 (some .int), Cond.methodLink RX4 98 yX4_why]
def wsX4_bestSwap_r3 : List Cond := [Cond.instanceMethod yX4_why, Cond.selects RX4 yX4_why yX4_why, Cond.code yX4_why cX4_why 5 (some .int), Cond.methodLink RX4 101 yX4_exchange, Cond.instanceMethod yX4_exchange, Cond.selects RX4 yX4_exchange yX4_exchange, Cond.code yX4_exchange cX4_exchange 4 none]
def wsX4_bestSwap : List Cond := .code yX4_bestSwap cX4_bestSwap 7 (some .int) :: ((wsX4_bestSwap_r1 ++ (wsX4_bestSwap_r2 ++ wsX4_bestSwap_r3)) ++ wsX40)
def wsX4_payer : List Cond := .code yX4_payer cX4_payer 2 (some .int) :: ([.fieldLink RX4 7 "UmbrellaQueueModel" "s" "[I", .methodLink RX4 32 yX4_in, .static yX4_in, .initialized RX4, .code yX4_in cX4_in 3 (some .boolean), .methodLink RX4 85 yX4_driest, .instanceMethod yX4_driest, .selects RX4 yX4_driest yX4_driest, .code yX4_driest cX4_driest 3 (some .int), .methodLink RX4 81 yX4_served, .instanceMethod yX4_served, .selects RX4 yX4_served yX4_served, .code yX4_served cX4_served 1 (some .int), .methodLink RX4 49 yX4_of, .instanceMethod yX4_of, .selects RX4 yX4_of yX4_of, .code yX4_of cX4_of 3 (some .int), .methodLink RX4 36 yX4_at, .static yX4_at, .code yX4_at cX4_at 2 (some .int), .methodLink RX4 88 yX4_coinsPaid, .instanceMethod yX4_coinsPaid, .selects RX4 yX4_coinsPaid yX4_coinsPaid, .code yX4_coinsPaid cX4_coinsPaid 2 (some .int)] ++ wsX40)
def wsX4_bears_r1 : List Cond := [Cond.methodLink RX4 91 yX4_isPlace, Cond.instanceMethod yX4_isPlace, Cond.selects RX4 yX4_isPlace yX4_isPlace, Cond.initialized RX4, Cond.code yX4_isPlace cX4_isPlace 2 (some .boolean), Cond.fieldLink RX4 7 "UmbrellaQueueModel" "s" "[I", Cond.methodLink RX4 32 yX4_in, Cond.static yX4_in, Cond.code yX4_in cX4_in 3 (some .boolean), Cond.methodLink RX4 69 yX4_wetter, Cond.instanceMethod yX4_wetter, Cond.selects RX4 yX4_wetter yX4_wetter, Cond.code yX4_wetter cX4_wetter 4 (some .int), Cond.methodLink RX4 62 yX4_isCovered, Cond.instanceMethod yX4_isCovered, Cond.selects RX4 yX4_isCovered yX4_isCovered, Cond.code yX4_isCovered cX4_isCovered 3 (some .boolean), Cond.methodLink RX4 59 yX4_reaching, Cond.instanceMethod yX4_reaching, Cond.selects RX4 yX4_reaching yX4_reaching, Cond.code yX4_reaching cX4_reaching 4 (some .int), Cond.methodLink RX4 49 yX4_of, Cond.instanceMethod yX4_of, Cond.selects RX4 yX4_of yX4_of]
def wsX4_bears_r2 : List Cond := [Cond.code yX4_of cX4_of 3 (some .int), Cond.methodLink RX4 36 yX4_at, Cond.static yX4_at, Cond.code yX4_at cX4_at 2 (some .int), Cond.methodLink RX4 52 yX4_leastOf, Cond.instanceMethod yX4_leastOf, Cond.selects RX4 yX4_leastOf yX4_leastOf, Cond.code yX4_leastOf cX4_leastOf 3 (some .int), Cond.methodLink RX4 56 yX4_greatestOf, Cond.instanceMethod yX4_greatestOf, Cond.selects RX4 yX4_greatestOf yX4_greatestOf, Cond.code yX4_greatestOf cX4_greatestOf 3 (some .int), Cond.methodLink RX4 66 yX4_running, Cond.instanceMethod yX4_running, Cond.selects RX4 yX4_running yX4_running, Cond.code yX4_running cX4_running 4 (some .int)]
def wsX4_bears : List Cond := .code yX4_bears cX4_bears 4 (some .int) :: ((wsX4_bears_r1 ++ wsX4_bears_r2) ++ wsX40)
def wsX4_sumWet : List Cond := .code yX4_sumWet cX4_sumWet 3 (some .int) :: ([.fieldLink RX4 7 "UmbrellaQueueModel" "s" "[I", .methodLink RX4 49 yX4_of, .instanceMethod yX4_of, .selects RX4 yX4_of yX4_of, .initialized RX4, .code yX4_of cX4_of 3 (some .int), .methodLink RX4 36 yX4_at, .static yX4_at, .code yX4_at cX4_at 2 (some .int)] ++ wsX40)
def wsX4_wettest : List Cond := .code yX4_wettest cX4_wettest 3 (some .int) :: ([.fieldLink RX4 7 "UmbrellaQueueModel" "s" "[I", .methodLink RX4 49 yX4_of, .instanceMethod yX4_of, .selects RX4 yX4_of yX4_of, .initialized RX4, .code yX4_of cX4_of 3 (some .int), .methodLink RX4 36 yX4_at, .static yX4_at, .code yX4_at cX4_at 2 (some .int)] ++ wsX40)
def wsX4_unreached : List Cond := .code yX4_unreached cX4_unreached 3 (some .int) :: ([.fieldLink RX4 7 "UmbrellaQueueModel" "s" "[I", .methodLink RX4 59 yX4_reaching, .instanceMethod yX4_reaching, .selects RX4 yX4_reaching yX4_reaching, .initialized RX4, .code yX4_reaching cX4_reaching 4 (some .int), .methodLink RX4 49 yX4_of, .instanceMethod yX4_of, .selects RX4 yX4_of yX4_of, .code yX4_of cX4_of 3 (some .int), .methodLink RX4 36 yX4_at, .static yX4_at, .code yX4_at cX4_at 2 (some .int), .methodLink RX4 52 yX4_leastOf, .instanceMethod yX4_leastOf, .selects RX4 yX4_leastOf yX4_leastOf, .code yX4_leastOf cX4_leastOf 3 (some .int), .methodLink RX4 56 yX4_greatestOf, .instanceMethod yX4_greatestOf, .selects RX4 yX4_greatestOf yX4_greatestOf, .code yX4_greatestOf cX4_greatestOf 3 (some .int), .methodLink RX4 32 yX4_in, .static yX4_in, .code yX4_in cX4_in 3 (some .boolean)] ++ wsX40)
def wsX4_count_r1 : List Cond := [Cond.fieldLink RX4 7 "UmbrellaQueueModel" "s" "[I", Cond.fieldLink RX4 40 "UmbrellaQueueModel" "known" "I", Cond.fieldLink RX4 126 "UmbrellaQueueModel" "length" "I", Cond.methodLink RX4 32 yX4_in, Cond.static yX4_in, Cond.initialized RX4, Cond.code yX4_in cX4_in 3 (some .boolean), Cond.methodLink RX4 177 yX4_sumWet, Cond.instanceMethod yX4_sumWet, Cond.selects RX4 yX4_sumWet yX4_sumWet, Cond.code yX4_sumWet cX4_sumWet 3 (some .int), Cond.methodLink RX4 49 yX4_of, Cond.instanceMethod yX4_of, Cond.selects RX4 yX4_of yX4_of, Cond.code yX4_of cX4_of 3 (some .int), Cond.methodLink RX4 36 yX4_at, Cond.static yX4_at, Cond.code yX4_at cX4_at 2 (some .int), Cond.methodLink RX4 180 yX4_wettest, Cond.instanceMethod yX4_wettest, Cond.selects RX4 yX4_wettest yX4_wettest, Cond.code yX4_wettest cX4_wettest 3 (some .int), Cond.methodLink RX4 183 yX4_unreached, Cond.instanceMethod yX4_unreached]
def wsX4_count_r2 : List Cond := [Cond.selects RX4 yX4_unreached yX4_unreached, Cond.code yX4_unreached cX4_unreached 3 (some .int), Cond.methodLink RX4 59 yX4_reaching, Cond.instanceMethod yX4_reaching, Cond.selects RX4 yX4_reaching yX4_reaching, Cond.code yX4_reaching cX4_reaching 4 (some .int), Cond.methodLink RX4 52 yX4_leastOf, Cond.instanceMethod yX4_leastOf, Cond.selects RX4 yX4_leastOf yX4_leastOf, Cond.code yX4_leastOf cX4_leastOf 3 (some .int), Cond.methodLink RX4 56 yX4_greatestOf, Cond.instanceMethod yX4_greatestOf, Cond.selects RX4 yX4_greatestOf yX4_greatestOf, Cond.code yX4_greatestOf cX4_greatestOf 3 (some .int)]
def wsX4_count : List Cond := .code yX4_count cX4_count 2 (some .int) :: ((wsX4_count_r1 ++ wsX4_count_r2) ++ wsX40)
def wsJ9_max_7cf53 : List Cond := .code yJ9_max_7cf53 cJ9_max_7cf53 2 (some .int) :: ([])
def wsJ9_min_7cf53 : List Cond := .code yJ9_min_7cf53 cJ9_min_7cf53 2 (some .int) :: ([])
def wsL_law_r1 : List Cond := [Cond.classLink RL 7 RX3, Cond.instantiable RX3 7, Cond.initialized RX3, Cond.classLink RL 10 RX4, Cond.instantiable RX4 16, Cond.initialized RX4, Cond.methodLink RL 9 yX3_init, Cond.instanceMethod yX3_init, Cond.code yX3_init cX3_init 1 none, Cond.methodLink RX3 1 objectInit, Cond.instanceMethod objectInit, Cond.code objectInit ⟨#[0xb1]⟩ 1 none, Cond.classLink RX3 7 RX1, Cond.instantiable RX1 17, Cond.initialized RX1, Cond.fieldLink RX3 10 "UmbrellaQueue" "now" "LUmbrellaQueue$State;", Cond.fieldLink RX3 16 "UmbrellaQueue" "snapshot" "LUmbrellaQueue$State;", Cond.classLink RX3 19 RX0, Cond.instantiable RX0 2, Cond.initialized RX0, Cond.fieldLink RX3 22 "UmbrellaQueue" "history" "LUmbrellaQueue$History;", Cond.classLink RX3 26 RX2, Cond.instantiable RX2 7, Cond.initialized RX2]
def wsL_law_r2 : List Cond := [Cond.fieldLink RX3 29 "UmbrellaQueue" "weather" "LUmbrellaQueue$Weather;", Cond.fieldLink RX3 33 "UmbrellaQueue" "stopNumber" "I", Cond.fieldLink RX3 37 "UmbrellaQueue" "stopError" "I", Cond.instanceMethod yX1_init, Cond.code yX1_init cX1_init 1 none, Cond.methodLink RX1 3 objectInit, Cond.arrayClass .int, Cond.fieldLink RX1 9 "UmbrellaQueue$State" "numbers" "[I", Cond.fieldLink RX1 15 "UmbrellaQueue$State" "wetness" "[I", Cond.fieldLink RX1 18 "UmbrellaQueue$State" "patience" "[I", Cond.fieldLink RX1 21 "UmbrellaQueue$State" "coins" "[I", Cond.fieldLink RX1 24 "UmbrellaQueue$State" "widths" "[I", Cond.fieldLink RX1 27 "UmbrellaQueue$State" "swapped" "[I", Cond.fieldLink RX1 30 "UmbrellaQueue$State" "settings" "[I", Cond.methodLink RX3 21 yX0_init, Cond.instanceMethod yX0_init, Cond.code yX0_init cX0_init 2 none, Cond.methodLink RX0 1 objectInit, Cond.classLink RX0 9 RX1, Cond.fieldLink RX0 11 "UmbrellaQueue$History" "states" "[LUmbrellaQueue$State;", Cond.instanceMethod yX2_init, Cond.code yX2_init cX2_init 1 none, Cond.methodLink RX2 3 objectInit, Cond.arrayClass .char]
def wsL_law_r3 : List Cond := [Cond.fieldLink RX2 11 "UmbrellaQueue$Weather" "text" "[C", Cond.fieldLink RX2 15 "UmbrellaQueue$Weather" "kinds" "[C", Cond.fieldLink RX2 18 "UmbrellaQueue$Weather" "amounts" "[I", Cond.fieldLink RX2 22 "UmbrellaQueue$Weather" "sides" "[I", Cond.methodLink RL 12 yX4_init, Cond.instanceMethod yX4_init, Cond.code yX4_init cX4_init 1 none, Cond.methodLink RX4 1 objectInit, Cond.fieldLink RX4 7 "UmbrellaQueueModel" "s" "[I", Cond.fieldLink RX4 13 "UmbrellaQueueModel" "ahead" "[I", Cond.fieldLink RX4 16 "UmbrellaQueueModel" "snapshot" "[I", Cond.fieldLink RX4 19 "UmbrellaQueueModel" "before" "[I", Cond.fieldLink RX4 22 "UmbrellaQueueModel" "text" "[I", Cond.fieldLink RX4 25 "UmbrellaQueueModel" "stopAt" "I", Cond.fieldLink RX4 29 "UmbrellaQueueModel" "stopBy" "I", Cond.methodLink RL 13 yX3_come, Cond.instanceMethod yX3_come, Cond.selects RX3 yX3_come yX3_come, Cond.code yX3_come cX3_come 4 (some .int), Cond.methodLink RX3 40 yX0_draft, Cond.instanceMethod yX0_draft, Cond.selects RX0 yX0_draft yX0_draft, Cond.code yX0_draft cX0_draft 2 none, Cond.methodLink RX0 20 yX0_drafted]
def wsL_law_r4 : List Cond := [Cond.instanceMethod yX0_drafted, Cond.selects RX0 yX0_drafted yX0_drafted, Cond.code yX0_drafted cX0_drafted 1 (some (.object "UmbrellaQueue$State")), Cond.fieldLink RX0 16 "UmbrellaQueue$History" "depth" "I", Cond.methodLink RX0 24 yX1_copyFrom, Cond.instanceMethod yX1_copyFrom, Cond.selects RX1 yX1_copyFrom yX1_copyFrom, Cond.code yX1_copyFrom cX1_copyFrom 2 none, Cond.methodLink RX1 33 arraycopyName, Cond.native arraycopyName, Cond.static arraycopyName, Cond.initialized "java/lang/System", Cond.fieldLink RX1 39 "UmbrellaQueue$State" "size" "I", Cond.fieldLink RX1 43 "UmbrellaQueue$State" "came" "I", Cond.fieldLink RX1 46 "UmbrellaQueue$State" "left" "I", Cond.fieldLink RX1 49 "UmbrellaQueue$State" "soaked" "I", Cond.fieldLink RX1 52 "UmbrellaQueue$State" "served" "I", Cond.fieldLink RX1 55 "UmbrellaQueue$State" "paid" "I", Cond.fieldLink RX1 58 "UmbrellaQueue$State" "unpaid" "I", Cond.fieldLink RX1 61 "UmbrellaQueue$State" "swaps" "I", Cond.fieldLink RX1 64 "UmbrellaQueue$State" "gusts" "I", Cond.fieldLink RX1 67 "UmbrellaQueue$State" "minutes" "I", Cond.methodLink RX3 44 yX1_admit, Cond.instanceMethod yX1_admit]
def wsL_law_r5 : List Cond := [Cond.selects RX1 yX1_admit yX1_admit, Cond.code yX1_admit cX1_admit 5 (some .int), Cond.static yX3_isWithin, Cond.code yX3_isWithin cX3_isWithin 3 (some .boolean), Cond.methodLink RX3 48 yX3_recorded, Cond.instanceMethod yX3_recorded, Cond.selects RX3 yX3_recorded yX3_recorded, Cond.code yX3_recorded cX3_recorded 2 (some .int), Cond.methodLink RX3 234 yX0_keepDraft, Cond.instanceMethod yX0_keepDraft, Cond.selects RX0 yX0_keepDraft yX0_keepDraft, Cond.code yX0_keepDraft cX0_keepDraft 3 none, Cond.methodLink RL 17 yX4_come, Cond.instanceMethod yX4_come, Cond.selects RX4 yX4_come yX4_come, Cond.code yX4_come cX4_come 5 (some .int), Cond.methodLink RX4 32 yX4_in, Cond.static yX4_in, Cond.code yX4_in cX4_in 3 (some .boolean), Cond.methodLink RX4 105 yX4_know, Cond.instanceMethod yX4_know, Cond.selects RX4 yX4_know yX4_know, Cond.code yX4_know cX4_know 1 none, Cond.methodLink RX4 43 yX4_looks]
def wsL_law_r6 : List Cond := [Cond.instanceMethod yX4_looks, Cond.selects RX4 yX4_looks yX4_looks, Cond.code yX4_looks cX4_looks 2 none, Cond.methodLink RX4 46 yX4_records, Cond.instanceMethod yX4_records, Cond.selects RX4 yX4_records yX4_records, Cond.code yX4_records cX4_records 2 none, Cond.fieldLink RX4 40 "UmbrellaQueueModel" "known" "I", Cond.methodLink RX4 36 yX4_at, Cond.static yX4_at, Cond.code yX4_at cX4_at 2 (some .int), Cond.methodLink RL 18 yX3_leave, Cond.instanceMethod yX3_leave, Cond.selects RX3 yX3_leave yX3_leave, Cond.code yX3_leave cX3_leave 2 (some .int), Cond.methodLink RX3 52 yX1_dismiss, Cond.instanceMethod yX1_dismiss, Cond.selects RX1 yX1_dismiss yX1_dismiss, Cond.code yX1_dismiss cX1_dismiss 3 (some .int), Cond.methodLink RX1 74 yX1_isPlace, Cond.instanceMethod yX1_isPlace, Cond.selects RX1 yX1_isPlace yX1_isPlace, Cond.code yX1_isPlace cX1_isPlace 2 (some .boolean), Cond.methodLink RX1 78 yX1_remove]
def wsL_law_r7 : List Cond := [Cond.instanceMethod yX1_remove, Cond.selects RX1 yX1_remove yX1_remove, Cond.code yX1_remove cX1_remove 2 none, Cond.methodLink RX1 130 yX1_closeGap, Cond.static yX1_closeGap, Cond.code yX1_closeGap cX1_closeGap 2 none, Cond.methodLink RL 22 yX4_leave, Cond.instanceMethod yX4_leave, Cond.selects RX4 yX4_leave yX4_leave, Cond.code yX4_leave cX4_leave 3 (some .int), Cond.methodLink RX4 91 yX4_isPlace, Cond.instanceMethod yX4_isPlace, Cond.selects RX4 yX4_isPlace yX4_isPlace, Cond.code yX4_isPlace cX4_isPlace 2 (some .boolean), Cond.methodLink RX4 49 yX4_of, Cond.instanceMethod yX4_of, Cond.selects RX4 yX4_of yX4_of, Cond.code yX4_of cX4_of 3 (some .int), Cond.methodLink RX4 76 yX4_goes, Cond.instanceMethod yX4_goes, Cond.selects RX4 yX4_goes yX4_goes, Cond.code yX4_goes cX4_goes 3 none, Cond.methodLink RL 23 yX3_letAhead, Cond.instanceMethod yX3_letAhead]
def wsL_law_r8 : List Cond := [Cond.selects RX3 yX3_letAhead yX3_letAhead, Cond.code yX3_letAhead cX3_letAhead 2 (some .int), Cond.methodLink RX3 55 yX1_changePlaces, Cond.instanceMethod yX1_changePlaces, Cond.selects RX1 yX1_changePlaces yX1_changePlaces, Cond.code yX1_changePlaces cX1_changePlaces 2 (some .int), Cond.methodLink RX1 82 yX1_hasNeighbour, Cond.instanceMethod yX1_hasNeighbour, Cond.selects RX1 yX1_hasNeighbour yX1_hasNeighbour, Cond.code yX1_hasNeighbour cX1_hasNeighbour 2 (some .boolean), Cond.methodLink RX1 85 yX1_exchange, Cond.static yX1_exchange, Cond.code yX1_exchange cX1_exchange 3 none, Cond.methodLink RL 26 yX4_letAhead, Cond.instanceMethod yX4_letAhead, Cond.selects RX4 yX4_letAhead yX4_letAhead, Cond.code yX4_letAhead cX4_letAhead 3 (some .int), Cond.methodLink RX4 95 yX4_arePair, Cond.instanceMethod yX4_arePair, Cond.selects RX4 yX4_arePair yX4_arePair, Cond.code yX4_arePair cX4_arePair 2 (some .boolean), Cond.methodLink RX4 101 yX4_exchange, Cond.instanceMethod yX4_exchange, Cond.selects RX4 yX4_exchange yX4_exchange]
def wsL_law_r9 : List Cond := [Cond.code yX4_exchange cX4_exchange 4 none, Cond.methodLink RL 27 yX3_swap, Cond.instanceMethod yX3_swap, Cond.selects RX3 yX3_swap yX3_swap, Cond.code yX3_swap cX3_swap 2 (some .int), Cond.methodLink RX3 58 yX1_swapUmbrellas, Cond.instanceMethod yX1_swapUmbrellas, Cond.selects RX1 yX1_swapUmbrellas yX1_swapUmbrellas, Cond.code yX1_swapUmbrellas cX1_swapUmbrellas 3 (some .int), Cond.methodLink RX1 89 yX1_refusal, Cond.instanceMethod yX1_refusal, Cond.selects RX1 yX1_refusal yX1_refusal, Cond.code yX1_refusal cX1_refusal 7 (some .int), Cond.methodLink RL 30 yX4_swap, Cond.instanceMethod yX4_swap, Cond.selects RX4 yX4_swap yX4_swap, Cond.code yX4_swap cX4_swap 2 (some .int), Cond.methodLink RX4 108 yX4_swaps, Cond.instanceMethod yX4_swaps, Cond.selects RX4 yX4_swaps yX4_swaps, Cond.code yX4_swaps cX4_swaps 2 (some .int), Cond.methodLink RX4 98 yX4_why, Cond.instanceMethod yX4_why, Cond.selects RX4 yX4_why yX4_why]
def wsL_law_r10 : List Cond := [Cond.code yX4_why cX4_why 5 (some .int), Cond.methodLink RX4 111 yX4_acted, Cond.instanceMethod yX4_acted, Cond.selects RX4 yX4_acted yX4_acted, Cond.code yX4_acted cX4_acted 2 (some .int), Cond.methodLink RL 31 yX3_set, Cond.instanceMethod yX3_set, Cond.selects RX3 yX3_set yX3_set, Cond.code yX3_set cX3_set 3 (some .int), Cond.methodLink RX3 61 yX1_changeSetting, Cond.instanceMethod yX1_changeSetting, Cond.selects RX1 yX1_changeSetting yX1_changeSetting, Cond.code yX1_changeSetting cX1_changeSetting 4 (some .int), Cond.methodLink RL 35 yX4_set, Cond.instanceMethod yX4_set, Cond.selects RX4 yX4_set yX4_set, Cond.code yX4_set cX4_set 4 (some .int), Cond.methodLink RL 36 yX3_gust, Cond.instanceMethod yX3_gust, Cond.selects RX3 yX3_gust yX3_gust, Cond.code yX3_gust cX3_gust 3 (some .int), Cond.methodLink RX3 65 yX1_rain, Cond.instanceMethod yX1_rain, Cond.selects RX1 yX1_rain yX1_rain]
def wsL_law_r11 : List Cond := [Cond.code yX1_rain cX1_rain 4 (some .int), Cond.static yX3_isGust, Cond.code yX3_isGust cX3_isGust 2 (some .boolean), Cond.methodLink RX3 157 yX3_isWithin, Cond.methodLink RX1 103 yX1_wetnessAfter, Cond.instanceMethod yX1_wetnessAfter, Cond.selects RX1 yX1_wetnessAfter yX1_wetnessAfter, Cond.code yX1_wetnessAfter cX1_wetnessAfter 4 (some .int), Cond.methodLink RX1 133 Lib.Math.min.name, Cond.static Lib.Math.min.name, Cond.initialized "java/lang/Math", Cond.code Lib.Math.min.name Lib.Math.min.code 2 (some .int), Cond.methodLink RX1 145 yX1_wetterBy, Cond.instanceMethod yX1_wetterBy, Cond.selects RX1 yX1_wetterBy yX1_wetterBy, Cond.code yX1_wetterBy cX1_wetterBy 5 (some .int), Cond.methodLink RX1 148 yX1_umbrellasRunningOnto, Cond.instanceMethod yX1_umbrellasRunningOnto, Cond.selects RX1 yX1_umbrellasRunningOnto yX1_umbrellasRunningOnto, Cond.code yX1_umbrellasRunningOnto cX1_umbrellasRunningOnto 4 (some .int), Cond.methodLink RX1 136 yX1_leastReached, Cond.instanceMethod yX1_leastReached, Cond.selects RX1 yX1_leastReached yX1_leastReached, Cond.code yX1_leastReached cX1_leastReached 2 (some .int)]
def wsL_law_r12 : List Cond := [Cond.methodLink RX1 112 Lib.Math.max.name, Cond.static Lib.Math.max.name, Cond.code Lib.Math.max.name Lib.Math.max.code 2 (some .int), Cond.methodLink RX1 139 yX1_greatestReached, Cond.instanceMethod yX1_greatestReached, Cond.selects RX1 yX1_greatestReached yX1_greatestReached, Cond.code yX1_greatestReached cX1_greatestReached 2 (some .int), Cond.methodLink RX1 151 yX1_isCovered, Cond.instanceMethod yX1_isCovered, Cond.selects RX1 yX1_isCovered yX1_isCovered, Cond.code yX1_isCovered cX1_isCovered 6 (some .boolean), Cond.methodLink RX1 107 yX1_removeSoaked, Cond.instanceMethod yX1_removeSoaked, Cond.selects RX1 yX1_removeSoaked yX1_removeSoaked, Cond.code yX1_removeSoaked cX1_removeSoaked 3 (some .int), Cond.methodLink RL 39 yX4_gust, Cond.instanceMethod yX4_gust, Cond.selects RX4 yX4_gust yX4_gust, Cond.code yX4_gust cX4_gust 3 (some .int), Cond.methodLink RX4 114 yX4_isGust, Cond.static yX4_isGust, Cond.code yX4_isGust cX4_isGust 2 (some .boolean), Cond.methodLink RX4 117 yX4_gusts, Cond.instanceMethod yX4_gusts]
def wsL_law_r13 : List Cond := [Cond.selects RX4 yX4_gusts yX4_gusts, Cond.code yX4_gusts cX4_gusts 5 (some .int), Cond.methodLink RX4 73 yX4_wetBy, Cond.instanceMethod yX4_wetBy, Cond.selects RX4 yX4_wetBy yX4_wetBy, Cond.code yX4_wetBy cX4_wetBy 5 (some .int), Cond.methodLink RX4 69 yX4_wetter, Cond.instanceMethod yX4_wetter, Cond.selects RX4 yX4_wetter yX4_wetter, Cond.code yX4_wetter cX4_wetter 4 (some .int), Cond.methodLink RX4 62 yX4_isCovered, Cond.instanceMethod yX4_isCovered, Cond.selects RX4 yX4_isCovered yX4_isCovered, Cond.code yX4_isCovered cX4_isCovered 3 (some .boolean), Cond.methodLink RX4 59 yX4_reaching, Cond.instanceMethod yX4_reaching, Cond.selects RX4 yX4_reaching yX4_reaching, Cond.code yX4_reaching cX4_reaching 4 (some .int), Cond.methodLink RX4 52 yX4_leastOf, Cond.instanceMethod yX4_leastOf, Cond.selects RX4 yX4_leastOf yX4_leastOf, Cond.code yX4_leastOf cX4_leastOf 3 (some .int), Cond.methodLink RX4 56 yX4_greatestOf, Cond.instanceMethod yX4_greatestOf]
def wsL_law_r14 : List Cond := [Cond.selects RX4 yX4_greatestOf yX4_greatestOf, Cond.code yX4_greatestOf cX4_greatestOf 3 (some .int), Cond.methodLink RX4 66 yX4_running, Cond.instanceMethod yX4_running, Cond.selects RX4 yX4_running yX4_running, Cond.code yX4_running cX4_running 4 (some .int), Cond.methodLink RL 40 yX3_pass, Cond.instanceMethod yX3_pass, Cond.selects RX3 yX3_pass yX3_pass, Cond.code yX3_pass cX3_pass 2 (some .int), Cond.methodLink RX3 68 yX1_dry, Cond.instanceMethod yX1_dry, Cond.selects RX1 yX1_dry yX1_dry, Cond.code yX1_dry cX1_dry 4 (some .int), Cond.constant RX1 111 (99999), Cond.methodLink RL 43 yX4_pass, Cond.instanceMethod yX4_pass, Cond.selects RX4 yX4_pass yX4_pass, Cond.code yX4_pass cX4_pass 2 (some .int), Cond.methodLink RX4 120 yX4_passes, Cond.instanceMethod yX4_passes, Cond.selects RX4 yX4_passes yX4_passes, Cond.code yX4_passes cX4_passes 5 (some .int), Cond.constant RX4 80 (99999)]
def wsL_law_r15 : List Cond := [Cond.methodLink RL 44 yX3_serve, Cond.instanceMethod yX3_serve, Cond.selects RX3 yX3_serve yX3_serve, Cond.code yX3_serve cX3_serve 1 (some .int), Cond.methodLink RX3 71 yX1_serveFirst, Cond.instanceMethod yX1_serveFirst, Cond.selects RX1 yX1_serveFirst yX1_serveFirst, Cond.code yX1_serveFirst cX1_serveFirst 4 (some .int), Cond.methodLink RX1 118 yX1_peopleToServe, Cond.instanceMethod yX1_peopleToServe, Cond.selects RX1 yX1_peopleToServe yX1_peopleToServe, Cond.code yX1_peopleToServe cX1_peopleToServe 1 (some .int), Cond.methodLink RX1 121 yX1_driestToServe, Cond.instanceMethod yX1_driestToServe, Cond.selects RX1 yX1_driestToServe yX1_driestToServe, Cond.code yX1_driestToServe cX1_driestToServe 4 (some .int), Cond.methodLink RX1 124 yX1_paidFrom, Cond.instanceMethod yX1_paidFrom, Cond.selects RX1 yX1_paidFrom yX1_paidFrom, Cond.code yX1_paidFrom cX1_paidFrom 2 (some .int), Cond.methodLink RX1 127 yX1_fareForAll, Cond.instanceMethod yX1_fareForAll, Cond.selects RX1 yX1_fareForAll yX1_fareForAll, Cond.code yX1_fareForAll cX1_fareForAll 1 (some .int)]
def wsL_law_r16 : List Cond := [Cond.methodLink RL 48 yX4_serve, Cond.instanceMethod yX4_serve, Cond.selects RX4 yX4_serve yX4_serve, Cond.code yX4_serve cX4_serve 1 (some .int), Cond.methodLink RX4 123 yX4_serves, Cond.instanceMethod yX4_serves, Cond.selects RX4 yX4_serves yX4_serves, Cond.code yX4_serves cX4_serves 4 (some .int), Cond.methodLink RX4 81 yX4_served, Cond.instanceMethod yX4_served, Cond.selects RX4 yX4_served yX4_served, Cond.code yX4_served cX4_served 1 (some .int), Cond.methodLink RX4 88 yX4_coinsPaid, Cond.instanceMethod yX4_coinsPaid, Cond.selects RX4 yX4_coinsPaid yX4_coinsPaid, Cond.code yX4_coinsPaid cX4_coinsPaid 2 (some .int), Cond.methodLink RX4 85 yX4_driest, Cond.instanceMethod yX4_driest, Cond.selects RX4 yX4_driest yX4_driest, Cond.code yX4_driest cX4_driest 3 (some .int), Cond.methodLink RL 49 yX3_type, Cond.instanceMethod yX3_type, Cond.selects RX3 yX3_type yX3_type, Cond.code yX3_type cX3_type 2 (some .int)]
def wsL_law_r17 : List Cond := [Cond.methodLink RX3 75 yX2_append, Cond.instanceMethod yX2_append, Cond.selects RX2 yX2_append yX2_append, Cond.code yX2_append cX2_append 2 (some .int), Cond.fieldLink RX2 25 "UmbrellaQueue$Weather" "length" "I", Cond.methodLink RL 53 yX4_type, Cond.instanceMethod yX4_type, Cond.selects RX4 yX4_type yX4_type, Cond.code yX4_type cX4_type 2 (some .int), Cond.fieldLink RX4 126 "UmbrellaQueueModel" "length" "I", Cond.methodLink RL 54 yX3_clearText, Cond.instanceMethod yX3_clearText, Cond.selects RX3 yX3_clearText yX3_clearText, Cond.code yX3_clearText cX3_clearText 1 (some .int), Cond.methodLink RX3 79 yX2_empty, Cond.instanceMethod yX2_empty, Cond.selects RX2 yX2_empty yX2_empty, Cond.code yX2_empty cX2_empty 2 (some .int), Cond.methodLink RL 57 yX4_clearText, Cond.instanceMethod yX4_clearText, Cond.selects RX4 yX4_clearText yX4_clearText, Cond.code yX4_clearText cX4_clearText 2 (some .int), Cond.methodLink RL 58 yX3_perform, Cond.instanceMethod yX3_perform]
def wsL_law_r18 : List Cond := [Cond.selects RX3 yX3_perform yX3_perform, Cond.code yX3_perform cX3_perform 4 (some .int), Cond.fieldLink RX3 85 "UmbrellaQueue$Weather" "things" "I", Cond.fieldLink RX3 88 "UmbrellaQueue$Weather" "kinds" "[C", Cond.fieldLink RX3 92 "UmbrellaQueue$Weather" "amounts" "[I", Cond.fieldLink RX3 96 "UmbrellaQueue$Weather" "sides" "[I", Cond.methodLink RX3 82 yX2_read, Cond.instanceMethod yX2_read, Cond.selects RX2 yX2_read yX2_read, Cond.code yX2_read cX2_read 2 (some .int), Cond.fieldLink RX2 29 "UmbrellaQueue$Weather" "things" "I", Cond.fieldLink RX2 32 "UmbrellaQueue$Weather" "index" "I", Cond.methodLink RX2 35 yX2_readThing, Cond.instanceMethod yX2_readThing, Cond.selects RX2 yX2_readThing yX2_readThing, Cond.code yX2_readThing cX2_readThing 3 (some .boolean), Cond.methodLink RX2 39 yX2_character, Cond.instanceMethod yX2_character, Cond.selects RX2 yX2_character yX2_character, Cond.code yX2_character cX2_character 1 (some .int), Cond.methodLink RX2 43 yX2_readNumber, Cond.instanceMethod yX2_readNumber, Cond.selects RX2 yX2_readNumber yX2_readNumber, Cond.code yX2_readNumber cX2_readNumber 5 (some .int)]
def wsL_law_r19 : List Cond := [Cond.methodLink RX2 50 yX2_digit, Cond.instanceMethod yX2_digit, Cond.selects RX2 yX2_digit yX2_digit, Cond.code yX2_digit cX2_digit 2 (some .int), Cond.methodLink RX2 47 yX2_readSide, Cond.instanceMethod yX2_readSide, Cond.selects RX2 yX2_readSide yX2_readSide, Cond.code yX2_readSide cX2_readSide 2 (some .int), Cond.methodLink RX3 99 yX3_happen, Cond.instanceMethod yX3_happen, Cond.selects RX3 yX3_happen yX3_happen, Cond.code yX3_happen cX3_happen 4 (some .int), Cond.methodLink RX3 103 yX3_isStop, Cond.static yX3_isStop, Cond.code yX3_isStop cX3_isStop 1 (some .boolean), Cond.methodLink RX3 107 yX0_drafted, Cond.methodLink RX3 111 yX1_copyFrom, Cond.methodLink RL 61 yX4_perform, Cond.instanceMethod yX4_perform, Cond.selects RX4 yX4_perform yX4_perform, Cond.code yX4_perform cX4_perform 4 (some .int), Cond.fieldLink RX4 129 "UmbrellaQueueModel" "isWrong" "Z", Cond.fieldLink RX4 133 "UmbrellaQueueModel" "position" "I", Cond.fieldLink RX4 154 "UmbrellaQueueModel" "stop" "I"]
def wsL_law_r20 : List Cond := [Cond.methodLink RX4 163 yX4_runs, Cond.instanceMethod yX4_runs, Cond.selects RX4 yX4_runs yX4_runs, Cond.code yX4_runs cX4_runs 6 (some .int), Cond.methodLink RX4 157 yX4_readThing, Cond.instanceMethod yX4_readThing, Cond.selects RX4 yX4_readThing yX4_readThing, Cond.code yX4_readThing cX4_readThing 1 none, Cond.fieldLink RX4 142 "UmbrellaQueueModel" "letter" "I", Cond.fieldLink RX4 148 "UmbrellaQueueModel" "number" "I", Cond.fieldLink RX4 151 "UmbrellaQueueModel" "side" "I", Cond.methodLink RX4 145 yX4_takesNumber, Cond.instanceMethod yX4_takesNumber, Cond.selects RX4 yX4_takesNumber yX4_takesNumber, Cond.code yX4_takesNumber cX4_takesNumber 5 (some .int), Cond.methodLink RX4 136 yX4_takes, Cond.instanceMethod yX4_takes, Cond.selects RX4 yX4_takes yX4_takes, Cond.code yX4_takes cX4_takes 4 (some .int), Cond.methodLink RX4 139 yX4_isNext, Cond.instanceMethod yX4_isNext, Cond.selects RX4 yX4_isNext yX4_isNext, Cond.code yX4_isNext cX4_isNext 3 (some .boolean), Cond.methodLink RX4 160 yX4_does]
def wsL_law_r21 : List Cond := [Cond.instanceMethod yX4_does, Cond.selects RX4 yX4_does yX4_does, Cond.code yX4_does cX4_does 1 (some .int), Cond.methodLink RL 62 yX3_stopped, Cond.instanceMethod yX3_stopped, Cond.selects RX3 yX3_stopped yX3_stopped, Cond.code yX3_stopped cX3_stopped 2 (some .int), Cond.methodLink RL 65 yX4_stopped, Cond.instanceMethod yX4_stopped, Cond.selects RX4 yX4_stopped yX4_stopped, Cond.code yX4_stopped cX4_stopped 2 (some .int), Cond.methodLink RL 66 yX3_undo, Cond.instanceMethod yX3_undo, Cond.selects RX3 yX3_undo yX3_undo, Cond.code yX3_undo cX3_undo 1 (some .int), Cond.fieldLink RX3 114 "UmbrellaQueue$History" "depth" "I", Cond.methodLink RX3 117 yX0_takeLatest, Cond.instanceMethod yX0_takeLatest, Cond.selects RX0 yX0_takeLatest yX0_takeLatest, Cond.code yX0_takeLatest cX0_takeLatest 1 (some (.object "UmbrellaQueue$State")), Cond.methodLink RL 69 yX4_undo, Cond.instanceMethod yX4_undo, Cond.selects RX4 yX4_undo yX4_undo, Cond.code yX4_undo cX4_undo 2 (some .int)]
def wsL_law_r22 : List Cond := [Cond.methodLink RL 70 yX3_keep, Cond.instanceMethod yX3_keep, Cond.selects RX3 yX3_keep yX3_keep, Cond.code yX3_keep cX3_keep 1 (some .int), Cond.fieldLink RX3 120 "UmbrellaQueue" "hasSnapshot" "Z", Cond.fieldLink RX3 124 "UmbrellaQueue$State" "size" "I", Cond.methodLink RL 73 yX4_keep, Cond.instanceMethod yX4_keep, Cond.selects RX4 yX4_keep yX4_keep, Cond.code yX4_keep cX4_keep 2 (some .int), Cond.fieldLink RX4 167 "UmbrellaQueueModel" "isKept" "Z", Cond.methodLink RL 74 yX3_restore, Cond.instanceMethod yX3_restore, Cond.selects RX3 yX3_restore yX3_restore, Cond.code yX3_restore cX3_restore 1 (some .int), Cond.methodLink RL 77 yX4_restore, Cond.instanceMethod yX4_restore, Cond.selects RX4 yX4_restore yX4_restore, Cond.code yX4_restore cX4_restore 2 (some .int), Cond.methodLink RL 78 yX3_person, Cond.instanceMethod yX3_person, Cond.selects RX3 yX3_person yX3_person, Cond.code yX3_person cX3_person 3 (some .int), Cond.fieldLink RX3 130 "UmbrellaQueue$State" "numbers" "[I"]
def wsL_law_r23 : List Cond := [Cond.fieldLink RX3 133 "UmbrellaQueue$State" "wetness" "[I", Cond.fieldLink RX3 136 "UmbrellaQueue$State" "patience" "[I", Cond.fieldLink RX3 139 "UmbrellaQueue$State" "coins" "[I", Cond.fieldLink RX3 142 "UmbrellaQueue$State" "widths" "[I", Cond.fieldLink RX3 154 "UmbrellaQueue$State" "swapped" "[I", Cond.methodLink RX3 127 yX1_isPlace, Cond.methodLink RX3 145 yX1_leastReached, Cond.methodLink RX3 148 yX1_greatestReached, Cond.methodLink RX3 151 yX1_umbrellasOver, Cond.instanceMethod yX1_umbrellasOver, Cond.selects RX1 yX1_umbrellasOver yX1_umbrellasOver, Cond.code yX1_umbrellasOver cX1_umbrellasOver 4 (some .int), Cond.methodLink RL 81 yX4_person, Cond.instanceMethod yX4_person, Cond.selects RX4 yX4_person yX4_person, Cond.code yX4_person cX4_person 3 (some .int), Cond.methodLink RL 82 yX3_placeOf, Cond.instanceMethod yX3_placeOf, Cond.selects RX3 yX3_placeOf yX3_placeOf, Cond.code yX3_placeOf cX3_placeOf 3 (some .int), Cond.methodLink RL 85 yX4_placeOf, Cond.instanceMethod yX4_placeOf, Cond.selects RX4 yX4_placeOf yX4_placeOf, Cond.code yX4_placeOf cX4_placeOf 3 (some .int)]
def wsL_law_r24 : List Cond := [Cond.methodLink RL 86 yX3_ifGust, Cond.instanceMethod yX3_ifGust, Cond.selects RX3 yX3_ifGust yX3_ifGust, Cond.code yX3_ifGust cX3_ifGust 5 (some .int), Cond.methodLink RX3 161 yX3_isGust, Cond.methodLink RX3 165 yX1_isCovered, Cond.methodLink RX3 168 yX1_umbrellasRunningOnto, Cond.methodLink RX3 171 yX1_wetnessAfter, Cond.methodLink RL 90 yX4_ifGust, Cond.instanceMethod yX4_ifGust, Cond.selects RX4 yX4_ifGust yX4_ifGust, Cond.code yX4_ifGust cX4_ifGust 5 (some .int), Cond.methodLink RX4 170 yX4_told, Cond.instanceMethod yX4_told, Cond.selects RX4 yX4_told yX4_told, Cond.code yX4_told cX4_told 5 (some .int), Cond.methodLink RL 91 yX3_reason, Cond.instanceMethod yX3_reason, Cond.selects RX3 yX3_reason yX3_reason, Cond.code yX3_reason cX3_reason 2 (some .int), Cond.methodLink RX3 174 yX1_hasNeighbour, Cond.methodLink RX3 177 yX1_refusal, Cond.methodLink RL 94 yX4_reason, Cond.instanceMethod yX4_reason]
def wsL_law_r25 : List Cond := [Cond.selects RX4 yX4_reason yX4_reason, Cond.code yX4_reason cX4_reason 2 (some .int), Cond.methodLink RL 95 yX3_bestSwap, Cond.instanceMethod yX3_bestSwap, Cond.selects RX3 yX3_bestSwap yX3_bestSwap, Cond.code yX3_bestSwap cX3_bestSwap 3 (some .int), Cond.methodLink RX3 180 yX1_driestSwap, Cond.instanceMethod yX1_driestSwap, Cond.selects RX1 yX1_driestSwap yX1_driestSwap, Cond.code yX1_driestSwap cX1_driestSwap 7 (some .int), Cond.methodLink RX1 154 yX1_totalWetnessAfter, Cond.instanceMethod yX1_totalWetnessAfter, Cond.selects RX1 yX1_totalWetnessAfter yX1_totalWetnessAfter, Cond.code yX1_totalWetnessAfter cX1_totalWetnessAfter 5 (some .int), Cond.methodLink RL 98 yX4_bestSwap, Cond.instanceMethod yX4_bestSwap, Cond.selects RX4 yX4_bestSwap yX4_bestSwap, Cond.code yX4_bestSwap cX4_bestSwap 7 (some .int), Cond.methodLink RX4 174 yX4_allWetBy, Cond.instanceMethod yX4_allWetBy, Cond.selects RX4 yX4_allWetBy yX4_allWetBy, Cond.code yX4_allWetBy cX4_allWetBy 5 (some .int), Cond.methodLink RL 99 yX3_payer, Cond.instanceMethod yX3_payer]
def wsL_law_r26 : List Cond := [Cond.selects RX3 yX3_payer yX3_payer, Cond.code yX3_payer cX3_payer 3 (some .int), Cond.methodLink RX3 183 yX1_driestToServe, Cond.methodLink RX3 186 yX1_paidFrom, Cond.methodLink RL 102 yX4_payer, Cond.instanceMethod yX4_payer, Cond.selects RX4 yX4_payer yX4_payer, Cond.code yX4_payer cX4_payer 2 (some .int), Cond.methodLink RL 103 yX3_bears, Cond.instanceMethod yX3_bears, Cond.selects RX3 yX3_bears yX3_bears, Cond.code yX3_bears cX3_bears 3 (some .int), Cond.methodLink RX3 189 yX1_gustsBorne, Cond.instanceMethod yX1_gustsBorne, Cond.selects RX1 yX1_gustsBorne yX1_gustsBorne, Cond.code yX1_gustsBorne cX1_gustsBorne 4 (some .int), Cond.methodLink RL 106 yX4_bears, Cond.instanceMethod yX4_bears, Cond.selects RX4 yX4_bears yX4_bears, Cond.code yX4_bears cX4_bears 4 (some .int), Cond.methodLink RL 107 yX3_count, Cond.instanceMethod yX3_count, Cond.selects RX3 yX3_count yX3_count, Cond.code yX3_count cX3_count 2 (some .int)]
def wsL_law_r27 : List Cond := [Cond.fieldLink RX3 192 "UmbrellaQueue$State" "came" "I", Cond.fieldLink RX3 195 "UmbrellaQueue$State" "left" "I", Cond.fieldLink RX3 198 "UmbrellaQueue$State" "soaked" "I", Cond.fieldLink RX3 201 "UmbrellaQueue$State" "served" "I", Cond.fieldLink RX3 204 "UmbrellaQueue$State" "paid" "I", Cond.fieldLink RX3 207 "UmbrellaQueue$State" "unpaid" "I", Cond.fieldLink RX3 210 "UmbrellaQueue$State" "swaps" "I", Cond.fieldLink RX3 213 "UmbrellaQueue$State" "gusts" "I", Cond.fieldLink RX3 216 "UmbrellaQueue$State" "minutes" "I", Cond.fieldLink RX3 228 "UmbrellaQueue$State" "settings" "[I", Cond.fieldLink RX3 231 "UmbrellaQueue$Weather" "length" "I", Cond.methodLink RX3 219 yX1_totalWetness, Cond.instanceMethod yX1_totalWetness, Cond.selects RX1 yX1_totalWetness yX1_totalWetness, Cond.code yX1_totalWetness cX1_totalWetness 3 (some .int), Cond.methodLink RX3 222 yX1_wettest, Cond.instanceMethod yX1_wettest, Cond.selects RX1 yX1_wettest yX1_wettest, Cond.code yX1_wettest cX1_wettest 4 (some .int), Cond.methodLink RX3 225 yX1_placesUnreached, Cond.instanceMethod yX1_placesUnreached, Cond.selects RX1 yX1_placesUnreached yX1_placesUnreached, Cond.code yX1_placesUnreached cX1_placesUnreached 3 (some .int), Cond.methodLink RX1 142 yX1_umbrellasOver]
def wsL_law_r28 : List Cond := [Cond.methodLink RL 110 yX4_count, Cond.instanceMethod yX4_count, Cond.selects RX4 yX4_count yX4_count, Cond.code yX4_count cX4_count 2 (some .int), Cond.methodLink RX4 177 yX4_sumWet, Cond.instanceMethod yX4_sumWet, Cond.selects RX4 yX4_sumWet yX4_sumWet, Cond.code yX4_sumWet cX4_sumWet 3 (some .int), Cond.methodLink RX4 180 yX4_wettest, Cond.instanceMethod yX4_wettest, Cond.selects RX4 yX4_wettest yX4_wettest, Cond.code yX4_wettest cX4_wettest 3 (some .int), Cond.methodLink RX4 183 yX4_unreached, Cond.instanceMethod yX4_unreached, Cond.selects RX4 yX4_unreached yX4_unreached, Cond.code yX4_unreached cX4_unreached 3 (some .int)]
def wsL_law : List Cond := (wsL_law_r1 ++ (wsL_law_r2 ++ (wsL_law_r3 ++ (wsL_law_r4 ++ (wsL_law_r5 ++ (wsL_law_r6 ++ (wsL_law_r7 ++ (wsL_law_r8 ++ (wsL_law_r9 ++ (wsL_law_r10 ++ (wsL_law_r11 ++ (wsL_law_r12 ++ (wsL_law_r13 ++ (wsL_law_r14 ++ (wsL_law_r15 ++ (wsL_law_r16 ++ (wsL_law_r17 ++ (wsL_law_r18 ++ (wsL_law_r19 ++ (wsL_law_r20 ++ (wsL_law_r21 ++ (wsL_law_r22 ++ (wsL_law_r23 ++ (wsL_law_r24 ++ (wsL_law_r25 ++ (wsL_law_r26 ++ (wsL_law_r27 ++ wsL_law_r28))))))))))))))))))))))))))) ++ wsX30 ++ wsX40 ++ wsX10 ++ wsX00 ++ wsX20 ++ ([] : List Cond)
set_option maxRecDepth 20000 in
theorem wsL_in_r1 : ∀ w ∈ wsL_law_r1, w ∈ lw_tbl := fun w h => (goodIn_p wsL_law_r1 [60, 63] (by decide +kernel) (by decide +kernel) w h).1
set_option maxRecDepth 20000 in
theorem wsL_in_r2 : ∀ w ∈ wsL_law_r2, w ∈ lw_tbl := fun w h => (goodIn_p wsL_law_r2 [68, 144, 161] (by decide +kernel) (by decide +kernel) w h).1
set_option maxRecDepth 20000 in
theorem wsL_in_r3 : ∀ w ∈ wsL_law_r3, w ∈ lw_tbl := fun w h => (goodIn_p wsL_law_r3 [534, 216, 220] (by decide +kernel) (by decide +kernel) w h).1
set_option maxRecDepth 20000 in
theorem wsL_in_r4 : ∀ w ∈ wsL_law_r4, w ∈ lw_tbl := fun w h => (goodIn_p wsL_law_r4 [224, 228] (by decide +kernel) (by decide +kernel) w h).1
set_option maxRecDepth 20000 in
theorem wsL_in_r5 : ∀ w ∈ wsL_law_r5, w ∈ lw_tbl := fun w h => (goodIn_p wsL_law_r5 [235, 238, 242, 246, 588, 591, 595] (by decide +kernel) (by decide +kernel) w h).1
set_option maxRecDepth 20000 in
theorem wsL_in_r6 : ∀ w ∈ wsL_law_r6, w ∈ lw_tbl := fun w h => (goodIn_p wsL_law_r6 [599, 603, 606, 250, 254, 258] (by decide +kernel) (by decide +kernel) w h).1
set_option maxRecDepth 20000 in
theorem wsL_in_r7 : ∀ w ∈ wsL_law_r7, w ∈ lw_tbl := fun w h => (goodIn_p wsL_law_r7 [262, 265, 610, 614, 618, 622] (by decide +kernel) (by decide +kernel) w h).1
set_option maxRecDepth 20000 in
theorem wsL_in_r8 : ∀ w ∈ wsL_law_r8, w ∈ lw_tbl := fun w h => (goodIn_p wsL_law_r8 [269, 273, 277, 280, 626, 630] (by decide +kernel) (by decide +kernel) w h).1
set_option maxRecDepth 20000 in
theorem wsL_in_r9 : ∀ w ∈ wsL_law_r9, w ∈ lw_tbl := fun w h => (goodIn_p wsL_law_r9 [634, 284, 288, 292, 638, 642] (by decide +kernel) (by decide +kernel) w h).1
set_option maxRecDepth 20000 in
theorem wsL_in_r10 : ∀ w ∈ wsL_law_r10, w ∈ lw_tbl := fun w h => (goodIn_p wsL_law_r10 [646, 650, 296, 300, 654, 308] (by decide +kernel) (by decide +kernel) w h).1
set_option maxRecDepth 20000 in
theorem wsL_in_r11 : ∀ w ∈ wsL_law_r11, w ∈ lw_tbl := fun w h => (goodIn_p wsL_law_r11 [312, 315, 320, 342, 324, 328, 332] (by decide +kernel) (by decide +kernel) w h).1
set_option maxRecDepth 20000 in
theorem wsL_in_r12 : ∀ w ∈ wsL_law_r12, w ∈ lw_tbl := fun w h => (goodIn_p wsL_law_r12 [335, 339, 346, 350, 658, 661] (by decide +kernel) (by decide +kernel) w h).1
set_option maxRecDepth 20000 in
theorem wsL_in_r13 : ∀ w ∈ wsL_law_r13, w ∈ lw_tbl := fun w h => (goodIn_p wsL_law_r13 [665, 669, 673, 677, 681, 685] (by decide +kernel) (by decide +kernel) w h).1
set_option maxRecDepth 20000 in
theorem wsL_in_r14 : ∀ w ∈ wsL_law_r14, w ∈ lw_tbl := fun w h => (goodIn_p wsL_law_r14 [689, 693, 354, 358, 697, 701] (by decide +kernel) (by decide +kernel) w h).1
set_option maxRecDepth 20000 in
theorem wsL_in_r15 : ∀ w ∈ wsL_law_r15, w ∈ lw_tbl := fun w h => (goodIn_p wsL_law_r15 [363, 367, 371, 375, 379, 383] (by decide +kernel) (by decide +kernel) w h).1
set_option maxRecDepth 20000 in
theorem wsL_in_r16 : ∀ w ∈ wsL_law_r16, w ∈ lw_tbl := fun w h => (goodIn_p wsL_law_r16 [706, 710, 714, 718, 722, 387] (by decide +kernel) (by decide +kernel) w h).1
set_option maxRecDepth 20000 in
theorem wsL_in_r17 : ∀ w ∈ wsL_law_r17, w ∈ lw_tbl := fun w h => (goodIn_p wsL_law_r17 [391, 726, 395, 399, 730] (by decide +kernel) (by decide +kernel) w h).1
set_option maxRecDepth 20000 in
theorem wsL_in_r18 : ∀ w ∈ wsL_law_r18, w ∈ lw_tbl := fun w h => (goodIn_p wsL_law_r18 [403, 407, 411, 415, 419] (by decide +kernel) (by decide +kernel) w h).1
set_option maxRecDepth 20000 in
theorem wsL_in_r19 : ∀ w ∈ wsL_law_r19, w ∈ lw_tbl := fun w h => (goodIn_p wsL_law_r19 [423, 428, 432, 435, 734] (by decide +kernel) (by decide +kernel) w h).1
set_option maxRecDepth 20000 in
theorem wsL_in_r20 : ∀ w ∈ wsL_law_r20, w ∈ lw_tbl := fun w h => (goodIn_p wsL_law_r20 [738, 742, 746, 750, 754] (by decide +kernel) (by decide +kernel) w h).1
set_option maxRecDepth 20000 in
theorem wsL_in_r21 : ∀ w ∈ wsL_law_r21, w ∈ lw_tbl := fun w h => (goodIn_p wsL_law_r21 [758, 441, 762, 445, 449, 766] (by decide +kernel) (by decide +kernel) w h).1
set_option maxRecDepth 20000 in
theorem wsL_in_r22 : ∀ w ∈ wsL_law_r22, w ∈ lw_tbl := fun w h => (goodIn_p wsL_law_r22 [453, 770, 457, 774, 461] (by decide +kernel) (by decide +kernel) w h).1
set_option maxRecDepth 20000 in
theorem wsL_in_r23 : ∀ w ∈ wsL_law_r23, w ∈ lw_tbl := fun w h => (goodIn_p wsL_law_r23 [468, 778, 472, 782] (by decide +kernel) (by decide +kernel) w h).1
set_option maxRecDepth 20000 in
theorem wsL_in_r24 : ∀ w ∈ wsL_law_r24, w ∈ lw_tbl := fun w h => (goodIn_p wsL_law_r24 [476, 786, 790, 484] (by decide +kernel) (by decide +kernel) w h).1
set_option maxRecDepth 20000 in
theorem wsL_in_r25 : ∀ w ∈ wsL_law_r25, w ∈ lw_tbl := fun w h => (goodIn_p wsL_law_r25 [794, 490, 494, 498, 798, 802] (by decide +kernel) (by decide +kernel) w h).1
set_option maxRecDepth 20000 in
theorem wsL_in_r26 : ∀ w ∈ wsL_law_r26, w ∈ lw_tbl := fun w h => (goodIn_p wsL_law_r26 [502, 806, 508, 512, 810, 516] (by decide +kernel) (by decide +kernel) w h).1
set_option maxRecDepth 20000 in
theorem wsL_in_r27 : ∀ w ∈ wsL_law_r27, w ∈ lw_tbl := fun w h => (goodIn_p wsL_law_r27 [520, 524, 528] (by decide +kernel) (by decide +kernel) w h).1
set_option maxRecDepth 20000 in
theorem wsL_in_r28 : ∀ w ∈ wsL_law_r28, w ∈ lw_tbl := fun w h => (goodIn_p wsL_law_r28 [814, 818, 822, 826] (by decide +kernel) (by decide +kernel) w h).1
set_option maxRecDepth 20000 in
theorem wsL_in_wsX30 : ∀ w ∈ wsX30, w ∈ lw_tbl := fun w h => (goodIn_p wsX30 [] (by decide +kernel) (by decide +kernel) w h).1
set_option maxRecDepth 20000 in
theorem wsL_in_wsX40 : ∀ w ∈ wsX40, w ∈ lw_tbl := fun w h => (goodIn_p wsX40 [] (by decide +kernel) (by decide +kernel) w h).1
set_option maxRecDepth 20000 in
theorem wsL_in_wsX10 : ∀ w ∈ wsX10, w ∈ lw_tbl := fun w h => (goodIn_p wsX10 [] (by decide +kernel) (by decide +kernel) w h).1
set_option maxRecDepth 20000 in
theorem wsL_in_wsX00 : ∀ w ∈ wsX00, w ∈ lw_tbl := fun w h => (goodIn_p wsX00 [] (by decide +kernel) (by decide +kernel) w h).1
set_option maxRecDepth 20000 in
theorem wsL_in_wsX20 : ∀ w ∈ wsX20, w ∈ lw_tbl := fun w h => (goodIn_p wsX20 [] (by decide +kernel) (by decide +kernel) w h).1
theorem wsL_law_in : ∀ w ∈ wsL_law, w ∈ lw_tbl := List.forall_mem_append.mpr ⟨List.forall_mem_append.mpr ⟨List.forall_mem_append.mpr ⟨List.forall_mem_append.mpr ⟨List.forall_mem_append.mpr ⟨List.forall_mem_append.mpr ⟨List.forall_mem_append.mpr ⟨wsL_in_r1, List.forall_mem_append.mpr ⟨wsL_in_r2, List.forall_mem_append.mpr ⟨wsL_in_r3, List.forall_mem_append.mpr ⟨wsL_in_r4, List.forall_mem_append.mpr ⟨wsL_in_r5, List.forall_mem_append.mpr ⟨wsL_in_r6, List.forall_mem_append.mpr ⟨wsL_in_r7, List.forall_mem_append.mpr ⟨wsL_in_r8, List.forall_mem_append.mpr ⟨wsL_in_r9, List.forall_mem_append.mpr ⟨wsL_in_r10, List.forall_mem_append.mpr ⟨wsL_in_r11, List.forall_mem_append.mpr ⟨wsL_in_r12, List.forall_mem_append.mpr ⟨wsL_in_r13, List.forall_mem_append.mpr ⟨wsL_in_r14, List.forall_mem_append.mpr ⟨wsL_in_r15, List.forall_mem_append.mpr ⟨wsL_in_r16, List.forall_mem_append.mpr ⟨wsL_in_r17, List.forall_mem_append.mpr ⟨wsL_in_r18, List.forall_mem_append.mpr ⟨wsL_in_r19, List.forall_mem_append.mpr ⟨wsL_in_r20, List.forall_mem_append.mpr ⟨wsL_in_r21, List.forall_mem_append.mpr ⟨wsL_in_r22, List.forall_mem_append.mpr ⟨wsL_in_r23, List.forall_mem_append.mpr ⟨wsL_in_r24, List.forall_mem_append.mpr ⟨wsL_in_r25, List.forall_mem_append.mpr ⟨wsL_in_r26, List.forall_mem_append.mpr ⟨wsL_in_r27, wsL_in_r28⟩⟩⟩⟩⟩⟩⟩⟩⟩⟩⟩⟩⟩⟩⟩⟩⟩⟩⟩⟩⟩⟩⟩⟩⟩⟩⟩, wsL_in_wsX30⟩, wsL_in_wsX40⟩, wsL_in_wsX10⟩, wsL_in_wsX00⟩, wsL_in_wsX20⟩, fun _ h => absurd h List.not_mem_nil⟩
theorem inlX0 : ∀ w ∈ wsX00, w ∈ wsL_law := fun _ h => List.mem_append_left _ (List.mem_append_left _ (List.mem_append_right _ h))
theorem inX0 : ∀ w ∈ wsX00, w ∈ lw_tbl := fun w h => wsL_law_in w (inlX0 w h)
theorem inlX1 : ∀ w ∈ wsX10, w ∈ wsL_law := fun _ h => List.mem_append_left _ (List.mem_append_left _ (List.mem_append_left _ (List.mem_append_right _ h)))
theorem inX1 : ∀ w ∈ wsX10, w ∈ lw_tbl := fun w h => wsL_law_in w (inlX1 w h)
theorem inlX2 : ∀ w ∈ wsX20, w ∈ wsL_law := fun _ h => List.mem_append_left _ (List.mem_append_right _ h)
theorem inX2 : ∀ w ∈ wsX20, w ∈ lw_tbl := fun w h => wsL_law_in w (inlX2 w h)
theorem inlX3 : ∀ w ∈ wsX30, w ∈ wsL_law := fun _ h => List.mem_append_left _ (List.mem_append_left _ (List.mem_append_left _ (List.mem_append_left _ (List.mem_append_left _ (List.mem_append_right _ h)))))
theorem inX3 : ∀ w ∈ wsX30, w ∈ lw_tbl := fun w h => wsL_law_in w (inlX3 w h)
theorem inlX4 : ∀ w ∈ wsX40, w ∈ wsL_law := fun _ h => List.mem_append_left _ (List.mem_append_left _ (List.mem_append_left _ (List.mem_append_left _ (List.mem_append_right _ h))))
theorem inX4 : ∀ w ∈ wsX40, w ∈ lw_tbl := fun w h => wsL_law_in w (inlX4 w h)
theorem inJ9 : ∀ w ∈ wsJ90, w ∈ lw_tbl := fun w h => (goodIn_p wsJ90 [] (by decide +kernel) (by decide +kernel) w h).1
theorem inJ10 : ∀ w ∈ wsJ100, w ∈ lw_tbl := fun w h => (goodIn_p wsJ100 [] (by decide +kernel) (by decide +kernel) w h).1
abbrev vwCl : List vw_C := [(RX0, TX0, 2), (RX1, TX1, 17), (RX2, TX2, 7), (RX3, TX3, 7), (RX4, TX4, 16)]
end
section
set_option maxRecDepth 20000 in
theorem ggX0_init_X1_init : GoodIn wsX0_init wsX1_init := goodIn_r _ [9, 10, 2, 3, 11, 12, 13, 14, 15, 16, 17, 18, 21, 22, 23, 24, 25, 26, 27, 28, 29, 30, 31, 32, 33, 34, 35, 36, 37] (by decide +kernel) (by decide +kernel)
set_option maxRecDepth 20000 in
theorem gX0_init_X1_init_n15 : GoodIn wsX0_init (wsX1_init) := ggX0_init_X1_init
theorem dX0_init_0 : decode cX0_init 0 = .ok (.aload_n 0, 1) := by decide +kernel
theorem dX0_init_1 : decode cX0_init 1 = .ok (.invokespecial 1, 3) := by decide +kernel
theorem dX0_init_4 : decode cX0_init 4 = .ok (.aload_n 0, 1) := by decide +kernel
theorem dX0_init_5 : decode cX0_init 5 = .ok (.iconst 5, 1) := by decide +kernel
theorem dX0_init_6 : decode cX0_init 6 = .ok (.anewarray 9, 3) := by decide +kernel
theorem dX0_init_9 : decode cX0_init 9 = .ok (.putfield 11, 3) := by decide +kernel
theorem dX0_init_12 : decode cX0_init 12 = .ok (.iconst 0, 1) := by decide +kernel
theorem dX0_init_13 : decode cX0_init 13 = .ok (.istore_n 1, 1) := by decide +kernel
theorem dX0_init_14 : decode cX0_init 14 = .ok (.iload_n 1, 1) := by decide +kernel
theorem dX0_init_15 : decode cX0_init 15 = .ok (.aload_n 0, 1) := by decide +kernel
theorem dX0_init_16 : decode cX0_init 16 = .ok (.getfield 11, 3) := by decide +kernel
theorem dX0_init_19 : decode cX0_init 19 = .ok (.arraylength, 1) := by decide +kernel
theorem dX0_init_20 : decode cX0_init 20 = .ok (.if_icmp .ge 22, 3) := by decide +kernel
theorem dX0_init_23 : decode cX0_init 23 = .ok (.aload_n 0, 1) := by decide +kernel
theorem dX0_init_24 : decode cX0_init 24 = .ok (.getfield 11, 3) := by decide +kernel
theorem dX0_init_27 : decode cX0_init 27 = .ok (.iload_n 1, 1) := by decide +kernel
theorem dX0_init_28 : decode cX0_init 28 = .ok (.new 9, 3) := by decide +kernel
theorem dX0_init_31 : decode cX0_init 31 = .ok (.dup, 1) := by decide +kernel
theorem dX0_init_32 : decode cX0_init 32 = .ok (.invokespecial 15, 3) := by decide +kernel
theorem dX0_init_35 : decode cX0_init 35 = .ok (.aastore, 1) := by decide +kernel
theorem dX0_init_36 : decode cX0_init 36 = .ok (.iinc 1 1, 3) := by decide +kernel
theorem dX0_init_39 : decode cX0_init 39 = .ok (.goto (-25), 3) := by decide +kernel
theorem dX0_init_42 : decode cX0_init 42 = .ok (.return_, 1) := by decide +kernel
theorem dX0_drafted_0 : decode cX0_drafted 0 = .ok (.aload_n 0, 1) := by decide +kernel
theorem dX0_drafted_1 : decode cX0_drafted 1 = .ok (.getfield 11, 3) := by decide +kernel
theorem dX0_drafted_4 : decode cX0_drafted 4 = .ok (.aload_n 0, 1) := by decide +kernel
theorem dX0_drafted_5 : decode cX0_drafted 5 = .ok (.getfield 16, 3) := by decide +kernel
theorem dX0_drafted_8 : decode cX0_drafted 8 = .ok (.aaload, 1) := by decide +kernel
theorem dX0_drafted_9 : decode cX0_drafted 9 = .ok (.areturn, 1) := by decide +kernel
set_option maxRecDepth 20000 in
theorem ggX0_draft_X0_drafted : GoodIn wsX0_draft wsX0_drafted := goodIn_r _ [5, 6, 7, 34, 35] (by decide +kernel) (by decide +kernel)
set_option maxRecDepth 20000 in
theorem gX0_draft_X0_drafted : GoodIn wsX0_draft (wsV RX0 20 RX0 yX0_drafted wsX0_drafted) := goodIn_app (goodIn_of _ (by decide +kernel)) ggX0_draft_X0_drafted
set_option maxRecDepth 20000 in
theorem ggX0_draft_X1_copyFrom : GoodIn wsX0_draft wsX1_copyFrom := goodIn_r _ [12, 13, 14, 15, 16, 17, 18, 19, 20, 21, 22, 23, 24, 25, 26, 27, 28, 29, 30, 31, 32, 33, 36, 37, 38, 39, 40, 41, 42, 43, 44, 45, 46, 47, 48, 49, 50, 51, 52] (by decide +kernel) (by decide +kernel)
set_option maxRecDepth 20000 in
theorem gX0_draft_X1_copyFrom : GoodIn wsX0_draft (wsV RX0 24 RX1 yX1_copyFrom wsX1_copyFrom) := goodIn_app (goodIn_of _ (by decide +kernel)) ggX0_draft_X1_copyFrom
theorem dX0_draft_0 : decode cX0_draft 0 = .ok (.aload_n 0, 1) := by decide +kernel
theorem dX0_draft_1 : decode cX0_draft 1 = .ok (.invokevirtual 20, 3) := by decide +kernel
theorem dX0_draft_4 : decode cX0_draft 4 = .ok (.aload_n 1, 1) := by decide +kernel
theorem dX0_draft_5 : decode cX0_draft 5 = .ok (.invokevirtual 24, 3) := by decide +kernel
theorem dX0_draft_8 : decode cX0_draft 8 = .ok (.return_, 1) := by decide +kernel
theorem dX0_keepDraft_0 : decode cX0_keepDraft 0 = .ok (.aload_n 0, 1) := by decide +kernel
theorem dX0_keepDraft_1 : decode cX0_keepDraft 1 = .ok (.getfield 16, 3) := by decide +kernel
theorem dX0_keepDraft_4 : decode cX0_keepDraft 4 = .ok (.iconst 4, 1) := by decide +kernel
theorem dX0_keepDraft_5 : decode cX0_keepDraft 5 = .ok (.if_icmp .ge 14, 3) := by decide +kernel
theorem dX0_keepDraft_8 : decode cX0_keepDraft 8 = .ok (.aload_n 0, 1) := by decide +kernel
theorem dX0_keepDraft_9 : decode cX0_keepDraft 9 = .ok (.dup, 1) := by decide +kernel
theorem dX0_keepDraft_10 : decode cX0_keepDraft 10 = .ok (.getfield 16, 3) := by decide +kernel
theorem dX0_keepDraft_13 : decode cX0_keepDraft 13 = .ok (.iconst 1, 1) := by decide +kernel
theorem dX0_keepDraft_14 : decode cX0_keepDraft 14 = .ok (.iadd, 1) := by decide +kernel
theorem dX0_keepDraft_15 : decode cX0_keepDraft 15 = .ok (.putfield 16, 3) := by decide +kernel
theorem dX0_keepDraft_18 : decode cX0_keepDraft 18 = .ok (.return_, 1) := by decide +kernel
theorem dX0_keepDraft_19 : decode cX0_keepDraft 19 = .ok (.aload_n 0, 1) := by decide +kernel
theorem dX0_keepDraft_20 : decode cX0_keepDraft 20 = .ok (.getfield 11, 3) := by decide +kernel
theorem dX0_keepDraft_23 : decode cX0_keepDraft 23 = .ok (.iconst 0, 1) := by decide +kernel
theorem dX0_keepDraft_24 : decode cX0_keepDraft 24 = .ok (.aaload, 1) := by decide +kernel
theorem dX0_keepDraft_25 : decode cX0_keepDraft 25 = .ok (.astore_n 1, 1) := by decide +kernel
theorem dX0_keepDraft_26 : decode cX0_keepDraft 26 = .ok (.iconst 0, 1) := by decide +kernel
theorem dX0_keepDraft_27 : decode cX0_keepDraft 27 = .ok (.istore_n 2, 1) := by decide +kernel
theorem dX0_keepDraft_28 : decode cX0_keepDraft 28 = .ok (.iload_n 2, 1) := by decide +kernel
theorem dX0_keepDraft_29 : decode cX0_keepDraft 29 = .ok (.iconst 4, 1) := by decide +kernel
theorem dX0_keepDraft_30 : decode cX0_keepDraft 30 = .ok (.if_icmp .ge 23, 3) := by decide +kernel
theorem dX0_keepDraft_33 : decode cX0_keepDraft 33 = .ok (.aload_n 0, 1) := by decide +kernel
theorem dX0_keepDraft_34 : decode cX0_keepDraft 34 = .ok (.getfield 11, 3) := by decide +kernel
theorem dX0_keepDraft_37 : decode cX0_keepDraft 37 = .ok (.iload_n 2, 1) := by decide +kernel
theorem dX0_keepDraft_38 : decode cX0_keepDraft 38 = .ok (.aload_n 0, 1) := by decide +kernel
theorem dX0_keepDraft_39 : decode cX0_keepDraft 39 = .ok (.getfield 11, 3) := by decide +kernel
theorem dX0_keepDraft_42 : decode cX0_keepDraft 42 = .ok (.iload_n 2, 1) := by decide +kernel
theorem dX0_keepDraft_43 : decode cX0_keepDraft 43 = .ok (.iconst 1, 1) := by decide +kernel
theorem dX0_keepDraft_44 : decode cX0_keepDraft 44 = .ok (.iadd, 1) := by decide +kernel
theorem dX0_keepDraft_45 : decode cX0_keepDraft 45 = .ok (.aaload, 1) := by decide +kernel
theorem dX0_keepDraft_46 : decode cX0_keepDraft 46 = .ok (.aastore, 1) := by decide +kernel
theorem dX0_keepDraft_47 : decode cX0_keepDraft 47 = .ok (.iinc 2 1, 3) := by decide +kernel
theorem dX0_keepDraft_50 : decode cX0_keepDraft 50 = .ok (.goto (-22), 3) := by decide +kernel
theorem dX0_keepDraft_53 : decode cX0_keepDraft 53 = .ok (.aload_n 0, 1) := by decide +kernel
theorem dX0_keepDraft_54 : decode cX0_keepDraft 54 = .ok (.getfield 11, 3) := by decide +kernel
theorem dX0_keepDraft_57 : decode cX0_keepDraft 57 = .ok (.iconst 4, 1) := by decide +kernel
theorem dX0_keepDraft_58 : decode cX0_keepDraft 58 = .ok (.aload_n 1, 1) := by decide +kernel
theorem dX0_keepDraft_59 : decode cX0_keepDraft 59 = .ok (.aastore, 1) := by decide +kernel
theorem dX0_keepDraft_60 : decode cX0_keepDraft 60 = .ok (.return_, 1) := by decide +kernel
theorem dX0_takeLatest_0 : decode cX0_takeLatest 0 = .ok (.aload_n 0, 1) := by decide +kernel
theorem dX0_takeLatest_1 : decode cX0_takeLatest 1 = .ok (.dup, 1) := by decide +kernel
theorem dX0_takeLatest_2 : decode cX0_takeLatest 2 = .ok (.getfield 16, 3) := by decide +kernel
theorem dX0_takeLatest_5 : decode cX0_takeLatest 5 = .ok (.iconst 1, 1) := by decide +kernel
theorem dX0_takeLatest_6 : decode cX0_takeLatest 6 = .ok (.isub, 1) := by decide +kernel
theorem dX0_takeLatest_7 : decode cX0_takeLatest 7 = .ok (.putfield 16, 3) := by decide +kernel
theorem dX0_takeLatest_10 : decode cX0_takeLatest 10 = .ok (.aload_n 0, 1) := by decide +kernel
theorem dX0_takeLatest_11 : decode cX0_takeLatest 11 = .ok (.getfield 11, 3) := by decide +kernel
theorem dX0_takeLatest_14 : decode cX0_takeLatest 14 = .ok (.aload_n 0, 1) := by decide +kernel
theorem dX0_takeLatest_15 : decode cX0_takeLatest 15 = .ok (.getfield 16, 3) := by decide +kernel
theorem dX0_takeLatest_18 : decode cX0_takeLatest 18 = .ok (.aaload, 1) := by decide +kernel
theorem dX0_takeLatest_19 : decode cX0_takeLatest 19 = .ok (.areturn, 1) := by decide +kernel
theorem dX1_init_0 : decode cX1_init 0 = .ok (.aload_n 0, 1) := by decide +kernel
theorem dX1_init_1 : decode cX1_init 1 = .ok (.invokespecial 3, 3) := by decide +kernel
theorem dX1_init_4 : decode cX1_init 4 = .ok (.aload_n 0, 1) := by decide +kernel
theorem dX1_init_5 : decode cX1_init 5 = .ok (.bipush 16, 2) := by decide +kernel
theorem dX1_init_7 : decode cX1_init 7 = .ok (.newarray .int, 2) := by decide +kernel
theorem dX1_init_9 : decode cX1_init 9 = .ok (.putfield 9, 3) := by decide +kernel
theorem dX1_init_12 : decode cX1_init 12 = .ok (.aload_n 0, 1) := by decide +kernel
theorem dX1_init_13 : decode cX1_init 13 = .ok (.bipush 16, 2) := by decide +kernel
theorem dX1_init_15 : decode cX1_init 15 = .ok (.newarray .int, 2) := by decide +kernel
theorem dX1_init_17 : decode cX1_init 17 = .ok (.putfield 15, 3) := by decide +kernel
theorem dX1_init_20 : decode cX1_init 20 = .ok (.aload_n 0, 1) := by decide +kernel
theorem dX1_init_21 : decode cX1_init 21 = .ok (.bipush 16, 2) := by decide +kernel
theorem dX1_init_23 : decode cX1_init 23 = .ok (.newarray .int, 2) := by decide +kernel
theorem dX1_init_25 : decode cX1_init 25 = .ok (.putfield 18, 3) := by decide +kernel
theorem dX1_init_28 : decode cX1_init 28 = .ok (.aload_n 0, 1) := by decide +kernel
theorem dX1_init_29 : decode cX1_init 29 = .ok (.bipush 16, 2) := by decide +kernel
theorem dX1_init_31 : decode cX1_init 31 = .ok (.newarray .int, 2) := by decide +kernel
theorem dX1_init_33 : decode cX1_init 33 = .ok (.putfield 21, 3) := by decide +kernel
theorem dX1_init_36 : decode cX1_init 36 = .ok (.aload_n 0, 1) := by decide +kernel
theorem dX1_init_37 : decode cX1_init 37 = .ok (.bipush 16, 2) := by decide +kernel
theorem dX1_init_39 : decode cX1_init 39 = .ok (.newarray .int, 2) := by decide +kernel
theorem dX1_init_41 : decode cX1_init 41 = .ok (.putfield 24, 3) := by decide +kernel
theorem dX1_init_44 : decode cX1_init 44 = .ok (.aload_n 0, 1) := by decide +kernel
theorem dX1_init_45 : decode cX1_init 45 = .ok (.bipush 16, 2) := by decide +kernel
theorem dX1_init_47 : decode cX1_init 47 = .ok (.newarray .int, 2) := by decide +kernel
theorem dX1_init_49 : decode cX1_init 49 = .ok (.putfield 27, 3) := by decide +kernel
theorem dX1_init_52 : decode cX1_init 52 = .ok (.aload_n 0, 1) := by decide +kernel
theorem dX1_init_53 : decode cX1_init 53 = .ok (.iconst 3, 1) := by decide +kernel
theorem dX1_init_54 : decode cX1_init 54 = .ok (.newarray .int, 2) := by decide +kernel
theorem dX1_init_56 : decode cX1_init 56 = .ok (.dup, 1) := by decide +kernel
theorem dX1_init_57 : decode cX1_init 57 = .ok (.iconst 0, 1) := by decide +kernel
theorem dX1_init_58 : decode cX1_init 58 = .ok (.iconst 3, 1) := by decide +kernel
theorem dX1_init_59 : decode cX1_init 59 = .ok (.iastore, 1) := by decide +kernel
theorem dX1_init_60 : decode cX1_init 60 = .ok (.dup, 1) := by decide +kernel
theorem dX1_init_61 : decode cX1_init 61 = .ok (.iconst 1, 1) := by decide +kernel
theorem dX1_init_62 : decode cX1_init 62 = .ok (.iconst 2, 1) := by decide +kernel
theorem dX1_init_63 : decode cX1_init 63 = .ok (.iastore, 1) := by decide +kernel
theorem dX1_init_64 : decode cX1_init 64 = .ok (.dup, 1) := by decide +kernel
theorem dX1_init_65 : decode cX1_init 65 = .ok (.iconst 2, 1) := by decide +kernel
theorem dX1_init_66 : decode cX1_init 66 = .ok (.iconst 5, 1) := by decide +kernel
theorem dX1_init_67 : decode cX1_init 67 = .ok (.iastore, 1) := by decide +kernel
theorem dX1_init_68 : decode cX1_init 68 = .ok (.putfield 30, 3) := by decide +kernel
theorem dX1_init_71 : decode cX1_init 71 = .ok (.return_, 1) := by decide +kernel
theorem dX1_copyFrom_0 : decode cX1_copyFrom 0 = .ok (.aload_n 1, 1) := by decide +kernel
theorem dX1_copyFrom_1 : decode cX1_copyFrom 1 = .ok (.getfield 9, 3) := by decide +kernel
theorem dX1_copyFrom_4 : decode cX1_copyFrom 4 = .ok (.iconst 0, 1) := by decide +kernel
theorem dX1_copyFrom_5 : decode cX1_copyFrom 5 = .ok (.aload_n 0, 1) := by decide +kernel
theorem dX1_copyFrom_6 : decode cX1_copyFrom 6 = .ok (.getfield 9, 3) := by decide +kernel
theorem dX1_copyFrom_9 : decode cX1_copyFrom 9 = .ok (.iconst 0, 1) := by decide +kernel
theorem dX1_copyFrom_10 : decode cX1_copyFrom 10 = .ok (.bipush 16, 2) := by decide +kernel
theorem dX1_copyFrom_12 : decode cX1_copyFrom 12 = .ok (.invokestatic 33, 3) := by decide +kernel
theorem dX1_copyFrom_15 : decode cX1_copyFrom 15 = .ok (.aload_n 1, 1) := by decide +kernel
theorem dX1_copyFrom_16 : decode cX1_copyFrom 16 = .ok (.getfield 15, 3) := by decide +kernel
theorem dX1_copyFrom_19 : decode cX1_copyFrom 19 = .ok (.iconst 0, 1) := by decide +kernel
theorem dX1_copyFrom_20 : decode cX1_copyFrom 20 = .ok (.aload_n 0, 1) := by decide +kernel
theorem dX1_copyFrom_21 : decode cX1_copyFrom 21 = .ok (.getfield 15, 3) := by decide +kernel
theorem dX1_copyFrom_24 : decode cX1_copyFrom 24 = .ok (.iconst 0, 1) := by decide +kernel
theorem dX1_copyFrom_25 : decode cX1_copyFrom 25 = .ok (.bipush 16, 2) := by decide +kernel
theorem dX1_copyFrom_27 : decode cX1_copyFrom 27 = .ok (.invokestatic 33, 3) := by decide +kernel
theorem dX1_copyFrom_30 : decode cX1_copyFrom 30 = .ok (.aload_n 1, 1) := by decide +kernel
theorem dX1_copyFrom_31 : decode cX1_copyFrom 31 = .ok (.getfield 18, 3) := by decide +kernel
theorem dX1_copyFrom_34 : decode cX1_copyFrom 34 = .ok (.iconst 0, 1) := by decide +kernel
theorem dX1_copyFrom_35 : decode cX1_copyFrom 35 = .ok (.aload_n 0, 1) := by decide +kernel
theorem dX1_copyFrom_36 : decode cX1_copyFrom 36 = .ok (.getfield 18, 3) := by decide +kernel
theorem dX1_copyFrom_39 : decode cX1_copyFrom 39 = .ok (.iconst 0, 1) := by decide +kernel
theorem dX1_copyFrom_40 : decode cX1_copyFrom 40 = .ok (.bipush 16, 2) := by decide +kernel
theorem dX1_copyFrom_42 : decode cX1_copyFrom 42 = .ok (.invokestatic 33, 3) := by decide +kernel
theorem dX1_copyFrom_45 : decode cX1_copyFrom 45 = .ok (.aload_n 1, 1) := by decide +kernel
theorem dX1_copyFrom_46 : decode cX1_copyFrom 46 = .ok (.getfield 21, 3) := by decide +kernel
theorem dX1_copyFrom_49 : decode cX1_copyFrom 49 = .ok (.iconst 0, 1) := by decide +kernel
theorem dX1_copyFrom_50 : decode cX1_copyFrom 50 = .ok (.aload_n 0, 1) := by decide +kernel
theorem dX1_copyFrom_51 : decode cX1_copyFrom 51 = .ok (.getfield 21, 3) := by decide +kernel
theorem dX1_copyFrom_54 : decode cX1_copyFrom 54 = .ok (.iconst 0, 1) := by decide +kernel
theorem dX1_copyFrom_55 : decode cX1_copyFrom 55 = .ok (.bipush 16, 2) := by decide +kernel
theorem dX1_copyFrom_57 : decode cX1_copyFrom 57 = .ok (.invokestatic 33, 3) := by decide +kernel
theorem dX1_copyFrom_60 : decode cX1_copyFrom 60 = .ok (.aload_n 1, 1) := by decide +kernel
theorem dX1_copyFrom_61 : decode cX1_copyFrom 61 = .ok (.getfield 24, 3) := by decide +kernel
theorem dX1_copyFrom_64 : decode cX1_copyFrom 64 = .ok (.iconst 0, 1) := by decide +kernel
theorem dX1_copyFrom_65 : decode cX1_copyFrom 65 = .ok (.aload_n 0, 1) := by decide +kernel
theorem dX1_copyFrom_66 : decode cX1_copyFrom 66 = .ok (.getfield 24, 3) := by decide +kernel
theorem dX1_copyFrom_69 : decode cX1_copyFrom 69 = .ok (.iconst 0, 1) := by decide +kernel
theorem dX1_copyFrom_70 : decode cX1_copyFrom 70 = .ok (.bipush 16, 2) := by decide +kernel
theorem dX1_copyFrom_72 : decode cX1_copyFrom 72 = .ok (.invokestatic 33, 3) := by decide +kernel
theorem dX1_copyFrom_75 : decode cX1_copyFrom 75 = .ok (.aload_n 1, 1) := by decide +kernel
theorem dX1_copyFrom_76 : decode cX1_copyFrom 76 = .ok (.getfield 27, 3) := by decide +kernel
theorem dX1_copyFrom_79 : decode cX1_copyFrom 79 = .ok (.iconst 0, 1) := by decide +kernel
theorem dX1_copyFrom_80 : decode cX1_copyFrom 80 = .ok (.aload_n 0, 1) := by decide +kernel
theorem dX1_copyFrom_81 : decode cX1_copyFrom 81 = .ok (.getfield 27, 3) := by decide +kernel
theorem dX1_copyFrom_84 : decode cX1_copyFrom 84 = .ok (.iconst 0, 1) := by decide +kernel
theorem dX1_copyFrom_85 : decode cX1_copyFrom 85 = .ok (.bipush 16, 2) := by decide +kernel
theorem dX1_copyFrom_87 : decode cX1_copyFrom 87 = .ok (.invokestatic 33, 3) := by decide +kernel
theorem dX1_copyFrom_90 : decode cX1_copyFrom 90 = .ok (.aload_n 1, 1) := by decide +kernel
theorem dX1_copyFrom_91 : decode cX1_copyFrom 91 = .ok (.getfield 30, 3) := by decide +kernel
theorem dX1_copyFrom_94 : decode cX1_copyFrom 94 = .ok (.iconst 0, 1) := by decide +kernel
theorem dX1_copyFrom_95 : decode cX1_copyFrom 95 = .ok (.aload_n 0, 1) := by decide +kernel
theorem dX1_copyFrom_96 : decode cX1_copyFrom 96 = .ok (.getfield 30, 3) := by decide +kernel
theorem dX1_copyFrom_99 : decode cX1_copyFrom 99 = .ok (.iconst 0, 1) := by decide +kernel
theorem dX1_copyFrom_100 : decode cX1_copyFrom 100 = .ok (.aload_n 0, 1) := by decide +kernel
theorem dX1_copyFrom_101 : decode cX1_copyFrom 101 = .ok (.getfield 30, 3) := by decide +kernel
theorem dX1_copyFrom_104 : decode cX1_copyFrom 104 = .ok (.arraylength, 1) := by decide +kernel
theorem dX1_copyFrom_105 : decode cX1_copyFrom 105 = .ok (.invokestatic 33, 3) := by decide +kernel
theorem dX1_copyFrom_108 : decode cX1_copyFrom 108 = .ok (.aload_n 0, 1) := by decide +kernel
theorem dX1_copyFrom_109 : decode cX1_copyFrom 109 = .ok (.aload_n 1, 1) := by decide +kernel
theorem dX1_copyFrom_110 : decode cX1_copyFrom 110 = .ok (.getfield 39, 3) := by decide +kernel
theorem dX1_copyFrom_113 : decode cX1_copyFrom 113 = .ok (.putfield 39, 3) := by decide +kernel
theorem dX1_copyFrom_116 : decode cX1_copyFrom 116 = .ok (.aload_n 0, 1) := by decide +kernel
theorem dX1_copyFrom_117 : decode cX1_copyFrom 117 = .ok (.aload_n 1, 1) := by decide +kernel
theorem dX1_copyFrom_118 : decode cX1_copyFrom 118 = .ok (.getfield 43, 3) := by decide +kernel
theorem dX1_copyFrom_121 : decode cX1_copyFrom 121 = .ok (.putfield 43, 3) := by decide +kernel
theorem dX1_copyFrom_124 : decode cX1_copyFrom 124 = .ok (.aload_n 0, 1) := by decide +kernel
theorem dX1_copyFrom_125 : decode cX1_copyFrom 125 = .ok (.aload_n 1, 1) := by decide +kernel
theorem dX1_copyFrom_126 : decode cX1_copyFrom 126 = .ok (.getfield 46, 3) := by decide +kernel
theorem dX1_copyFrom_129 : decode cX1_copyFrom 129 = .ok (.putfield 46, 3) := by decide +kernel
theorem dX1_copyFrom_132 : decode cX1_copyFrom 132 = .ok (.aload_n 0, 1) := by decide +kernel
theorem dX1_copyFrom_133 : decode cX1_copyFrom 133 = .ok (.aload_n 1, 1) := by decide +kernel
theorem dX1_copyFrom_134 : decode cX1_copyFrom 134 = .ok (.getfield 49, 3) := by decide +kernel
theorem dX1_copyFrom_137 : decode cX1_copyFrom 137 = .ok (.putfield 49, 3) := by decide +kernel
theorem dX1_copyFrom_140 : decode cX1_copyFrom 140 = .ok (.aload_n 0, 1) := by decide +kernel
theorem dX1_copyFrom_141 : decode cX1_copyFrom 141 = .ok (.aload_n 1, 1) := by decide +kernel
theorem dX1_copyFrom_142 : decode cX1_copyFrom 142 = .ok (.getfield 52, 3) := by decide +kernel
theorem dX1_copyFrom_145 : decode cX1_copyFrom 145 = .ok (.putfield 52, 3) := by decide +kernel
theorem dX1_copyFrom_148 : decode cX1_copyFrom 148 = .ok (.aload_n 0, 1) := by decide +kernel
theorem dX1_copyFrom_149 : decode cX1_copyFrom 149 = .ok (.aload_n 1, 1) := by decide +kernel
theorem dX1_copyFrom_150 : decode cX1_copyFrom 150 = .ok (.getfield 55, 3) := by decide +kernel
theorem dX1_copyFrom_153 : decode cX1_copyFrom 153 = .ok (.putfield 55, 3) := by decide +kernel
theorem dX1_copyFrom_156 : decode cX1_copyFrom 156 = .ok (.aload_n 0, 1) := by decide +kernel
theorem dX1_copyFrom_157 : decode cX1_copyFrom 157 = .ok (.aload_n 1, 1) := by decide +kernel
theorem dX1_copyFrom_158 : decode cX1_copyFrom 158 = .ok (.getfield 58, 3) := by decide +kernel
theorem dX1_copyFrom_161 : decode cX1_copyFrom 161 = .ok (.putfield 58, 3) := by decide +kernel
theorem dX1_copyFrom_164 : decode cX1_copyFrom 164 = .ok (.aload_n 0, 1) := by decide +kernel
theorem dX1_copyFrom_165 : decode cX1_copyFrom 165 = .ok (.aload_n 1, 1) := by decide +kernel
theorem dX1_copyFrom_166 : decode cX1_copyFrom 166 = .ok (.getfield 61, 3) := by decide +kernel
theorem dX1_copyFrom_169 : decode cX1_copyFrom 169 = .ok (.putfield 61, 3) := by decide +kernel
theorem dX1_copyFrom_172 : decode cX1_copyFrom 172 = .ok (.aload_n 0, 1) := by decide +kernel
theorem dX1_copyFrom_173 : decode cX1_copyFrom 173 = .ok (.aload_n 1, 1) := by decide +kernel
theorem dX1_copyFrom_174 : decode cX1_copyFrom 174 = .ok (.getfield 64, 3) := by decide +kernel
theorem dX1_copyFrom_177 : decode cX1_copyFrom 177 = .ok (.putfield 64, 3) := by decide +kernel
theorem dX1_copyFrom_180 : decode cX1_copyFrom 180 = .ok (.aload_n 0, 1) := by decide +kernel
theorem dX1_copyFrom_181 : decode cX1_copyFrom 181 = .ok (.aload_n 1, 1) := by decide +kernel
theorem dX1_copyFrom_182 : decode cX1_copyFrom 182 = .ok (.getfield 67, 3) := by decide +kernel
theorem dX1_copyFrom_185 : decode cX1_copyFrom 185 = .ok (.putfield 67, 3) := by decide +kernel
theorem dX1_copyFrom_188 : decode cX1_copyFrom 188 = .ok (.return_, 1) := by decide +kernel
theorem dX1_isPlace_0 : decode cX1_isPlace 0 = .ok (.iload_n 1, 1) := by decide +kernel
theorem dX1_isPlace_1 : decode cX1_isPlace 1 = .ok (.ifCond .lt 15, 3) := by decide +kernel
theorem dX1_isPlace_4 : decode cX1_isPlace 4 = .ok (.iload_n 1, 1) := by decide +kernel
theorem dX1_isPlace_5 : decode cX1_isPlace 5 = .ok (.aload_n 0, 1) := by decide +kernel
theorem dX1_isPlace_6 : decode cX1_isPlace 6 = .ok (.getfield 39, 3) := by decide +kernel
theorem dX1_isPlace_9 : decode cX1_isPlace 9 = .ok (.if_icmp .ge 7, 3) := by decide +kernel
theorem dX1_isPlace_12 : decode cX1_isPlace 12 = .ok (.iconst 1, 1) := by decide +kernel
theorem dX1_isPlace_13 : decode cX1_isPlace 13 = .ok (.goto 4, 3) := by decide +kernel
theorem dX1_isPlace_16 : decode cX1_isPlace 16 = .ok (.iconst 0, 1) := by decide +kernel
theorem dX1_isPlace_17 : decode cX1_isPlace 17 = .ok (.ireturn, 1) := by decide +kernel
theorem dX1_hasNeighbour_0 : decode cX1_hasNeighbour 0 = .ok (.iload_n 1, 1) := by decide +kernel
theorem dX1_hasNeighbour_1 : decode cX1_hasNeighbour 1 = .ok (.ifCond .lt 17, 3) := by decide +kernel
theorem dX1_hasNeighbour_4 : decode cX1_hasNeighbour 4 = .ok (.iload_n 1, 1) := by decide +kernel
theorem dX1_hasNeighbour_5 : decode cX1_hasNeighbour 5 = .ok (.aload_n 0, 1) := by decide +kernel
theorem dX1_hasNeighbour_6 : decode cX1_hasNeighbour 6 = .ok (.getfield 39, 3) := by decide +kernel
theorem dX1_hasNeighbour_9 : decode cX1_hasNeighbour 9 = .ok (.iconst 1, 1) := by decide +kernel
theorem dX1_hasNeighbour_10 : decode cX1_hasNeighbour 10 = .ok (.isub, 1) := by decide +kernel
theorem dX1_hasNeighbour_11 : decode cX1_hasNeighbour 11 = .ok (.if_icmp .ge 7, 3) := by decide +kernel
theorem dX1_hasNeighbour_14 : decode cX1_hasNeighbour 14 = .ok (.iconst 1, 1) := by decide +kernel
theorem dX1_hasNeighbour_15 : decode cX1_hasNeighbour 15 = .ok (.goto 4, 3) := by decide +kernel
theorem dX1_hasNeighbour_18 : decode cX1_hasNeighbour 18 = .ok (.iconst 0, 1) := by decide +kernel
theorem dX1_hasNeighbour_19 : decode cX1_hasNeighbour 19 = .ok (.ireturn, 1) := by decide +kernel
set_option maxRecDepth 20000 in
theorem ggX1_admit_X3_isWithin : GoodIn wsX1_admit wsX3_isWithin := goodIn_r _ [11] (by decide +kernel) (by decide +kernel)
set_option maxRecDepth 20000 in
theorem gX1_admit_X3_isWithin_n70 : GoodIn wsX1_admit (wsX3_isWithin) := ggX1_admit_X3_isWithin
theorem dX1_admit_0 : decode cX1_admit 0 = .ok (.iload_n 1, 1) := by decide +kernel
theorem dX1_admit_1 : decode cX1_admit 1 = .ok (.bipush 10, 2) := by decide +kernel
theorem dX1_admit_3 : decode cX1_admit 3 = .ok (.sipush 999, 3) := by decide +kernel
theorem dX1_admit_6 : decode cX1_admit 6 = .ok (.invokestatic 70, 3) := by decide +kernel
theorem dX1_admit_9 : decode cX1_admit 9 = .ok (.ifCond .eq 23, 3) := by decide +kernel
theorem dX1_admit_12 : decode cX1_admit 12 = .ok (.iload_n 2, 1) := by decide +kernel
theorem dX1_admit_13 : decode cX1_admit 13 = .ok (.iconst 0, 1) := by decide +kernel
theorem dX1_admit_14 : decode cX1_admit 14 = .ok (.sipush 9999, 3) := by decide +kernel
theorem dX1_admit_17 : decode cX1_admit 17 = .ok (.invokestatic 70, 3) := by decide +kernel
theorem dX1_admit_20 : decode cX1_admit 20 = .ok (.ifCond .eq 12, 3) := by decide +kernel
theorem dX1_admit_23 : decode cX1_admit 23 = .ok (.iload_n 3, 1) := by decide +kernel
theorem dX1_admit_24 : decode cX1_admit 24 = .ok (.iconst 0, 1) := by decide +kernel
theorem dX1_admit_25 : decode cX1_admit 25 = .ok (.iconst 5, 1) := by decide +kernel
theorem dX1_admit_26 : decode cX1_admit 26 = .ok (.invokestatic 70, 3) := by decide +kernel
theorem dX1_admit_29 : decode cX1_admit 29 = .ok (.ifCond .ne 6, 3) := by decide +kernel
theorem dX1_admit_32 : decode cX1_admit 32 = .ok (.bipush (-2), 2) := by decide +kernel
theorem dX1_admit_34 : decode cX1_admit 34 = .ok (.ireturn, 1) := by decide +kernel
theorem dX1_admit_35 : decode cX1_admit 35 = .ok (.aload_n 0, 1) := by decide +kernel
theorem dX1_admit_36 : decode cX1_admit 36 = .ok (.getfield 39, 3) := by decide +kernel
theorem dX1_admit_39 : decode cX1_admit 39 = .ok (.bipush 16, 2) := by decide +kernel
theorem dX1_admit_41 : decode cX1_admit 41 = .ok (.if_icmp .ge 13, 3) := by decide +kernel
theorem dX1_admit_44 : decode cX1_admit 44 = .ok (.aload_n 0, 1) := by decide +kernel
theorem dX1_admit_45 : decode cX1_admit 45 = .ok (.getfield 43, 3) := by decide +kernel
theorem dX1_admit_48 : decode cX1_admit 48 = .ok (.sipush 200, 3) := by decide +kernel
theorem dX1_admit_51 : decode cX1_admit 51 = .ok (.if_icmp .lt 6, 3) := by decide +kernel
theorem dX1_admit_54 : decode cX1_admit 54 = .ok (.bipush (-3), 2) := by decide +kernel
theorem dX1_admit_56 : decode cX1_admit 56 = .ok (.ireturn, 1) := by decide +kernel
theorem dX1_admit_57 : decode cX1_admit 57 = .ok (.aload_n 0, 1) := by decide +kernel
theorem dX1_admit_58 : decode cX1_admit 58 = .ok (.getfield 39, 3) := by decide +kernel
theorem dX1_admit_61 : decode cX1_admit 61 = .ok (.istore 4, 2) := by decide +kernel
theorem dX1_admit_63 : decode cX1_admit 63 = .ok (.aload_n 0, 1) := by decide +kernel
theorem dX1_admit_64 : decode cX1_admit 64 = .ok (.getfield 9, 3) := by decide +kernel
theorem dX1_admit_67 : decode cX1_admit 67 = .ok (.iload 4, 2) := by decide +kernel
theorem dX1_admit_69 : decode cX1_admit 69 = .ok (.aload_n 0, 1) := by decide +kernel
theorem dX1_admit_70 : decode cX1_admit 70 = .ok (.getfield 43, 3) := by decide +kernel
theorem dX1_admit_73 : decode cX1_admit 73 = .ok (.iastore, 1) := by decide +kernel
theorem dX1_admit_74 : decode cX1_admit 74 = .ok (.aload_n 0, 1) := by decide +kernel
theorem dX1_admit_75 : decode cX1_admit 75 = .ok (.getfield 15, 3) := by decide +kernel
theorem dX1_admit_78 : decode cX1_admit 78 = .ok (.iload 4, 2) := by decide +kernel
theorem dX1_admit_80 : decode cX1_admit 80 = .ok (.iconst 0, 1) := by decide +kernel
theorem dX1_admit_81 : decode cX1_admit 81 = .ok (.iastore, 1) := by decide +kernel
theorem dX1_admit_82 : decode cX1_admit 82 = .ok (.aload_n 0, 1) := by decide +kernel
theorem dX1_admit_83 : decode cX1_admit 83 = .ok (.getfield 18, 3) := by decide +kernel
theorem dX1_admit_86 : decode cX1_admit 86 = .ok (.iload 4, 2) := by decide +kernel
theorem dX1_admit_88 : decode cX1_admit 88 = .ok (.iload_n 1, 1) := by decide +kernel
theorem dX1_admit_89 : decode cX1_admit 89 = .ok (.iastore, 1) := by decide +kernel
theorem dX1_admit_90 : decode cX1_admit 90 = .ok (.aload_n 0, 1) := by decide +kernel
theorem dX1_admit_91 : decode cX1_admit 91 = .ok (.getfield 21, 3) := by decide +kernel
theorem dX1_admit_94 : decode cX1_admit 94 = .ok (.iload 4, 2) := by decide +kernel
theorem dX1_admit_96 : decode cX1_admit 96 = .ok (.iload_n 2, 1) := by decide +kernel
theorem dX1_admit_97 : decode cX1_admit 97 = .ok (.iastore, 1) := by decide +kernel
theorem dX1_admit_98 : decode cX1_admit 98 = .ok (.aload_n 0, 1) := by decide +kernel
theorem dX1_admit_99 : decode cX1_admit 99 = .ok (.getfield 24, 3) := by decide +kernel
theorem dX1_admit_102 : decode cX1_admit 102 = .ok (.iload 4, 2) := by decide +kernel
theorem dX1_admit_104 : decode cX1_admit 104 = .ok (.iload_n 3, 1) := by decide +kernel
theorem dX1_admit_105 : decode cX1_admit 105 = .ok (.iastore, 1) := by decide +kernel
theorem dX1_admit_106 : decode cX1_admit 106 = .ok (.aload_n 0, 1) := by decide +kernel
theorem dX1_admit_107 : decode cX1_admit 107 = .ok (.getfield 27, 3) := by decide +kernel
theorem dX1_admit_110 : decode cX1_admit 110 = .ok (.iload 4, 2) := by decide +kernel
theorem dX1_admit_112 : decode cX1_admit 112 = .ok (.iconst 0, 1) := by decide +kernel
theorem dX1_admit_113 : decode cX1_admit 113 = .ok (.iastore, 1) := by decide +kernel
theorem dX1_admit_114 : decode cX1_admit 114 = .ok (.aload_n 0, 1) := by decide +kernel
theorem dX1_admit_115 : decode cX1_admit 115 = .ok (.dup, 1) := by decide +kernel
theorem dX1_admit_116 : decode cX1_admit 116 = .ok (.getfield 39, 3) := by decide +kernel
theorem dX1_admit_119 : decode cX1_admit 119 = .ok (.iconst 1, 1) := by decide +kernel
theorem dX1_admit_120 : decode cX1_admit 120 = .ok (.iadd, 1) := by decide +kernel
theorem dX1_admit_121 : decode cX1_admit 121 = .ok (.putfield 39, 3) := by decide +kernel
theorem dX1_admit_124 : decode cX1_admit 124 = .ok (.aload_n 0, 1) := by decide +kernel
theorem dX1_admit_125 : decode cX1_admit 125 = .ok (.dup, 1) := by decide +kernel
theorem dX1_admit_126 : decode cX1_admit 126 = .ok (.getfield 43, 3) := by decide +kernel
theorem dX1_admit_129 : decode cX1_admit 129 = .ok (.iconst 1, 1) := by decide +kernel
theorem dX1_admit_130 : decode cX1_admit 130 = .ok (.iadd, 1) := by decide +kernel
theorem dX1_admit_131 : decode cX1_admit 131 = .ok (.putfield 43, 3) := by decide +kernel
theorem dX1_admit_134 : decode cX1_admit 134 = .ok (.iload 4, 2) := by decide +kernel
theorem dX1_admit_136 : decode cX1_admit 136 = .ok (.ireturn, 1) := by decide +kernel
set_option maxRecDepth 20000 in
theorem ggX1_dismiss_X1_isPlace : GoodIn wsX1_dismiss wsX1_isPlace := goodIn_r _ [7, 8, 25, 26, 27, 28, 29, 30, 31, 32, 33, 34, 35, 36, 37, 38, 39, 40, 41] (by decide +kernel) (by decide +kernel)
set_option maxRecDepth 20000 in
theorem gX1_dismiss_X1_isPlace : GoodIn wsX1_dismiss (wsV RX1 74 RX1 yX1_isPlace wsX1_isPlace) := goodIn_app (goodIn_of _ (by decide +kernel)) ggX1_dismiss_X1_isPlace
set_option maxRecDepth 20000 in
theorem ggX1_dismiss_X1_remove : GoodIn wsX1_dismiss wsX1_remove := goodIn_r _ [12, 13, 1, 14, 15, 16, 17, 8, 18, 19, 6, 20, 21, 22, 23, 24, 25, 26, 27, 28, 29, 30, 31, 32, 33, 34, 35, 36, 37, 38, 39, 40, 41] (by decide +kernel) (by decide +kernel)
set_option maxRecDepth 20000 in
theorem gX1_dismiss_X1_remove : GoodIn wsX1_dismiss (wsV RX1 78 RX1 yX1_remove wsX1_remove) := goodIn_app (goodIn_of _ (by decide +kernel)) ggX1_dismiss_X1_remove
theorem dX1_dismiss_0 : decode cX1_dismiss 0 = .ok (.aload_n 0, 1) := by decide +kernel
theorem dX1_dismiss_1 : decode cX1_dismiss 1 = .ok (.iload_n 1, 1) := by decide +kernel
theorem dX1_dismiss_2 : decode cX1_dismiss 2 = .ok (.invokevirtual 74, 3) := by decide +kernel
theorem dX1_dismiss_5 : decode cX1_dismiss 5 = .ok (.ifCond .ne 5, 3) := by decide +kernel
theorem dX1_dismiss_8 : decode cX1_dismiss 8 = .ok (.iconst (-1), 1) := by decide +kernel
theorem dX1_dismiss_9 : decode cX1_dismiss 9 = .ok (.ireturn, 1) := by decide +kernel
theorem dX1_dismiss_10 : decode cX1_dismiss 10 = .ok (.aload_n 0, 1) := by decide +kernel
theorem dX1_dismiss_11 : decode cX1_dismiss 11 = .ok (.getfield 15, 3) := by decide +kernel
theorem dX1_dismiss_14 : decode cX1_dismiss 14 = .ok (.iload_n 1, 1) := by decide +kernel
theorem dX1_dismiss_15 : decode cX1_dismiss 15 = .ok (.iaload, 1) := by decide +kernel
theorem dX1_dismiss_16 : decode cX1_dismiss 16 = .ok (.istore_n 2, 1) := by decide +kernel
theorem dX1_dismiss_17 : decode cX1_dismiss 17 = .ok (.aload_n 0, 1) := by decide +kernel
theorem dX1_dismiss_18 : decode cX1_dismiss 18 = .ok (.iload_n 1, 1) := by decide +kernel
theorem dX1_dismiss_19 : decode cX1_dismiss 19 = .ok (.invokevirtual 78, 3) := by decide +kernel
theorem dX1_dismiss_22 : decode cX1_dismiss 22 = .ok (.aload_n 0, 1) := by decide +kernel
theorem dX1_dismiss_23 : decode cX1_dismiss 23 = .ok (.dup, 1) := by decide +kernel
theorem dX1_dismiss_24 : decode cX1_dismiss 24 = .ok (.getfield 46, 3) := by decide +kernel
theorem dX1_dismiss_27 : decode cX1_dismiss 27 = .ok (.iconst 1, 1) := by decide +kernel
theorem dX1_dismiss_28 : decode cX1_dismiss 28 = .ok (.iadd, 1) := by decide +kernel
theorem dX1_dismiss_29 : decode cX1_dismiss 29 = .ok (.putfield 46, 3) := by decide +kernel
theorem dX1_dismiss_32 : decode cX1_dismiss 32 = .ok (.iload_n 2, 1) := by decide +kernel
theorem dX1_dismiss_33 : decode cX1_dismiss 33 = .ok (.ireturn, 1) := by decide +kernel
set_option maxRecDepth 20000 in
theorem ggX1_changePlaces_X1_hasNeighbour : GoodIn wsX1_changePlaces wsX1_hasNeighbour := goodIn_r _ [11, 12, 16, 17, 18, 19, 20, 21, 22, 23, 24, 25, 26, 27, 28, 29, 30, 31, 32] (by decide +kernel) (by decide +kernel)
set_option maxRecDepth 20000 in
theorem gX1_changePlaces_X1_hasNeighbour : GoodIn wsX1_changePlaces (wsV RX1 82 RX1 yX1_hasNeighbour wsX1_hasNeighbour) := goodIn_app (goodIn_of _ (by decide +kernel)) ggX1_changePlaces_X1_hasNeighbour
set_option maxRecDepth 20000 in
theorem ggX1_changePlaces_X1_exchange : GoodIn wsX1_changePlaces wsX1_exchange := goodIn_r _ [15] (by decide +kernel) (by decide +kernel)
set_option maxRecDepth 20000 in
theorem gX1_changePlaces_X1_exchange : GoodIn wsX1_changePlaces (va_wsS RX1 85 yX1_exchange wsX1_exchange) := goodIn_app (goodIn_of _ (by decide +kernel)) ggX1_changePlaces_X1_exchange
theorem dX1_changePlaces_0 : decode cX1_changePlaces 0 = .ok (.aload_n 0, 1) := by decide +kernel
theorem dX1_changePlaces_1 : decode cX1_changePlaces 1 = .ok (.iload_n 1, 1) := by decide +kernel
theorem dX1_changePlaces_2 : decode cX1_changePlaces 2 = .ok (.invokevirtual 82, 3) := by decide +kernel
theorem dX1_changePlaces_5 : decode cX1_changePlaces 5 = .ok (.ifCond .ne 5, 3) := by decide +kernel
theorem dX1_changePlaces_8 : decode cX1_changePlaces 8 = .ok (.iconst (-1), 1) := by decide +kernel
theorem dX1_changePlaces_9 : decode cX1_changePlaces 9 = .ok (.ireturn, 1) := by decide +kernel
theorem dX1_changePlaces_10 : decode cX1_changePlaces 10 = .ok (.aload_n 0, 1) := by decide +kernel
theorem dX1_changePlaces_11 : decode cX1_changePlaces 11 = .ok (.getfield 9, 3) := by decide +kernel
theorem dX1_changePlaces_14 : decode cX1_changePlaces 14 = .ok (.iload_n 1, 1) := by decide +kernel
theorem dX1_changePlaces_15 : decode cX1_changePlaces 15 = .ok (.invokestatic 85, 3) := by decide +kernel
theorem dX1_changePlaces_18 : decode cX1_changePlaces 18 = .ok (.aload_n 0, 1) := by decide +kernel
theorem dX1_changePlaces_19 : decode cX1_changePlaces 19 = .ok (.getfield 15, 3) := by decide +kernel
theorem dX1_changePlaces_22 : decode cX1_changePlaces 22 = .ok (.iload_n 1, 1) := by decide +kernel
theorem dX1_changePlaces_23 : decode cX1_changePlaces 23 = .ok (.invokestatic 85, 3) := by decide +kernel
theorem dX1_changePlaces_26 : decode cX1_changePlaces 26 = .ok (.aload_n 0, 1) := by decide +kernel
theorem dX1_changePlaces_27 : decode cX1_changePlaces 27 = .ok (.getfield 18, 3) := by decide +kernel
theorem dX1_changePlaces_30 : decode cX1_changePlaces 30 = .ok (.iload_n 1, 1) := by decide +kernel
theorem dX1_changePlaces_31 : decode cX1_changePlaces 31 = .ok (.invokestatic 85, 3) := by decide +kernel
theorem dX1_changePlaces_34 : decode cX1_changePlaces 34 = .ok (.aload_n 0, 1) := by decide +kernel
theorem dX1_changePlaces_35 : decode cX1_changePlaces 35 = .ok (.getfield 21, 3) := by decide +kernel
theorem dX1_changePlaces_38 : decode cX1_changePlaces 38 = .ok (.iload_n 1, 1) := by decide +kernel
theorem dX1_changePlaces_39 : decode cX1_changePlaces 39 = .ok (.invokestatic 85, 3) := by decide +kernel
theorem dX1_changePlaces_42 : decode cX1_changePlaces 42 = .ok (.aload_n 0, 1) := by decide +kernel
theorem dX1_changePlaces_43 : decode cX1_changePlaces 43 = .ok (.getfield 24, 3) := by decide +kernel
theorem dX1_changePlaces_46 : decode cX1_changePlaces 46 = .ok (.iload_n 1, 1) := by decide +kernel
theorem dX1_changePlaces_47 : decode cX1_changePlaces 47 = .ok (.invokestatic 85, 3) := by decide +kernel
theorem dX1_changePlaces_50 : decode cX1_changePlaces 50 = .ok (.aload_n 0, 1) := by decide +kernel
theorem dX1_changePlaces_51 : decode cX1_changePlaces 51 = .ok (.getfield 27, 3) := by decide +kernel
theorem dX1_changePlaces_54 : decode cX1_changePlaces 54 = .ok (.iload_n 1, 1) := by decide +kernel
theorem dX1_changePlaces_55 : decode cX1_changePlaces 55 = .ok (.invokestatic 85, 3) := by decide +kernel
theorem dX1_changePlaces_58 : decode cX1_changePlaces 58 = .ok (.aload_n 0, 1) := by decide +kernel
theorem dX1_changePlaces_59 : decode cX1_changePlaces 59 = .ok (.getfield 9, 3) := by decide +kernel
theorem dX1_changePlaces_62 : decode cX1_changePlaces 62 = .ok (.iload_n 1, 1) := by decide +kernel
theorem dX1_changePlaces_63 : decode cX1_changePlaces 63 = .ok (.iaload, 1) := by decide +kernel
theorem dX1_changePlaces_64 : decode cX1_changePlaces 64 = .ok (.ireturn, 1) := by decide +kernel
set_option maxRecDepth 20000 in
theorem ggX1_swapUmbrellas_X1_hasNeighbour : GoodIn wsX1_swapUmbrellas wsX1_hasNeighbour := goodIn_r _ [8, 9, 18, 19, 20, 21, 22, 23, 24, 25, 26, 27, 28, 29, 30, 31, 32, 33, 34] (by decide +kernel) (by decide +kernel)
set_option maxRecDepth 20000 in
theorem gX1_swapUmbrellas_X1_hasNeighbour : GoodIn wsX1_swapUmbrellas (wsV RX1 82 RX1 yX1_hasNeighbour wsX1_hasNeighbour) := goodIn_app (goodIn_of _ (by decide +kernel)) ggX1_swapUmbrellas_X1_hasNeighbour
set_option maxRecDepth 20000 in
theorem ggX1_swapUmbrellas_X1_refusal : GoodIn wsX1_swapUmbrellas wsX1_refusal := goodIn_r _ [13, 1, 14, 18, 19, 20, 21, 22, 23, 24, 25, 26, 27, 28, 29, 30, 31, 32, 33, 34] (by decide +kernel) (by decide +kernel)
set_option maxRecDepth 20000 in
theorem gX1_swapUmbrellas_X1_refusal : GoodIn wsX1_swapUmbrellas (wsV RX1 89 RX1 yX1_refusal wsX1_refusal) := goodIn_app (goodIn_of _ (by decide +kernel)) ggX1_swapUmbrellas_X1_refusal
set_option maxRecDepth 20000 in
theorem ggX1_swapUmbrellas_X1_exchange : GoodIn wsX1_swapUmbrellas wsX1_exchange := goodIn_r _ [17] (by decide +kernel) (by decide +kernel)
set_option maxRecDepth 20000 in
theorem gX1_swapUmbrellas_X1_exchange : GoodIn wsX1_swapUmbrellas (va_wsS RX1 85 yX1_exchange wsX1_exchange) := goodIn_app (goodIn_of _ (by decide +kernel)) ggX1_swapUmbrellas_X1_exchange
theorem dX1_swapUmbrellas_0 : decode cX1_swapUmbrellas 0 = .ok (.aload_n 0, 1) := by decide +kernel
theorem dX1_swapUmbrellas_1 : decode cX1_swapUmbrellas 1 = .ok (.iload_n 1, 1) := by decide +kernel
theorem dX1_swapUmbrellas_2 : decode cX1_swapUmbrellas 2 = .ok (.invokevirtual 82, 3) := by decide +kernel
theorem dX1_swapUmbrellas_5 : decode cX1_swapUmbrellas 5 = .ok (.ifCond .ne 5, 3) := by decide +kernel
theorem dX1_swapUmbrellas_8 : decode cX1_swapUmbrellas 8 = .ok (.iconst (-1), 1) := by decide +kernel
theorem dX1_swapUmbrellas_9 : decode cX1_swapUmbrellas 9 = .ok (.ireturn, 1) := by decide +kernel
theorem dX1_swapUmbrellas_10 : decode cX1_swapUmbrellas 10 = .ok (.aload_n 0, 1) := by decide +kernel
theorem dX1_swapUmbrellas_11 : decode cX1_swapUmbrellas 11 = .ok (.iload_n 1, 1) := by decide +kernel
theorem dX1_swapUmbrellas_12 : decode cX1_swapUmbrellas 12 = .ok (.invokevirtual 89, 3) := by decide +kernel
theorem dX1_swapUmbrellas_15 : decode cX1_swapUmbrellas 15 = .ok (.istore_n 2, 1) := by decide +kernel
theorem dX1_swapUmbrellas_16 : decode cX1_swapUmbrellas 16 = .ok (.iload_n 2, 1) := by decide +kernel
theorem dX1_swapUmbrellas_17 : decode cX1_swapUmbrellas 17 = .ok (.ifCond .eq 8, 3) := by decide +kernel
theorem dX1_swapUmbrellas_20 : decode cX1_swapUmbrellas 20 = .ok (.bipush (-10), 2) := by decide +kernel
theorem dX1_swapUmbrellas_22 : decode cX1_swapUmbrellas 22 = .ok (.iload_n 2, 1) := by decide +kernel
theorem dX1_swapUmbrellas_23 : decode cX1_swapUmbrellas 23 = .ok (.isub, 1) := by decide +kernel
theorem dX1_swapUmbrellas_24 : decode cX1_swapUmbrellas 24 = .ok (.ireturn, 1) := by decide +kernel
theorem dX1_swapUmbrellas_25 : decode cX1_swapUmbrellas 25 = .ok (.aload_n 0, 1) := by decide +kernel
theorem dX1_swapUmbrellas_26 : decode cX1_swapUmbrellas 26 = .ok (.getfield 24, 3) := by decide +kernel
theorem dX1_swapUmbrellas_29 : decode cX1_swapUmbrellas 29 = .ok (.iload_n 1, 1) := by decide +kernel
theorem dX1_swapUmbrellas_30 : decode cX1_swapUmbrellas 30 = .ok (.invokestatic 85, 3) := by decide +kernel
theorem dX1_swapUmbrellas_33 : decode cX1_swapUmbrellas 33 = .ok (.aload_n 0, 1) := by decide +kernel
theorem dX1_swapUmbrellas_34 : decode cX1_swapUmbrellas 34 = .ok (.getfield 27, 3) := by decide +kernel
theorem dX1_swapUmbrellas_37 : decode cX1_swapUmbrellas 37 = .ok (.iload_n 1, 1) := by decide +kernel
theorem dX1_swapUmbrellas_38 : decode cX1_swapUmbrellas 38 = .ok (.dup2, 1) := by decide +kernel
theorem dX1_swapUmbrellas_39 : decode cX1_swapUmbrellas 39 = .ok (.iaload, 1) := by decide +kernel
theorem dX1_swapUmbrellas_40 : decode cX1_swapUmbrellas 40 = .ok (.iconst 1, 1) := by decide +kernel
theorem dX1_swapUmbrellas_41 : decode cX1_swapUmbrellas 41 = .ok (.iadd, 1) := by decide +kernel
theorem dX1_swapUmbrellas_42 : decode cX1_swapUmbrellas 42 = .ok (.iastore, 1) := by decide +kernel
theorem dX1_swapUmbrellas_43 : decode cX1_swapUmbrellas 43 = .ok (.aload_n 0, 1) := by decide +kernel
theorem dX1_swapUmbrellas_44 : decode cX1_swapUmbrellas 44 = .ok (.getfield 27, 3) := by decide +kernel
theorem dX1_swapUmbrellas_47 : decode cX1_swapUmbrellas 47 = .ok (.iload_n 1, 1) := by decide +kernel
theorem dX1_swapUmbrellas_48 : decode cX1_swapUmbrellas 48 = .ok (.iconst 1, 1) := by decide +kernel
theorem dX1_swapUmbrellas_49 : decode cX1_swapUmbrellas 49 = .ok (.iadd, 1) := by decide +kernel
theorem dX1_swapUmbrellas_50 : decode cX1_swapUmbrellas 50 = .ok (.dup2, 1) := by decide +kernel
theorem dX1_swapUmbrellas_51 : decode cX1_swapUmbrellas 51 = .ok (.iaload, 1) := by decide +kernel
theorem dX1_swapUmbrellas_52 : decode cX1_swapUmbrellas 52 = .ok (.iconst 1, 1) := by decide +kernel
theorem dX1_swapUmbrellas_53 : decode cX1_swapUmbrellas 53 = .ok (.iadd, 1) := by decide +kernel
theorem dX1_swapUmbrellas_54 : decode cX1_swapUmbrellas 54 = .ok (.iastore, 1) := by decide +kernel
theorem dX1_swapUmbrellas_55 : decode cX1_swapUmbrellas 55 = .ok (.aload_n 0, 1) := by decide +kernel
theorem dX1_swapUmbrellas_56 : decode cX1_swapUmbrellas 56 = .ok (.dup, 1) := by decide +kernel
theorem dX1_swapUmbrellas_57 : decode cX1_swapUmbrellas 57 = .ok (.getfield 61, 3) := by decide +kernel
theorem dX1_swapUmbrellas_60 : decode cX1_swapUmbrellas 60 = .ok (.iconst 1, 1) := by decide +kernel
theorem dX1_swapUmbrellas_61 : decode cX1_swapUmbrellas 61 = .ok (.iadd, 1) := by decide +kernel
theorem dX1_swapUmbrellas_62 : decode cX1_swapUmbrellas 62 = .ok (.putfield 61, 3) := by decide +kernel
theorem dX1_swapUmbrellas_65 : decode cX1_swapUmbrellas 65 = .ok (.aload_n 0, 1) := by decide +kernel
theorem dX1_swapUmbrellas_66 : decode cX1_swapUmbrellas 66 = .ok (.getfield 24, 3) := by decide +kernel
theorem dX1_swapUmbrellas_69 : decode cX1_swapUmbrellas 69 = .ok (.iload_n 1, 1) := by decide +kernel
theorem dX1_swapUmbrellas_70 : decode cX1_swapUmbrellas 70 = .ok (.iaload, 1) := by decide +kernel
theorem dX1_swapUmbrellas_71 : decode cX1_swapUmbrellas 71 = .ok (.ireturn, 1) := by decide +kernel
set_option maxRecDepth 20000 in
theorem ggX1_changeSetting_X3_isWithin : GoodIn wsX1_changeSetting wsX3_isWithin := goodIn_r _ [4] (by decide +kernel) (by decide +kernel)
set_option maxRecDepth 20000 in
theorem gX1_changeSetting_X3_isWithin_n70 : GoodIn wsX1_changeSetting (wsX3_isWithin) := ggX1_changeSetting_X3_isWithin
theorem dX1_changeSetting_0 : decode cX1_changeSetting 0 = .ok (.iload_n 1, 1) := by decide +kernel
theorem dX1_changeSetting_1 : decode cX1_changeSetting 1 = .ok (.iconst 0, 1) := by decide +kernel
theorem dX1_changeSetting_2 : decode cX1_changeSetting 2 = .ok (.iconst 2, 1) := by decide +kernel
theorem dX1_changeSetting_3 : decode cX1_changeSetting 3 = .ok (.invokestatic 70, 3) := by decide +kernel
theorem dX1_changeSetting_6 : decode cX1_changeSetting 6 = .ok (.ifCond .ne 5, 3) := by decide +kernel
theorem dX1_changeSetting_9 : decode cX1_changeSetting 9 = .ok (.iconst (-1), 1) := by decide +kernel
theorem dX1_changeSetting_10 : decode cX1_changeSetting 10 = .ok (.ireturn, 1) := by decide +kernel
theorem dX1_changeSetting_11 : decode cX1_changeSetting 11 = .ok (.iload_n 2, 1) := by decide +kernel
theorem dX1_changeSetting_12 : decode cX1_changeSetting 12 = .ok (.getstatic 93, 3) := by decide +kernel
theorem dX1_changeSetting_15 : decode cX1_changeSetting 15 = .ok (.iload_n 1, 1) := by decide +kernel
theorem dX1_changeSetting_16 : decode cX1_changeSetting 16 = .ok (.iaload, 1) := by decide +kernel
theorem dX1_changeSetting_17 : decode cX1_changeSetting 17 = .ok (.getstatic 96, 3) := by decide +kernel
theorem dX1_changeSetting_20 : decode cX1_changeSetting 20 = .ok (.iload_n 1, 1) := by decide +kernel
theorem dX1_changeSetting_21 : decode cX1_changeSetting 21 = .ok (.iaload, 1) := by decide +kernel
theorem dX1_changeSetting_22 : decode cX1_changeSetting 22 = .ok (.invokestatic 70, 3) := by decide +kernel
theorem dX1_changeSetting_25 : decode cX1_changeSetting 25 = .ok (.ifCond .ne 6, 3) := by decide +kernel
theorem dX1_changeSetting_28 : decode cX1_changeSetting 28 = .ok (.bipush (-2), 2) := by decide +kernel
theorem dX1_changeSetting_30 : decode cX1_changeSetting 30 = .ok (.ireturn, 1) := by decide +kernel
theorem dX1_changeSetting_31 : decode cX1_changeSetting 31 = .ok (.aload_n 0, 1) := by decide +kernel
theorem dX1_changeSetting_32 : decode cX1_changeSetting 32 = .ok (.getfield 30, 3) := by decide +kernel
theorem dX1_changeSetting_35 : decode cX1_changeSetting 35 = .ok (.iload_n 1, 1) := by decide +kernel
theorem dX1_changeSetting_36 : decode cX1_changeSetting 36 = .ok (.iaload, 1) := by decide +kernel
theorem dX1_changeSetting_37 : decode cX1_changeSetting 37 = .ok (.istore_n 3, 1) := by decide +kernel
theorem dX1_changeSetting_38 : decode cX1_changeSetting 38 = .ok (.iload_n 3, 1) := by decide +kernel
theorem dX1_changeSetting_39 : decode cX1_changeSetting 39 = .ok (.iload_n 2, 1) := by decide +kernel
theorem dX1_changeSetting_40 : decode cX1_changeSetting 40 = .ok (.if_icmp .ne 6, 3) := by decide +kernel
theorem dX1_changeSetting_43 : decode cX1_changeSetting 43 = .ok (.bipush (-5), 2) := by decide +kernel
theorem dX1_changeSetting_45 : decode cX1_changeSetting 45 = .ok (.ireturn, 1) := by decide +kernel
theorem dX1_changeSetting_46 : decode cX1_changeSetting 46 = .ok (.aload_n 0, 1) := by decide +kernel
theorem dX1_changeSetting_47 : decode cX1_changeSetting 47 = .ok (.getfield 30, 3) := by decide +kernel
theorem dX1_changeSetting_50 : decode cX1_changeSetting 50 = .ok (.iload_n 1, 1) := by decide +kernel
theorem dX1_changeSetting_51 : decode cX1_changeSetting 51 = .ok (.iload_n 2, 1) := by decide +kernel
theorem dX1_changeSetting_52 : decode cX1_changeSetting 52 = .ok (.iastore, 1) := by decide +kernel
theorem dX1_changeSetting_53 : decode cX1_changeSetting 53 = .ok (.iload_n 3, 1) := by decide +kernel
theorem dX1_changeSetting_54 : decode cX1_changeSetting 54 = .ok (.ireturn, 1) := by decide +kernel
set_option maxRecDepth 20000 in
theorem ggX1_rain_X3_isGust : GoodIn wsX1_rain wsX3_isGust := goodIn_r _ [6, 7, 8, 5, 9] (by decide +kernel) (by decide +kernel)
set_option maxRecDepth 20000 in
theorem gX1_rain_X3_isGust_n99 : GoodIn wsX1_rain (wsX3_isGust) := ggX1_rain_X3_isGust
set_option maxRecDepth 20000 in
theorem ggX1_rain_X1_wetnessAfter : GoodIn wsX1_rain wsX1_wetnessAfter := goodIn_r _ [14, 2, 15, 16, 17, 18, 19, 20, 21, 13, 22, 23, 24, 25, 26, 1, 27, 28, 29, 30, 31, 32, 33, 34, 35, 36, 37, 38, 39, 40, 41, 42, 63, 64, 65, 66, 67, 68, 69, 70, 71, 72, 73, 74, 75, 76, 77, 78, 79] (by decide +kernel) (by decide +kernel)
set_option maxRecDepth 20000 in
theorem gX1_rain_X1_wetnessAfter : GoodIn wsX1_rain (wsV RX1 103 RX1 yX1_wetnessAfter wsX1_wetnessAfter) := goodIn_app (goodIn_of _ (by decide +kernel)) ggX1_rain_X1_wetnessAfter
set_option maxRecDepth 20000 in
theorem ggX1_rain_X1_removeSoaked : GoodIn wsX1_rain wsX1_removeSoaked := goodIn_r _ [46, 1, 2, 47, 48, 49, 50, 51, 13, 52, 53, 54, 27, 55, 56, 57, 58, 59, 60, 61, 62, 63, 64, 65, 66, 67, 68, 69, 70, 71, 72, 73, 74, 75, 76, 77, 78, 79] (by decide +kernel) (by decide +kernel)
set_option maxRecDepth 20000 in
theorem gX1_rain_X1_removeSoaked : GoodIn wsX1_rain (wsV RX1 107 RX1 yX1_removeSoaked wsX1_removeSoaked) := goodIn_app (goodIn_of _ (by decide +kernel)) ggX1_rain_X1_removeSoaked
theorem dX1_rain_0 : decode cX1_rain 0 = .ok (.iload_n 1, 1) := by decide +kernel
theorem dX1_rain_1 : decode cX1_rain 1 = .ok (.iload_n 2, 1) := by decide +kernel
theorem dX1_rain_2 : decode cX1_rain 2 = .ok (.invokestatic 99, 3) := by decide +kernel
theorem dX1_rain_5 : decode cX1_rain 5 = .ok (.ifCond .ne 6, 3) := by decide +kernel
theorem dX1_rain_8 : decode cX1_rain 8 = .ok (.bipush (-2), 2) := by decide +kernel
theorem dX1_rain_10 : decode cX1_rain 10 = .ok (.ireturn, 1) := by decide +kernel
theorem dX1_rain_11 : decode cX1_rain 11 = .ok (.aload_n 0, 1) := by decide +kernel
theorem dX1_rain_12 : decode cX1_rain 12 = .ok (.getfield 39, 3) := by decide +kernel
theorem dX1_rain_15 : decode cX1_rain 15 = .ok (.ifCond .ne 6, 3) := by decide +kernel
theorem dX1_rain_18 : decode cX1_rain 18 = .ok (.bipush (-5), 2) := by decide +kernel
theorem dX1_rain_20 : decode cX1_rain 20 = .ok (.ireturn, 1) := by decide +kernel
theorem dX1_rain_21 : decode cX1_rain 21 = .ok (.iconst 0, 1) := by decide +kernel
theorem dX1_rain_22 : decode cX1_rain 22 = .ok (.istore_n 3, 1) := by decide +kernel
theorem dX1_rain_23 : decode cX1_rain 23 = .ok (.iload_n 3, 1) := by decide +kernel
theorem dX1_rain_24 : decode cX1_rain 24 = .ok (.aload_n 0, 1) := by decide +kernel
theorem dX1_rain_25 : decode cX1_rain 25 = .ok (.getfield 39, 3) := by decide +kernel
theorem dX1_rain_28 : decode cX1_rain 28 = .ok (.if_icmp .ge 22, 3) := by decide +kernel
theorem dX1_rain_31 : decode cX1_rain 31 = .ok (.aload_n 0, 1) := by decide +kernel
theorem dX1_rain_32 : decode cX1_rain 32 = .ok (.getfield 15, 3) := by decide +kernel
theorem dX1_rain_35 : decode cX1_rain 35 = .ok (.iload_n 3, 1) := by decide +kernel
theorem dX1_rain_36 : decode cX1_rain 36 = .ok (.aload_n 0, 1) := by decide +kernel
theorem dX1_rain_37 : decode cX1_rain 37 = .ok (.iload_n 3, 1) := by decide +kernel
theorem dX1_rain_38 : decode cX1_rain 38 = .ok (.iload_n 1, 1) := by decide +kernel
theorem dX1_rain_39 : decode cX1_rain 39 = .ok (.iload_n 2, 1) := by decide +kernel
theorem dX1_rain_40 : decode cX1_rain 40 = .ok (.invokevirtual 103, 3) := by decide +kernel
theorem dX1_rain_43 : decode cX1_rain 43 = .ok (.iastore, 1) := by decide +kernel
theorem dX1_rain_44 : decode cX1_rain 44 = .ok (.iinc 3 1, 3) := by decide +kernel
theorem dX1_rain_47 : decode cX1_rain 47 = .ok (.goto (-24), 3) := by decide +kernel
theorem dX1_rain_50 : decode cX1_rain 50 = .ok (.aload_n 0, 1) := by decide +kernel
theorem dX1_rain_51 : decode cX1_rain 51 = .ok (.dup, 1) := by decide +kernel
theorem dX1_rain_52 : decode cX1_rain 52 = .ok (.getfield 64, 3) := by decide +kernel
theorem dX1_rain_55 : decode cX1_rain 55 = .ok (.iconst 1, 1) := by decide +kernel
theorem dX1_rain_56 : decode cX1_rain 56 = .ok (.iadd, 1) := by decide +kernel
theorem dX1_rain_57 : decode cX1_rain 57 = .ok (.putfield 64, 3) := by decide +kernel
theorem dX1_rain_60 : decode cX1_rain 60 = .ok (.aload_n 0, 1) := by decide +kernel
theorem dX1_rain_61 : decode cX1_rain 61 = .ok (.invokevirtual 107, 3) := by decide +kernel
theorem dX1_rain_64 : decode cX1_rain 64 = .ok (.ireturn, 1) := by decide +kernel
set_option maxRecDepth 20000 in
theorem ggX1_dry_X3_isWithin : GoodIn wsX1_dry wsX3_isWithin := goodIn_r _ [12] (by decide +kernel) (by decide +kernel)
set_option maxRecDepth 20000 in
theorem gX1_dry_X3_isWithin_n70 : GoodIn wsX1_dry (wsX3_isWithin) := ggX1_dry_X3_isWithin
theorem dX1_dry_0 : decode cX1_dry 0 = .ok (.iload_n 1, 1) := by decide +kernel
theorem dX1_dry_1 : decode cX1_dry 1 = .ok (.iconst 1, 1) := by decide +kernel
theorem dX1_dry_2 : decode cX1_dry 2 = .ok (.bipush 99, 2) := by decide +kernel
theorem dX1_dry_4 : decode cX1_dry 4 = .ok (.invokestatic 70, 3) := by decide +kernel
theorem dX1_dry_7 : decode cX1_dry 7 = .ok (.ifCond .ne 6, 3) := by decide +kernel
theorem dX1_dry_10 : decode cX1_dry 10 = .ok (.bipush (-2), 2) := by decide +kernel
theorem dX1_dry_12 : decode cX1_dry 12 = .ok (.ireturn, 1) := by decide +kernel
theorem dX1_dry_13 : decode cX1_dry 13 = .ok (.aload_n 0, 1) := by decide +kernel
theorem dX1_dry_14 : decode cX1_dry 14 = .ok (.getfield 67, 3) := by decide +kernel
theorem dX1_dry_17 : decode cX1_dry 17 = .ok (.iload_n 1, 1) := by decide +kernel
theorem dX1_dry_18 : decode cX1_dry 18 = .ok (.iadd, 1) := by decide +kernel
theorem dX1_dry_19 : decode cX1_dry 19 = .ok (.ldc 111, 2) := by decide +kernel
theorem dX1_dry_21 : decode cX1_dry 21 = .ok (.if_icmp .le 6, 3) := by decide +kernel
theorem dX1_dry_24 : decode cX1_dry 24 = .ok (.bipush (-3), 2) := by decide +kernel
theorem dX1_dry_26 : decode cX1_dry 26 = .ok (.ireturn, 1) := by decide +kernel
theorem dX1_dry_27 : decode cX1_dry 27 = .ok (.aload_n 0, 1) := by decide +kernel
theorem dX1_dry_28 : decode cX1_dry 28 = .ok (.dup, 1) := by decide +kernel
theorem dX1_dry_29 : decode cX1_dry 29 = .ok (.getfield 67, 3) := by decide +kernel
theorem dX1_dry_32 : decode cX1_dry 32 = .ok (.iload_n 1, 1) := by decide +kernel
theorem dX1_dry_33 : decode cX1_dry 33 = .ok (.iadd, 1) := by decide +kernel
theorem dX1_dry_34 : decode cX1_dry 34 = .ok (.putfield 67, 3) := by decide +kernel
theorem dX1_dry_37 : decode cX1_dry 37 = .ok (.iconst 0, 1) := by decide +kernel
theorem dX1_dry_38 : decode cX1_dry 38 = .ok (.istore_n 2, 1) := by decide +kernel
theorem dX1_dry_39 : decode cX1_dry 39 = .ok (.iconst 0, 1) := by decide +kernel
theorem dX1_dry_40 : decode cX1_dry 40 = .ok (.istore_n 3, 1) := by decide +kernel
theorem dX1_dry_41 : decode cX1_dry 41 = .ok (.iload_n 3, 1) := by decide +kernel
theorem dX1_dry_42 : decode cX1_dry 42 = .ok (.aload_n 0, 1) := by decide +kernel
theorem dX1_dry_43 : decode cX1_dry 43 = .ok (.getfield 39, 3) := by decide +kernel
theorem dX1_dry_46 : decode cX1_dry 46 = .ok (.if_icmp .ge 46, 3) := by decide +kernel
theorem dX1_dry_49 : decode cX1_dry 49 = .ok (.aload_n 0, 1) := by decide +kernel
theorem dX1_dry_50 : decode cX1_dry 50 = .ok (.getfield 15, 3) := by decide +kernel
theorem dX1_dry_53 : decode cX1_dry 53 = .ok (.iload_n 3, 1) := by decide +kernel
theorem dX1_dry_54 : decode cX1_dry 54 = .ok (.iconst 0, 1) := by decide +kernel
theorem dX1_dry_55 : decode cX1_dry 55 = .ok (.aload_n 0, 1) := by decide +kernel
theorem dX1_dry_56 : decode cX1_dry 56 = .ok (.getfield 15, 3) := by decide +kernel
theorem dX1_dry_59 : decode cX1_dry 59 = .ok (.iload_n 3, 1) := by decide +kernel
theorem dX1_dry_60 : decode cX1_dry 60 = .ok (.iaload, 1) := by decide +kernel
theorem dX1_dry_61 : decode cX1_dry 61 = .ok (.iload_n 1, 1) := by decide +kernel
theorem dX1_dry_62 : decode cX1_dry 62 = .ok (.aload_n 0, 1) := by decide +kernel
theorem dX1_dry_63 : decode cX1_dry 63 = .ok (.getfield 30, 3) := by decide +kernel
theorem dX1_dry_66 : decode cX1_dry 66 = .ok (.iconst 0, 1) := by decide +kernel
theorem dX1_dry_67 : decode cX1_dry 67 = .ok (.iaload, 1) := by decide +kernel
theorem dX1_dry_68 : decode cX1_dry 68 = .ok (.imul, 1) := by decide +kernel
theorem dX1_dry_69 : decode cX1_dry 69 = .ok (.isub, 1) := by decide +kernel
theorem dX1_dry_70 : decode cX1_dry 70 = .ok (.invokestatic 112, 3) := by decide +kernel
theorem dX1_dry_73 : decode cX1_dry 73 = .ok (.iastore, 1) := by decide +kernel
theorem dX1_dry_74 : decode cX1_dry 74 = .ok (.aload_n 0, 1) := by decide +kernel
theorem dX1_dry_75 : decode cX1_dry 75 = .ok (.getfield 15, 3) := by decide +kernel
theorem dX1_dry_78 : decode cX1_dry 78 = .ok (.iload_n 3, 1) := by decide +kernel
theorem dX1_dry_79 : decode cX1_dry 79 = .ok (.iaload, 1) := by decide +kernel
theorem dX1_dry_80 : decode cX1_dry 80 = .ok (.ifCond .ne 6, 3) := by decide +kernel
theorem dX1_dry_83 : decode cX1_dry 83 = .ok (.iinc 2 1, 3) := by decide +kernel
theorem dX1_dry_86 : decode cX1_dry 86 = .ok (.iinc 3 1, 3) := by decide +kernel
theorem dX1_dry_89 : decode cX1_dry 89 = .ok (.goto (-48), 3) := by decide +kernel
theorem dX1_dry_92 : decode cX1_dry 92 = .ok (.iload_n 2, 1) := by decide +kernel
theorem dX1_dry_93 : decode cX1_dry 93 = .ok (.ireturn, 1) := by decide +kernel
set_option maxRecDepth 20000 in
theorem ggX1_serveFirst_X1_peopleToServe : GoodIn wsX1_serveFirst wsX1_peopleToServe := goodIn_r _ [9, 1, 10, 11, 12, 13, 14, 44, 45, 46, 47, 48, 49, 50, 51, 52, 53, 54, 55, 56, 57, 58, 59, 60] (by decide +kernel) (by decide +kernel)
set_option maxRecDepth 20000 in
theorem gX1_serveFirst_X1_peopleToServe : GoodIn wsX1_serveFirst (wsV RX1 118 RX1 yX1_peopleToServe wsX1_peopleToServe) := goodIn_app (goodIn_of _ (by decide +kernel)) ggX1_serveFirst_X1_peopleToServe
set_option maxRecDepth 20000 in
theorem ggX1_serveFirst_X1_driestToServe : GoodIn wsX1_serveFirst wsX1_driestToServe := goodIn_r _ [18, 19, 5, 6, 7, 8, 9, 1, 10, 11, 12, 13, 14, 44, 45, 46, 47, 48, 49, 50, 51, 52, 53, 54, 55, 56, 57, 58, 59, 60] (by decide +kernel) (by decide +kernel)
set_option maxRecDepth 20000 in
theorem gX1_serveFirst_X1_driestToServe : GoodIn wsX1_serveFirst (wsV RX1 121 RX1 yX1_driestToServe wsX1_driestToServe) := goodIn_app (goodIn_of _ (by decide +kernel)) ggX1_serveFirst_X1_driestToServe
set_option maxRecDepth 20000 in
theorem ggX1_serveFirst_X1_paidFrom : GoodIn wsX1_serveFirst wsX1_paidFrom := goodIn_r _ [23, 24, 11, 12, 13, 14, 25, 26, 27, 8, 28, 10, 5, 6, 7, 9, 1, 44, 45, 46, 47, 48, 49, 50, 51, 52, 53, 54, 55, 56, 57, 58, 59, 60] (by decide +kernel) (by decide +kernel)
set_option maxRecDepth 20000 in
theorem gX1_serveFirst_X1_paidFrom : GoodIn wsX1_serveFirst (wsV RX1 124 RX1 yX1_paidFrom wsX1_paidFrom) := goodIn_app (goodIn_of _ (by decide +kernel)) ggX1_serveFirst_X1_paidFrom
set_option maxRecDepth 20000 in
theorem ggX1_serveFirst_X1_fareForAll : GoodIn wsX1_serveFirst wsX1_fareForAll := goodIn_r _ [28, 10, 5, 6, 7, 8, 9, 1, 11, 12, 13, 14, 44, 45, 46, 47, 48, 49, 50, 51, 52, 53, 54, 55, 56, 57, 58, 59, 60] (by decide +kernel) (by decide +kernel)
set_option maxRecDepth 20000 in
theorem gX1_serveFirst_X1_fareForAll : GoodIn wsX1_serveFirst (wsV RX1 127 RX1 yX1_fareForAll wsX1_fareForAll) := goodIn_app (goodIn_of _ (by decide +kernel)) ggX1_serveFirst_X1_fareForAll
set_option maxRecDepth 20000 in
theorem ggX1_serveFirst_X1_remove : GoodIn wsX1_serveFirst wsX1_remove := goodIn_r _ [32, 33, 19, 34, 24, 35, 36, 1, 37, 38, 8, 39, 40, 41, 42, 43, 44, 45, 46, 47, 48, 49, 50, 51, 52, 53, 54, 55, 56, 57, 58, 59, 60] (by decide +kernel) (by decide +kernel)
set_option maxRecDepth 20000 in
theorem gX1_serveFirst_X1_remove : GoodIn wsX1_serveFirst (wsV RX1 78 RX1 yX1_remove wsX1_remove) := goodIn_app (goodIn_of _ (by decide +kernel)) ggX1_serveFirst_X1_remove
theorem dX1_serveFirst_0 : decode cX1_serveFirst 0 = .ok (.aload_n 0, 1) := by decide +kernel
theorem dX1_serveFirst_1 : decode cX1_serveFirst 1 = .ok (.getfield 39, 3) := by decide +kernel
theorem dX1_serveFirst_4 : decode cX1_serveFirst 4 = .ok (.ifCond .ne 6, 3) := by decide +kernel
theorem dX1_serveFirst_7 : decode cX1_serveFirst 7 = .ok (.bipush (-5), 2) := by decide +kernel
theorem dX1_serveFirst_9 : decode cX1_serveFirst 9 = .ok (.ireturn, 1) := by decide +kernel
theorem dX1_serveFirst_10 : decode cX1_serveFirst 10 = .ok (.aload_n 0, 1) := by decide +kernel
theorem dX1_serveFirst_11 : decode cX1_serveFirst 11 = .ok (.invokevirtual 118, 3) := by decide +kernel
theorem dX1_serveFirst_14 : decode cX1_serveFirst 14 = .ok (.istore_n 1, 1) := by decide +kernel
theorem dX1_serveFirst_15 : decode cX1_serveFirst 15 = .ok (.aload_n 0, 1) := by decide +kernel
theorem dX1_serveFirst_16 : decode cX1_serveFirst 16 = .ok (.aload_n 0, 1) := by decide +kernel
theorem dX1_serveFirst_17 : decode cX1_serveFirst 17 = .ok (.invokevirtual 121, 3) := by decide +kernel
theorem dX1_serveFirst_20 : decode cX1_serveFirst 20 = .ok (.invokevirtual 124, 3) := by decide +kernel
theorem dX1_serveFirst_23 : decode cX1_serveFirst 23 = .ok (.istore_n 2, 1) := by decide +kernel
theorem dX1_serveFirst_24 : decode cX1_serveFirst 24 = .ok (.aload_n 0, 1) := by decide +kernel
theorem dX1_serveFirst_25 : decode cX1_serveFirst 25 = .ok (.dup, 1) := by decide +kernel
theorem dX1_serveFirst_26 : decode cX1_serveFirst 26 = .ok (.getfield 55, 3) := by decide +kernel
theorem dX1_serveFirst_29 : decode cX1_serveFirst 29 = .ok (.iload_n 2, 1) := by decide +kernel
theorem dX1_serveFirst_30 : decode cX1_serveFirst 30 = .ok (.iadd, 1) := by decide +kernel
theorem dX1_serveFirst_31 : decode cX1_serveFirst 31 = .ok (.putfield 55, 3) := by decide +kernel
theorem dX1_serveFirst_34 : decode cX1_serveFirst 34 = .ok (.aload_n 0, 1) := by decide +kernel
theorem dX1_serveFirst_35 : decode cX1_serveFirst 35 = .ok (.dup, 1) := by decide +kernel
theorem dX1_serveFirst_36 : decode cX1_serveFirst 36 = .ok (.getfield 58, 3) := by decide +kernel
theorem dX1_serveFirst_39 : decode cX1_serveFirst 39 = .ok (.aload_n 0, 1) := by decide +kernel
theorem dX1_serveFirst_40 : decode cX1_serveFirst 40 = .ok (.invokevirtual 127, 3) := by decide +kernel
theorem dX1_serveFirst_43 : decode cX1_serveFirst 43 = .ok (.iload_n 2, 1) := by decide +kernel
theorem dX1_serveFirst_44 : decode cX1_serveFirst 44 = .ok (.isub, 1) := by decide +kernel
theorem dX1_serveFirst_45 : decode cX1_serveFirst 45 = .ok (.iadd, 1) := by decide +kernel
theorem dX1_serveFirst_46 : decode cX1_serveFirst 46 = .ok (.putfield 58, 3) := by decide +kernel
theorem dX1_serveFirst_49 : decode cX1_serveFirst 49 = .ok (.aload_n 0, 1) := by decide +kernel
theorem dX1_serveFirst_50 : decode cX1_serveFirst 50 = .ok (.dup, 1) := by decide +kernel
theorem dX1_serveFirst_51 : decode cX1_serveFirst 51 = .ok (.getfield 52, 3) := by decide +kernel
theorem dX1_serveFirst_54 : decode cX1_serveFirst 54 = .ok (.iload_n 1, 1) := by decide +kernel
theorem dX1_serveFirst_55 : decode cX1_serveFirst 55 = .ok (.iadd, 1) := by decide +kernel
theorem dX1_serveFirst_56 : decode cX1_serveFirst 56 = .ok (.putfield 52, 3) := by decide +kernel
theorem dX1_serveFirst_59 : decode cX1_serveFirst 59 = .ok (.iload_n 1, 1) := by decide +kernel
theorem dX1_serveFirst_60 : decode cX1_serveFirst 60 = .ok (.iconst 1, 1) := by decide +kernel
theorem dX1_serveFirst_61 : decode cX1_serveFirst 61 = .ok (.isub, 1) := by decide +kernel
theorem dX1_serveFirst_62 : decode cX1_serveFirst 62 = .ok (.istore_n 3, 1) := by decide +kernel
theorem dX1_serveFirst_63 : decode cX1_serveFirst 63 = .ok (.iload_n 3, 1) := by decide +kernel
theorem dX1_serveFirst_64 : decode cX1_serveFirst 64 = .ok (.ifCond .lt 14, 3) := by decide +kernel
theorem dX1_serveFirst_67 : decode cX1_serveFirst 67 = .ok (.aload_n 0, 1) := by decide +kernel
theorem dX1_serveFirst_68 : decode cX1_serveFirst 68 = .ok (.iload_n 3, 1) := by decide +kernel
theorem dX1_serveFirst_69 : decode cX1_serveFirst 69 = .ok (.invokevirtual 78, 3) := by decide +kernel
theorem dX1_serveFirst_72 : decode cX1_serveFirst 72 = .ok (.iinc 3 (-1), 3) := by decide +kernel
theorem dX1_serveFirst_75 : decode cX1_serveFirst 75 = .ok (.goto (-12), 3) := by decide +kernel
theorem dX1_serveFirst_78 : decode cX1_serveFirst 78 = .ok (.iload_n 2, 1) := by decide +kernel
theorem dX1_serveFirst_79 : decode cX1_serveFirst 79 = .ok (.ireturn, 1) := by decide +kernel
set_option maxRecDepth 20000 in
theorem ggX1_removeSoaked_X1_remove : GoodIn wsX1_removeSoaked wsX1_remove := goodIn_r _ [9, 10, 2, 3, 11, 12, 13, 1, 14, 15, 8, 16, 17, 18, 19, 20, 21, 22, 23, 24, 25, 26, 27, 28, 29, 30, 31, 32, 33, 34, 35, 36, 37] (by decide +kernel) (by decide +kernel)
set_option maxRecDepth 20000 in
theorem gX1_removeSoaked_X1_remove : GoodIn wsX1_removeSoaked (wsV RX1 78 RX1 yX1_remove wsX1_remove) := goodIn_app (goodIn_of _ (by decide +kernel)) ggX1_removeSoaked_X1_remove
theorem dX1_removeSoaked_0 : decode cX1_removeSoaked 0 = .ok (.aload_n 0, 1) := by decide +kernel
theorem dX1_removeSoaked_1 : decode cX1_removeSoaked 1 = .ok (.getfield 39, 3) := by decide +kernel
theorem dX1_removeSoaked_4 : decode cX1_removeSoaked 4 = .ok (.istore_n 1, 1) := by decide +kernel
theorem dX1_removeSoaked_5 : decode cX1_removeSoaked 5 = .ok (.aload_n 0, 1) := by decide +kernel
theorem dX1_removeSoaked_6 : decode cX1_removeSoaked 6 = .ok (.getfield 39, 3) := by decide +kernel
theorem dX1_removeSoaked_9 : decode cX1_removeSoaked 9 = .ok (.iconst 1, 1) := by decide +kernel
theorem dX1_removeSoaked_10 : decode cX1_removeSoaked 10 = .ok (.isub, 1) := by decide +kernel
theorem dX1_removeSoaked_11 : decode cX1_removeSoaked 11 = .ok (.istore_n 2, 1) := by decide +kernel
theorem dX1_removeSoaked_12 : decode cX1_removeSoaked 12 = .ok (.iload_n 2, 1) := by decide +kernel
theorem dX1_removeSoaked_13 : decode cX1_removeSoaked 13 = .ok (.ifCond .lt 29, 3) := by decide +kernel
theorem dX1_removeSoaked_16 : decode cX1_removeSoaked 16 = .ok (.aload_n 0, 1) := by decide +kernel
theorem dX1_removeSoaked_17 : decode cX1_removeSoaked 17 = .ok (.getfield 15, 3) := by decide +kernel
theorem dX1_removeSoaked_20 : decode cX1_removeSoaked 20 = .ok (.iload_n 2, 1) := by decide +kernel
theorem dX1_removeSoaked_21 : decode cX1_removeSoaked 21 = .ok (.iaload, 1) := by decide +kernel
theorem dX1_removeSoaked_22 : decode cX1_removeSoaked 22 = .ok (.aload_n 0, 1) := by decide +kernel
theorem dX1_removeSoaked_23 : decode cX1_removeSoaked 23 = .ok (.getfield 18, 3) := by decide +kernel
theorem dX1_removeSoaked_26 : decode cX1_removeSoaked 26 = .ok (.iload_n 2, 1) := by decide +kernel
theorem dX1_removeSoaked_27 : decode cX1_removeSoaked 27 = .ok (.iaload, 1) := by decide +kernel
theorem dX1_removeSoaked_28 : decode cX1_removeSoaked 28 = .ok (.if_icmp .le 8, 3) := by decide +kernel
theorem dX1_removeSoaked_31 : decode cX1_removeSoaked 31 = .ok (.aload_n 0, 1) := by decide +kernel
theorem dX1_removeSoaked_32 : decode cX1_removeSoaked 32 = .ok (.iload_n 2, 1) := by decide +kernel
theorem dX1_removeSoaked_33 : decode cX1_removeSoaked 33 = .ok (.invokevirtual 78, 3) := by decide +kernel
theorem dX1_removeSoaked_36 : decode cX1_removeSoaked 36 = .ok (.iinc 2 (-1), 3) := by decide +kernel
theorem dX1_removeSoaked_39 : decode cX1_removeSoaked 39 = .ok (.goto (-27), 3) := by decide +kernel
theorem dX1_removeSoaked_42 : decode cX1_removeSoaked 42 = .ok (.aload_n 0, 1) := by decide +kernel
theorem dX1_removeSoaked_43 : decode cX1_removeSoaked 43 = .ok (.dup, 1) := by decide +kernel
theorem dX1_removeSoaked_44 : decode cX1_removeSoaked 44 = .ok (.getfield 49, 3) := by decide +kernel
theorem dX1_removeSoaked_47 : decode cX1_removeSoaked 47 = .ok (.iload_n 1, 1) := by decide +kernel
theorem dX1_removeSoaked_48 : decode cX1_removeSoaked 48 = .ok (.aload_n 0, 1) := by decide +kernel
theorem dX1_removeSoaked_49 : decode cX1_removeSoaked 49 = .ok (.getfield 39, 3) := by decide +kernel
theorem dX1_removeSoaked_52 : decode cX1_removeSoaked 52 = .ok (.isub, 1) := by decide +kernel
theorem dX1_removeSoaked_53 : decode cX1_removeSoaked 53 = .ok (.iadd, 1) := by decide +kernel
theorem dX1_removeSoaked_54 : decode cX1_removeSoaked 54 = .ok (.putfield 49, 3) := by decide +kernel
theorem dX1_removeSoaked_57 : decode cX1_removeSoaked 57 = .ok (.iload_n 1, 1) := by decide +kernel
theorem dX1_removeSoaked_58 : decode cX1_removeSoaked 58 = .ok (.aload_n 0, 1) := by decide +kernel
theorem dX1_removeSoaked_59 : decode cX1_removeSoaked 59 = .ok (.getfield 39, 3) := by decide +kernel
theorem dX1_removeSoaked_62 : decode cX1_removeSoaked 62 = .ok (.isub, 1) := by decide +kernel
theorem dX1_removeSoaked_63 : decode cX1_removeSoaked 63 = .ok (.ireturn, 1) := by decide +kernel
set_option maxRecDepth 20000 in
theorem ggX1_remove_X1_closeGap : GoodIn wsX1_remove wsX1_closeGap := goodIn_r _ [11, 12, 13, 14, 15] (by decide +kernel) (by decide +kernel)
set_option maxRecDepth 20000 in
theorem gX1_remove_X1_closeGap : GoodIn wsX1_remove (va_wsS RX1 130 yX1_closeGap wsX1_closeGap) := goodIn_app (goodIn_of _ (by decide +kernel)) ggX1_remove_X1_closeGap
theorem dX1_remove_0 : decode cX1_remove 0 = .ok (.aload_n 0, 1) := by decide +kernel
theorem dX1_remove_1 : decode cX1_remove 1 = .ok (.getfield 9, 3) := by decide +kernel
theorem dX1_remove_4 : decode cX1_remove 4 = .ok (.iload_n 1, 1) := by decide +kernel
theorem dX1_remove_5 : decode cX1_remove 5 = .ok (.invokestatic 130, 3) := by decide +kernel
theorem dX1_remove_8 : decode cX1_remove 8 = .ok (.aload_n 0, 1) := by decide +kernel
theorem dX1_remove_9 : decode cX1_remove 9 = .ok (.getfield 15, 3) := by decide +kernel
theorem dX1_remove_12 : decode cX1_remove 12 = .ok (.iload_n 1, 1) := by decide +kernel
theorem dX1_remove_13 : decode cX1_remove 13 = .ok (.invokestatic 130, 3) := by decide +kernel
theorem dX1_remove_16 : decode cX1_remove 16 = .ok (.aload_n 0, 1) := by decide +kernel
theorem dX1_remove_17 : decode cX1_remove 17 = .ok (.getfield 18, 3) := by decide +kernel
theorem dX1_remove_20 : decode cX1_remove 20 = .ok (.iload_n 1, 1) := by decide +kernel
theorem dX1_remove_21 : decode cX1_remove 21 = .ok (.invokestatic 130, 3) := by decide +kernel
theorem dX1_remove_24 : decode cX1_remove 24 = .ok (.aload_n 0, 1) := by decide +kernel
theorem dX1_remove_25 : decode cX1_remove 25 = .ok (.getfield 21, 3) := by decide +kernel
theorem dX1_remove_28 : decode cX1_remove 28 = .ok (.iload_n 1, 1) := by decide +kernel
theorem dX1_remove_29 : decode cX1_remove 29 = .ok (.invokestatic 130, 3) := by decide +kernel
theorem dX1_remove_32 : decode cX1_remove 32 = .ok (.aload_n 0, 1) := by decide +kernel
theorem dX1_remove_33 : decode cX1_remove 33 = .ok (.getfield 24, 3) := by decide +kernel
theorem dX1_remove_36 : decode cX1_remove 36 = .ok (.iload_n 1, 1) := by decide +kernel
theorem dX1_remove_37 : decode cX1_remove 37 = .ok (.invokestatic 130, 3) := by decide +kernel
theorem dX1_remove_40 : decode cX1_remove 40 = .ok (.aload_n 0, 1) := by decide +kernel
theorem dX1_remove_41 : decode cX1_remove 41 = .ok (.getfield 27, 3) := by decide +kernel
theorem dX1_remove_44 : decode cX1_remove 44 = .ok (.iload_n 1, 1) := by decide +kernel
theorem dX1_remove_45 : decode cX1_remove 45 = .ok (.invokestatic 130, 3) := by decide +kernel
theorem dX1_remove_48 : decode cX1_remove 48 = .ok (.aload_n 0, 1) := by decide +kernel
theorem dX1_remove_49 : decode cX1_remove 49 = .ok (.dup, 1) := by decide +kernel
theorem dX1_remove_50 : decode cX1_remove 50 = .ok (.getfield 39, 3) := by decide +kernel
theorem dX1_remove_53 : decode cX1_remove 53 = .ok (.iconst 1, 1) := by decide +kernel
theorem dX1_remove_54 : decode cX1_remove 54 = .ok (.isub, 1) := by decide +kernel
theorem dX1_remove_55 : decode cX1_remove 55 = .ok (.putfield 39, 3) := by decide +kernel
theorem dX1_remove_58 : decode cX1_remove 58 = .ok (.return_, 1) := by decide +kernel
theorem dX1_closeGap_0 : decode cX1_closeGap 0 = .ok (.aload_n 0, 1) := by decide +kernel
theorem dX1_closeGap_1 : decode cX1_closeGap 1 = .ok (.iload_n 1, 1) := by decide +kernel
theorem dX1_closeGap_2 : decode cX1_closeGap 2 = .ok (.iconst 1, 1) := by decide +kernel
theorem dX1_closeGap_3 : decode cX1_closeGap 3 = .ok (.iadd, 1) := by decide +kernel
theorem dX1_closeGap_4 : decode cX1_closeGap 4 = .ok (.aload_n 0, 1) := by decide +kernel
theorem dX1_closeGap_5 : decode cX1_closeGap 5 = .ok (.iload_n 1, 1) := by decide +kernel
theorem dX1_closeGap_6 : decode cX1_closeGap 6 = .ok (.bipush 15, 2) := by decide +kernel
theorem dX1_closeGap_8 : decode cX1_closeGap 8 = .ok (.iload_n 1, 1) := by decide +kernel
theorem dX1_closeGap_9 : decode cX1_closeGap 9 = .ok (.isub, 1) := by decide +kernel
theorem dX1_closeGap_10 : decode cX1_closeGap 10 = .ok (.invokestatic 33, 3) := by decide +kernel
theorem dX1_closeGap_13 : decode cX1_closeGap 13 = .ok (.return_, 1) := by decide +kernel
theorem dX1_exchange_0 : decode cX1_exchange 0 = .ok (.aload_n 0, 1) := by decide +kernel
theorem dX1_exchange_1 : decode cX1_exchange 1 = .ok (.iload_n 1, 1) := by decide +kernel
theorem dX1_exchange_2 : decode cX1_exchange 2 = .ok (.iaload, 1) := by decide +kernel
theorem dX1_exchange_3 : decode cX1_exchange 3 = .ok (.istore_n 2, 1) := by decide +kernel
theorem dX1_exchange_4 : decode cX1_exchange 4 = .ok (.aload_n 0, 1) := by decide +kernel
theorem dX1_exchange_5 : decode cX1_exchange 5 = .ok (.iload_n 1, 1) := by decide +kernel
theorem dX1_exchange_6 : decode cX1_exchange 6 = .ok (.aload_n 0, 1) := by decide +kernel
theorem dX1_exchange_7 : decode cX1_exchange 7 = .ok (.iload_n 1, 1) := by decide +kernel
theorem dX1_exchange_8 : decode cX1_exchange 8 = .ok (.iconst 1, 1) := by decide +kernel
theorem dX1_exchange_9 : decode cX1_exchange 9 = .ok (.iadd, 1) := by decide +kernel
theorem dX1_exchange_10 : decode cX1_exchange 10 = .ok (.iaload, 1) := by decide +kernel
theorem dX1_exchange_11 : decode cX1_exchange 11 = .ok (.iastore, 1) := by decide +kernel
theorem dX1_exchange_12 : decode cX1_exchange 12 = .ok (.aload_n 0, 1) := by decide +kernel
theorem dX1_exchange_13 : decode cX1_exchange 13 = .ok (.iload_n 1, 1) := by decide +kernel
theorem dX1_exchange_14 : decode cX1_exchange 14 = .ok (.iconst 1, 1) := by decide +kernel
theorem dX1_exchange_15 : decode cX1_exchange 15 = .ok (.iadd, 1) := by decide +kernel
theorem dX1_exchange_16 : decode cX1_exchange 16 = .ok (.iload_n 2, 1) := by decide +kernel
theorem dX1_exchange_17 : decode cX1_exchange 17 = .ok (.iastore, 1) := by decide +kernel
theorem dX1_exchange_18 : decode cX1_exchange 18 = .ok (.return_, 1) := by decide +kernel
theorem dX1_leastReached_0 : decode cX1_leastReached 0 = .ok (.iconst 0, 1) := by decide +kernel
theorem dX1_leastReached_1 : decode cX1_leastReached 1 = .ok (.iload_n 1, 1) := by decide +kernel
theorem dX1_leastReached_2 : decode cX1_leastReached 2 = .ok (.aload_n 0, 1) := by decide +kernel
theorem dX1_leastReached_3 : decode cX1_leastReached 3 = .ok (.getfield 24, 3) := by decide +kernel
theorem dX1_leastReached_6 : decode cX1_leastReached 6 = .ok (.iload_n 1, 1) := by decide +kernel
theorem dX1_leastReached_7 : decode cX1_leastReached 7 = .ok (.iaload, 1) := by decide +kernel
theorem dX1_leastReached_8 : decode cX1_leastReached 8 = .ok (.iconst 2, 1) := by decide +kernel
theorem dX1_leastReached_9 : decode cX1_leastReached 9 = .ok (.idiv, 1) := by decide +kernel
theorem dX1_leastReached_10 : decode cX1_leastReached 10 = .ok (.isub, 1) := by decide +kernel
theorem dX1_leastReached_11 : decode cX1_leastReached 11 = .ok (.invokestatic 112, 3) := by decide +kernel
theorem dX1_leastReached_14 : decode cX1_leastReached 14 = .ok (.ireturn, 1) := by decide +kernel
theorem dX1_greatestReached_0 : decode cX1_greatestReached 0 = .ok (.aload_n 0, 1) := by decide +kernel
theorem dX1_greatestReached_1 : decode cX1_greatestReached 1 = .ok (.getfield 39, 3) := by decide +kernel
theorem dX1_greatestReached_4 : decode cX1_greatestReached 4 = .ok (.iconst 1, 1) := by decide +kernel
theorem dX1_greatestReached_5 : decode cX1_greatestReached 5 = .ok (.isub, 1) := by decide +kernel
theorem dX1_greatestReached_6 : decode cX1_greatestReached 6 = .ok (.iload_n 1, 1) := by decide +kernel
theorem dX1_greatestReached_7 : decode cX1_greatestReached 7 = .ok (.aload_n 0, 1) := by decide +kernel
theorem dX1_greatestReached_8 : decode cX1_greatestReached 8 = .ok (.getfield 24, 3) := by decide +kernel
theorem dX1_greatestReached_11 : decode cX1_greatestReached 11 = .ok (.iload_n 1, 1) := by decide +kernel
theorem dX1_greatestReached_12 : decode cX1_greatestReached 12 = .ok (.iaload, 1) := by decide +kernel
theorem dX1_greatestReached_13 : decode cX1_greatestReached 13 = .ok (.iconst 1, 1) := by decide +kernel
theorem dX1_greatestReached_14 : decode cX1_greatestReached 14 = .ok (.isub, 1) := by decide +kernel
theorem dX1_greatestReached_15 : decode cX1_greatestReached 15 = .ok (.iconst 2, 1) := by decide +kernel
theorem dX1_greatestReached_16 : decode cX1_greatestReached 16 = .ok (.idiv, 1) := by decide +kernel
theorem dX1_greatestReached_17 : decode cX1_greatestReached 17 = .ok (.iadd, 1) := by decide +kernel
theorem dX1_greatestReached_18 : decode cX1_greatestReached 18 = .ok (.invokestatic 133, 3) := by decide +kernel
theorem dX1_greatestReached_21 : decode cX1_greatestReached 21 = .ok (.ireturn, 1) := by decide +kernel
set_option maxRecDepth 20000 in
theorem ggX1_umbrellasOver_X1_leastReached : GoodIn wsX1_umbrellasOver wsX1_leastReached := goodIn_r _ [7, 2, 8, 9, 10, 11, 22, 23, 24, 25, 26, 27, 28, 29, 30, 31, 32, 33, 34, 35, 36, 37, 38] (by decide +kernel) (by decide +kernel)
set_option maxRecDepth 20000 in
theorem gX1_umbrellasOver_X1_leastReached : GoodIn wsX1_umbrellasOver (wsV RX1 136 RX1 yX1_leastReached wsX1_leastReached) := goodIn_app (goodIn_of _ (by decide +kernel)) ggX1_umbrellasOver_X1_leastReached
set_option maxRecDepth 20000 in
theorem ggX1_umbrellasOver_X1_greatestReached : GoodIn wsX1_umbrellasOver wsX1_greatestReached := goodIn_r _ [15, 1, 2, 16, 17, 10, 18, 22, 23, 24, 25, 26, 27, 28, 29, 30, 31, 32, 33, 34, 35, 36, 37, 38] (by decide +kernel) (by decide +kernel)
set_option maxRecDepth 20000 in
theorem gX1_umbrellasOver_X1_greatestReached : GoodIn wsX1_umbrellasOver (wsV RX1 139 RX1 yX1_greatestReached wsX1_greatestReached) := goodIn_app (goodIn_of _ (by decide +kernel)) ggX1_umbrellasOver_X1_greatestReached
set_option maxRecDepth 20000 in
theorem ggX1_umbrellasOver_X3_isWithin : GoodIn wsX1_umbrellasOver wsX3_isWithin := goodIn_r _ [21] (by decide +kernel) (by decide +kernel)
set_option maxRecDepth 20000 in
theorem gX1_umbrellasOver_X3_isWithin_n70 : GoodIn wsX1_umbrellasOver (wsX3_isWithin) := ggX1_umbrellasOver_X3_isWithin
theorem dX1_umbrellasOver_0 : decode cX1_umbrellasOver 0 = .ok (.iconst 0, 1) := by decide +kernel
theorem dX1_umbrellasOver_1 : decode cX1_umbrellasOver 1 = .ok (.istore_n 2, 1) := by decide +kernel
theorem dX1_umbrellasOver_2 : decode cX1_umbrellasOver 2 = .ok (.iconst 0, 1) := by decide +kernel
theorem dX1_umbrellasOver_3 : decode cX1_umbrellasOver 3 = .ok (.istore_n 3, 1) := by decide +kernel
theorem dX1_umbrellasOver_4 : decode cX1_umbrellasOver 4 = .ok (.iload_n 3, 1) := by decide +kernel
theorem dX1_umbrellasOver_5 : decode cX1_umbrellasOver 5 = .ok (.aload_n 0, 1) := by decide +kernel
theorem dX1_umbrellasOver_6 : decode cX1_umbrellasOver 6 = .ok (.getfield 39, 3) := by decide +kernel
theorem dX1_umbrellasOver_9 : decode cX1_umbrellasOver 9 = .ok (.if_icmp .ge 38, 3) := by decide +kernel
theorem dX1_umbrellasOver_12 : decode cX1_umbrellasOver 12 = .ok (.aload_n 0, 1) := by decide +kernel
theorem dX1_umbrellasOver_13 : decode cX1_umbrellasOver 13 = .ok (.getfield 24, 3) := by decide +kernel
theorem dX1_umbrellasOver_16 : decode cX1_umbrellasOver 16 = .ok (.iload_n 3, 1) := by decide +kernel
theorem dX1_umbrellasOver_17 : decode cX1_umbrellasOver 17 = .ok (.iaload, 1) := by decide +kernel
theorem dX1_umbrellasOver_18 : decode cX1_umbrellasOver 18 = .ok (.ifCond .le 23, 3) := by decide +kernel
theorem dX1_umbrellasOver_21 : decode cX1_umbrellasOver 21 = .ok (.iload_n 1, 1) := by decide +kernel
theorem dX1_umbrellasOver_22 : decode cX1_umbrellasOver 22 = .ok (.aload_n 0, 1) := by decide +kernel
theorem dX1_umbrellasOver_23 : decode cX1_umbrellasOver 23 = .ok (.iload_n 3, 1) := by decide +kernel
theorem dX1_umbrellasOver_24 : decode cX1_umbrellasOver 24 = .ok (.invokevirtual 136, 3) := by decide +kernel
theorem dX1_umbrellasOver_27 : decode cX1_umbrellasOver 27 = .ok (.aload_n 0, 1) := by decide +kernel
theorem dX1_umbrellasOver_28 : decode cX1_umbrellasOver 28 = .ok (.iload_n 3, 1) := by decide +kernel
theorem dX1_umbrellasOver_29 : decode cX1_umbrellasOver 29 = .ok (.invokevirtual 139, 3) := by decide +kernel
theorem dX1_umbrellasOver_32 : decode cX1_umbrellasOver 32 = .ok (.invokestatic 70, 3) := by decide +kernel
theorem dX1_umbrellasOver_35 : decode cX1_umbrellasOver 35 = .ok (.ifCond .eq 6, 3) := by decide +kernel
theorem dX1_umbrellasOver_38 : decode cX1_umbrellasOver 38 = .ok (.iinc 2 1, 3) := by decide +kernel
theorem dX1_umbrellasOver_41 : decode cX1_umbrellasOver 41 = .ok (.iinc 3 1, 3) := by decide +kernel
theorem dX1_umbrellasOver_44 : decode cX1_umbrellasOver 44 = .ok (.goto (-40), 3) := by decide +kernel
theorem dX1_umbrellasOver_47 : decode cX1_umbrellasOver 47 = .ok (.iload_n 2, 1) := by decide +kernel
theorem dX1_umbrellasOver_48 : decode cX1_umbrellasOver 48 = .ok (.ireturn, 1) := by decide +kernel
set_option maxRecDepth 20000 in
theorem ggX1_umbrellasRunningOnto_X1_leastReached : GoodIn wsX1_umbrellasRunningOnto wsX1_leastReached := goodIn_r _ [7, 2, 8, 9, 10, 11, 19, 20, 21, 22, 23, 24, 25, 26, 27, 28, 29, 30, 31, 32, 33, 34, 35] (by decide +kernel) (by decide +kernel)
set_option maxRecDepth 20000 in
theorem gX1_umbrellasRunningOnto_X1_leastReached : GoodIn wsX1_umbrellasRunningOnto (wsV RX1 136 RX1 yX1_leastReached wsX1_leastReached) := goodIn_app (goodIn_of _ (by decide +kernel)) ggX1_umbrellasRunningOnto_X1_leastReached
set_option maxRecDepth 20000 in
theorem ggX1_umbrellasRunningOnto_X1_greatestReached : GoodIn wsX1_umbrellasRunningOnto wsX1_greatestReached := goodIn_r _ [15, 1, 2, 16, 17, 10, 18, 19, 20, 21, 22, 23, 24, 25, 26, 27, 28, 29, 30, 31, 32, 33, 34, 35] (by decide +kernel) (by decide +kernel)
set_option maxRecDepth 20000 in
theorem gX1_umbrellasRunningOnto_X1_greatestReached : GoodIn wsX1_umbrellasRunningOnto (wsV RX1 139 RX1 yX1_greatestReached wsX1_greatestReached) := goodIn_app (goodIn_of _ (by decide +kernel)) ggX1_umbrellasRunningOnto_X1_greatestReached
theorem dX1_umbrellasRunningOnto_0 : decode cX1_umbrellasRunningOnto 0 = .ok (.iconst 0, 1) := by decide +kernel
theorem dX1_umbrellasRunningOnto_1 : decode cX1_umbrellasRunningOnto 1 = .ok (.istore_n 2, 1) := by decide +kernel
theorem dX1_umbrellasRunningOnto_2 : decode cX1_umbrellasRunningOnto 2 = .ok (.iconst 0, 1) := by decide +kernel
theorem dX1_umbrellasRunningOnto_3 : decode cX1_umbrellasRunningOnto 3 = .ok (.istore_n 3, 1) := by decide +kernel
theorem dX1_umbrellasRunningOnto_4 : decode cX1_umbrellasRunningOnto 4 = .ok (.iload_n 3, 1) := by decide +kernel
theorem dX1_umbrellasRunningOnto_5 : decode cX1_umbrellasRunningOnto 5 = .ok (.aload_n 0, 1) := by decide +kernel
theorem dX1_umbrellasRunningOnto_6 : decode cX1_umbrellasRunningOnto 6 = .ok (.getfield 39, 3) := by decide +kernel
theorem dX1_umbrellasRunningOnto_9 : decode cX1_umbrellasRunningOnto 9 = .ok (.if_icmp .ge 43, 3) := by decide +kernel
theorem dX1_umbrellasRunningOnto_12 : decode cX1_umbrellasRunningOnto 12 = .ok (.aload_n 0, 1) := by decide +kernel
theorem dX1_umbrellasRunningOnto_13 : decode cX1_umbrellasRunningOnto 13 = .ok (.getfield 24, 3) := by decide +kernel
theorem dX1_umbrellasRunningOnto_16 : decode cX1_umbrellasRunningOnto 16 = .ok (.iload_n 3, 1) := by decide +kernel
theorem dX1_umbrellasRunningOnto_17 : decode cX1_umbrellasRunningOnto 17 = .ok (.iaload, 1) := by decide +kernel
theorem dX1_umbrellasRunningOnto_18 : decode cX1_umbrellasRunningOnto 18 = .ok (.ifCond .le 28, 3) := by decide +kernel
theorem dX1_umbrellasRunningOnto_21 : decode cX1_umbrellasRunningOnto 21 = .ok (.iload_n 1, 1) := by decide +kernel
theorem dX1_umbrellasRunningOnto_22 : decode cX1_umbrellasRunningOnto 22 = .ok (.aload_n 0, 1) := by decide +kernel
theorem dX1_umbrellasRunningOnto_23 : decode cX1_umbrellasRunningOnto 23 = .ok (.iload_n 3, 1) := by decide +kernel
theorem dX1_umbrellasRunningOnto_24 : decode cX1_umbrellasRunningOnto 24 = .ok (.invokevirtual 136, 3) := by decide +kernel
theorem dX1_umbrellasRunningOnto_27 : decode cX1_umbrellasRunningOnto 27 = .ok (.iconst 1, 1) := by decide +kernel
theorem dX1_umbrellasRunningOnto_28 : decode cX1_umbrellasRunningOnto 28 = .ok (.isub, 1) := by decide +kernel
theorem dX1_umbrellasRunningOnto_29 : decode cX1_umbrellasRunningOnto 29 = .ok (.if_icmp .eq 14, 3) := by decide +kernel
theorem dX1_umbrellasRunningOnto_32 : decode cX1_umbrellasRunningOnto 32 = .ok (.iload_n 1, 1) := by decide +kernel
theorem dX1_umbrellasRunningOnto_33 : decode cX1_umbrellasRunningOnto 33 = .ok (.aload_n 0, 1) := by decide +kernel
theorem dX1_umbrellasRunningOnto_34 : decode cX1_umbrellasRunningOnto 34 = .ok (.iload_n 3, 1) := by decide +kernel
theorem dX1_umbrellasRunningOnto_35 : decode cX1_umbrellasRunningOnto 35 = .ok (.invokevirtual 139, 3) := by decide +kernel
theorem dX1_umbrellasRunningOnto_38 : decode cX1_umbrellasRunningOnto 38 = .ok (.iconst 1, 1) := by decide +kernel
theorem dX1_umbrellasRunningOnto_39 : decode cX1_umbrellasRunningOnto 39 = .ok (.iadd, 1) := by decide +kernel
theorem dX1_umbrellasRunningOnto_40 : decode cX1_umbrellasRunningOnto 40 = .ok (.if_icmp .ne 6, 3) := by decide +kernel
theorem dX1_umbrellasRunningOnto_43 : decode cX1_umbrellasRunningOnto 43 = .ok (.iinc 2 1, 3) := by decide +kernel
theorem dX1_umbrellasRunningOnto_46 : decode cX1_umbrellasRunningOnto 46 = .ok (.iinc 3 1, 3) := by decide +kernel
theorem dX1_umbrellasRunningOnto_49 : decode cX1_umbrellasRunningOnto 49 = .ok (.goto (-45), 3) := by decide +kernel
theorem dX1_umbrellasRunningOnto_52 : decode cX1_umbrellasRunningOnto 52 = .ok (.iload_n 2, 1) := by decide +kernel
theorem dX1_umbrellasRunningOnto_53 : decode cX1_umbrellasRunningOnto 53 = .ok (.ireturn, 1) := by decide +kernel
set_option maxRecDepth 20000 in
theorem ggX1_placesUnreached_X1_umbrellasOver : GoodIn wsX1_placesUnreached wsX1_umbrellasOver := goodIn_r _ [6, 1, 7, 8, 9, 10, 5, 11, 12, 13, 14, 15, 16, 17, 18, 19, 20, 21, 22, 23, 24, 25, 26, 27, 28, 29, 30, 31, 32, 33, 34, 35, 36, 37, 38, 39, 40, 41, 42] (by decide +kernel) (by decide +kernel)
set_option maxRecDepth 20000 in
theorem gX1_placesUnreached_X1_umbrellasOver : GoodIn wsX1_placesUnreached (wsV RX1 142 RX1 yX1_umbrellasOver wsX1_umbrellasOver) := goodIn_app (goodIn_of _ (by decide +kernel)) ggX1_placesUnreached_X1_umbrellasOver
theorem dX1_placesUnreached_0 : decode cX1_placesUnreached 0 = .ok (.iconst 0, 1) := by decide +kernel
theorem dX1_placesUnreached_1 : decode cX1_placesUnreached 1 = .ok (.istore_n 1, 1) := by decide +kernel
theorem dX1_placesUnreached_2 : decode cX1_placesUnreached 2 = .ok (.iconst 0, 1) := by decide +kernel
theorem dX1_placesUnreached_3 : decode cX1_placesUnreached 3 = .ok (.istore_n 2, 1) := by decide +kernel
theorem dX1_placesUnreached_4 : decode cX1_placesUnreached 4 = .ok (.iload_n 2, 1) := by decide +kernel
theorem dX1_placesUnreached_5 : decode cX1_placesUnreached 5 = .ok (.aload_n 0, 1) := by decide +kernel
theorem dX1_placesUnreached_6 : decode cX1_placesUnreached 6 = .ok (.getfield 39, 3) := by decide +kernel
theorem dX1_placesUnreached_9 : decode cX1_placesUnreached 9 = .ok (.if_icmp .ge 20, 3) := by decide +kernel
theorem dX1_placesUnreached_12 : decode cX1_placesUnreached 12 = .ok (.aload_n 0, 1) := by decide +kernel
theorem dX1_placesUnreached_13 : decode cX1_placesUnreached 13 = .ok (.iload_n 2, 1) := by decide +kernel
theorem dX1_placesUnreached_14 : decode cX1_placesUnreached 14 = .ok (.invokevirtual 142, 3) := by decide +kernel
theorem dX1_placesUnreached_17 : decode cX1_placesUnreached 17 = .ok (.ifCond .ne 6, 3) := by decide +kernel
theorem dX1_placesUnreached_20 : decode cX1_placesUnreached 20 = .ok (.iinc 1 1, 3) := by decide +kernel
theorem dX1_placesUnreached_23 : decode cX1_placesUnreached 23 = .ok (.iinc 2 1, 3) := by decide +kernel
theorem dX1_placesUnreached_26 : decode cX1_placesUnreached 26 = .ok (.goto (-22), 3) := by decide +kernel
theorem dX1_placesUnreached_29 : decode cX1_placesUnreached 29 = .ok (.iload_n 1, 1) := by decide +kernel
theorem dX1_placesUnreached_30 : decode cX1_placesUnreached 30 = .ok (.ireturn, 1) := by decide +kernel
set_option maxRecDepth 20000 in
theorem ggX1_isCovered_X1_leastReached : GoodIn wsX1_isCovered wsX1_leastReached := goodIn_r _ [7, 2, 8, 9, 10, 11, 19, 20, 21, 22, 23, 24, 25, 26, 27, 28, 29, 30, 31, 32, 33, 34, 35] (by decide +kernel) (by decide +kernel)
set_option maxRecDepth 20000 in
theorem gX1_isCovered_X1_leastReached : GoodIn wsX1_isCovered (wsV RX1 136 RX1 yX1_leastReached wsX1_leastReached) := goodIn_app (goodIn_of _ (by decide +kernel)) ggX1_isCovered_X1_leastReached
set_option maxRecDepth 20000 in
theorem ggX1_isCovered_X1_greatestReached : GoodIn wsX1_isCovered wsX1_greatestReached := goodIn_r _ [15, 1, 2, 16, 17, 10, 18, 19, 20, 21, 22, 23, 24, 25, 26, 27, 28, 29, 30, 31, 32, 33, 34, 35] (by decide +kernel) (by decide +kernel)
set_option maxRecDepth 20000 in
theorem gX1_isCovered_X1_greatestReached : GoodIn wsX1_isCovered (wsV RX1 139 RX1 yX1_greatestReached wsX1_greatestReached) := goodIn_app (goodIn_of _ (by decide +kernel)) ggX1_isCovered_X1_greatestReached
theorem dX1_isCovered_0 : decode cX1_isCovered 0 = .ok (.iload_n 2, 1) := by decide +kernel
theorem dX1_isCovered_1 : decode cX1_isCovered 1 = .ok (.iconst 1, 1) := by decide +kernel
theorem dX1_isCovered_2 : decode cX1_isCovered 2 = .ok (.if_icmp .ne 9, 3) := by decide +kernel
theorem dX1_isCovered_5 : decode cX1_isCovered 5 = .ok (.iload_n 1, 1) := by decide +kernel
theorem dX1_isCovered_6 : decode cX1_isCovered 6 = .ok (.iconst 1, 1) := by decide +kernel
theorem dX1_isCovered_7 : decode cX1_isCovered 7 = .ok (.isub, 1) := by decide +kernel
theorem dX1_isCovered_8 : decode cX1_isCovered 8 = .ok (.goto 4, 3) := by decide +kernel
theorem dX1_isCovered_11 : decode cX1_isCovered 11 = .ok (.iload_n 1, 1) := by decide +kernel
theorem dX1_isCovered_12 : decode cX1_isCovered 12 = .ok (.istore_n 3, 1) := by decide +kernel
theorem dX1_isCovered_13 : decode cX1_isCovered 13 = .ok (.iload_n 2, 1) := by decide +kernel
theorem dX1_isCovered_14 : decode cX1_isCovered 14 = .ok (.iconst 2, 1) := by decide +kernel
theorem dX1_isCovered_15 : decode cX1_isCovered 15 = .ok (.if_icmp .ne 9, 3) := by decide +kernel
theorem dX1_isCovered_18 : decode cX1_isCovered 18 = .ok (.iload_n 1, 1) := by decide +kernel
theorem dX1_isCovered_19 : decode cX1_isCovered 19 = .ok (.iconst 1, 1) := by decide +kernel
theorem dX1_isCovered_20 : decode cX1_isCovered 20 = .ok (.iadd, 1) := by decide +kernel
theorem dX1_isCovered_21 : decode cX1_isCovered 21 = .ok (.goto 4, 3) := by decide +kernel
theorem dX1_isCovered_24 : decode cX1_isCovered 24 = .ok (.iload_n 1, 1) := by decide +kernel
theorem dX1_isCovered_25 : decode cX1_isCovered 25 = .ok (.istore 4, 2) := by decide +kernel
theorem dX1_isCovered_27 : decode cX1_isCovered 27 = .ok (.iconst 0, 1) := by decide +kernel
theorem dX1_isCovered_28 : decode cX1_isCovered 28 = .ok (.istore 5, 2) := by decide +kernel
theorem dX1_isCovered_30 : decode cX1_isCovered 30 = .ok (.iload 5, 2) := by decide +kernel
theorem dX1_isCovered_32 : decode cX1_isCovered 32 = .ok (.aload_n 0, 1) := by decide +kernel
theorem dX1_isCovered_33 : decode cX1_isCovered 33 = .ok (.getfield 39, 3) := by decide +kernel
theorem dX1_isCovered_36 : decode cX1_isCovered 36 = .ok (.if_icmp .ge 42, 3) := by decide +kernel
theorem dX1_isCovered_39 : decode cX1_isCovered 39 = .ok (.aload_n 0, 1) := by decide +kernel
theorem dX1_isCovered_40 : decode cX1_isCovered 40 = .ok (.getfield 24, 3) := by decide +kernel
theorem dX1_isCovered_43 : decode cX1_isCovered 43 = .ok (.iload 5, 2) := by decide +kernel
theorem dX1_isCovered_45 : decode cX1_isCovered 45 = .ok (.iaload, 1) := by decide +kernel
theorem dX1_isCovered_46 : decode cX1_isCovered 46 = .ok (.ifCond .le 26, 3) := by decide +kernel
theorem dX1_isCovered_49 : decode cX1_isCovered 49 = .ok (.aload_n 0, 1) := by decide +kernel
theorem dX1_isCovered_50 : decode cX1_isCovered 50 = .ok (.iload 5, 2) := by decide +kernel
theorem dX1_isCovered_52 : decode cX1_isCovered 52 = .ok (.invokevirtual 136, 3) := by decide +kernel
theorem dX1_isCovered_55 : decode cX1_isCovered 55 = .ok (.iload 4, 2) := by decide +kernel
theorem dX1_isCovered_57 : decode cX1_isCovered 57 = .ok (.if_icmp .gt 15, 3) := by decide +kernel
theorem dX1_isCovered_60 : decode cX1_isCovered 60 = .ok (.aload_n 0, 1) := by decide +kernel
theorem dX1_isCovered_61 : decode cX1_isCovered 61 = .ok (.iload 5, 2) := by decide +kernel
theorem dX1_isCovered_63 : decode cX1_isCovered 63 = .ok (.invokevirtual 139, 3) := by decide +kernel
theorem dX1_isCovered_66 : decode cX1_isCovered 66 = .ok (.iload_n 3, 1) := by decide +kernel
theorem dX1_isCovered_67 : decode cX1_isCovered 67 = .ok (.if_icmp .lt 5, 3) := by decide +kernel
theorem dX1_isCovered_70 : decode cX1_isCovered 70 = .ok (.iconst 1, 1) := by decide +kernel
theorem dX1_isCovered_71 : decode cX1_isCovered 71 = .ok (.ireturn, 1) := by decide +kernel
theorem dX1_isCovered_72 : decode cX1_isCovered 72 = .ok (.iinc 5 1, 3) := by decide +kernel
theorem dX1_isCovered_75 : decode cX1_isCovered 75 = .ok (.goto (-45), 3) := by decide +kernel
theorem dX1_isCovered_78 : decode cX1_isCovered 78 = .ok (.iconst 0, 1) := by decide +kernel
theorem dX1_isCovered_79 : decode cX1_isCovered 79 = .ok (.ireturn, 1) := by decide +kernel
set_option maxRecDepth 20000 in
theorem ggX1_wetnessAfter_X1_wetterBy : GoodIn wsX1_wetnessAfter wsX1_wetterBy := goodIn_r _ [10, 11, 12, 13, 9, 14, 15, 16, 17, 18, 19, 20, 21, 22, 4, 23, 24, 25, 26, 27, 2, 3, 5, 28, 29, 30, 31, 32, 33, 34, 35, 36, 37, 38, 39, 40, 41, 42, 43, 44, 45, 46, 47, 48] (by decide +kernel) (by decide +kernel)
set_option maxRecDepth 20000 in
theorem gX1_wetnessAfter_X1_wetterBy : GoodIn wsX1_wetnessAfter (wsV RX1 145 RX1 yX1_wetterBy wsX1_wetterBy) := goodIn_app (goodIn_of _ (by decide +kernel)) ggX1_wetnessAfter_X1_wetterBy
theorem dX1_wetnessAfter_0 : decode cX1_wetnessAfter 0 = .ok (.sipush 999, 3) := by decide +kernel
theorem dX1_wetnessAfter_3 : decode cX1_wetnessAfter 3 = .ok (.aload_n 0, 1) := by decide +kernel
theorem dX1_wetnessAfter_4 : decode cX1_wetnessAfter 4 = .ok (.getfield 15, 3) := by decide +kernel
theorem dX1_wetnessAfter_7 : decode cX1_wetnessAfter 7 = .ok (.iload_n 1, 1) := by decide +kernel
theorem dX1_wetnessAfter_8 : decode cX1_wetnessAfter 8 = .ok (.iaload, 1) := by decide +kernel
theorem dX1_wetnessAfter_9 : decode cX1_wetnessAfter 9 = .ok (.aload_n 0, 1) := by decide +kernel
theorem dX1_wetnessAfter_10 : decode cX1_wetnessAfter 10 = .ok (.iload_n 1, 1) := by decide +kernel
theorem dX1_wetnessAfter_11 : decode cX1_wetnessAfter 11 = .ok (.iload_n 2, 1) := by decide +kernel
theorem dX1_wetnessAfter_12 : decode cX1_wetnessAfter 12 = .ok (.iload_n 3, 1) := by decide +kernel
theorem dX1_wetnessAfter_13 : decode cX1_wetnessAfter 13 = .ok (.invokevirtual 145, 3) := by decide +kernel
theorem dX1_wetnessAfter_16 : decode cX1_wetnessAfter 16 = .ok (.iadd, 1) := by decide +kernel
theorem dX1_wetnessAfter_17 : decode cX1_wetnessAfter 17 = .ok (.invokestatic 133, 3) := by decide +kernel
theorem dX1_wetnessAfter_20 : decode cX1_wetnessAfter 20 = .ok (.ireturn, 1) := by decide +kernel
set_option maxRecDepth 20000 in
theorem ggX1_wetterBy_X1_umbrellasRunningOnto : GoodIn wsX1_wetterBy wsX1_umbrellasRunningOnto := goodIn_r _ [5, 6, 7, 8, 9, 10, 4, 11, 12, 13, 14, 15, 16, 17, 18, 19, 20, 21, 22, 27, 28, 29, 30, 31, 32, 33, 34, 35, 36, 37, 38, 39, 40, 41, 42, 43] (by decide +kernel) (by decide +kernel)
set_option maxRecDepth 20000 in
theorem gX1_wetterBy_X1_umbrellasRunningOnto : GoodIn wsX1_wetterBy (wsV RX1 148 RX1 yX1_umbrellasRunningOnto wsX1_umbrellasRunningOnto) := goodIn_app (goodIn_of _ (by decide +kernel)) ggX1_wetterBy_X1_umbrellasRunningOnto
set_option maxRecDepth 20000 in
theorem ggX1_wetterBy_X1_isCovered : GoodIn wsX1_wetterBy wsX1_isCovered := goodIn_r _ [26, 6, 7, 8, 9, 10, 4, 11, 12, 13, 14, 15, 16, 17, 18, 19, 20, 21, 22, 27, 28, 29, 30, 31, 32, 33, 34, 35, 36, 37, 38, 39, 40, 41, 42, 43] (by decide +kernel) (by decide +kernel)
set_option maxRecDepth 20000 in
theorem gX1_wetterBy_X1_isCovered : GoodIn wsX1_wetterBy (wsV RX1 151 RX1 yX1_isCovered wsX1_isCovered) := goodIn_app (goodIn_of _ (by decide +kernel)) ggX1_wetterBy_X1_isCovered
theorem dX1_wetterBy_0 : decode cX1_wetterBy 0 = .ok (.aload_n 0, 1) := by decide +kernel
theorem dX1_wetterBy_1 : decode cX1_wetterBy 1 = .ok (.iload_n 1, 1) := by decide +kernel
theorem dX1_wetterBy_2 : decode cX1_wetterBy 2 = .ok (.invokevirtual 148, 3) := by decide +kernel
theorem dX1_wetterBy_5 : decode cX1_wetterBy 5 = .ok (.iload_n 2, 1) := by decide +kernel
theorem dX1_wetterBy_6 : decode cX1_wetterBy 6 = .ok (.iconst 2, 1) := by decide +kernel
theorem dX1_wetterBy_7 : decode cX1_wetterBy 7 = .ok (.idiv, 1) := by decide +kernel
theorem dX1_wetterBy_8 : decode cX1_wetterBy 8 = .ok (.imul, 1) := by decide +kernel
theorem dX1_wetterBy_9 : decode cX1_wetterBy 9 = .ok (.istore 4, 2) := by decide +kernel
theorem dX1_wetterBy_11 : decode cX1_wetterBy 11 = .ok (.aload_n 0, 1) := by decide +kernel
theorem dX1_wetterBy_12 : decode cX1_wetterBy 12 = .ok (.iload_n 1, 1) := by decide +kernel
theorem dX1_wetterBy_13 : decode cX1_wetterBy 13 = .ok (.iload_n 3, 1) := by decide +kernel
theorem dX1_wetterBy_14 : decode cX1_wetterBy 14 = .ok (.invokevirtual 151, 3) := by decide +kernel
theorem dX1_wetterBy_17 : decode cX1_wetterBy 17 = .ok (.ifCond .eq 8, 3) := by decide +kernel
theorem dX1_wetterBy_20 : decode cX1_wetterBy 20 = .ok (.iload 4, 2) := by decide +kernel
theorem dX1_wetterBy_22 : decode cX1_wetterBy 22 = .ok (.goto 7, 3) := by decide +kernel
theorem dX1_wetterBy_25 : decode cX1_wetterBy 25 = .ok (.iload 4, 2) := by decide +kernel
theorem dX1_wetterBy_27 : decode cX1_wetterBy 27 = .ok (.iload_n 2, 1) := by decide +kernel
theorem dX1_wetterBy_28 : decode cX1_wetterBy 28 = .ok (.iadd, 1) := by decide +kernel
theorem dX1_wetterBy_29 : decode cX1_wetterBy 29 = .ok (.ireturn, 1) := by decide +kernel
set_option maxRecDepth 20000 in
theorem ggX1_gustsBorne_X1_wetterBy : GoodIn wsX1_gustsBorne wsX1_wetterBy := goodIn_r _ [7, 8, 9, 10, 6, 11, 12, 13, 14, 15, 16, 17, 18, 19, 20, 21, 22, 23, 24, 25, 26, 27, 28, 29, 30, 31, 32, 33, 34, 35, 36, 37, 38, 39, 40, 41, 42, 43, 44, 45, 46, 47, 48, 49] (by decide +kernel) (by decide +kernel)
set_option maxRecDepth 20000 in
theorem gX1_gustsBorne_X1_wetterBy : GoodIn wsX1_gustsBorne (wsV RX1 145 RX1 yX1_wetterBy wsX1_wetterBy) := goodIn_app (goodIn_of _ (by decide +kernel)) ggX1_gustsBorne_X1_wetterBy
theorem dX1_gustsBorne_0 : decode cX1_gustsBorne 0 = .ok (.aload_n 0, 1) := by decide +kernel
theorem dX1_gustsBorne_1 : decode cX1_gustsBorne 1 = .ok (.iload_n 1, 1) := by decide +kernel
theorem dX1_gustsBorne_2 : decode cX1_gustsBorne 2 = .ok (.iload_n 2, 1) := by decide +kernel
theorem dX1_gustsBorne_3 : decode cX1_gustsBorne 3 = .ok (.iconst 0, 1) := by decide +kernel
theorem dX1_gustsBorne_4 : decode cX1_gustsBorne 4 = .ok (.invokevirtual 145, 3) := by decide +kernel
theorem dX1_gustsBorne_7 : decode cX1_gustsBorne 7 = .ok (.istore_n 3, 1) := by decide +kernel
theorem dX1_gustsBorne_8 : decode cX1_gustsBorne 8 = .ok (.iload_n 3, 1) := by decide +kernel
theorem dX1_gustsBorne_9 : decode cX1_gustsBorne 9 = .ok (.ifCond .le 15, 3) := by decide +kernel
theorem dX1_gustsBorne_12 : decode cX1_gustsBorne 12 = .ok (.aload_n 0, 1) := by decide +kernel
theorem dX1_gustsBorne_13 : decode cX1_gustsBorne 13 = .ok (.getfield 18, 3) := by decide +kernel
theorem dX1_gustsBorne_16 : decode cX1_gustsBorne 16 = .ok (.iload_n 1, 1) := by decide +kernel
theorem dX1_gustsBorne_17 : decode cX1_gustsBorne 17 = .ok (.iaload, 1) := by decide +kernel
theorem dX1_gustsBorne_18 : decode cX1_gustsBorne 18 = .ok (.sipush 999, 3) := by decide +kernel
theorem dX1_gustsBorne_21 : decode cX1_gustsBorne 21 = .ok (.if_icmp .lt 6, 3) := by decide +kernel
theorem dX1_gustsBorne_24 : decode cX1_gustsBorne 24 = .ok (.bipush (-5), 2) := by decide +kernel
theorem dX1_gustsBorne_26 : decode cX1_gustsBorne 26 = .ok (.ireturn, 1) := by decide +kernel
theorem dX1_gustsBorne_27 : decode cX1_gustsBorne 27 = .ok (.aload_n 0, 1) := by decide +kernel
theorem dX1_gustsBorne_28 : decode cX1_gustsBorne 28 = .ok (.getfield 18, 3) := by decide +kernel
theorem dX1_gustsBorne_31 : decode cX1_gustsBorne 31 = .ok (.iload_n 1, 1) := by decide +kernel
theorem dX1_gustsBorne_32 : decode cX1_gustsBorne 32 = .ok (.iaload, 1) := by decide +kernel
theorem dX1_gustsBorne_33 : decode cX1_gustsBorne 33 = .ok (.aload_n 0, 1) := by decide +kernel
theorem dX1_gustsBorne_34 : decode cX1_gustsBorne 34 = .ok (.getfield 15, 3) := by decide +kernel
theorem dX1_gustsBorne_37 : decode cX1_gustsBorne 37 = .ok (.iload_n 1, 1) := by decide +kernel
theorem dX1_gustsBorne_38 : decode cX1_gustsBorne 38 = .ok (.iaload, 1) := by decide +kernel
theorem dX1_gustsBorne_39 : decode cX1_gustsBorne 39 = .ok (.isub, 1) := by decide +kernel
theorem dX1_gustsBorne_40 : decode cX1_gustsBorne 40 = .ok (.iload_n 3, 1) := by decide +kernel
theorem dX1_gustsBorne_41 : decode cX1_gustsBorne 41 = .ok (.idiv, 1) := by decide +kernel
theorem dX1_gustsBorne_42 : decode cX1_gustsBorne 42 = .ok (.ireturn, 1) := by decide +kernel
set_option maxRecDepth 20000 in
theorem ggX1_totalWetnessAfter_X1_wetnessAfter : GoodIn wsX1_totalWetnessAfter wsX1_wetnessAfter := goodIn_r _ [6, 7, 8, 9, 10, 11, 12, 13, 14, 5, 15, 16, 17, 18, 19, 1, 20, 21, 22, 23, 24, 25, 26, 27, 28, 29, 30, 31, 32, 33, 34, 35, 36, 37, 38, 39, 40, 41, 42, 43, 44, 45, 46, 47, 48, 49, 50, 51, 52] (by decide +kernel) (by decide +kernel)
set_option maxRecDepth 20000 in
theorem gX1_totalWetnessAfter_X1_wetnessAfter : GoodIn wsX1_totalWetnessAfter (wsV RX1 103 RX1 yX1_wetnessAfter wsX1_wetnessAfter) := goodIn_app (goodIn_of _ (by decide +kernel)) ggX1_totalWetnessAfter_X1_wetnessAfter
theorem dX1_totalWetnessAfter_0 : decode cX1_totalWetnessAfter 0 = .ok (.iconst 0, 1) := by decide +kernel
theorem dX1_totalWetnessAfter_1 : decode cX1_totalWetnessAfter 1 = .ok (.istore_n 3, 1) := by decide +kernel
theorem dX1_totalWetnessAfter_2 : decode cX1_totalWetnessAfter 2 = .ok (.iconst 0, 1) := by decide +kernel
theorem dX1_totalWetnessAfter_3 : decode cX1_totalWetnessAfter 3 = .ok (.istore 4, 2) := by decide +kernel
theorem dX1_totalWetnessAfter_5 : decode cX1_totalWetnessAfter 5 = .ok (.iload 4, 2) := by decide +kernel
theorem dX1_totalWetnessAfter_7 : decode cX1_totalWetnessAfter 7 = .ok (.aload_n 0, 1) := by decide +kernel
theorem dX1_totalWetnessAfter_8 : decode cX1_totalWetnessAfter 8 = .ok (.getfield 39, 3) := by decide +kernel
theorem dX1_totalWetnessAfter_11 : decode cX1_totalWetnessAfter 11 = .ok (.if_icmp .ge 20, 3) := by decide +kernel
theorem dX1_totalWetnessAfter_14 : decode cX1_totalWetnessAfter 14 = .ok (.iload_n 3, 1) := by decide +kernel
theorem dX1_totalWetnessAfter_15 : decode cX1_totalWetnessAfter 15 = .ok (.aload_n 0, 1) := by decide +kernel
theorem dX1_totalWetnessAfter_16 : decode cX1_totalWetnessAfter 16 = .ok (.iload 4, 2) := by decide +kernel
theorem dX1_totalWetnessAfter_18 : decode cX1_totalWetnessAfter 18 = .ok (.iload_n 1, 1) := by decide +kernel
theorem dX1_totalWetnessAfter_19 : decode cX1_totalWetnessAfter 19 = .ok (.iload_n 2, 1) := by decide +kernel
theorem dX1_totalWetnessAfter_20 : decode cX1_totalWetnessAfter 20 = .ok (.invokevirtual 103, 3) := by decide +kernel
theorem dX1_totalWetnessAfter_23 : decode cX1_totalWetnessAfter 23 = .ok (.iadd, 1) := by decide +kernel
theorem dX1_totalWetnessAfter_24 : decode cX1_totalWetnessAfter 24 = .ok (.istore_n 3, 1) := by decide +kernel
theorem dX1_totalWetnessAfter_25 : decode cX1_totalWetnessAfter 25 = .ok (.iinc 4 1, 3) := by decide +kernel
theorem dX1_totalWetnessAfter_28 : decode cX1_totalWetnessAfter 28 = .ok (.goto (-23), 3) := by decide +kernel
theorem dX1_totalWetnessAfter_31 : decode cX1_totalWetnessAfter 31 = .ok (.iload_n 3, 1) := by decide +kernel
theorem dX1_totalWetnessAfter_32 : decode cX1_totalWetnessAfter 32 = .ok (.ireturn, 1) := by decide +kernel
theorem dX1_refusal_0 : decode cX1_refusal 0 = .ok (.aload_n 0, 1) := by decide +kernel
theorem dX1_refusal_1 : decode cX1_refusal 1 = .ok (.getfield 24, 3) := by decide +kernel
theorem dX1_refusal_4 : decode cX1_refusal 4 = .ok (.iload_n 1, 1) := by decide +kernel
theorem dX1_refusal_5 : decode cX1_refusal 5 = .ok (.iaload, 1) := by decide +kernel
theorem dX1_refusal_6 : decode cX1_refusal 6 = .ok (.istore_n 2, 1) := by decide +kernel
theorem dX1_refusal_7 : decode cX1_refusal 7 = .ok (.aload_n 0, 1) := by decide +kernel
theorem dX1_refusal_8 : decode cX1_refusal 8 = .ok (.getfield 24, 3) := by decide +kernel
theorem dX1_refusal_11 : decode cX1_refusal 11 = .ok (.iload_n 1, 1) := by decide +kernel
theorem dX1_refusal_12 : decode cX1_refusal 12 = .ok (.iconst 1, 1) := by decide +kernel
theorem dX1_refusal_13 : decode cX1_refusal 13 = .ok (.iadd, 1) := by decide +kernel
theorem dX1_refusal_14 : decode cX1_refusal 14 = .ok (.iaload, 1) := by decide +kernel
theorem dX1_refusal_15 : decode cX1_refusal 15 = .ok (.istore_n 3, 1) := by decide +kernel
theorem dX1_refusal_16 : decode cX1_refusal 16 = .ok (.iload_n 2, 1) := by decide +kernel
theorem dX1_refusal_17 : decode cX1_refusal 17 = .ok (.iload_n 3, 1) := by decide +kernel
theorem dX1_refusal_18 : decode cX1_refusal 18 = .ok (.if_icmp .ne 5, 3) := by decide +kernel
theorem dX1_refusal_21 : decode cX1_refusal 21 = .ok (.iconst 1, 1) := by decide +kernel
theorem dX1_refusal_22 : decode cX1_refusal 22 = .ok (.ireturn, 1) := by decide +kernel
theorem dX1_refusal_23 : decode cX1_refusal 23 = .ok (.iload_n 2, 1) := by decide +kernel
theorem dX1_refusal_24 : decode cX1_refusal 24 = .ok (.iload_n 3, 1) := by decide +kernel
theorem dX1_refusal_25 : decode cX1_refusal 25 = .ok (.if_icmp .le 7, 3) := by decide +kernel
theorem dX1_refusal_28 : decode cX1_refusal 28 = .ok (.iload_n 1, 1) := by decide +kernel
theorem dX1_refusal_29 : decode cX1_refusal 29 = .ok (.goto 6, 3) := by decide +kernel
theorem dX1_refusal_32 : decode cX1_refusal 32 = .ok (.iload_n 1, 1) := by decide +kernel
theorem dX1_refusal_33 : decode cX1_refusal 33 = .ok (.iconst 1, 1) := by decide +kernel
theorem dX1_refusal_34 : decode cX1_refusal 34 = .ok (.iadd, 1) := by decide +kernel
theorem dX1_refusal_35 : decode cX1_refusal 35 = .ok (.istore 4, 2) := by decide +kernel
theorem dX1_refusal_37 : decode cX1_refusal 37 = .ok (.iload_n 2, 1) := by decide +kernel
theorem dX1_refusal_38 : decode cX1_refusal 38 = .ok (.iload_n 3, 1) := by decide +kernel
theorem dX1_refusal_39 : decode cX1_refusal 39 = .ok (.if_icmp .le 9, 3) := by decide +kernel
theorem dX1_refusal_42 : decode cX1_refusal 42 = .ok (.iload_n 1, 1) := by decide +kernel
theorem dX1_refusal_43 : decode cX1_refusal 43 = .ok (.iconst 1, 1) := by decide +kernel
theorem dX1_refusal_44 : decode cX1_refusal 44 = .ok (.iadd, 1) := by decide +kernel
theorem dX1_refusal_45 : decode cX1_refusal 45 = .ok (.goto 4, 3) := by decide +kernel
theorem dX1_refusal_48 : decode cX1_refusal 48 = .ok (.iload_n 1, 1) := by decide +kernel
theorem dX1_refusal_49 : decode cX1_refusal 49 = .ok (.istore 5, 2) := by decide +kernel
theorem dX1_refusal_51 : decode cX1_refusal 51 = .ok (.aload_n 0, 1) := by decide +kernel
theorem dX1_refusal_52 : decode cX1_refusal 52 = .ok (.getfield 15, 3) := by decide +kernel
theorem dX1_refusal_55 : decode cX1_refusal 55 = .ok (.iload 4, 2) := by decide +kernel
theorem dX1_refusal_57 : decode cX1_refusal 57 = .ok (.iaload, 1) := by decide +kernel
theorem dX1_refusal_58 : decode cX1_refusal 58 = .ok (.aload_n 0, 1) := by decide +kernel
theorem dX1_refusal_59 : decode cX1_refusal 59 = .ok (.getfield 15, 3) := by decide +kernel
theorem dX1_refusal_62 : decode cX1_refusal 62 = .ok (.iload 5, 2) := by decide +kernel
theorem dX1_refusal_64 : decode cX1_refusal 64 = .ok (.iaload, 1) := by decide +kernel
theorem dX1_refusal_65 : decode cX1_refusal 65 = .ok (.isub, 1) := by decide +kernel
theorem dX1_refusal_66 : decode cX1_refusal 66 = .ok (.istore 6, 2) := by decide +kernel
theorem dX1_refusal_68 : decode cX1_refusal 68 = .ok (.aload_n 0, 1) := by decide +kernel
theorem dX1_refusal_69 : decode cX1_refusal 69 = .ok (.getfield 24, 3) := by decide +kernel
theorem dX1_refusal_72 : decode cX1_refusal 72 = .ok (.iload 5, 2) := by decide +kernel
theorem dX1_refusal_74 : decode cX1_refusal 74 = .ok (.iaload, 1) := by decide +kernel
theorem dX1_refusal_75 : decode cX1_refusal 75 = .ok (.ifCond .ne 13, 3) := by decide +kernel
theorem dX1_refusal_78 : decode cX1_refusal 78 = .ok (.iload 6, 2) := by decide +kernel
theorem dX1_refusal_80 : decode cX1_refusal 80 = .ok (.ineg, 1) := by decide +kernel
theorem dX1_refusal_81 : decode cX1_refusal 81 = .ok (.bipush 50, 2) := by decide +kernel
theorem dX1_refusal_83 : decode cX1_refusal 83 = .ok (.if_icmp .ge 5, 3) := by decide +kernel
theorem dX1_refusal_86 : decode cX1_refusal 86 = .ok (.iconst 2, 1) := by decide +kernel
theorem dX1_refusal_87 : decode cX1_refusal 87 = .ok (.ireturn, 1) := by decide +kernel
theorem dX1_refusal_88 : decode cX1_refusal 88 = .ok (.iload 6, 2) := by decide +kernel
theorem dX1_refusal_90 : decode cX1_refusal 90 = .ok (.ifCond .le 7, 3) := by decide +kernel
theorem dX1_refusal_93 : decode cX1_refusal 93 = .ok (.iconst 3, 1) := by decide +kernel
theorem dX1_refusal_94 : decode cX1_refusal 94 = .ok (.goto 4, 3) := by decide +kernel
theorem dX1_refusal_97 : decode cX1_refusal 97 = .ok (.iconst 0, 1) := by decide +kernel
theorem dX1_refusal_98 : decode cX1_refusal 98 = .ok (.ireturn, 1) := by decide +kernel
set_option maxRecDepth 20000 in
theorem ggX1_driestSwap_X1_totalWetnessAfter : GoodIn wsX1_driestSwap wsX1_totalWetnessAfter := goodIn_r _ [7, 1, 8, 9, 10, 6, 11, 12, 13, 14, 15, 16, 17, 18, 19, 20, 21, 22, 23, 24, 2, 25, 26, 27, 28, 29, 30, 31, 32, 33, 34, 35, 36, 37, 38, 39, 47, 48, 49, 50, 51, 52, 53, 54, 55, 56, 57, 58, 59, 60, 61, 62, 63] (by decide +kernel) (by decide +kernel)
set_option maxRecDepth 20000 in
theorem gX1_driestSwap_X1_totalWetnessAfter : GoodIn wsX1_driestSwap (wsV RX1 154 RX1 yX1_totalWetnessAfter wsX1_totalWetnessAfter) := goodIn_app (goodIn_of _ (by decide +kernel)) ggX1_driestSwap_X1_totalWetnessAfter
set_option maxRecDepth 20000 in
theorem ggX1_driestSwap_X1_refusal : GoodIn wsX1_driestSwap wsX1_refusal := goodIn_r _ [43, 2, 12, 47, 48, 49, 50, 51, 52, 53, 54, 55, 56, 57, 58, 59, 60, 61, 62, 63] (by decide +kernel) (by decide +kernel)
set_option maxRecDepth 20000 in
theorem gX1_driestSwap_X1_refusal : GoodIn wsX1_driestSwap (wsV RX1 89 RX1 yX1_refusal wsX1_refusal) := goodIn_app (goodIn_of _ (by decide +kernel)) ggX1_driestSwap_X1_refusal
set_option maxRecDepth 20000 in
theorem ggX1_driestSwap_X1_exchange : GoodIn wsX1_driestSwap wsX1_exchange := goodIn_r _ [46] (by decide +kernel) (by decide +kernel)
set_option maxRecDepth 20000 in
theorem gX1_driestSwap_X1_exchange : GoodIn wsX1_driestSwap (va_wsS RX1 85 yX1_exchange wsX1_exchange) := goodIn_app (goodIn_of _ (by decide +kernel)) ggX1_driestSwap_X1_exchange
theorem dX1_driestSwap_0 : decode cX1_driestSwap 0 = .ok (.bipush (-5), 2) := by decide +kernel
theorem dX1_driestSwap_2 : decode cX1_driestSwap 2 = .ok (.istore_n 3, 1) := by decide +kernel
theorem dX1_driestSwap_3 : decode cX1_driestSwap 3 = .ok (.aload_n 0, 1) := by decide +kernel
theorem dX1_driestSwap_4 : decode cX1_driestSwap 4 = .ok (.iload_n 1, 1) := by decide +kernel
theorem dX1_driestSwap_5 : decode cX1_driestSwap 5 = .ok (.iload_n 2, 1) := by decide +kernel
theorem dX1_driestSwap_6 : decode cX1_driestSwap 6 = .ok (.invokevirtual 154, 3) := by decide +kernel
theorem dX1_driestSwap_9 : decode cX1_driestSwap 9 = .ok (.istore 4, 2) := by decide +kernel
theorem dX1_driestSwap_11 : decode cX1_driestSwap 11 = .ok (.iconst 0, 1) := by decide +kernel
theorem dX1_driestSwap_12 : decode cX1_driestSwap 12 = .ok (.istore 5, 2) := by decide +kernel
theorem dX1_driestSwap_14 : decode cX1_driestSwap 14 = .ok (.iload 5, 2) := by decide +kernel
theorem dX1_driestSwap_16 : decode cX1_driestSwap 16 = .ok (.aload_n 0, 1) := by decide +kernel
theorem dX1_driestSwap_17 : decode cX1_driestSwap 17 = .ok (.getfield 39, 3) := by decide +kernel
theorem dX1_driestSwap_20 : decode cX1_driestSwap 20 = .ok (.iconst 1, 1) := by decide +kernel
theorem dX1_driestSwap_21 : decode cX1_driestSwap 21 = .ok (.isub, 1) := by decide +kernel
theorem dX1_driestSwap_22 : decode cX1_driestSwap 22 = .ok (.if_icmp .ge 58, 3) := by decide +kernel
theorem dX1_driestSwap_25 : decode cX1_driestSwap 25 = .ok (.aload_n 0, 1) := by decide +kernel
theorem dX1_driestSwap_26 : decode cX1_driestSwap 26 = .ok (.iload 5, 2) := by decide +kernel
theorem dX1_driestSwap_28 : decode cX1_driestSwap 28 = .ok (.invokevirtual 89, 3) := by decide +kernel
theorem dX1_driestSwap_31 : decode cX1_driestSwap 31 = .ok (.ifCond .ne 43, 3) := by decide +kernel
theorem dX1_driestSwap_34 : decode cX1_driestSwap 34 = .ok (.aload_n 0, 1) := by decide +kernel
theorem dX1_driestSwap_35 : decode cX1_driestSwap 35 = .ok (.getfield 24, 3) := by decide +kernel
theorem dX1_driestSwap_38 : decode cX1_driestSwap 38 = .ok (.iload 5, 2) := by decide +kernel
theorem dX1_driestSwap_40 : decode cX1_driestSwap 40 = .ok (.invokestatic 85, 3) := by decide +kernel
theorem dX1_driestSwap_43 : decode cX1_driestSwap 43 = .ok (.aload_n 0, 1) := by decide +kernel
theorem dX1_driestSwap_44 : decode cX1_driestSwap 44 = .ok (.iload_n 1, 1) := by decide +kernel
theorem dX1_driestSwap_45 : decode cX1_driestSwap 45 = .ok (.iload_n 2, 1) := by decide +kernel
theorem dX1_driestSwap_46 : decode cX1_driestSwap 46 = .ok (.invokevirtual 154, 3) := by decide +kernel
theorem dX1_driestSwap_49 : decode cX1_driestSwap 49 = .ok (.istore 6, 2) := by decide +kernel
theorem dX1_driestSwap_51 : decode cX1_driestSwap 51 = .ok (.aload_n 0, 1) := by decide +kernel
theorem dX1_driestSwap_52 : decode cX1_driestSwap 52 = .ok (.getfield 24, 3) := by decide +kernel
theorem dX1_driestSwap_55 : decode cX1_driestSwap 55 = .ok (.iload 5, 2) := by decide +kernel
theorem dX1_driestSwap_57 : decode cX1_driestSwap 57 = .ok (.invokestatic 85, 3) := by decide +kernel
theorem dX1_driestSwap_60 : decode cX1_driestSwap 60 = .ok (.iload 6, 2) := by decide +kernel
theorem dX1_driestSwap_62 : decode cX1_driestSwap 62 = .ok (.iload 4, 2) := by decide +kernel
theorem dX1_driestSwap_64 : decode cX1_driestSwap 64 = .ok (.if_icmp .ge 10, 3) := by decide +kernel
theorem dX1_driestSwap_67 : decode cX1_driestSwap 67 = .ok (.iload 6, 2) := by decide +kernel
theorem dX1_driestSwap_69 : decode cX1_driestSwap 69 = .ok (.istore 4, 2) := by decide +kernel
theorem dX1_driestSwap_71 : decode cX1_driestSwap 71 = .ok (.iload 5, 2) := by decide +kernel
theorem dX1_driestSwap_73 : decode cX1_driestSwap 73 = .ok (.istore_n 3, 1) := by decide +kernel
theorem dX1_driestSwap_74 : decode cX1_driestSwap 74 = .ok (.iinc 5 1, 3) := by decide +kernel
theorem dX1_driestSwap_77 : decode cX1_driestSwap 77 = .ok (.goto (-63), 3) := by decide +kernel
theorem dX1_driestSwap_80 : decode cX1_driestSwap 80 = .ok (.iload_n 3, 1) := by decide +kernel
theorem dX1_driestSwap_81 : decode cX1_driestSwap 81 = .ok (.ireturn, 1) := by decide +kernel
theorem dX1_peopleToServe_0 : decode cX1_peopleToServe 0 = .ok (.aload_n 0, 1) := by decide +kernel
theorem dX1_peopleToServe_1 : decode cX1_peopleToServe 1 = .ok (.getfield 39, 3) := by decide +kernel
theorem dX1_peopleToServe_4 : decode cX1_peopleToServe 4 = .ok (.aload_n 0, 1) := by decide +kernel
theorem dX1_peopleToServe_5 : decode cX1_peopleToServe 5 = .ok (.getfield 30, 3) := by decide +kernel
theorem dX1_peopleToServe_8 : decode cX1_peopleToServe 8 = .ok (.iconst 1, 1) := by decide +kernel
theorem dX1_peopleToServe_9 : decode cX1_peopleToServe 9 = .ok (.iaload, 1) := by decide +kernel
theorem dX1_peopleToServe_10 : decode cX1_peopleToServe 10 = .ok (.invokestatic 133, 3) := by decide +kernel
theorem dX1_peopleToServe_13 : decode cX1_peopleToServe 13 = .ok (.ireturn, 1) := by decide +kernel
set_option maxRecDepth 20000 in
theorem ggX1_fareForAll_X1_peopleToServe : GoodIn wsX1_fareForAll wsX1_peopleToServe := goodIn_r _ [6, 7, 1, 8, 9, 10, 11, 12, 13, 14, 15, 16, 17, 18, 19, 20, 21, 22, 23, 24, 25, 26, 27, 28] (by decide +kernel) (by decide +kernel)
set_option maxRecDepth 20000 in
theorem gX1_fareForAll_X1_peopleToServe : GoodIn wsX1_fareForAll (wsV RX1 118 RX1 yX1_peopleToServe wsX1_peopleToServe) := goodIn_app (goodIn_of _ (by decide +kernel)) ggX1_fareForAll_X1_peopleToServe
theorem dX1_fareForAll_0 : decode cX1_fareForAll 0 = .ok (.aload_n 0, 1) := by decide +kernel
theorem dX1_fareForAll_1 : decode cX1_fareForAll 1 = .ok (.invokevirtual 118, 3) := by decide +kernel
theorem dX1_fareForAll_4 : decode cX1_fareForAll 4 = .ok (.aload_n 0, 1) := by decide +kernel
theorem dX1_fareForAll_5 : decode cX1_fareForAll 5 = .ok (.getfield 30, 3) := by decide +kernel
theorem dX1_fareForAll_8 : decode cX1_fareForAll 8 = .ok (.iconst 2, 1) := by decide +kernel
theorem dX1_fareForAll_9 : decode cX1_fareForAll 9 = .ok (.iaload, 1) := by decide +kernel
theorem dX1_fareForAll_10 : decode cX1_fareForAll 10 = .ok (.imul, 1) := by decide +kernel
theorem dX1_fareForAll_11 : decode cX1_fareForAll 11 = .ok (.ireturn, 1) := by decide +kernel
set_option maxRecDepth 20000 in
theorem ggX1_driestToServe_X1_peopleToServe : GoodIn wsX1_driestToServe wsX1_peopleToServe := goodIn_r _ [6, 7, 8, 9, 10, 11, 12, 13, 14, 15, 16, 17, 18, 19, 20, 21, 22, 23, 24, 25, 26, 27, 28, 29] (by decide +kernel) (by decide +kernel)
set_option maxRecDepth 20000 in
theorem gX1_driestToServe_X1_peopleToServe : GoodIn wsX1_driestToServe (wsV RX1 118 RX1 yX1_peopleToServe wsX1_peopleToServe) := goodIn_app (goodIn_of _ (by decide +kernel)) ggX1_driestToServe_X1_peopleToServe
theorem dX1_driestToServe_0 : decode cX1_driestToServe 0 = .ok (.aload_n 0, 1) := by decide +kernel
theorem dX1_driestToServe_1 : decode cX1_driestToServe 1 = .ok (.invokevirtual 118, 3) := by decide +kernel
theorem dX1_driestToServe_4 : decode cX1_driestToServe 4 = .ok (.istore_n 1, 1) := by decide +kernel
theorem dX1_driestToServe_5 : decode cX1_driestToServe 5 = .ok (.iconst 0, 1) := by decide +kernel
theorem dX1_driestToServe_6 : decode cX1_driestToServe 6 = .ok (.istore_n 2, 1) := by decide +kernel
theorem dX1_driestToServe_7 : decode cX1_driestToServe 7 = .ok (.iconst 1, 1) := by decide +kernel
theorem dX1_driestToServe_8 : decode cX1_driestToServe 8 = .ok (.istore_n 3, 1) := by decide +kernel
theorem dX1_driestToServe_9 : decode cX1_driestToServe 9 = .ok (.iload_n 3, 1) := by decide +kernel
theorem dX1_driestToServe_10 : decode cX1_driestToServe 10 = .ok (.iload_n 1, 1) := by decide +kernel
theorem dX1_driestToServe_11 : decode cX1_driestToServe 11 = .ok (.if_icmp .ge 26, 3) := by decide +kernel
theorem dX1_driestToServe_14 : decode cX1_driestToServe 14 = .ok (.aload_n 0, 1) := by decide +kernel
theorem dX1_driestToServe_15 : decode cX1_driestToServe 15 = .ok (.getfield 15, 3) := by decide +kernel
theorem dX1_driestToServe_18 : decode cX1_driestToServe 18 = .ok (.iload_n 3, 1) := by decide +kernel
theorem dX1_driestToServe_19 : decode cX1_driestToServe 19 = .ok (.iaload, 1) := by decide +kernel
theorem dX1_driestToServe_20 : decode cX1_driestToServe 20 = .ok (.aload_n 0, 1) := by decide +kernel
theorem dX1_driestToServe_21 : decode cX1_driestToServe 21 = .ok (.getfield 15, 3) := by decide +kernel
theorem dX1_driestToServe_24 : decode cX1_driestToServe 24 = .ok (.iload_n 2, 1) := by decide +kernel
theorem dX1_driestToServe_25 : decode cX1_driestToServe 25 = .ok (.iaload, 1) := by decide +kernel
theorem dX1_driestToServe_26 : decode cX1_driestToServe 26 = .ok (.if_icmp .ge 5, 3) := by decide +kernel
theorem dX1_driestToServe_29 : decode cX1_driestToServe 29 = .ok (.iload_n 3, 1) := by decide +kernel
theorem dX1_driestToServe_30 : decode cX1_driestToServe 30 = .ok (.istore_n 2, 1) := by decide +kernel
theorem dX1_driestToServe_31 : decode cX1_driestToServe 31 = .ok (.iinc 3 1, 3) := by decide +kernel
theorem dX1_driestToServe_34 : decode cX1_driestToServe 34 = .ok (.goto (-25), 3) := by decide +kernel
theorem dX1_driestToServe_37 : decode cX1_driestToServe 37 = .ok (.iload_n 2, 1) := by decide +kernel
theorem dX1_driestToServe_38 : decode cX1_driestToServe 38 = .ok (.ireturn, 1) := by decide +kernel
set_option maxRecDepth 20000 in
theorem ggX1_paidFrom_X1_fareForAll : GoodIn wsX1_paidFrom wsX1_fareForAll := goodIn_r _ [10, 11, 12, 13, 14, 9, 15, 16, 2, 3, 4, 5, 17, 18, 19, 20, 21, 22, 23, 24, 25, 26, 27, 28, 29, 30, 31, 32, 33] (by decide +kernel) (by decide +kernel)
set_option maxRecDepth 20000 in
theorem gX1_paidFrom_X1_fareForAll : GoodIn wsX1_paidFrom (wsV RX1 127 RX1 yX1_fareForAll wsX1_fareForAll) := goodIn_app (goodIn_of _ (by decide +kernel)) ggX1_paidFrom_X1_fareForAll
theorem dX1_paidFrom_0 : decode cX1_paidFrom 0 = .ok (.aload_n 0, 1) := by decide +kernel
theorem dX1_paidFrom_1 : decode cX1_paidFrom 1 = .ok (.getfield 21, 3) := by decide +kernel
theorem dX1_paidFrom_4 : decode cX1_paidFrom 4 = .ok (.iload_n 1, 1) := by decide +kernel
theorem dX1_paidFrom_5 : decode cX1_paidFrom 5 = .ok (.iaload, 1) := by decide +kernel
theorem dX1_paidFrom_6 : decode cX1_paidFrom 6 = .ok (.aload_n 0, 1) := by decide +kernel
theorem dX1_paidFrom_7 : decode cX1_paidFrom 7 = .ok (.invokevirtual 127, 3) := by decide +kernel
theorem dX1_paidFrom_10 : decode cX1_paidFrom 10 = .ok (.invokestatic 133, 3) := by decide +kernel
theorem dX1_paidFrom_13 : decode cX1_paidFrom 13 = .ok (.ireturn, 1) := by decide +kernel
theorem dX1_totalWetness_0 : decode cX1_totalWetness 0 = .ok (.iconst 0, 1) := by decide +kernel
theorem dX1_totalWetness_1 : decode cX1_totalWetness 1 = .ok (.istore_n 1, 1) := by decide +kernel
theorem dX1_totalWetness_2 : decode cX1_totalWetness 2 = .ok (.iconst 0, 1) := by decide +kernel
theorem dX1_totalWetness_3 : decode cX1_totalWetness 3 = .ok (.istore_n 2, 1) := by decide +kernel
theorem dX1_totalWetness_4 : decode cX1_totalWetness 4 = .ok (.iload_n 2, 1) := by decide +kernel
theorem dX1_totalWetness_5 : decode cX1_totalWetness 5 = .ok (.aload_n 0, 1) := by decide +kernel
theorem dX1_totalWetness_6 : decode cX1_totalWetness 6 = .ok (.getfield 39, 3) := by decide +kernel
theorem dX1_totalWetness_9 : decode cX1_totalWetness 9 = .ok (.if_icmp .ge 18, 3) := by decide +kernel
theorem dX1_totalWetness_12 : decode cX1_totalWetness 12 = .ok (.iload_n 1, 1) := by decide +kernel
theorem dX1_totalWetness_13 : decode cX1_totalWetness 13 = .ok (.aload_n 0, 1) := by decide +kernel
theorem dX1_totalWetness_14 : decode cX1_totalWetness 14 = .ok (.getfield 15, 3) := by decide +kernel
theorem dX1_totalWetness_17 : decode cX1_totalWetness 17 = .ok (.iload_n 2, 1) := by decide +kernel
theorem dX1_totalWetness_18 : decode cX1_totalWetness 18 = .ok (.iaload, 1) := by decide +kernel
theorem dX1_totalWetness_19 : decode cX1_totalWetness 19 = .ok (.iadd, 1) := by decide +kernel
theorem dX1_totalWetness_20 : decode cX1_totalWetness 20 = .ok (.istore_n 1, 1) := by decide +kernel
theorem dX1_totalWetness_21 : decode cX1_totalWetness 21 = .ok (.iinc 2 1, 3) := by decide +kernel
theorem dX1_totalWetness_24 : decode cX1_totalWetness 24 = .ok (.goto (-20), 3) := by decide +kernel
theorem dX1_totalWetness_27 : decode cX1_totalWetness 27 = .ok (.iload_n 1, 1) := by decide +kernel
theorem dX1_totalWetness_28 : decode cX1_totalWetness 28 = .ok (.ireturn, 1) := by decide +kernel
theorem dX1_wettest_0 : decode cX1_wettest 0 = .ok (.bipush (-5), 2) := by decide +kernel
theorem dX1_wettest_2 : decode cX1_wettest 2 = .ok (.istore_n 1, 1) := by decide +kernel
theorem dX1_wettest_3 : decode cX1_wettest 3 = .ok (.iconst (-1), 1) := by decide +kernel
theorem dX1_wettest_4 : decode cX1_wettest 4 = .ok (.istore_n 2, 1) := by decide +kernel
theorem dX1_wettest_5 : decode cX1_wettest 5 = .ok (.iconst 0, 1) := by decide +kernel
theorem dX1_wettest_6 : decode cX1_wettest 6 = .ok (.istore_n 3, 1) := by decide +kernel
theorem dX1_wettest_7 : decode cX1_wettest 7 = .ok (.iload_n 3, 1) := by decide +kernel
theorem dX1_wettest_8 : decode cX1_wettest 8 = .ok (.aload_n 0, 1) := by decide +kernel
theorem dX1_wettest_9 : decode cX1_wettest 9 = .ok (.getfield 39, 3) := by decide +kernel
theorem dX1_wettest_12 : decode cX1_wettest 12 = .ok (.if_icmp .ge 28, 3) := by decide +kernel
theorem dX1_wettest_15 : decode cX1_wettest 15 = .ok (.aload_n 0, 1) := by decide +kernel
theorem dX1_wettest_16 : decode cX1_wettest 16 = .ok (.getfield 15, 3) := by decide +kernel
theorem dX1_wettest_19 : decode cX1_wettest 19 = .ok (.iload_n 3, 1) := by decide +kernel
theorem dX1_wettest_20 : decode cX1_wettest 20 = .ok (.iaload, 1) := by decide +kernel
theorem dX1_wettest_21 : decode cX1_wettest 21 = .ok (.iload_n 2, 1) := by decide +kernel
theorem dX1_wettest_22 : decode cX1_wettest 22 = .ok (.if_icmp .le 12, 3) := by decide +kernel
theorem dX1_wettest_25 : decode cX1_wettest 25 = .ok (.aload_n 0, 1) := by decide +kernel
theorem dX1_wettest_26 : decode cX1_wettest 26 = .ok (.getfield 15, 3) := by decide +kernel
theorem dX1_wettest_29 : decode cX1_wettest 29 = .ok (.iload_n 3, 1) := by decide +kernel
theorem dX1_wettest_30 : decode cX1_wettest 30 = .ok (.iaload, 1) := by decide +kernel
theorem dX1_wettest_31 : decode cX1_wettest 31 = .ok (.istore_n 2, 1) := by decide +kernel
theorem dX1_wettest_32 : decode cX1_wettest 32 = .ok (.iload_n 3, 1) := by decide +kernel
theorem dX1_wettest_33 : decode cX1_wettest 33 = .ok (.istore_n 1, 1) := by decide +kernel
theorem dX1_wettest_34 : decode cX1_wettest 34 = .ok (.iinc 3 1, 3) := by decide +kernel
theorem dX1_wettest_37 : decode cX1_wettest 37 = .ok (.goto (-30), 3) := by decide +kernel
theorem dX1_wettest_40 : decode cX1_wettest 40 = .ok (.iload_n 1, 1) := by decide +kernel
theorem dX1_wettest_41 : decode cX1_wettest 41 = .ok (.ireturn, 1) := by decide +kernel
end
section
theorem dX2_init_0 : decode cX2_init 0 = .ok (.aload_n 0, 1) := by decide +kernel
theorem dX2_init_1 : decode cX2_init 1 = .ok (.invokespecial 3, 3) := by decide +kernel
theorem dX2_init_4 : decode cX2_init 4 = .ok (.aload_n 0, 1) := by decide +kernel
theorem dX2_init_5 : decode cX2_init 5 = .ok (.bipush 60, 2) := by decide +kernel
theorem dX2_init_7 : decode cX2_init 7 = .ok (.newarray .char, 2) := by decide +kernel
theorem dX2_init_9 : decode cX2_init 9 = .ok (.putfield 11, 3) := by decide +kernel
theorem dX2_init_12 : decode cX2_init 12 = .ok (.aload_n 0, 1) := by decide +kernel
theorem dX2_init_13 : decode cX2_init 13 = .ok (.bipush 30, 2) := by decide +kernel
theorem dX2_init_15 : decode cX2_init 15 = .ok (.newarray .char, 2) := by decide +kernel
theorem dX2_init_17 : decode cX2_init 17 = .ok (.putfield 15, 3) := by decide +kernel
theorem dX2_init_20 : decode cX2_init 20 = .ok (.aload_n 0, 1) := by decide +kernel
theorem dX2_init_21 : decode cX2_init 21 = .ok (.bipush 30, 2) := by decide +kernel
theorem dX2_init_23 : decode cX2_init 23 = .ok (.newarray .int, 2) := by decide +kernel
theorem dX2_init_25 : decode cX2_init 25 = .ok (.putfield 18, 3) := by decide +kernel
theorem dX2_init_28 : decode cX2_init 28 = .ok (.aload_n 0, 1) := by decide +kernel
theorem dX2_init_29 : decode cX2_init 29 = .ok (.bipush 30, 2) := by decide +kernel
theorem dX2_init_31 : decode cX2_init 31 = .ok (.newarray .int, 2) := by decide +kernel
theorem dX2_init_33 : decode cX2_init 33 = .ok (.putfield 22, 3) := by decide +kernel
theorem dX2_init_36 : decode cX2_init 36 = .ok (.return_, 1) := by decide +kernel
theorem dX2_append_0 : decode cX2_append 0 = .ok (.aload_n 0, 1) := by decide +kernel
theorem dX2_append_1 : decode cX2_append 1 = .ok (.getfield 25, 3) := by decide +kernel
theorem dX2_append_4 : decode cX2_append 4 = .ok (.bipush 60, 2) := by decide +kernel
theorem dX2_append_6 : decode cX2_append 6 = .ok (.if_icmp .lt 6, 3) := by decide +kernel
theorem dX2_append_9 : decode cX2_append 9 = .ok (.bipush (-3), 2) := by decide +kernel
theorem dX2_append_11 : decode cX2_append 11 = .ok (.ireturn, 1) := by decide +kernel
theorem dX2_append_12 : decode cX2_append 12 = .ok (.aload_n 0, 1) := by decide +kernel
theorem dX2_append_13 : decode cX2_append 13 = .ok (.getfield 11, 3) := by decide +kernel
theorem dX2_append_16 : decode cX2_append 16 = .ok (.aload_n 0, 1) := by decide +kernel
theorem dX2_append_17 : decode cX2_append 17 = .ok (.getfield 25, 3) := by decide +kernel
theorem dX2_append_20 : decode cX2_append 20 = .ok (.iload_n 1, 1) := by decide +kernel
theorem dX2_append_21 : decode cX2_append 21 = .ok (.castore, 1) := by decide +kernel
theorem dX2_append_22 : decode cX2_append 22 = .ok (.aload_n 0, 1) := by decide +kernel
theorem dX2_append_23 : decode cX2_append 23 = .ok (.dup, 1) := by decide +kernel
theorem dX2_append_24 : decode cX2_append 24 = .ok (.getfield 25, 3) := by decide +kernel
theorem dX2_append_27 : decode cX2_append 27 = .ok (.iconst 1, 1) := by decide +kernel
theorem dX2_append_28 : decode cX2_append 28 = .ok (.iadd, 1) := by decide +kernel
theorem dX2_append_29 : decode cX2_append 29 = .ok (.putfield 25, 3) := by decide +kernel
theorem dX2_append_32 : decode cX2_append 32 = .ok (.aload_n 0, 1) := by decide +kernel
theorem dX2_append_33 : decode cX2_append 33 = .ok (.getfield 25, 3) := by decide +kernel
theorem dX2_append_36 : decode cX2_append 36 = .ok (.ireturn, 1) := by decide +kernel
theorem dX2_empty_0 : decode cX2_empty 0 = .ok (.aload_n 0, 1) := by decide +kernel
theorem dX2_empty_1 : decode cX2_empty 1 = .ok (.getfield 25, 3) := by decide +kernel
theorem dX2_empty_4 : decode cX2_empty 4 = .ok (.istore_n 1, 1) := by decide +kernel
theorem dX2_empty_5 : decode cX2_empty 5 = .ok (.aload_n 0, 1) := by decide +kernel
theorem dX2_empty_6 : decode cX2_empty 6 = .ok (.iconst 0, 1) := by decide +kernel
theorem dX2_empty_7 : decode cX2_empty 7 = .ok (.putfield 25, 3) := by decide +kernel
theorem dX2_empty_10 : decode cX2_empty 10 = .ok (.iload_n 1, 1) := by decide +kernel
theorem dX2_empty_11 : decode cX2_empty 11 = .ok (.ireturn, 1) := by decide +kernel
set_option maxRecDepth 20000 in
theorem ggX2_read_X2_readThing : GoodIn wsX2_read wsX2_readThing := goodIn_r _ [8, 2, 9, 1, 10, 11, 12, 13, 14, 7, 15, 3, 16, 17, 18, 19, 20, 21, 22, 23, 24, 25, 26, 27, 28, 29, 30, 31, 32, 33, 34, 35, 36, 37, 38] (by decide +kernel) (by decide +kernel)
set_option maxRecDepth 20000 in
theorem gX2_read_X2_readThing : GoodIn wsX2_read (wsV RX2 35 RX2 yX2_readThing wsX2_readThing) := goodIn_app (goodIn_of _ (by decide +kernel)) ggX2_read_X2_readThing
set_option maxRecDepth 20000 in
theorem ggX2_read_X2_character : GoodIn wsX2_read wsX2_character := goodIn_r _ [15, 2, 3, 16, 32, 33, 34, 35, 36, 37, 38] (by decide +kernel) (by decide +kernel)
set_option maxRecDepth 20000 in
theorem gX2_read_X2_character : GoodIn wsX2_read (wsV RX2 39 RX2 yX2_character wsX2_character) := goodIn_app (goodIn_of _ (by decide +kernel)) ggX2_read_X2_character
theorem dX2_read_0 : decode cX2_read 0 = .ok (.aload_n 0, 1) := by decide +kernel
theorem dX2_read_1 : decode cX2_read 1 = .ok (.iconst 0, 1) := by decide +kernel
theorem dX2_read_2 : decode cX2_read 2 = .ok (.putfield 29, 3) := by decide +kernel
theorem dX2_read_5 : decode cX2_read 5 = .ok (.aload_n 0, 1) := by decide +kernel
theorem dX2_read_6 : decode cX2_read 6 = .ok (.iconst 0, 1) := by decide +kernel
theorem dX2_read_7 : decode cX2_read 7 = .ok (.putfield 32, 3) := by decide +kernel
theorem dX2_read_10 : decode cX2_read 10 = .ok (.iconst 0, 1) := by decide +kernel
theorem dX2_read_11 : decode cX2_read 11 = .ok (.istore_n 1, 1) := by decide +kernel
theorem dX2_read_12 : decode cX2_read 12 = .ok (.iload_n 1, 1) := by decide +kernel
theorem dX2_read_13 : decode cX2_read 13 = .ok (.bipush 30, 2) := by decide +kernel
theorem dX2_read_15 : decode cX2_read 15 = .ok (.if_icmp .ge 58, 3) := by decide +kernel
theorem dX2_read_18 : decode cX2_read 18 = .ok (.aload_n 0, 1) := by decide +kernel
theorem dX2_read_19 : decode cX2_read 19 = .ok (.invokevirtual 35, 3) := by decide +kernel
theorem dX2_read_22 : decode cX2_read 22 = .ok (.ifCond .ne 8, 3) := by decide +kernel
theorem dX2_read_25 : decode cX2_read 25 = .ok (.aload_n 0, 1) := by decide +kernel
theorem dX2_read_26 : decode cX2_read 26 = .ok (.getfield 32, 3) := by decide +kernel
theorem dX2_read_29 : decode cX2_read 29 = .ok (.ireturn, 1) := by decide +kernel
theorem dX2_read_30 : decode cX2_read 30 = .ok (.aload_n 0, 1) := by decide +kernel
theorem dX2_read_31 : decode cX2_read 31 = .ok (.getfield 32, 3) := by decide +kernel
theorem dX2_read_34 : decode cX2_read 34 = .ok (.aload_n 0, 1) := by decide +kernel
theorem dX2_read_35 : decode cX2_read 35 = .ok (.getfield 25, 3) := by decide +kernel
theorem dX2_read_38 : decode cX2_read 38 = .ok (.if_icmp .lt 5, 3) := by decide +kernel
theorem dX2_read_41 : decode cX2_read 41 = .ok (.iconst (-1), 1) := by decide +kernel
theorem dX2_read_42 : decode cX2_read 42 = .ok (.ireturn, 1) := by decide +kernel
theorem dX2_read_43 : decode cX2_read 43 = .ok (.aload_n 0, 1) := by decide +kernel
theorem dX2_read_44 : decode cX2_read 44 = .ok (.invokevirtual 39, 3) := by decide +kernel
theorem dX2_read_47 : decode cX2_read 47 = .ok (.bipush 59, 2) := by decide +kernel
theorem dX2_read_49 : decode cX2_read 49 = .ok (.if_icmp .eq 8, 3) := by decide +kernel
theorem dX2_read_52 : decode cX2_read 52 = .ok (.aload_n 0, 1) := by decide +kernel
theorem dX2_read_53 : decode cX2_read 53 = .ok (.getfield 32, 3) := by decide +kernel
theorem dX2_read_56 : decode cX2_read 56 = .ok (.ireturn, 1) := by decide +kernel
theorem dX2_read_57 : decode cX2_read 57 = .ok (.aload_n 0, 1) := by decide +kernel
theorem dX2_read_58 : decode cX2_read 58 = .ok (.dup, 1) := by decide +kernel
theorem dX2_read_59 : decode cX2_read 59 = .ok (.getfield 32, 3) := by decide +kernel
theorem dX2_read_62 : decode cX2_read 62 = .ok (.iconst 1, 1) := by decide +kernel
theorem dX2_read_63 : decode cX2_read 63 = .ok (.iadd, 1) := by decide +kernel
theorem dX2_read_64 : decode cX2_read 64 = .ok (.putfield 32, 3) := by decide +kernel
theorem dX2_read_67 : decode cX2_read 67 = .ok (.iinc 1 1, 3) := by decide +kernel
theorem dX2_read_70 : decode cX2_read 70 = .ok (.goto (-58), 3) := by decide +kernel
theorem dX2_read_73 : decode cX2_read 73 = .ok (.aload_n 0, 1) := by decide +kernel
theorem dX2_read_74 : decode cX2_read 74 = .ok (.getfield 32, 3) := by decide +kernel
theorem dX2_read_77 : decode cX2_read 77 = .ok (.ireturn, 1) := by decide +kernel
set_option maxRecDepth 20000 in
theorem ggX2_readThing_X2_character : GoodIn wsX2_readThing wsX2_character := goodIn_r _ [10, 1, 11, 12, 28, 29, 30, 31, 32, 33, 34] (by decide +kernel) (by decide +kernel)
set_option maxRecDepth 20000 in
theorem gX2_readThing_X2_character : GoodIn wsX2_readThing (wsV RX2 39 RX2 yX2_character wsX2_character) := goodIn_app (goodIn_of _ (by decide +kernel)) ggX2_readThing_X2_character
set_option maxRecDepth 20000 in
theorem ggX2_readThing_X2_readNumber : GoodIn wsX2_readThing wsX2_readNumber := goodIn_r _ [16, 1, 17, 18, 19, 9, 20, 6, 7, 8, 10, 11, 12, 21, 22, 23, 28, 29, 30, 31, 32, 33, 34] (by decide +kernel) (by decide +kernel)
set_option maxRecDepth 20000 in
theorem gX2_readThing_X2_readNumber : GoodIn wsX2_readThing (wsV RX2 43 RX2 yX2_readNumber wsX2_readNumber) := goodIn_app (goodIn_of _ (by decide +kernel)) ggX2_readThing_X2_readNumber
set_option maxRecDepth 20000 in
theorem ggX2_readThing_X2_readSide : GoodIn wsX2_readThing wsX2_readSide := goodIn_r _ [27, 1, 6, 7, 8, 9, 10, 11, 12, 28, 29, 30, 31, 32, 33, 34] (by decide +kernel) (by decide +kernel)
set_option maxRecDepth 20000 in
theorem gX2_readThing_X2_readSide : GoodIn wsX2_readThing (wsV RX2 47 RX2 yX2_readSide wsX2_readSide) := goodIn_app (goodIn_of _ (by decide +kernel)) ggX2_readThing_X2_readSide
theorem dX2_readThing_0 : decode cX2_readThing 0 = .ok (.aload_n 0, 1) := by decide +kernel
theorem dX2_readThing_1 : decode cX2_readThing 1 = .ok (.invokevirtual 39, 3) := by decide +kernel
theorem dX2_readThing_4 : decode cX2_readThing 4 = .ok (.istore_n 1, 1) := by decide +kernel
theorem dX2_readThing_5 : decode cX2_readThing 5 = .ok (.iload_n 1, 1) := by decide +kernel
theorem dX2_readThing_6 : decode cX2_readThing 6 = .ok (.bipush 103, 2) := by decide +kernel
theorem dX2_readThing_8 : decode cX2_readThing 8 = .ok (.if_icmp .eq 23, 3) := by decide +kernel
theorem dX2_readThing_11 : decode cX2_readThing 11 = .ok (.iload_n 1, 1) := by decide +kernel
theorem dX2_readThing_12 : decode cX2_readThing 12 = .ok (.bipush 46, 2) := by decide +kernel
theorem dX2_readThing_14 : decode cX2_readThing 14 = .ok (.if_icmp .eq 17, 3) := by decide +kernel
theorem dX2_readThing_17 : decode cX2_readThing 17 = .ok (.iload_n 1, 1) := by decide +kernel
theorem dX2_readThing_18 : decode cX2_readThing 18 = .ok (.bipush 99, 2) := by decide +kernel
theorem dX2_readThing_20 : decode cX2_readThing 20 = .ok (.if_icmp .eq 11, 3) := by decide +kernel
theorem dX2_readThing_23 : decode cX2_readThing 23 = .ok (.iload_n 1, 1) := by decide +kernel
theorem dX2_readThing_24 : decode cX2_readThing 24 = .ok (.bipush 120, 2) := by decide +kernel
theorem dX2_readThing_26 : decode cX2_readThing 26 = .ok (.if_icmp .eq 5, 3) := by decide +kernel
theorem dX2_readThing_29 : decode cX2_readThing 29 = .ok (.iconst 0, 1) := by decide +kernel
theorem dX2_readThing_30 : decode cX2_readThing 30 = .ok (.ireturn, 1) := by decide +kernel
theorem dX2_readThing_31 : decode cX2_readThing 31 = .ok (.aload_n 0, 1) := by decide +kernel
theorem dX2_readThing_32 : decode cX2_readThing 32 = .ok (.dup, 1) := by decide +kernel
theorem dX2_readThing_33 : decode cX2_readThing 33 = .ok (.getfield 32, 3) := by decide +kernel
theorem dX2_readThing_36 : decode cX2_readThing 36 = .ok (.iconst 1, 1) := by decide +kernel
theorem dX2_readThing_37 : decode cX2_readThing 37 = .ok (.iadd, 1) := by decide +kernel
theorem dX2_readThing_38 : decode cX2_readThing 38 = .ok (.putfield 32, 3) := by decide +kernel
theorem dX2_readThing_41 : decode cX2_readThing 41 = .ok (.iconst 0, 1) := by decide +kernel
theorem dX2_readThing_42 : decode cX2_readThing 42 = .ok (.istore_n 2, 1) := by decide +kernel
theorem dX2_readThing_43 : decode cX2_readThing 43 = .ok (.iload_n 1, 1) := by decide +kernel
theorem dX2_readThing_44 : decode cX2_readThing 44 = .ok (.bipush 103, 2) := by decide +kernel
theorem dX2_readThing_46 : decode cX2_readThing 46 = .ok (.if_icmp .ne 14, 3) := by decide +kernel
theorem dX2_readThing_49 : decode cX2_readThing 49 = .ok (.aload_n 0, 1) := by decide +kernel
theorem dX2_readThing_50 : decode cX2_readThing 50 = .ok (.iconst 1, 1) := by decide +kernel
theorem dX2_readThing_51 : decode cX2_readThing 51 = .ok (.bipush 99, 2) := by decide +kernel
theorem dX2_readThing_53 : decode cX2_readThing 53 = .ok (.invokevirtual 43, 3) := by decide +kernel
theorem dX2_readThing_56 : decode cX2_readThing 56 = .ok (.istore_n 2, 1) := by decide +kernel
theorem dX2_readThing_57 : decode cX2_readThing 57 = .ok (.goto 34, 3) := by decide +kernel
theorem dX2_readThing_60 : decode cX2_readThing 60 = .ok (.iload_n 1, 1) := by decide +kernel
theorem dX2_readThing_61 : decode cX2_readThing 61 = .ok (.bipush 46, 2) := by decide +kernel
theorem dX2_readThing_63 : decode cX2_readThing 63 = .ok (.if_icmp .ne 14, 3) := by decide +kernel
theorem dX2_readThing_66 : decode cX2_readThing 66 = .ok (.aload_n 0, 1) := by decide +kernel
theorem dX2_readThing_67 : decode cX2_readThing 67 = .ok (.iconst 1, 1) := by decide +kernel
theorem dX2_readThing_68 : decode cX2_readThing 68 = .ok (.bipush 99, 2) := by decide +kernel
theorem dX2_readThing_70 : decode cX2_readThing 70 = .ok (.invokevirtual 43, 3) := by decide +kernel
theorem dX2_readThing_73 : decode cX2_readThing 73 = .ok (.istore_n 2, 1) := by decide +kernel
theorem dX2_readThing_74 : decode cX2_readThing 74 = .ok (.goto 17, 3) := by decide +kernel
theorem dX2_readThing_77 : decode cX2_readThing 77 = .ok (.iload_n 1, 1) := by decide +kernel
theorem dX2_readThing_78 : decode cX2_readThing 78 = .ok (.bipush 120, 2) := by decide +kernel
theorem dX2_readThing_80 : decode cX2_readThing 80 = .ok (.if_icmp .ne 11, 3) := by decide +kernel
theorem dX2_readThing_83 : decode cX2_readThing 83 = .ok (.aload_n 0, 1) := by decide +kernel
theorem dX2_readThing_84 : decode cX2_readThing 84 = .ok (.iconst 0, 1) := by decide +kernel
theorem dX2_readThing_85 : decode cX2_readThing 85 = .ok (.bipush 15, 2) := by decide +kernel
theorem dX2_readThing_87 : decode cX2_readThing 87 = .ok (.invokevirtual 43, 3) := by decide +kernel
theorem dX2_readThing_90 : decode cX2_readThing 90 = .ok (.istore_n 2, 1) := by decide +kernel
theorem dX2_readThing_91 : decode cX2_readThing 91 = .ok (.iload_n 2, 1) := by decide +kernel
theorem dX2_readThing_92 : decode cX2_readThing 92 = .ok (.iconst (-1), 1) := by decide +kernel
theorem dX2_readThing_93 : decode cX2_readThing 93 = .ok (.if_icmp .ne 5, 3) := by decide +kernel
theorem dX2_readThing_96 : decode cX2_readThing 96 = .ok (.iconst 0, 1) := by decide +kernel
theorem dX2_readThing_97 : decode cX2_readThing 97 = .ok (.ireturn, 1) := by decide +kernel
theorem dX2_readThing_98 : decode cX2_readThing 98 = .ok (.aload_n 0, 1) := by decide +kernel
theorem dX2_readThing_99 : decode cX2_readThing 99 = .ok (.getfield 15, 3) := by decide +kernel
theorem dX2_readThing_102 : decode cX2_readThing 102 = .ok (.aload_n 0, 1) := by decide +kernel
theorem dX2_readThing_103 : decode cX2_readThing 103 = .ok (.getfield 29, 3) := by decide +kernel
theorem dX2_readThing_106 : decode cX2_readThing 106 = .ok (.iload_n 1, 1) := by decide +kernel
theorem dX2_readThing_107 : decode cX2_readThing 107 = .ok (.i2c, 1) := by decide +kernel
theorem dX2_readThing_108 : decode cX2_readThing 108 = .ok (.castore, 1) := by decide +kernel
theorem dX2_readThing_109 : decode cX2_readThing 109 = .ok (.aload_n 0, 1) := by decide +kernel
theorem dX2_readThing_110 : decode cX2_readThing 110 = .ok (.getfield 18, 3) := by decide +kernel
theorem dX2_readThing_113 : decode cX2_readThing 113 = .ok (.aload_n 0, 1) := by decide +kernel
theorem dX2_readThing_114 : decode cX2_readThing 114 = .ok (.getfield 29, 3) := by decide +kernel
theorem dX2_readThing_117 : decode cX2_readThing 117 = .ok (.iload_n 2, 1) := by decide +kernel
theorem dX2_readThing_118 : decode cX2_readThing 118 = .ok (.iastore, 1) := by decide +kernel
theorem dX2_readThing_119 : decode cX2_readThing 119 = .ok (.aload_n 0, 1) := by decide +kernel
theorem dX2_readThing_120 : decode cX2_readThing 120 = .ok (.getfield 22, 3) := by decide +kernel
theorem dX2_readThing_123 : decode cX2_readThing 123 = .ok (.aload_n 0, 1) := by decide +kernel
theorem dX2_readThing_124 : decode cX2_readThing 124 = .ok (.getfield 29, 3) := by decide +kernel
theorem dX2_readThing_127 : decode cX2_readThing 127 = .ok (.iload_n 1, 1) := by decide +kernel
theorem dX2_readThing_128 : decode cX2_readThing 128 = .ok (.bipush 103, 2) := by decide +kernel
theorem dX2_readThing_130 : decode cX2_readThing 130 = .ok (.if_icmp .ne 10, 3) := by decide +kernel
theorem dX2_readThing_133 : decode cX2_readThing 133 = .ok (.aload_n 0, 1) := by decide +kernel
theorem dX2_readThing_134 : decode cX2_readThing 134 = .ok (.invokevirtual 47, 3) := by decide +kernel
theorem dX2_readThing_137 : decode cX2_readThing 137 = .ok (.goto 4, 3) := by decide +kernel
theorem dX2_readThing_140 : decode cX2_readThing 140 = .ok (.iconst 0, 1) := by decide +kernel
theorem dX2_readThing_141 : decode cX2_readThing 141 = .ok (.iastore, 1) := by decide +kernel
theorem dX2_readThing_142 : decode cX2_readThing 142 = .ok (.aload_n 0, 1) := by decide +kernel
theorem dX2_readThing_143 : decode cX2_readThing 143 = .ok (.dup, 1) := by decide +kernel
theorem dX2_readThing_144 : decode cX2_readThing 144 = .ok (.getfield 29, 3) := by decide +kernel
theorem dX2_readThing_147 : decode cX2_readThing 147 = .ok (.iconst 1, 1) := by decide +kernel
theorem dX2_readThing_148 : decode cX2_readThing 148 = .ok (.iadd, 1) := by decide +kernel
theorem dX2_readThing_149 : decode cX2_readThing 149 = .ok (.putfield 29, 3) := by decide +kernel
theorem dX2_readThing_152 : decode cX2_readThing 152 = .ok (.iconst 1, 1) := by decide +kernel
theorem dX2_readThing_153 : decode cX2_readThing 153 = .ok (.ireturn, 1) := by decide +kernel
set_option maxRecDepth 20000 in
theorem ggX2_readNumber_X2_digit : GoodIn wsX2_readNumber wsX2_digit := goodIn_r _ [6, 7, 8, 9, 5, 10, 1, 11, 12, 13, 14, 15, 16, 17, 18, 19, 20, 21, 22] (by decide +kernel) (by decide +kernel)
set_option maxRecDepth 20000 in
theorem gX2_readNumber_X2_digit : GoodIn wsX2_readNumber (wsV RX2 50 RX2 yX2_digit wsX2_digit) := goodIn_app (goodIn_of _ (by decide +kernel)) ggX2_readNumber_X2_digit
theorem dX2_readNumber_0 : decode cX2_readNumber 0 = .ok (.aload_n 0, 1) := by decide +kernel
theorem dX2_readNumber_1 : decode cX2_readNumber 1 = .ok (.invokevirtual 50, 3) := by decide +kernel
theorem dX2_readNumber_4 : decode cX2_readNumber 4 = .ok (.istore_n 3, 1) := by decide +kernel
theorem dX2_readNumber_5 : decode cX2_readNumber 5 = .ok (.iload_n 3, 1) := by decide +kernel
theorem dX2_readNumber_6 : decode cX2_readNumber 6 = .ok (.iload_n 1, 1) := by decide +kernel
theorem dX2_readNumber_7 : decode cX2_readNumber 7 = .ok (.if_icmp .ge 5, 3) := by decide +kernel
theorem dX2_readNumber_10 : decode cX2_readNumber 10 = .ok (.iconst (-1), 1) := by decide +kernel
theorem dX2_readNumber_11 : decode cX2_readNumber 11 = .ok (.ireturn, 1) := by decide +kernel
theorem dX2_readNumber_12 : decode cX2_readNumber 12 = .ok (.aload_n 0, 1) := by decide +kernel
theorem dX2_readNumber_13 : decode cX2_readNumber 13 = .ok (.dup, 1) := by decide +kernel
theorem dX2_readNumber_14 : decode cX2_readNumber 14 = .ok (.getfield 32, 3) := by decide +kernel
theorem dX2_readNumber_17 : decode cX2_readNumber 17 = .ok (.iconst 1, 1) := by decide +kernel
theorem dX2_readNumber_18 : decode cX2_readNumber 18 = .ok (.iadd, 1) := by decide +kernel
theorem dX2_readNumber_19 : decode cX2_readNumber 19 = .ok (.putfield 32, 3) := by decide +kernel
theorem dX2_readNumber_22 : decode cX2_readNumber 22 = .ok (.aload_n 0, 1) := by decide +kernel
theorem dX2_readNumber_23 : decode cX2_readNumber 23 = .ok (.invokevirtual 50, 3) := by decide +kernel
theorem dX2_readNumber_26 : decode cX2_readNumber 26 = .ok (.istore 4, 2) := by decide +kernel
theorem dX2_readNumber_28 : decode cX2_readNumber 28 = .ok (.iload_n 3, 1) := by decide +kernel
theorem dX2_readNumber_29 : decode cX2_readNumber 29 = .ok (.ifCond .eq 20, 3) := by decide +kernel
theorem dX2_readNumber_32 : decode cX2_readNumber 32 = .ok (.iload 4, 2) := by decide +kernel
theorem dX2_readNumber_34 : decode cX2_readNumber 34 = .ok (.iconst (-1), 1) := by decide +kernel
theorem dX2_readNumber_35 : decode cX2_readNumber 35 = .ok (.if_icmp .eq 14, 3) := by decide +kernel
theorem dX2_readNumber_38 : decode cX2_readNumber 38 = .ok (.iload_n 3, 1) := by decide +kernel
theorem dX2_readNumber_39 : decode cX2_readNumber 39 = .ok (.bipush 10, 2) := by decide +kernel
theorem dX2_readNumber_41 : decode cX2_readNumber 41 = .ok (.imul, 1) := by decide +kernel
theorem dX2_readNumber_42 : decode cX2_readNumber 42 = .ok (.iload 4, 2) := by decide +kernel
theorem dX2_readNumber_44 : decode cX2_readNumber 44 = .ok (.iadd, 1) := by decide +kernel
theorem dX2_readNumber_45 : decode cX2_readNumber 45 = .ok (.iload_n 2, 1) := by decide +kernel
theorem dX2_readNumber_46 : decode cX2_readNumber 46 = .ok (.if_icmp .le 5, 3) := by decide +kernel
theorem dX2_readNumber_49 : decode cX2_readNumber 49 = .ok (.iload_n 3, 1) := by decide +kernel
theorem dX2_readNumber_50 : decode cX2_readNumber 50 = .ok (.ireturn, 1) := by decide +kernel
theorem dX2_readNumber_51 : decode cX2_readNumber 51 = .ok (.aload_n 0, 1) := by decide +kernel
theorem dX2_readNumber_52 : decode cX2_readNumber 52 = .ok (.dup, 1) := by decide +kernel
theorem dX2_readNumber_53 : decode cX2_readNumber 53 = .ok (.getfield 32, 3) := by decide +kernel
theorem dX2_readNumber_56 : decode cX2_readNumber 56 = .ok (.iconst 1, 1) := by decide +kernel
theorem dX2_readNumber_57 : decode cX2_readNumber 57 = .ok (.iadd, 1) := by decide +kernel
theorem dX2_readNumber_58 : decode cX2_readNumber 58 = .ok (.putfield 32, 3) := by decide +kernel
theorem dX2_readNumber_61 : decode cX2_readNumber 61 = .ok (.iload_n 3, 1) := by decide +kernel
theorem dX2_readNumber_62 : decode cX2_readNumber 62 = .ok (.bipush 10, 2) := by decide +kernel
theorem dX2_readNumber_64 : decode cX2_readNumber 64 = .ok (.imul, 1) := by decide +kernel
theorem dX2_readNumber_65 : decode cX2_readNumber 65 = .ok (.iload 4, 2) := by decide +kernel
theorem dX2_readNumber_67 : decode cX2_readNumber 67 = .ok (.iadd, 1) := by decide +kernel
theorem dX2_readNumber_68 : decode cX2_readNumber 68 = .ok (.ireturn, 1) := by decide +kernel
set_option maxRecDepth 20000 in
theorem ggX2_readSide_X2_character : GoodIn wsX2_readSide wsX2_character := goodIn_r _ [6, 1, 7, 8, 9, 10, 11, 12, 13, 14, 15] (by decide +kernel) (by decide +kernel)
set_option maxRecDepth 20000 in
theorem gX2_readSide_X2_character : GoodIn wsX2_readSide (wsV RX2 39 RX2 yX2_character wsX2_character) := goodIn_app (goodIn_of _ (by decide +kernel)) ggX2_readSide_X2_character
theorem dX2_readSide_0 : decode cX2_readSide 0 = .ok (.aload_n 0, 1) := by decide +kernel
theorem dX2_readSide_1 : decode cX2_readSide 1 = .ok (.invokevirtual 39, 3) := by decide +kernel
theorem dX2_readSide_4 : decode cX2_readSide 4 = .ok (.istore_n 1, 1) := by decide +kernel
theorem dX2_readSide_5 : decode cX2_readSide 5 = .ok (.iload_n 1, 1) := by decide +kernel
theorem dX2_readSide_6 : decode cX2_readSide 6 = .ok (.bipush 60, 2) := by decide +kernel
theorem dX2_readSide_8 : decode cX2_readSide 8 = .ok (.if_icmp .eq 11, 3) := by decide +kernel
theorem dX2_readSide_11 : decode cX2_readSide 11 = .ok (.iload_n 1, 1) := by decide +kernel
theorem dX2_readSide_12 : decode cX2_readSide 12 = .ok (.bipush 62, 2) := by decide +kernel
theorem dX2_readSide_14 : decode cX2_readSide 14 = .ok (.if_icmp .eq 5, 3) := by decide +kernel
theorem dX2_readSide_17 : decode cX2_readSide 17 = .ok (.iconst 0, 1) := by decide +kernel
theorem dX2_readSide_18 : decode cX2_readSide 18 = .ok (.ireturn, 1) := by decide +kernel
theorem dX2_readSide_19 : decode cX2_readSide 19 = .ok (.aload_n 0, 1) := by decide +kernel
theorem dX2_readSide_20 : decode cX2_readSide 20 = .ok (.dup, 1) := by decide +kernel
theorem dX2_readSide_21 : decode cX2_readSide 21 = .ok (.getfield 32, 3) := by decide +kernel
theorem dX2_readSide_24 : decode cX2_readSide 24 = .ok (.iconst 1, 1) := by decide +kernel
theorem dX2_readSide_25 : decode cX2_readSide 25 = .ok (.iadd, 1) := by decide +kernel
theorem dX2_readSide_26 : decode cX2_readSide 26 = .ok (.putfield 32, 3) := by decide +kernel
theorem dX2_readSide_29 : decode cX2_readSide 29 = .ok (.iload_n 1, 1) := by decide +kernel
theorem dX2_readSide_30 : decode cX2_readSide 30 = .ok (.bipush 60, 2) := by decide +kernel
theorem dX2_readSide_32 : decode cX2_readSide 32 = .ok (.if_icmp .ne 7, 3) := by decide +kernel
theorem dX2_readSide_35 : decode cX2_readSide 35 = .ok (.iconst 1, 1) := by decide +kernel
theorem dX2_readSide_36 : decode cX2_readSide 36 = .ok (.goto 4, 3) := by decide +kernel
theorem dX2_readSide_39 : decode cX2_readSide 39 = .ok (.iconst 2, 1) := by decide +kernel
theorem dX2_readSide_40 : decode cX2_readSide 40 = .ok (.ireturn, 1) := by decide +kernel
set_option maxRecDepth 20000 in
theorem ggX2_digit_X2_character : GoodIn wsX2_digit wsX2_character := goodIn_r _ [5, 6, 7, 8, 12, 13, 14, 15, 16, 17, 18] (by decide +kernel) (by decide +kernel)
set_option maxRecDepth 20000 in
theorem gX2_digit_X2_character : GoodIn wsX2_digit (wsV RX2 39 RX2 yX2_character wsX2_character) := goodIn_app (goodIn_of _ (by decide +kernel)) ggX2_digit_X2_character
set_option maxRecDepth 20000 in
theorem ggX2_digit_X3_isWithin : GoodIn wsX2_digit wsX3_isWithin := goodIn_r _ [11] (by decide +kernel) (by decide +kernel)
set_option maxRecDepth 20000 in
theorem gX2_digit_X3_isWithin_n53 : GoodIn wsX2_digit (wsX3_isWithin) := ggX2_digit_X3_isWithin
theorem dX2_digit_0 : decode cX2_digit 0 = .ok (.aload_n 0, 1) := by decide +kernel
theorem dX2_digit_1 : decode cX2_digit 1 = .ok (.invokevirtual 39, 3) := by decide +kernel
theorem dX2_digit_4 : decode cX2_digit 4 = .ok (.istore_n 1, 1) := by decide +kernel
theorem dX2_digit_5 : decode cX2_digit 5 = .ok (.iload_n 1, 1) := by decide +kernel
theorem dX2_digit_6 : decode cX2_digit 6 = .ok (.bipush 48, 2) := by decide +kernel
theorem dX2_digit_8 : decode cX2_digit 8 = .ok (.bipush 57, 2) := by decide +kernel
theorem dX2_digit_10 : decode cX2_digit 10 = .ok (.invokestatic 53, 3) := by decide +kernel
theorem dX2_digit_13 : decode cX2_digit 13 = .ok (.ifCond .eq 10, 3) := by decide +kernel
theorem dX2_digit_16 : decode cX2_digit 16 = .ok (.iload_n 1, 1) := by decide +kernel
theorem dX2_digit_17 : decode cX2_digit 17 = .ok (.bipush 48, 2) := by decide +kernel
theorem dX2_digit_19 : decode cX2_digit 19 = .ok (.isub, 1) := by decide +kernel
theorem dX2_digit_20 : decode cX2_digit 20 = .ok (.goto 4, 3) := by decide +kernel
theorem dX2_digit_23 : decode cX2_digit 23 = .ok (.iconst (-1), 1) := by decide +kernel
theorem dX2_digit_24 : decode cX2_digit 24 = .ok (.ireturn, 1) := by decide +kernel
theorem dX2_character_0 : decode cX2_character 0 = .ok (.aload_n 0, 1) := by decide +kernel
theorem dX2_character_1 : decode cX2_character 1 = .ok (.getfield 32, 3) := by decide +kernel
theorem dX2_character_4 : decode cX2_character 4 = .ok (.aload_n 0, 1) := by decide +kernel
theorem dX2_character_5 : decode cX2_character 5 = .ok (.getfield 25, 3) := by decide +kernel
theorem dX2_character_8 : decode cX2_character 8 = .ok (.if_icmp .ge 15, 3) := by decide +kernel
theorem dX2_character_11 : decode cX2_character 11 = .ok (.aload_n 0, 1) := by decide +kernel
theorem dX2_character_12 : decode cX2_character 12 = .ok (.getfield 11, 3) := by decide +kernel
theorem dX2_character_15 : decode cX2_character 15 = .ok (.aload_n 0, 1) := by decide +kernel
theorem dX2_character_16 : decode cX2_character 16 = .ok (.getfield 32, 3) := by decide +kernel
theorem dX2_character_19 : decode cX2_character 19 = .ok (.caload, 1) := by decide +kernel
theorem dX2_character_20 : decode cX2_character 20 = .ok (.goto 4, 3) := by decide +kernel
theorem dX2_character_23 : decode cX2_character 23 = .ok (.iconst (-1), 1) := by decide +kernel
theorem dX2_character_24 : decode cX2_character 24 = .ok (.ireturn, 1) := by decide +kernel
set_option maxRecDepth 20000 in
theorem ggX3_init_X1_init : GoodIn wsX3_init wsX1_init := goodIn_r _ [20, 21, 2, 3, 22, 23, 24, 25, 26, 27, 28, 29, 44, 45, 46, 47, 48, 49, 50, 51, 52, 53, 54, 55, 56, 57, 58, 59, 60] (by decide +kernel) (by decide +kernel)
set_option maxRecDepth 20000 in
theorem gX3_init_X1_init_n9 : GoodIn wsX3_init (wsX1_init) := ggX3_init_X1_init
set_option maxRecDepth 20000 in
theorem ggX3_init_X0_init : GoodIn wsX3_init wsX0_init := goodIn_r _ [32, 33, 2, 3, 34, 35, 5, 6, 19, 20, 21, 22, 23, 24, 25, 26, 27, 28, 29, 68, 69, 44, 45, 46, 47, 48, 49, 50, 51, 52, 53, 54, 55, 56, 57, 58, 59, 60] (by decide +kernel) (by decide +kernel)
set_option maxRecDepth 20000 in
theorem gX3_init_X0_init : GoodIn wsX3_init (wsX0_init) := ggX3_init_X0_init
set_option maxRecDepth 20000 in
theorem ggX3_init_X2_init : GoodIn wsX3_init wsX2_init := goodIn_r _ [37, 38, 2, 3, 39, 40, 41, 22, 42, 43, 70, 71, 72, 73, 74, 75, 76] (by decide +kernel) (by decide +kernel)
set_option maxRecDepth 20000 in
theorem gX3_init_X2_init_n28 : GoodIn wsX3_init (wsX2_init) := ggX3_init_X2_init
theorem dX3_init_0 : decode cX3_init 0 = .ok (.aload_n 0, 1) := by decide +kernel
theorem dX3_init_1 : decode cX3_init 1 = .ok (.invokespecial 1, 3) := by decide +kernel
theorem dX3_init_4 : decode cX3_init 4 = .ok (.aload_n 0, 1) := by decide +kernel
theorem dX3_init_5 : decode cX3_init 5 = .ok (.new 7, 3) := by decide +kernel
theorem dX3_init_8 : decode cX3_init 8 = .ok (.dup, 1) := by decide +kernel
theorem dX3_init_9 : decode cX3_init 9 = .ok (.invokespecial 9, 3) := by decide +kernel
theorem dX3_init_12 : decode cX3_init 12 = .ok (.putfield 10, 3) := by decide +kernel
theorem dX3_init_15 : decode cX3_init 15 = .ok (.aload_n 0, 1) := by decide +kernel
theorem dX3_init_16 : decode cX3_init 16 = .ok (.new 7, 3) := by decide +kernel
theorem dX3_init_19 : decode cX3_init 19 = .ok (.dup, 1) := by decide +kernel
theorem dX3_init_20 : decode cX3_init 20 = .ok (.invokespecial 9, 3) := by decide +kernel
theorem dX3_init_23 : decode cX3_init 23 = .ok (.putfield 16, 3) := by decide +kernel
theorem dX3_init_26 : decode cX3_init 26 = .ok (.aload_n 0, 1) := by decide +kernel
theorem dX3_init_27 : decode cX3_init 27 = .ok (.new 19, 3) := by decide +kernel
theorem dX3_init_30 : decode cX3_init 30 = .ok (.dup, 1) := by decide +kernel
theorem dX3_init_31 : decode cX3_init 31 = .ok (.invokespecial 21, 3) := by decide +kernel
theorem dX3_init_34 : decode cX3_init 34 = .ok (.putfield 22, 3) := by decide +kernel
theorem dX3_init_37 : decode cX3_init 37 = .ok (.aload_n 0, 1) := by decide +kernel
theorem dX3_init_38 : decode cX3_init 38 = .ok (.new 26, 3) := by decide +kernel
theorem dX3_init_41 : decode cX3_init 41 = .ok (.dup, 1) := by decide +kernel
theorem dX3_init_42 : decode cX3_init 42 = .ok (.invokespecial 28, 3) := by decide +kernel
theorem dX3_init_45 : decode cX3_init 45 = .ok (.putfield 29, 3) := by decide +kernel
theorem dX3_init_48 : decode cX3_init 48 = .ok (.aload_n 0, 1) := by decide +kernel
theorem dX3_init_49 : decode cX3_init 49 = .ok (.bipush (-5), 2) := by decide +kernel
theorem dX3_init_51 : decode cX3_init 51 = .ok (.putfield 33, 3) := by decide +kernel
theorem dX3_init_54 : decode cX3_init 54 = .ok (.aload_n 0, 1) := by decide +kernel
theorem dX3_init_55 : decode cX3_init 55 = .ok (.bipush (-5), 2) := by decide +kernel
theorem dX3_init_57 : decode cX3_init 57 = .ok (.putfield 37, 3) := by decide +kernel
theorem dX3_init_60 : decode cX3_init 60 = .ok (.return_, 1) := by decide +kernel
set_option maxRecDepth 20000 in
theorem ggX3_come_X0_draft : GoodIn wsX3_come wsX0_draft := goodIn_r _ [7, 8, 9, 10, 6, 11, 12, 13, 14, 15, 16, 17, 18, 19, 20, 21, 22, 23, 24, 25, 26, 27, 28, 29, 30, 31, 32, 33, 34, 35, 36, 37, 38, 39, 62, 63, 64, 65, 66, 67, 68, 69, 70, 71, 72, 73, 74, 75, 76, 77, 78, 79, 80] (by decide +kernel) (by decide +kernel)
set_option maxRecDepth 20000 in
theorem gX3_come_X0_draft : GoodIn wsX3_come (wsV RX3 40 RX0 yX0_draft wsX0_draft) := goodIn_app (goodIn_of _ (by decide +kernel)) ggX3_come_X0_draft
set_option maxRecDepth 20000 in
theorem ggX3_come_X1_admit : GoodIn wsX3_come wsX1_admit := goodIn_r _ [43, 30, 31, 19, 24, 25, 26, 27, 28, 44, 45, 46, 64, 65, 66, 67, 68, 69, 70, 71, 72, 73, 74, 75, 76, 77, 78, 79, 80] (by decide +kernel) (by decide +kernel)
set_option maxRecDepth 20000 in
theorem gX3_come_X1_admit : GoodIn wsX3_come (wsV RX3 44 RX1 yX1_admit wsX1_admit) := goodIn_app (goodIn_of _ (by decide +kernel)) ggX3_come_X1_admit
set_option maxRecDepth 20000 in
theorem ggX3_come_X3_recorded : GoodIn wsX3_come wsX3_recorded := goodIn_r _ [50, 1, 51, 52, 53, 6, 54, 13, 12, 55, 56, 57, 58, 59, 60, 61, 62, 63] (by decide +kernel) (by decide +kernel)
set_option maxRecDepth 20000 in
theorem gX3_come_X3_recorded : GoodIn wsX3_come (wsV RX3 48 RX3 yX3_recorded wsX3_recorded) := goodIn_app (goodIn_of _ (by decide +kernel)) ggX3_come_X3_recorded
theorem dX3_come_0 : decode cX3_come 0 = .ok (.aload_n 0, 1) := by decide +kernel
theorem dX3_come_1 : decode cX3_come 1 = .ok (.getfield 22, 3) := by decide +kernel
theorem dX3_come_4 : decode cX3_come 4 = .ok (.aload_n 0, 1) := by decide +kernel
theorem dX3_come_5 : decode cX3_come 5 = .ok (.getfield 10, 3) := by decide +kernel
theorem dX3_come_8 : decode cX3_come 8 = .ok (.invokevirtual 40, 3) := by decide +kernel
theorem dX3_come_11 : decode cX3_come 11 = .ok (.aload_n 0, 1) := by decide +kernel
theorem dX3_come_12 : decode cX3_come 12 = .ok (.aload_n 0, 1) := by decide +kernel
theorem dX3_come_13 : decode cX3_come 13 = .ok (.getfield 10, 3) := by decide +kernel
theorem dX3_come_16 : decode cX3_come 16 = .ok (.iload_n 1, 1) := by decide +kernel
theorem dX3_come_17 : decode cX3_come 17 = .ok (.iload_n 2, 1) := by decide +kernel
theorem dX3_come_18 : decode cX3_come 18 = .ok (.iload_n 3, 1) := by decide +kernel
theorem dX3_come_19 : decode cX3_come 19 = .ok (.invokevirtual 44, 3) := by decide +kernel
theorem dX3_come_22 : decode cX3_come 22 = .ok (.invokevirtual 48, 3) := by decide +kernel
theorem dX3_come_25 : decode cX3_come 25 = .ok (.ireturn, 1) := by decide +kernel
set_option maxRecDepth 20000 in
theorem ggX3_leave_X0_draft : GoodIn wsX3_leave wsX0_draft := goodIn_r _ [7, 8, 9, 10, 6, 11, 12, 13, 14, 15, 16, 17, 18, 19, 20, 21, 22, 23, 24, 25, 26, 27, 28, 29, 30, 31, 32, 33, 34, 35, 36, 37, 38, 39, 71, 72, 73, 74, 75, 76, 77, 78, 79, 80, 81, 82, 83, 84, 85, 86, 87, 88, 89] (by decide +kernel) (by decide +kernel)
set_option maxRecDepth 20000 in
theorem gX3_leave_X0_draft : GoodIn wsX3_leave (wsV RX3 40 RX0 yX0_draft wsX0_draft) := goodIn_app (goodIn_of _ (by decide +kernel)) ggX3_leave_X0_draft
set_option maxRecDepth 20000 in
theorem ggX3_leave_X1_dismiss : GoodIn wsX3_leave wsX1_dismiss := goodIn_r _ [43, 24, 32, 44, 45, 46, 17, 47, 30, 48, 49, 50, 51, 19, 25, 26, 27, 28, 52, 53, 54, 20, 21, 22, 23, 73, 74, 75, 76, 77, 78, 79, 80, 81, 82, 83, 84, 85, 86, 87, 88, 89] (by decide +kernel) (by decide +kernel)
set_option maxRecDepth 20000 in
theorem gX3_leave_X1_dismiss : GoodIn wsX3_leave (wsV RX3 52 RX1 yX1_dismiss wsX1_dismiss) := goodIn_app (goodIn_of _ (by decide +kernel)) ggX3_leave_X1_dismiss
set_option maxRecDepth 20000 in
theorem ggX3_leave_X3_recorded : GoodIn wsX3_leave wsX3_recorded := goodIn_r _ [59, 1, 60, 61, 62, 6, 63, 13, 12, 64, 65, 66, 67, 68, 69, 70, 71, 72] (by decide +kernel) (by decide +kernel)
set_option maxRecDepth 20000 in
theorem gX3_leave_X3_recorded : GoodIn wsX3_leave (wsV RX3 48 RX3 yX3_recorded wsX3_recorded) := goodIn_app (goodIn_of _ (by decide +kernel)) ggX3_leave_X3_recorded
theorem dX3_leave_0 : decode cX3_leave 0 = .ok (.aload_n 0, 1) := by decide +kernel
theorem dX3_leave_1 : decode cX3_leave 1 = .ok (.getfield 22, 3) := by decide +kernel
theorem dX3_leave_4 : decode cX3_leave 4 = .ok (.aload_n 0, 1) := by decide +kernel
theorem dX3_leave_5 : decode cX3_leave 5 = .ok (.getfield 10, 3) := by decide +kernel
theorem dX3_leave_8 : decode cX3_leave 8 = .ok (.invokevirtual 40, 3) := by decide +kernel
theorem dX3_leave_11 : decode cX3_leave 11 = .ok (.aload_n 0, 1) := by decide +kernel
theorem dX3_leave_12 : decode cX3_leave 12 = .ok (.aload_n 0, 1) := by decide +kernel
theorem dX3_leave_13 : decode cX3_leave 13 = .ok (.getfield 10, 3) := by decide +kernel
theorem dX3_leave_16 : decode cX3_leave 16 = .ok (.iload_n 1, 1) := by decide +kernel
theorem dX3_leave_17 : decode cX3_leave 17 = .ok (.invokevirtual 52, 3) := by decide +kernel
theorem dX3_leave_20 : decode cX3_leave 20 = .ok (.invokevirtual 48, 3) := by decide +kernel
theorem dX3_leave_23 : decode cX3_leave 23 = .ok (.ireturn, 1) := by decide +kernel
set_option maxRecDepth 20000 in
theorem ggX3_letAhead_X0_draft : GoodIn wsX3_letAhead wsX0_draft := goodIn_r _ [7, 8, 9, 10, 6, 11, 12, 13, 14, 15, 16, 17, 18, 19, 20, 21, 22, 23, 24, 25, 26, 27, 28, 29, 30, 31, 32, 33, 34, 35, 36, 37, 38, 39, 67, 68, 69, 70, 71, 72, 73, 74, 75, 76, 77, 78, 79, 80, 81, 82, 83, 84, 85] (by decide +kernel) (by decide +kernel)
set_option maxRecDepth 20000 in
theorem gX3_letAhead_X0_draft : GoodIn wsX3_letAhead (wsV RX3 40 RX0 yX0_draft wsX0_draft) := goodIn_app (goodIn_of _ (by decide +kernel)) ggX3_letAhead_X0_draft
set_option maxRecDepth 20000 in
theorem ggX3_letAhead_X1_changePlaces : GoodIn wsX3_letAhead wsX1_changePlaces := goodIn_r _ [43, 19, 24, 25, 26, 27, 28, 44, 45, 46, 17, 47, 30, 48, 49, 50, 69, 70, 71, 72, 73, 74, 75, 76, 77, 78, 79, 80, 81, 82, 83, 84, 85] (by decide +kernel) (by decide +kernel)
set_option maxRecDepth 20000 in
theorem gX3_letAhead_X1_changePlaces : GoodIn wsX3_letAhead (wsV RX3 55 RX1 yX1_changePlaces wsX1_changePlaces) := goodIn_app (goodIn_of _ (by decide +kernel)) ggX3_letAhead_X1_changePlaces
set_option maxRecDepth 20000 in
theorem ggX3_letAhead_X3_recorded : GoodIn wsX3_letAhead wsX3_recorded := goodIn_r _ [55, 1, 56, 57, 58, 6, 59, 13, 12, 60, 61, 62, 63, 64, 65, 66, 67, 68] (by decide +kernel) (by decide +kernel)
set_option maxRecDepth 20000 in
theorem gX3_letAhead_X3_recorded : GoodIn wsX3_letAhead (wsV RX3 48 RX3 yX3_recorded wsX3_recorded) := goodIn_app (goodIn_of _ (by decide +kernel)) ggX3_letAhead_X3_recorded
theorem dX3_letAhead_0 : decode cX3_letAhead 0 = .ok (.aload_n 0, 1) := by decide +kernel
theorem dX3_letAhead_1 : decode cX3_letAhead 1 = .ok (.getfield 22, 3) := by decide +kernel
theorem dX3_letAhead_4 : decode cX3_letAhead 4 = .ok (.aload_n 0, 1) := by decide +kernel
theorem dX3_letAhead_5 : decode cX3_letAhead 5 = .ok (.getfield 10, 3) := by decide +kernel
theorem dX3_letAhead_8 : decode cX3_letAhead 8 = .ok (.invokevirtual 40, 3) := by decide +kernel
theorem dX3_letAhead_11 : decode cX3_letAhead 11 = .ok (.aload_n 0, 1) := by decide +kernel
theorem dX3_letAhead_12 : decode cX3_letAhead 12 = .ok (.aload_n 0, 1) := by decide +kernel
theorem dX3_letAhead_13 : decode cX3_letAhead 13 = .ok (.getfield 10, 3) := by decide +kernel
theorem dX3_letAhead_16 : decode cX3_letAhead 16 = .ok (.iload_n 1, 1) := by decide +kernel
theorem dX3_letAhead_17 : decode cX3_letAhead 17 = .ok (.invokevirtual 55, 3) := by decide +kernel
theorem dX3_letAhead_20 : decode cX3_letAhead 20 = .ok (.invokevirtual 48, 3) := by decide +kernel
theorem dX3_letAhead_23 : decode cX3_letAhead 23 = .ok (.ireturn, 1) := by decide +kernel
set_option maxRecDepth 20000 in
theorem ggX3_swap_X0_draft : GoodIn wsX3_swap wsX0_draft := goodIn_r _ [7, 8, 9, 10, 6, 11, 12, 13, 14, 15, 16, 17, 18, 19, 20, 21, 22, 23, 24, 25, 26, 27, 28, 29, 30, 31, 32, 33, 34, 35, 36, 37, 38, 39, 71, 72, 73, 74, 75, 76, 77, 78, 79, 80, 81, 82, 83, 84, 85, 86, 87, 88, 89] (by decide +kernel) (by decide +kernel)
set_option maxRecDepth 20000 in
theorem gX3_swap_X0_draft : GoodIn wsX3_swap (wsV RX3 40 RX0 yX0_draft wsX0_draft) := goodIn_app (goodIn_of _ (by decide +kernel)) ggX3_swap_X0_draft
set_option maxRecDepth 20000 in
theorem ggX3_swap_X1_swapUmbrellas : GoodIn wsX3_swap wsX1_swapUmbrellas := goodIn_r _ [43, 27, 28, 37, 44, 45, 46, 17, 47, 30, 48, 49, 50, 51, 24, 52, 53, 54, 73, 74, 75, 76, 77, 78, 79, 80, 81, 82, 83, 84, 85, 86, 87, 88, 89] (by decide +kernel) (by decide +kernel)
set_option maxRecDepth 20000 in
theorem gX3_swap_X1_swapUmbrellas : GoodIn wsX3_swap (wsV RX3 58 RX1 yX1_swapUmbrellas wsX1_swapUmbrellas) := goodIn_app (goodIn_of _ (by decide +kernel)) ggX3_swap_X1_swapUmbrellas
set_option maxRecDepth 20000 in
theorem ggX3_swap_X3_recorded : GoodIn wsX3_swap wsX3_recorded := goodIn_r _ [59, 1, 60, 61, 62, 6, 63, 13, 12, 64, 65, 66, 67, 68, 69, 70, 71, 72] (by decide +kernel) (by decide +kernel)
set_option maxRecDepth 20000 in
theorem gX3_swap_X3_recorded : GoodIn wsX3_swap (wsV RX3 48 RX3 yX3_recorded wsX3_recorded) := goodIn_app (goodIn_of _ (by decide +kernel)) ggX3_swap_X3_recorded
theorem dX3_swap_0 : decode cX3_swap 0 = .ok (.aload_n 0, 1) := by decide +kernel
theorem dX3_swap_1 : decode cX3_swap 1 = .ok (.getfield 22, 3) := by decide +kernel
theorem dX3_swap_4 : decode cX3_swap 4 = .ok (.aload_n 0, 1) := by decide +kernel
theorem dX3_swap_5 : decode cX3_swap 5 = .ok (.getfield 10, 3) := by decide +kernel
theorem dX3_swap_8 : decode cX3_swap 8 = .ok (.invokevirtual 40, 3) := by decide +kernel
theorem dX3_swap_11 : decode cX3_swap 11 = .ok (.aload_n 0, 1) := by decide +kernel
theorem dX3_swap_12 : decode cX3_swap 12 = .ok (.aload_n 0, 1) := by decide +kernel
theorem dX3_swap_13 : decode cX3_swap 13 = .ok (.getfield 10, 3) := by decide +kernel
theorem dX3_swap_16 : decode cX3_swap 16 = .ok (.iload_n 1, 1) := by decide +kernel
theorem dX3_swap_17 : decode cX3_swap 17 = .ok (.invokevirtual 58, 3) := by decide +kernel
theorem dX3_swap_20 : decode cX3_swap 20 = .ok (.invokevirtual 48, 3) := by decide +kernel
theorem dX3_swap_23 : decode cX3_swap 23 = .ok (.ireturn, 1) := by decide +kernel
set_option maxRecDepth 20000 in
theorem ggX3_set_X0_draft : GoodIn wsX3_set wsX0_draft := goodIn_r _ [7, 8, 9, 10, 6, 11, 12, 13, 14, 15, 16, 17, 18, 19, 20, 21, 22, 23, 24, 25, 26, 27, 28, 29, 30, 31, 32, 33, 34, 35, 36, 37, 38, 39, 62, 63, 64, 65, 66, 67, 68, 69, 70, 71, 72, 73, 74, 75, 76, 77, 78, 79, 80] (by decide +kernel) (by decide +kernel)
set_option maxRecDepth 20000 in
theorem gX3_set_X0_draft : GoodIn wsX3_set (wsV RX3 40 RX0 yX0_draft wsX0_draft) := goodIn_app (goodIn_of _ (by decide +kernel)) ggX3_set_X0_draft
set_option maxRecDepth 20000 in
theorem ggX3_set_X1_changeSetting : GoodIn wsX3_set wsX1_changeSetting := goodIn_r _ [43, 29, 44, 45, 46, 64, 65, 66, 67, 68, 69, 70, 71, 72, 73, 74, 75, 76, 77, 78, 79, 80] (by decide +kernel) (by decide +kernel)
set_option maxRecDepth 20000 in
theorem gX3_set_X1_changeSetting : GoodIn wsX3_set (wsV RX3 61 RX1 yX1_changeSetting wsX1_changeSetting) := goodIn_app (goodIn_of _ (by decide +kernel)) ggX3_set_X1_changeSetting
set_option maxRecDepth 20000 in
theorem ggX3_set_X3_recorded : GoodIn wsX3_set wsX3_recorded := goodIn_r _ [50, 1, 51, 52, 53, 6, 54, 13, 12, 55, 56, 57, 58, 59, 60, 61, 62, 63] (by decide +kernel) (by decide +kernel)
set_option maxRecDepth 20000 in
theorem gX3_set_X3_recorded : GoodIn wsX3_set (wsV RX3 48 RX3 yX3_recorded wsX3_recorded) := goodIn_app (goodIn_of _ (by decide +kernel)) ggX3_set_X3_recorded
theorem dX3_set_0 : decode cX3_set 0 = .ok (.aload_n 0, 1) := by decide +kernel
theorem dX3_set_1 : decode cX3_set 1 = .ok (.getfield 22, 3) := by decide +kernel
theorem dX3_set_4 : decode cX3_set 4 = .ok (.aload_n 0, 1) := by decide +kernel
theorem dX3_set_5 : decode cX3_set 5 = .ok (.getfield 10, 3) := by decide +kernel
theorem dX3_set_8 : decode cX3_set 8 = .ok (.invokevirtual 40, 3) := by decide +kernel
theorem dX3_set_11 : decode cX3_set 11 = .ok (.aload_n 0, 1) := by decide +kernel
theorem dX3_set_12 : decode cX3_set 12 = .ok (.aload_n 0, 1) := by decide +kernel
theorem dX3_set_13 : decode cX3_set 13 = .ok (.getfield 10, 3) := by decide +kernel
theorem dX3_set_16 : decode cX3_set 16 = .ok (.iload_n 1, 1) := by decide +kernel
theorem dX3_set_17 : decode cX3_set 17 = .ok (.iload_n 2, 1) := by decide +kernel
theorem dX3_set_18 : decode cX3_set 18 = .ok (.invokevirtual 61, 3) := by decide +kernel
theorem dX3_set_21 : decode cX3_set 21 = .ok (.invokevirtual 48, 3) := by decide +kernel
theorem dX3_set_24 : decode cX3_set 24 = .ok (.ireturn, 1) := by decide +kernel
set_option maxRecDepth 20000 in
theorem ggX3_gust_X0_draft : GoodIn wsX3_gust wsX0_draft := goodIn_r _ [7, 8, 9, 10, 6, 11, 12, 13, 14, 15, 16, 17, 18, 19, 20, 21, 22, 23, 24, 25, 26, 27, 28, 29, 30, 31, 32, 33, 34, 35, 36, 37, 38, 39, 107, 108, 109, 110, 111, 112, 113, 114, 115, 116, 117, 118, 119, 120, 121, 122, 123, 124, 125] (by decide +kernel) (by decide +kernel)
set_option maxRecDepth 20000 in
theorem gX3_gust_X0_draft : GoodIn wsX3_gust (wsV RX3 40 RX0 yX0_draft wsX0_draft) := goodIn_app (goodIn_of _ (by decide +kernel)) ggX3_gust_X0_draft
set_option maxRecDepth 20000 in
theorem ggX3_gust_X1_rain : GoodIn wsX3_gust wsX1_rain := goodIn_r _ [43, 30, 24, 38, 44, 45, 46, 47, 48, 49, 50, 51, 52, 17, 53, 54, 55, 56, 57, 58, 59, 60, 61, 62, 63, 64, 65, 27, 66, 67, 68, 69, 70, 71, 72, 73, 74, 75, 76, 77, 78, 79, 80, 81, 82, 83, 84, 25, 33, 85, 86, 87, 88, 19, 26, 28, 89, 90, 91, 20, 21, 22, 23, 109, 110, 111, 112, 113, 114, 115, 116, 117, 118, 119, 120, 121, 122, 123, 124, 125] (by decide +kernel) (by decide +kernel)
set_option maxRecDepth 20000 in
theorem gX3_gust_X1_rain : GoodIn wsX3_gust (wsV RX3 65 RX1 yX1_rain wsX1_rain) := goodIn_app (goodIn_of _ (by decide +kernel)) ggX3_gust_X1_rain
set_option maxRecDepth 20000 in
theorem ggX3_gust_X3_recorded : GoodIn wsX3_gust wsX3_recorded := goodIn_r _ [95, 1, 96, 97, 98, 6, 99, 13, 12, 100, 101, 102, 103, 104, 105, 106, 107, 108] (by decide +kernel) (by decide +kernel)
set_option maxRecDepth 20000 in
theorem gX3_gust_X3_recorded : GoodIn wsX3_gust (wsV RX3 48 RX3 yX3_recorded wsX3_recorded) := goodIn_app (goodIn_of _ (by decide +kernel)) ggX3_gust_X3_recorded
theorem dX3_gust_0 : decode cX3_gust 0 = .ok (.aload_n 0, 1) := by decide +kernel
theorem dX3_gust_1 : decode cX3_gust 1 = .ok (.getfield 22, 3) := by decide +kernel
theorem dX3_gust_4 : decode cX3_gust 4 = .ok (.aload_n 0, 1) := by decide +kernel
theorem dX3_gust_5 : decode cX3_gust 5 = .ok (.getfield 10, 3) := by decide +kernel
theorem dX3_gust_8 : decode cX3_gust 8 = .ok (.invokevirtual 40, 3) := by decide +kernel
theorem dX3_gust_11 : decode cX3_gust 11 = .ok (.aload_n 0, 1) := by decide +kernel
theorem dX3_gust_12 : decode cX3_gust 12 = .ok (.aload_n 0, 1) := by decide +kernel
theorem dX3_gust_13 : decode cX3_gust 13 = .ok (.getfield 10, 3) := by decide +kernel
theorem dX3_gust_16 : decode cX3_gust 16 = .ok (.iload_n 1, 1) := by decide +kernel
theorem dX3_gust_17 : decode cX3_gust 17 = .ok (.iload_n 2, 1) := by decide +kernel
theorem dX3_gust_18 : decode cX3_gust 18 = .ok (.invokevirtual 65, 3) := by decide +kernel
theorem dX3_gust_21 : decode cX3_gust 21 = .ok (.invokevirtual 48, 3) := by decide +kernel
theorem dX3_gust_24 : decode cX3_gust 24 = .ok (.ireturn, 1) := by decide +kernel
set_option maxRecDepth 20000 in
theorem ggX3_pass_X0_draft : GoodIn wsX3_pass wsX0_draft := goodIn_r _ [7, 8, 9, 10, 6, 11, 12, 13, 14, 15, 16, 17, 18, 19, 20, 21, 22, 23, 24, 25, 26, 27, 28, 29, 30, 31, 32, 33, 34, 35, 36, 37, 38, 39, 67, 68, 69, 70, 71, 72, 73, 74, 75, 76, 77, 78, 79, 80, 81, 82, 83, 84, 85] (by decide +kernel) (by decide +kernel)
set_option maxRecDepth 20000 in
theorem gX3_pass_X0_draft : GoodIn wsX3_pass (wsV RX3 40 RX0 yX0_draft wsX0_draft) := goodIn_app (goodIn_of _ (by decide +kernel)) ggX3_pass_X0_draft
set_option maxRecDepth 20000 in
theorem ggX3_pass_X1_dry : GoodIn wsX3_pass wsX1_dry := goodIn_r _ [43, 39, 44, 30, 24, 29, 45, 46, 47, 48, 49, 50, 51, 69, 70, 71, 72, 73, 74, 75, 76, 77, 78, 79, 80, 81, 82, 83, 84, 85] (by decide +kernel) (by decide +kernel)
set_option maxRecDepth 20000 in
theorem gX3_pass_X1_dry : GoodIn wsX3_pass (wsV RX3 68 RX1 yX1_dry wsX1_dry) := goodIn_app (goodIn_of _ (by decide +kernel)) ggX3_pass_X1_dry
set_option maxRecDepth 20000 in
theorem ggX3_pass_X3_recorded : GoodIn wsX3_pass wsX3_recorded := goodIn_r _ [55, 1, 56, 57, 58, 6, 59, 13, 12, 60, 61, 62, 63, 64, 65, 66, 67, 68] (by decide +kernel) (by decide +kernel)
set_option maxRecDepth 20000 in
theorem gX3_pass_X3_recorded : GoodIn wsX3_pass (wsV RX3 48 RX3 yX3_recorded wsX3_recorded) := goodIn_app (goodIn_of _ (by decide +kernel)) ggX3_pass_X3_recorded
theorem dX3_pass_0 : decode cX3_pass 0 = .ok (.aload_n 0, 1) := by decide +kernel
theorem dX3_pass_1 : decode cX3_pass 1 = .ok (.getfield 22, 3) := by decide +kernel
theorem dX3_pass_4 : decode cX3_pass 4 = .ok (.aload_n 0, 1) := by decide +kernel
theorem dX3_pass_5 : decode cX3_pass 5 = .ok (.getfield 10, 3) := by decide +kernel
theorem dX3_pass_8 : decode cX3_pass 8 = .ok (.invokevirtual 40, 3) := by decide +kernel
theorem dX3_pass_11 : decode cX3_pass 11 = .ok (.aload_n 0, 1) := by decide +kernel
theorem dX3_pass_12 : decode cX3_pass 12 = .ok (.aload_n 0, 1) := by decide +kernel
theorem dX3_pass_13 : decode cX3_pass 13 = .ok (.getfield 10, 3) := by decide +kernel
theorem dX3_pass_16 : decode cX3_pass 16 = .ok (.iload_n 1, 1) := by decide +kernel
theorem dX3_pass_17 : decode cX3_pass 17 = .ok (.invokevirtual 68, 3) := by decide +kernel
theorem dX3_pass_20 : decode cX3_pass 20 = .ok (.invokevirtual 48, 3) := by decide +kernel
theorem dX3_pass_23 : decode cX3_pass 23 = .ok (.ireturn, 1) := by decide +kernel
set_option maxRecDepth 20000 in
theorem ggX3_serve_X0_draft : GoodIn wsX3_serve wsX0_draft := goodIn_r _ [7, 8, 9, 10, 6, 11, 12, 13, 14, 15, 16, 17, 18, 19, 20, 21, 22, 23, 24, 25, 26, 27, 28, 29, 30, 31, 32, 33, 34, 35, 36, 37, 38, 39, 87, 88, 89, 90, 91, 92, 93, 94, 95, 96, 97, 98, 99, 100, 101, 102, 103, 104, 105] (by decide +kernel) (by decide +kernel)
set_option maxRecDepth 20000 in
theorem gX3_serve_X0_draft : GoodIn wsX3_serve (wsV RX3 40 RX0 yX0_draft wsX0_draft) := goodIn_app (goodIn_of _ (by decide +kernel)) ggX3_serve_X0_draft
set_option maxRecDepth 20000 in
theorem ggX3_serve_X1_serveFirst : GoodIn wsX3_serve wsX1_serveFirst := goodIn_r _ [43, 30, 35, 36, 34, 44, 45, 46, 17, 47, 29, 48, 49, 50, 51, 52, 53, 54, 55, 24, 56, 57, 58, 59, 26, 60, 61, 62, 63, 64, 65, 66, 67, 19, 25, 27, 28, 68, 69, 70, 20, 21, 22, 23, 89, 90, 91, 92, 93, 94, 95, 96, 97, 98, 99, 100, 101, 102, 103, 104, 105] (by decide +kernel) (by decide +kernel)
set_option maxRecDepth 20000 in
theorem gX3_serve_X1_serveFirst : GoodIn wsX3_serve (wsV RX3 71 RX1 yX1_serveFirst wsX1_serveFirst) := goodIn_app (goodIn_of _ (by decide +kernel)) ggX3_serve_X1_serveFirst
set_option maxRecDepth 20000 in
theorem ggX3_serve_X3_recorded : GoodIn wsX3_serve wsX3_recorded := goodIn_r _ [75, 1, 76, 77, 78, 6, 79, 13, 12, 80, 81, 82, 83, 84, 85, 86, 87, 88] (by decide +kernel) (by decide +kernel)
set_option maxRecDepth 20000 in
theorem gX3_serve_X3_recorded : GoodIn wsX3_serve (wsV RX3 48 RX3 yX3_recorded wsX3_recorded) := goodIn_app (goodIn_of _ (by decide +kernel)) ggX3_serve_X3_recorded
theorem dX3_serve_0 : decode cX3_serve 0 = .ok (.aload_n 0, 1) := by decide +kernel
theorem dX3_serve_1 : decode cX3_serve 1 = .ok (.getfield 22, 3) := by decide +kernel
theorem dX3_serve_4 : decode cX3_serve 4 = .ok (.aload_n 0, 1) := by decide +kernel
theorem dX3_serve_5 : decode cX3_serve 5 = .ok (.getfield 10, 3) := by decide +kernel
theorem dX3_serve_8 : decode cX3_serve 8 = .ok (.invokevirtual 40, 3) := by decide +kernel
theorem dX3_serve_11 : decode cX3_serve 11 = .ok (.aload_n 0, 1) := by decide +kernel
theorem dX3_serve_12 : decode cX3_serve 12 = .ok (.aload_n 0, 1) := by decide +kernel
theorem dX3_serve_13 : decode cX3_serve 13 = .ok (.getfield 10, 3) := by decide +kernel
theorem dX3_serve_16 : decode cX3_serve 16 = .ok (.invokevirtual 71, 3) := by decide +kernel
theorem dX3_serve_19 : decode cX3_serve 19 = .ok (.invokevirtual 48, 3) := by decide +kernel
theorem dX3_serve_22 : decode cX3_serve 22 = .ok (.ireturn, 1) := by decide +kernel
set_option maxRecDepth 20000 in
theorem ggX3_type_X2_append : GoodIn wsX3_type wsX2_append := goodIn_r _ [6, 7, 8, 16, 17, 18, 19, 20, 21, 22] (by decide +kernel) (by decide +kernel)
set_option maxRecDepth 20000 in
theorem gX3_type_X2_append : GoodIn wsX3_type (wsV RX3 75 RX2 yX2_append wsX2_append) := goodIn_app (goodIn_of _ (by decide +kernel)) ggX3_type_X2_append
theorem dX3_type_0 : decode cX3_type 0 = .ok (.aload_n 0, 1) := by decide +kernel
theorem dX3_type_1 : decode cX3_type 1 = .ok (.getfield 29, 3) := by decide +kernel
theorem dX3_type_4 : decode cX3_type 4 = .ok (.iload_n 1, 1) := by decide +kernel
theorem dX3_type_5 : decode cX3_type 5 = .ok (.invokevirtual 75, 3) := by decide +kernel
theorem dX3_type_8 : decode cX3_type 8 = .ok (.ireturn, 1) := by decide +kernel
set_option maxRecDepth 20000 in
theorem ggX3_clearText_X2_empty : GoodIn wsX3_clearText wsX2_empty := goodIn_r _ [6, 7, 15, 16, 17, 18, 19, 20, 21] (by decide +kernel) (by decide +kernel)
set_option maxRecDepth 20000 in
theorem gX3_clearText_X2_empty : GoodIn wsX3_clearText (wsV RX3 79 RX2 yX2_empty wsX2_empty) := goodIn_app (goodIn_of _ (by decide +kernel)) ggX3_clearText_X2_empty
theorem dX3_clearText_0 : decode cX3_clearText 0 = .ok (.aload_n 0, 1) := by decide +kernel
theorem dX3_clearText_1 : decode cX3_clearText 1 = .ok (.getfield 29, 3) := by decide +kernel
theorem dX3_clearText_4 : decode cX3_clearText 4 = .ok (.invokevirtual 79, 3) := by decide +kernel
theorem dX3_clearText_7 : decode cX3_clearText 7 = .ok (.ireturn, 1) := by decide +kernel
set_option maxRecDepth 20000 in
theorem ggX3_perform_X2_read : GoodIn wsX3_perform wsX2_read := goodIn_r _ [14, 15, 16, 17, 18, 19, 20, 13, 21, 22, 23, 24, 25, 26, 27, 28, 29, 30, 31, 32, 33, 34, 35, 36, 37, 38, 39, 40, 41, 42, 43, 44, 195, 196, 197, 198, 199, 200, 201] (by decide +kernel) (by decide +kernel)
set_option maxRecDepth 20000 in
theorem gX3_perform_X2_read : GoodIn wsX3_perform (wsV RX3 82 RX2 yX2_read wsX2_read) := goodIn_app (goodIn_of _ (by decide +kernel)) ggX3_perform_X2_read
set_option maxRecDepth 20000 in
theorem ggX3_perform_X0_draft : GoodIn wsX3_perform wsX0_draft := goodIn_r _ [49, 50, 51, 52, 48, 53, 54, 55, 56, 57, 58, 59, 60, 61, 62, 63, 64, 65, 66, 67, 68, 69, 70, 71, 72, 73, 74, 75, 76, 77, 78, 79, 80, 81, 202, 203, 204, 205, 206, 207, 208, 209, 210, 211, 212, 213, 214, 215, 216, 217, 218, 219, 220] (by decide +kernel) (by decide +kernel)
set_option maxRecDepth 20000 in
theorem gX3_perform_X0_draft : GoodIn wsX3_perform (wsV RX3 40 RX0 yX0_draft wsX0_draft) := goodIn_app (goodIn_of _ (by decide +kernel)) ggX3_perform_X0_draft
set_option maxRecDepth 20000 in
theorem ggX3_perform_X3_happen : GoodIn wsX3_perform wsX3_happen := goodIn_r _ [85, 3, 86, 87, 88, 59, 89, 72, 66, 80, 90, 39, 91, 92, 38, 40, 93, 94, 95, 96, 97, 98, 99, 100, 101, 102, 103, 104, 105, 106, 107, 108, 69, 109, 110, 111, 112, 113, 114, 115, 116, 117, 118, 119, 120, 121, 122, 123, 124, 125, 126, 127, 67, 75, 128, 129, 130, 131, 61, 68, 70, 132, 133, 134, 62, 63, 64, 65, 135, 136, 137, 138, 81, 139, 71, 140, 141, 142, 143, 77, 78, 76, 144, 145, 146, 147, 148, 149, 150, 151, 152, 153, 154, 155, 156, 157, 158, 159, 160, 161, 162, 163, 79, 164, 165, 166, 167, 168, 169, 170, 171, 172, 173, 174, 188, 189, 190, 191, 192, 193, 194, 204, 205, 206, 207, 208, 209, 210, 211, 212, 213, 214, 215, 216, 217, 218, 219, 220] (by decide +kernel) (by decide +kernel)
set_option maxRecDepth 20000 in
theorem gX3_perform_X3_happen : GoodIn wsX3_perform (wsV RX3 99 RX3 yX3_happen wsX3_happen) := goodIn_app (goodIn_of _ (by decide +kernel)) ggX3_perform_X3_happen
set_option maxRecDepth 20000 in
theorem ggX3_perform_X3_isStop : GoodIn wsX3_perform wsX3_isStop := goodIn_r _ [177, 92, 38, 39, 40] (by decide +kernel) (by decide +kernel)
set_option maxRecDepth 20000 in
theorem gX3_perform_X3_isStop : GoodIn wsX3_perform (va_wsS RX3 103 yX3_isStop wsX3_isStop) := goodIn_app (goodIn_of _ (by decide +kernel)) ggX3_perform_X3_isStop
set_option maxRecDepth 20000 in
theorem ggX3_perform_X0_drafted : GoodIn wsX3_perform wsX0_drafted := goodIn_r _ [53, 54, 55, 202, 203] (by decide +kernel) (by decide +kernel)
set_option maxRecDepth 20000 in
theorem gX3_perform_X0_drafted : GoodIn wsX3_perform (wsV RX3 107 RX0 yX0_drafted wsX0_drafted) := goodIn_app (goodIn_of _ (by decide +kernel)) ggX3_perform_X0_drafted
set_option maxRecDepth 20000 in
theorem ggX3_perform_X1_copyFrom : GoodIn wsX3_perform wsX1_copyFrom := goodIn_r _ [60, 61, 62, 63, 64, 65, 66, 67, 68, 69, 70, 71, 72, 73, 74, 75, 76, 77, 78, 79, 80, 81, 204, 205, 206, 207, 208, 209, 210, 211, 212, 213, 214, 215, 216, 217, 218, 219, 220] (by decide +kernel) (by decide +kernel)
set_option maxRecDepth 20000 in
theorem gX3_perform_X1_copyFrom : GoodIn wsX3_perform (wsV RX3 111 RX1 yX1_copyFrom wsX1_copyFrom) := goodIn_app (goodIn_of _ (by decide +kernel)) ggX3_perform_X1_copyFrom
set_option maxRecDepth 20000 in
theorem ggX3_perform_X3_recorded : GoodIn wsX3_perform wsX3_recorded := goodIn_r _ [183, 2, 184, 185, 186, 48, 187, 55, 54, 188, 189, 190, 191, 192, 193, 194, 202, 203] (by decide +kernel) (by decide +kernel)
set_option maxRecDepth 20000 in
theorem gX3_perform_X3_recorded : GoodIn wsX3_perform (wsV RX3 48 RX3 yX3_recorded wsX3_recorded) := goodIn_app (goodIn_of _ (by decide +kernel)) ggX3_perform_X3_recorded
theorem dX3_perform_0 : decode cX3_perform 0 = .ok (.aload_n 0, 1) := by decide +kernel
theorem dX3_perform_1 : decode cX3_perform 1 = .ok (.getfield 29, 3) := by decide +kernel
theorem dX3_perform_4 : decode cX3_perform 4 = .ok (.invokevirtual 82, 3) := by decide +kernel
theorem dX3_perform_7 : decode cX3_perform 7 = .ok (.istore_n 1, 1) := by decide +kernel
theorem dX3_perform_8 : decode cX3_perform 8 = .ok (.iload_n 1, 1) := by decide +kernel
theorem dX3_perform_9 : decode cX3_perform 9 = .ok (.ifCond .lt 8, 3) := by decide +kernel
theorem dX3_perform_12 : decode cX3_perform 12 = .ok (.bipush (-100), 2) := by decide +kernel
theorem dX3_perform_14 : decode cX3_perform 14 = .ok (.iload_n 1, 1) := by decide +kernel
theorem dX3_perform_15 : decode cX3_perform 15 = .ok (.isub, 1) := by decide +kernel
theorem dX3_perform_16 : decode cX3_perform 16 = .ok (.ireturn, 1) := by decide +kernel
theorem dX3_perform_17 : decode cX3_perform 17 = .ok (.aload_n 0, 1) := by decide +kernel
theorem dX3_perform_18 : decode cX3_perform 18 = .ok (.getfield 22, 3) := by decide +kernel
theorem dX3_perform_21 : decode cX3_perform 21 = .ok (.aload_n 0, 1) := by decide +kernel
theorem dX3_perform_22 : decode cX3_perform 22 = .ok (.getfield 10, 3) := by decide +kernel
theorem dX3_perform_25 : decode cX3_perform 25 = .ok (.invokevirtual 40, 3) := by decide +kernel
theorem dX3_perform_28 : decode cX3_perform 28 = .ok (.iconst 0, 1) := by decide +kernel
theorem dX3_perform_29 : decode cX3_perform 29 = .ok (.istore_n 2, 1) := by decide +kernel
theorem dX3_perform_30 : decode cX3_perform 30 = .ok (.iload_n 2, 1) := by decide +kernel
theorem dX3_perform_31 : decode cX3_perform 31 = .ok (.aload_n 0, 1) := by decide +kernel
theorem dX3_perform_32 : decode cX3_perform 32 = .ok (.getfield 29, 3) := by decide +kernel
theorem dX3_perform_35 : decode cX3_perform 35 = .ok (.getfield 85, 3) := by decide +kernel
theorem dX3_perform_38 : decode cX3_perform 38 = .ok (.if_icmp .ge 75, 3) := by decide +kernel
theorem dX3_perform_41 : decode cX3_perform 41 = .ok (.aload_n 0, 1) := by decide +kernel
theorem dX3_perform_42 : decode cX3_perform 42 = .ok (.aload_n 0, 1) := by decide +kernel
theorem dX3_perform_43 : decode cX3_perform 43 = .ok (.getfield 29, 3) := by decide +kernel
theorem dX3_perform_46 : decode cX3_perform 46 = .ok (.getfield 88, 3) := by decide +kernel
theorem dX3_perform_49 : decode cX3_perform 49 = .ok (.iload_n 2, 1) := by decide +kernel
theorem dX3_perform_50 : decode cX3_perform 50 = .ok (.caload, 1) := by decide +kernel
theorem dX3_perform_51 : decode cX3_perform 51 = .ok (.aload_n 0, 1) := by decide +kernel
theorem dX3_perform_52 : decode cX3_perform 52 = .ok (.getfield 29, 3) := by decide +kernel
theorem dX3_perform_55 : decode cX3_perform 55 = .ok (.getfield 92, 3) := by decide +kernel
theorem dX3_perform_58 : decode cX3_perform 58 = .ok (.iload_n 2, 1) := by decide +kernel
theorem dX3_perform_59 : decode cX3_perform 59 = .ok (.iaload, 1) := by decide +kernel
theorem dX3_perform_60 : decode cX3_perform 60 = .ok (.aload_n 0, 1) := by decide +kernel
theorem dX3_perform_61 : decode cX3_perform 61 = .ok (.getfield 29, 3) := by decide +kernel
theorem dX3_perform_64 : decode cX3_perform 64 = .ok (.getfield 96, 3) := by decide +kernel
theorem dX3_perform_67 : decode cX3_perform 67 = .ok (.iload_n 2, 1) := by decide +kernel
theorem dX3_perform_68 : decode cX3_perform 68 = .ok (.iaload, 1) := by decide +kernel
theorem dX3_perform_69 : decode cX3_perform 69 = .ok (.invokevirtual 99, 3) := by decide +kernel
theorem dX3_perform_72 : decode cX3_perform 72 = .ok (.istore_n 3, 1) := by decide +kernel
theorem dX3_perform_73 : decode cX3_perform 73 = .ok (.iload_n 3, 1) := by decide +kernel
theorem dX3_perform_74 : decode cX3_perform 74 = .ok (.invokestatic 103, 3) := by decide +kernel
theorem dX3_perform_77 : decode cX3_perform 77 = .ok (.ifCond .eq 30, 3) := by decide +kernel
theorem dX3_perform_80 : decode cX3_perform 80 = .ok (.aload_n 0, 1) := by decide +kernel
theorem dX3_perform_81 : decode cX3_perform 81 = .ok (.getfield 10, 3) := by decide +kernel
theorem dX3_perform_84 : decode cX3_perform 84 = .ok (.aload_n 0, 1) := by decide +kernel
theorem dX3_perform_85 : decode cX3_perform 85 = .ok (.getfield 22, 3) := by decide +kernel
theorem dX3_perform_88 : decode cX3_perform 88 = .ok (.invokevirtual 107, 3) := by decide +kernel
theorem dX3_perform_91 : decode cX3_perform 91 = .ok (.invokevirtual 111, 3) := by decide +kernel
theorem dX3_perform_94 : decode cX3_perform 94 = .ok (.aload_n 0, 1) := by decide +kernel
theorem dX3_perform_95 : decode cX3_perform 95 = .ok (.iload_n 2, 1) := by decide +kernel
theorem dX3_perform_96 : decode cX3_perform 96 = .ok (.putfield 33, 3) := by decide +kernel
theorem dX3_perform_99 : decode cX3_perform 99 = .ok (.aload_n 0, 1) := by decide +kernel
theorem dX3_perform_100 : decode cX3_perform 100 = .ok (.iload_n 3, 1) := by decide +kernel
theorem dX3_perform_101 : decode cX3_perform 101 = .ok (.putfield 37, 3) := by decide +kernel
theorem dX3_perform_104 : decode cX3_perform 104 = .ok (.bipush (-4), 2) := by decide +kernel
theorem dX3_perform_106 : decode cX3_perform 106 = .ok (.ireturn, 1) := by decide +kernel
theorem dX3_perform_107 : decode cX3_perform 107 = .ok (.iinc 2 1, 3) := by decide +kernel
theorem dX3_perform_110 : decode cX3_perform 110 = .ok (.goto (-80), 3) := by decide +kernel
theorem dX3_perform_113 : decode cX3_perform 113 = .ok (.aload_n 0, 1) := by decide +kernel
theorem dX3_perform_114 : decode cX3_perform 114 = .ok (.aload_n 0, 1) := by decide +kernel
theorem dX3_perform_115 : decode cX3_perform 115 = .ok (.getfield 29, 3) := by decide +kernel
theorem dX3_perform_118 : decode cX3_perform 118 = .ok (.getfield 85, 3) := by decide +kernel
theorem dX3_perform_121 : decode cX3_perform 121 = .ok (.invokevirtual 48, 3) := by decide +kernel
theorem dX3_perform_124 : decode cX3_perform 124 = .ok (.ireturn, 1) := by decide +kernel
theorem dX3_stopped_0 : decode cX3_stopped 0 = .ok (.iload_n 1, 1) := by decide +kernel
theorem dX3_stopped_1 : decode cX3_stopped 1 = .ok (.lookupswitch 37 #[(0, 27), (1, 32)], 27) := by decide +kernel
theorem dX3_stopped_28 : decode cX3_stopped 28 = .ok (.aload_n 0, 1) := by decide +kernel
theorem dX3_stopped_29 : decode cX3_stopped 29 = .ok (.getfield 33, 3) := by decide +kernel
theorem dX3_stopped_32 : decode cX3_stopped 32 = .ok (.ireturn, 1) := by decide +kernel
theorem dX3_stopped_33 : decode cX3_stopped 33 = .ok (.aload_n 0, 1) := by decide +kernel
theorem dX3_stopped_34 : decode cX3_stopped 34 = .ok (.getfield 37, 3) := by decide +kernel
theorem dX3_stopped_37 : decode cX3_stopped 37 = .ok (.ireturn, 1) := by decide +kernel
theorem dX3_stopped_38 : decode cX3_stopped 38 = .ok (.bipush (-2), 2) := by decide +kernel
theorem dX3_stopped_40 : decode cX3_stopped 40 = .ok (.ireturn, 1) := by decide +kernel
set_option maxRecDepth 20000 in
theorem ggX3_undo_X0_takeLatest : GoodIn wsX3_undo wsX0_takeLatest := goodIn_r _ [8, 9, 10, 44, 45] (by decide +kernel) (by decide +kernel)
set_option maxRecDepth 20000 in
theorem gX3_undo_X0_takeLatest : GoodIn wsX3_undo (wsV RX3 117 RX0 yX0_takeLatest wsX0_takeLatest) := goodIn_app (goodIn_of _ (by decide +kernel)) ggX3_undo_X0_takeLatest
set_option maxRecDepth 20000 in
theorem ggX3_undo_X1_copyFrom : GoodIn wsX3_undo wsX1_copyFrom := goodIn_r _ [15, 16, 17, 18, 19, 20, 21, 22, 23, 24, 25, 26, 27, 28, 29, 30, 31, 32, 33, 34, 35, 36, 46, 47, 48, 49, 50, 51, 52, 53, 54, 55, 56, 57, 58, 59, 60, 61, 62] (by decide +kernel) (by decide +kernel)
set_option maxRecDepth 20000 in
theorem gX3_undo_X1_copyFrom : GoodIn wsX3_undo (wsV RX3 111 RX1 yX1_copyFrom wsX1_copyFrom) := goodIn_app (goodIn_of _ (by decide +kernel)) ggX3_undo_X1_copyFrom
theorem dX3_undo_0 : decode cX3_undo 0 = .ok (.aload_n 0, 1) := by decide +kernel
theorem dX3_undo_1 : decode cX3_undo 1 = .ok (.getfield 22, 3) := by decide +kernel
theorem dX3_undo_4 : decode cX3_undo 4 = .ok (.getfield 114, 3) := by decide +kernel
theorem dX3_undo_7 : decode cX3_undo 7 = .ok (.ifCond .ne 6, 3) := by decide +kernel
theorem dX3_undo_10 : decode cX3_undo 10 = .ok (.bipush (-5), 2) := by decide +kernel
theorem dX3_undo_12 : decode cX3_undo 12 = .ok (.ireturn, 1) := by decide +kernel
theorem dX3_undo_13 : decode cX3_undo 13 = .ok (.aload_n 0, 1) := by decide +kernel
theorem dX3_undo_14 : decode cX3_undo 14 = .ok (.getfield 10, 3) := by decide +kernel
theorem dX3_undo_17 : decode cX3_undo 17 = .ok (.aload_n 0, 1) := by decide +kernel
theorem dX3_undo_18 : decode cX3_undo 18 = .ok (.getfield 22, 3) := by decide +kernel
theorem dX3_undo_21 : decode cX3_undo 21 = .ok (.invokevirtual 117, 3) := by decide +kernel
theorem dX3_undo_24 : decode cX3_undo 24 = .ok (.invokevirtual 111, 3) := by decide +kernel
theorem dX3_undo_27 : decode cX3_undo 27 = .ok (.aload_n 0, 1) := by decide +kernel
theorem dX3_undo_28 : decode cX3_undo 28 = .ok (.getfield 22, 3) := by decide +kernel
theorem dX3_undo_31 : decode cX3_undo 31 = .ok (.getfield 114, 3) := by decide +kernel
theorem dX3_undo_34 : decode cX3_undo 34 = .ok (.ireturn, 1) := by decide +kernel
set_option maxRecDepth 20000 in
theorem ggX3_keep_X1_copyFrom : GoodIn wsX3_keep wsX1_copyFrom := goodIn_r _ [9, 10, 11, 12, 13, 14, 15, 16, 17, 18, 19, 20, 21, 22, 23, 24, 25, 26, 27, 28, 29, 30, 38, 39, 40, 41, 42, 43, 44, 45, 46, 47, 48, 49, 50, 51, 52, 53, 54] (by decide +kernel) (by decide +kernel)
set_option maxRecDepth 20000 in
theorem gX3_keep_X1_copyFrom : GoodIn wsX3_keep (wsV RX3 111 RX1 yX1_copyFrom wsX1_copyFrom) := goodIn_app (goodIn_of _ (by decide +kernel)) ggX3_keep_X1_copyFrom
theorem dX3_keep_0 : decode cX3_keep 0 = .ok (.aload_n 0, 1) := by decide +kernel
theorem dX3_keep_1 : decode cX3_keep 1 = .ok (.getfield 16, 3) := by decide +kernel
theorem dX3_keep_4 : decode cX3_keep 4 = .ok (.aload_n 0, 1) := by decide +kernel
theorem dX3_keep_5 : decode cX3_keep 5 = .ok (.getfield 10, 3) := by decide +kernel
theorem dX3_keep_8 : decode cX3_keep 8 = .ok (.invokevirtual 111, 3) := by decide +kernel
theorem dX3_keep_11 : decode cX3_keep 11 = .ok (.aload_n 0, 1) := by decide +kernel
theorem dX3_keep_12 : decode cX3_keep 12 = .ok (.iconst 1, 1) := by decide +kernel
theorem dX3_keep_13 : decode cX3_keep 13 = .ok (.putfield 120, 3) := by decide +kernel
theorem dX3_keep_16 : decode cX3_keep 16 = .ok (.aload_n 0, 1) := by decide +kernel
theorem dX3_keep_17 : decode cX3_keep 17 = .ok (.getfield 10, 3) := by decide +kernel
theorem dX3_keep_20 : decode cX3_keep 20 = .ok (.getfield 124, 3) := by decide +kernel
theorem dX3_keep_23 : decode cX3_keep 23 = .ok (.ireturn, 1) := by decide +kernel
set_option maxRecDepth 20000 in
theorem ggX3_restore_X0_draft : GoodIn wsX3_restore wsX0_draft := goodIn_r _ [10, 11, 12, 13, 9, 14, 15, 16, 17, 18, 19, 20, 21, 22, 23, 24, 25, 26, 27, 28, 29, 30, 31, 32, 33, 34, 35, 36, 37, 38, 39, 40, 41, 42, 77, 78, 60, 61, 62, 63, 64, 65, 66, 67, 68, 69, 70, 71, 72, 73, 74, 75, 76] (by decide +kernel) (by decide +kernel)
set_option maxRecDepth 20000 in
theorem gX3_restore_X0_draft : GoodIn wsX3_restore (wsV RX3 40 RX0 yX0_draft wsX0_draft) := goodIn_app (goodIn_of _ (by decide +kernel)) ggX3_restore_X0_draft
set_option maxRecDepth 20000 in
theorem ggX3_restore_X1_copyFrom : GoodIn wsX3_restore wsX1_copyFrom := goodIn_r _ [21, 22, 23, 24, 25, 26, 27, 28, 29, 30, 31, 32, 33, 34, 35, 36, 37, 38, 39, 40, 41, 42, 60, 61, 62, 63, 64, 65, 66, 67, 68, 69, 70, 71, 72, 73, 74, 75, 76] (by decide +kernel) (by decide +kernel)
set_option maxRecDepth 20000 in
theorem gX3_restore_X1_copyFrom : GoodIn wsX3_restore (wsV RX3 111 RX1 yX1_copyFrom wsX1_copyFrom) := goodIn_app (goodIn_of _ (by decide +kernel)) ggX3_restore_X1_copyFrom
set_option maxRecDepth 20000 in
theorem ggX3_restore_X3_recorded : GoodIn wsX3_restore wsX3_recorded := goodIn_r _ [48, 2, 49, 50, 51, 9, 52, 16, 15, 53, 54, 55, 56, 57, 58, 59, 77, 78] (by decide +kernel) (by decide +kernel)
set_option maxRecDepth 20000 in
theorem gX3_restore_X3_recorded : GoodIn wsX3_restore (wsV RX3 48 RX3 yX3_recorded wsX3_recorded) := goodIn_app (goodIn_of _ (by decide +kernel)) ggX3_restore_X3_recorded
theorem dX3_restore_0 : decode cX3_restore 0 = .ok (.aload_n 0, 1) := by decide +kernel
theorem dX3_restore_1 : decode cX3_restore 1 = .ok (.getfield 120, 3) := by decide +kernel
theorem dX3_restore_4 : decode cX3_restore 4 = .ok (.ifCond .ne 6, 3) := by decide +kernel
theorem dX3_restore_7 : decode cX3_restore 7 = .ok (.bipush (-5), 2) := by decide +kernel
theorem dX3_restore_9 : decode cX3_restore 9 = .ok (.ireturn, 1) := by decide +kernel
theorem dX3_restore_10 : decode cX3_restore 10 = .ok (.aload_n 0, 1) := by decide +kernel
theorem dX3_restore_11 : decode cX3_restore 11 = .ok (.getfield 22, 3) := by decide +kernel
theorem dX3_restore_14 : decode cX3_restore 14 = .ok (.aload_n 0, 1) := by decide +kernel
theorem dX3_restore_15 : decode cX3_restore 15 = .ok (.getfield 10, 3) := by decide +kernel
theorem dX3_restore_18 : decode cX3_restore 18 = .ok (.invokevirtual 40, 3) := by decide +kernel
theorem dX3_restore_21 : decode cX3_restore 21 = .ok (.aload_n 0, 1) := by decide +kernel
theorem dX3_restore_22 : decode cX3_restore 22 = .ok (.getfield 10, 3) := by decide +kernel
theorem dX3_restore_25 : decode cX3_restore 25 = .ok (.aload_n 0, 1) := by decide +kernel
theorem dX3_restore_26 : decode cX3_restore 26 = .ok (.getfield 16, 3) := by decide +kernel
theorem dX3_restore_29 : decode cX3_restore 29 = .ok (.invokevirtual 111, 3) := by decide +kernel
theorem dX3_restore_32 : decode cX3_restore 32 = .ok (.aload_n 0, 1) := by decide +kernel
theorem dX3_restore_33 : decode cX3_restore 33 = .ok (.aload_n 0, 1) := by decide +kernel
theorem dX3_restore_34 : decode cX3_restore 34 = .ok (.getfield 10, 3) := by decide +kernel
theorem dX3_restore_37 : decode cX3_restore 37 = .ok (.getfield 124, 3) := by decide +kernel
theorem dX3_restore_40 : decode cX3_restore 40 = .ok (.invokevirtual 48, 3) := by decide +kernel
theorem dX3_restore_43 : decode cX3_restore 43 = .ok (.ireturn, 1) := by decide +kernel
set_option maxRecDepth 20000 in
theorem ggX3_person_X1_isPlace : GoodIn wsX3_person wsX1_isPlace := goodIn_r _ [12, 13, 46, 47, 48, 49, 50, 51, 52, 53, 54, 55, 56, 57, 58, 59, 60, 61, 62] (by decide +kernel) (by decide +kernel)
set_option maxRecDepth 20000 in
theorem gX3_person_X1_isPlace : GoodIn wsX3_person (wsV RX3 127 RX1 yX1_isPlace wsX1_isPlace) := goodIn_app (goodIn_of _ (by decide +kernel)) ggX3_person_X1_isPlace
set_option maxRecDepth 20000 in
theorem ggX3_person_X1_leastReached : GoodIn wsX3_person wsX1_leastReached := goodIn_r _ [17, 18, 19, 20, 21, 22, 46, 47, 48, 49, 50, 51, 52, 53, 54, 55, 56, 57, 58, 59, 60, 61, 62] (by decide +kernel) (by decide +kernel)
set_option maxRecDepth 20000 in
theorem gX3_person_X1_leastReached : GoodIn wsX3_person (wsV RX3 145 RX1 yX1_leastReached wsX1_leastReached) := goodIn_app (goodIn_of _ (by decide +kernel)) ggX3_person_X1_leastReached
set_option maxRecDepth 20000 in
theorem ggX3_person_X1_greatestReached : GoodIn wsX3_person wsX1_greatestReached := goodIn_r _ [26, 13, 18, 27, 28, 21, 29, 46, 47, 48, 49, 50, 51, 52, 53, 54, 55, 56, 57, 58, 59, 60, 61, 62] (by decide +kernel) (by decide +kernel)
set_option maxRecDepth 20000 in
theorem gX3_person_X1_greatestReached : GoodIn wsX3_person (wsV RX3 148 RX1 yX1_greatestReached wsX1_greatestReached) := goodIn_app (goodIn_of _ (by decide +kernel)) ggX3_person_X1_greatestReached
set_option maxRecDepth 20000 in
theorem ggX3_person_X1_umbrellasOver : GoodIn wsX3_person wsX1_umbrellasOver := goodIn_r _ [33, 13, 18, 34, 15, 16, 11, 17, 19, 20, 21, 22, 35, 24, 25, 26, 27, 28, 29, 36, 37, 38, 46, 47, 48, 49, 50, 51, 52, 53, 54, 55, 56, 57, 58, 59, 60, 61, 62] (by decide +kernel) (by decide +kernel)
set_option maxRecDepth 20000 in
theorem gX3_person_X1_umbrellasOver : GoodIn wsX3_person (wsV RX3 151 RX1 yX1_umbrellasOver wsX1_umbrellasOver) := goodIn_app (goodIn_of _ (by decide +kernel)) ggX3_person_X1_umbrellasOver
theorem dX3_person_0 : decode cX3_person 0 = .ok (.aload_n 0, 1) := by decide +kernel
theorem dX3_person_1 : decode cX3_person 1 = .ok (.getfield 10, 3) := by decide +kernel
theorem dX3_person_4 : decode cX3_person 4 = .ok (.iload_n 1, 1) := by decide +kernel
theorem dX3_person_5 : decode cX3_person 5 = .ok (.invokevirtual 127, 3) := by decide +kernel
theorem dX3_person_8 : decode cX3_person 8 = .ok (.ifCond .ne 5, 3) := by decide +kernel
theorem dX3_person_11 : decode cX3_person 11 = .ok (.iconst (-1), 1) := by decide +kernel
theorem dX3_person_12 : decode cX3_person 12 = .ok (.ireturn, 1) := by decide +kernel
theorem dX3_person_13 : decode cX3_person 13 = .ok (.iload_n 2, 1) := by decide +kernel
theorem dX3_person_14 : decode cX3_person 14 = .ok (.tableswitch 171 0 8 #[50, 60, 70, 80, 90, 100, 126, 152, 161], 50) := by decide +kernel
theorem dX3_person_64 : decode cX3_person 64 = .ok (.aload_n 0, 1) := by decide +kernel
theorem dX3_person_65 : decode cX3_person 65 = .ok (.getfield 10, 3) := by decide +kernel
theorem dX3_person_68 : decode cX3_person 68 = .ok (.getfield 130, 3) := by decide +kernel
theorem dX3_person_71 : decode cX3_person 71 = .ok (.iload_n 1, 1) := by decide +kernel
theorem dX3_person_72 : decode cX3_person 72 = .ok (.iaload, 1) := by decide +kernel
theorem dX3_person_73 : decode cX3_person 73 = .ok (.ireturn, 1) := by decide +kernel
theorem dX3_person_74 : decode cX3_person 74 = .ok (.aload_n 0, 1) := by decide +kernel
theorem dX3_person_75 : decode cX3_person 75 = .ok (.getfield 10, 3) := by decide +kernel
theorem dX3_person_78 : decode cX3_person 78 = .ok (.getfield 133, 3) := by decide +kernel
theorem dX3_person_81 : decode cX3_person 81 = .ok (.iload_n 1, 1) := by decide +kernel
theorem dX3_person_82 : decode cX3_person 82 = .ok (.iaload, 1) := by decide +kernel
theorem dX3_person_83 : decode cX3_person 83 = .ok (.ireturn, 1) := by decide +kernel
theorem dX3_person_84 : decode cX3_person 84 = .ok (.aload_n 0, 1) := by decide +kernel
theorem dX3_person_85 : decode cX3_person 85 = .ok (.getfield 10, 3) := by decide +kernel
theorem dX3_person_88 : decode cX3_person 88 = .ok (.getfield 136, 3) := by decide +kernel
theorem dX3_person_91 : decode cX3_person 91 = .ok (.iload_n 1, 1) := by decide +kernel
theorem dX3_person_92 : decode cX3_person 92 = .ok (.iaload, 1) := by decide +kernel
theorem dX3_person_93 : decode cX3_person 93 = .ok (.ireturn, 1) := by decide +kernel
theorem dX3_person_94 : decode cX3_person 94 = .ok (.aload_n 0, 1) := by decide +kernel
theorem dX3_person_95 : decode cX3_person 95 = .ok (.getfield 10, 3) := by decide +kernel
theorem dX3_person_98 : decode cX3_person 98 = .ok (.getfield 139, 3) := by decide +kernel
theorem dX3_person_101 : decode cX3_person 101 = .ok (.iload_n 1, 1) := by decide +kernel
theorem dX3_person_102 : decode cX3_person 102 = .ok (.iaload, 1) := by decide +kernel
theorem dX3_person_103 : decode cX3_person 103 = .ok (.ireturn, 1) := by decide +kernel
theorem dX3_person_104 : decode cX3_person 104 = .ok (.aload_n 0, 1) := by decide +kernel
theorem dX3_person_105 : decode cX3_person 105 = .ok (.getfield 10, 3) := by decide +kernel
theorem dX3_person_108 : decode cX3_person 108 = .ok (.getfield 142, 3) := by decide +kernel
theorem dX3_person_111 : decode cX3_person 111 = .ok (.iload_n 1, 1) := by decide +kernel
theorem dX3_person_112 : decode cX3_person 112 = .ok (.iaload, 1) := by decide +kernel
theorem dX3_person_113 : decode cX3_person 113 = .ok (.ireturn, 1) := by decide +kernel
theorem dX3_person_114 : decode cX3_person 114 = .ok (.aload_n 0, 1) := by decide +kernel
theorem dX3_person_115 : decode cX3_person 115 = .ok (.getfield 10, 3) := by decide +kernel
theorem dX3_person_118 : decode cX3_person 118 = .ok (.getfield 142, 3) := by decide +kernel
theorem dX3_person_121 : decode cX3_person 121 = .ok (.iload_n 1, 1) := by decide +kernel
theorem dX3_person_122 : decode cX3_person 122 = .ok (.iaload, 1) := by decide +kernel
theorem dX3_person_123 : decode cX3_person 123 = .ok (.ifCond .ne 8, 3) := by decide +kernel
theorem dX3_person_126 : decode cX3_person 126 = .ok (.bipush (-5), 2) := by decide +kernel
theorem dX3_person_128 : decode cX3_person 128 = .ok (.goto 11, 3) := by decide +kernel
theorem dX3_person_131 : decode cX3_person 131 = .ok (.aload_n 0, 1) := by decide +kernel
theorem dX3_person_132 : decode cX3_person 132 = .ok (.getfield 10, 3) := by decide +kernel
theorem dX3_person_135 : decode cX3_person 135 = .ok (.iload_n 1, 1) := by decide +kernel
theorem dX3_person_136 : decode cX3_person 136 = .ok (.invokevirtual 145, 3) := by decide +kernel
theorem dX3_person_139 : decode cX3_person 139 = .ok (.ireturn, 1) := by decide +kernel
theorem dX3_person_140 : decode cX3_person 140 = .ok (.aload_n 0, 1) := by decide +kernel
theorem dX3_person_141 : decode cX3_person 141 = .ok (.getfield 10, 3) := by decide +kernel
theorem dX3_person_144 : decode cX3_person 144 = .ok (.getfield 142, 3) := by decide +kernel
theorem dX3_person_147 : decode cX3_person 147 = .ok (.iload_n 1, 1) := by decide +kernel
theorem dX3_person_148 : decode cX3_person 148 = .ok (.iaload, 1) := by decide +kernel
theorem dX3_person_149 : decode cX3_person 149 = .ok (.ifCond .ne 8, 3) := by decide +kernel
theorem dX3_person_152 : decode cX3_person 152 = .ok (.bipush (-5), 2) := by decide +kernel
theorem dX3_person_154 : decode cX3_person 154 = .ok (.goto 11, 3) := by decide +kernel
theorem dX3_person_157 : decode cX3_person 157 = .ok (.aload_n 0, 1) := by decide +kernel
theorem dX3_person_158 : decode cX3_person 158 = .ok (.getfield 10, 3) := by decide +kernel
theorem dX3_person_161 : decode cX3_person 161 = .ok (.iload_n 1, 1) := by decide +kernel
theorem dX3_person_162 : decode cX3_person 162 = .ok (.invokevirtual 148, 3) := by decide +kernel
theorem dX3_person_165 : decode cX3_person 165 = .ok (.ireturn, 1) := by decide +kernel
theorem dX3_person_166 : decode cX3_person 166 = .ok (.aload_n 0, 1) := by decide +kernel
theorem dX3_person_167 : decode cX3_person 167 = .ok (.getfield 10, 3) := by decide +kernel
theorem dX3_person_170 : decode cX3_person 170 = .ok (.iload_n 1, 1) := by decide +kernel
theorem dX3_person_171 : decode cX3_person 171 = .ok (.invokevirtual 151, 3) := by decide +kernel
theorem dX3_person_174 : decode cX3_person 174 = .ok (.ireturn, 1) := by decide +kernel
theorem dX3_person_175 : decode cX3_person 175 = .ok (.aload_n 0, 1) := by decide +kernel
theorem dX3_person_176 : decode cX3_person 176 = .ok (.getfield 10, 3) := by decide +kernel
theorem dX3_person_179 : decode cX3_person 179 = .ok (.getfield 154, 3) := by decide +kernel
theorem dX3_person_182 : decode cX3_person 182 = .ok (.iload_n 1, 1) := by decide +kernel
theorem dX3_person_183 : decode cX3_person 183 = .ok (.iaload, 1) := by decide +kernel
theorem dX3_person_184 : decode cX3_person 184 = .ok (.ireturn, 1) := by decide +kernel
theorem dX3_person_185 : decode cX3_person 185 = .ok (.bipush (-2), 2) := by decide +kernel
theorem dX3_person_187 : decode cX3_person 187 = .ok (.ireturn, 1) := by decide +kernel
set_option maxRecDepth 20000 in
theorem ggX3_placeOf_X3_isWithin : GoodIn wsX3_placeOf wsX3_isWithin := goodIn_r _ [7] (by decide +kernel) (by decide +kernel)
set_option maxRecDepth 20000 in
theorem gX3_placeOf_X3_isWithin : GoodIn wsX3_placeOf (va_wsS RX3 157 yX3_isWithin wsX3_isWithin) := goodIn_app (goodIn_of _ (by decide +kernel)) ggX3_placeOf_X3_isWithin
theorem dX3_placeOf_0 : decode cX3_placeOf 0 = .ok (.iload_n 1, 1) := by decide +kernel
theorem dX3_placeOf_1 : decode cX3_placeOf 1 = .ok (.iconst 0, 1) := by decide +kernel
theorem dX3_placeOf_2 : decode cX3_placeOf 2 = .ok (.sipush 199, 3) := by decide +kernel
theorem dX3_placeOf_5 : decode cX3_placeOf 5 = .ok (.invokestatic 157, 3) := by decide +kernel
theorem dX3_placeOf_8 : decode cX3_placeOf 8 = .ok (.ifCond .ne 6, 3) := by decide +kernel
theorem dX3_placeOf_11 : decode cX3_placeOf 11 = .ok (.bipush (-2), 2) := by decide +kernel
theorem dX3_placeOf_13 : decode cX3_placeOf 13 = .ok (.ireturn, 1) := by decide +kernel
theorem dX3_placeOf_14 : decode cX3_placeOf 14 = .ok (.iconst 0, 1) := by decide +kernel
theorem dX3_placeOf_15 : decode cX3_placeOf 15 = .ok (.istore_n 2, 1) := by decide +kernel
theorem dX3_placeOf_16 : decode cX3_placeOf 16 = .ok (.iload_n 2, 1) := by decide +kernel
theorem dX3_placeOf_17 : decode cX3_placeOf 17 = .ok (.aload_n 0, 1) := by decide +kernel
theorem dX3_placeOf_18 : decode cX3_placeOf 18 = .ok (.getfield 10, 3) := by decide +kernel
theorem dX3_placeOf_21 : decode cX3_placeOf 21 = .ok (.getfield 124, 3) := by decide +kernel
theorem dX3_placeOf_24 : decode cX3_placeOf 24 = .ok (.if_icmp .ge 24, 3) := by decide +kernel
theorem dX3_placeOf_27 : decode cX3_placeOf 27 = .ok (.aload_n 0, 1) := by decide +kernel
theorem dX3_placeOf_28 : decode cX3_placeOf 28 = .ok (.getfield 10, 3) := by decide +kernel
theorem dX3_placeOf_31 : decode cX3_placeOf 31 = .ok (.getfield 130, 3) := by decide +kernel
theorem dX3_placeOf_34 : decode cX3_placeOf 34 = .ok (.iload_n 2, 1) := by decide +kernel
theorem dX3_placeOf_35 : decode cX3_placeOf 35 = .ok (.iaload, 1) := by decide +kernel
theorem dX3_placeOf_36 : decode cX3_placeOf 36 = .ok (.iload_n 1, 1) := by decide +kernel
theorem dX3_placeOf_37 : decode cX3_placeOf 37 = .ok (.if_icmp .ne 5, 3) := by decide +kernel
theorem dX3_placeOf_40 : decode cX3_placeOf 40 = .ok (.iload_n 2, 1) := by decide +kernel
theorem dX3_placeOf_41 : decode cX3_placeOf 41 = .ok (.ireturn, 1) := by decide +kernel
theorem dX3_placeOf_42 : decode cX3_placeOf 42 = .ok (.iinc 2 1, 3) := by decide +kernel
theorem dX3_placeOf_45 : decode cX3_placeOf 45 = .ok (.goto (-29), 3) := by decide +kernel
theorem dX3_placeOf_48 : decode cX3_placeOf 48 = .ok (.bipush (-5), 2) := by decide +kernel
theorem dX3_placeOf_50 : decode cX3_placeOf 50 = .ok (.ireturn, 1) := by decide +kernel
set_option maxRecDepth 20000 in
theorem ggX3_ifGust_X1_isPlace : GoodIn wsX3_ifGust wsX1_isPlace := goodIn_r _ [7, 8, 58, 59, 60, 61, 62, 63, 64, 65, 66, 67, 68, 69, 70, 71, 72, 73, 74] (by decide +kernel) (by decide +kernel)
set_option maxRecDepth 20000 in
theorem gX3_ifGust_X1_isPlace : GoodIn wsX3_ifGust (wsV RX3 127 RX1 yX1_isPlace wsX1_isPlace) := goodIn_app (goodIn_of _ (by decide +kernel)) ggX3_ifGust_X1_isPlace
set_option maxRecDepth 20000 in
theorem ggX3_ifGust_X3_isGust : GoodIn wsX3_ifGust wsX3_isGust := goodIn_r _ [12, 13, 14, 11, 15] (by decide +kernel) (by decide +kernel)
set_option maxRecDepth 20000 in
theorem gX3_ifGust_X3_isGust : GoodIn wsX3_ifGust (va_wsS RX3 161 yX3_isGust wsX3_isGust) := goodIn_app (goodIn_of _ (by decide +kernel)) ggX3_ifGust_X3_isGust
set_option maxRecDepth 20000 in
theorem ggX3_ifGust_X1_isCovered : GoodIn wsX3_ifGust wsX1_isCovered := goodIn_r _ [19, 8, 20, 21, 22, 23, 6, 24, 25, 26, 27, 28, 29, 30, 31, 32, 33, 34, 35, 58, 59, 60, 61, 62, 63, 64, 65, 66, 67, 68, 69, 70, 71, 72, 73, 74] (by decide +kernel) (by decide +kernel)
set_option maxRecDepth 20000 in
theorem gX3_ifGust_X1_isCovered : GoodIn wsX3_ifGust (wsV RX3 165 RX1 yX1_isCovered wsX1_isCovered) := goodIn_app (goodIn_of _ (by decide +kernel)) ggX3_ifGust_X1_isCovered
set_option maxRecDepth 20000 in
theorem ggX3_ifGust_X1_umbrellasRunningOnto : GoodIn wsX3_ifGust wsX1_umbrellasRunningOnto := goodIn_r _ [39, 8, 20, 21, 22, 23, 6, 24, 25, 26, 27, 28, 29, 30, 31, 32, 33, 34, 35, 58, 59, 60, 61, 62, 63, 64, 65, 66, 67, 68, 69, 70, 71, 72, 73, 74] (by decide +kernel) (by decide +kernel)
set_option maxRecDepth 20000 in
theorem gX3_ifGust_X1_umbrellasRunningOnto : GoodIn wsX3_ifGust (wsV RX3 168 RX1 yX1_umbrellasRunningOnto wsX1_umbrellasRunningOnto) := goodIn_app (goodIn_of _ (by decide +kernel)) ggX3_ifGust_X1_umbrellasRunningOnto
set_option maxRecDepth 20000 in
theorem ggX3_ifGust_X1_wetnessAfter : GoodIn wsX3_ifGust wsX1_wetnessAfter := goodIn_r _ [43, 44, 33, 34, 27, 35, 45, 46, 47, 6, 48, 49, 37, 38, 39, 8, 20, 21, 22, 23, 24, 25, 26, 28, 29, 30, 31, 32, 50, 17, 18, 19, 58, 59, 60, 61, 62, 63, 64, 65, 66, 67, 68, 69, 70, 71, 72, 73, 74] (by decide +kernel) (by decide +kernel)
set_option maxRecDepth 20000 in
theorem gX3_ifGust_X1_wetnessAfter : GoodIn wsX3_ifGust (wsV RX3 171 RX1 yX1_wetnessAfter wsX1_wetnessAfter) := goodIn_app (goodIn_of _ (by decide +kernel)) ggX3_ifGust_X1_wetnessAfter
theorem dX3_ifGust_0 : decode cX3_ifGust 0 = .ok (.aload_n 0, 1) := by decide +kernel
theorem dX3_ifGust_1 : decode cX3_ifGust 1 = .ok (.getfield 10, 3) := by decide +kernel
theorem dX3_ifGust_4 : decode cX3_ifGust 4 = .ok (.iload_n 1, 1) := by decide +kernel
theorem dX3_ifGust_5 : decode cX3_ifGust 5 = .ok (.invokevirtual 127, 3) := by decide +kernel
theorem dX3_ifGust_8 : decode cX3_ifGust 8 = .ok (.ifCond .ne 5, 3) := by decide +kernel
theorem dX3_ifGust_11 : decode cX3_ifGust 11 = .ok (.iconst (-1), 1) := by decide +kernel
theorem dX3_ifGust_12 : decode cX3_ifGust 12 = .ok (.ireturn, 1) := by decide +kernel
theorem dX3_ifGust_13 : decode cX3_ifGust 13 = .ok (.iload_n 2, 1) := by decide +kernel
theorem dX3_ifGust_14 : decode cX3_ifGust 14 = .ok (.iload_n 3, 1) := by decide +kernel
theorem dX3_ifGust_15 : decode cX3_ifGust 15 = .ok (.invokestatic 161, 3) := by decide +kernel
theorem dX3_ifGust_18 : decode cX3_ifGust 18 = .ok (.ifCond .ne 6, 3) := by decide +kernel
theorem dX3_ifGust_21 : decode cX3_ifGust 21 = .ok (.bipush (-2), 2) := by decide +kernel
theorem dX3_ifGust_23 : decode cX3_ifGust 23 = .ok (.ireturn, 1) := by decide +kernel
theorem dX3_ifGust_24 : decode cX3_ifGust 24 = .ok (.iload 4, 2) := by decide +kernel
theorem dX3_ifGust_26 : decode cX3_ifGust 26 = .ok (.tableswitch 96 0 3 #[30, 48, 57, 68], 30) := by decide +kernel
theorem dX3_ifGust_56 : decode cX3_ifGust 56 = .ok (.aload_n 0, 1) := by decide +kernel
theorem dX3_ifGust_57 : decode cX3_ifGust 57 = .ok (.getfield 10, 3) := by decide +kernel
theorem dX3_ifGust_60 : decode cX3_ifGust 60 = .ok (.iload_n 1, 1) := by decide +kernel
theorem dX3_ifGust_61 : decode cX3_ifGust 61 = .ok (.iload_n 3, 1) := by decide +kernel
theorem dX3_ifGust_62 : decode cX3_ifGust 62 = .ok (.invokevirtual 165, 3) := by decide +kernel
theorem dX3_ifGust_65 : decode cX3_ifGust 65 = .ok (.ifCond .eq 7, 3) := by decide +kernel
theorem dX3_ifGust_68 : decode cX3_ifGust 68 = .ok (.iconst 1, 1) := by decide +kernel
theorem dX3_ifGust_69 : decode cX3_ifGust 69 = .ok (.goto 4, 3) := by decide +kernel
theorem dX3_ifGust_72 : decode cX3_ifGust 72 = .ok (.iconst 0, 1) := by decide +kernel
theorem dX3_ifGust_73 : decode cX3_ifGust 73 = .ok (.ireturn, 1) := by decide +kernel
theorem dX3_ifGust_74 : decode cX3_ifGust 74 = .ok (.aload_n 0, 1) := by decide +kernel
theorem dX3_ifGust_75 : decode cX3_ifGust 75 = .ok (.getfield 10, 3) := by decide +kernel
theorem dX3_ifGust_78 : decode cX3_ifGust 78 = .ok (.iload_n 1, 1) := by decide +kernel
theorem dX3_ifGust_79 : decode cX3_ifGust 79 = .ok (.invokevirtual 168, 3) := by decide +kernel
theorem dX3_ifGust_82 : decode cX3_ifGust 82 = .ok (.ireturn, 1) := by decide +kernel
theorem dX3_ifGust_83 : decode cX3_ifGust 83 = .ok (.aload_n 0, 1) := by decide +kernel
theorem dX3_ifGust_84 : decode cX3_ifGust 84 = .ok (.getfield 10, 3) := by decide +kernel
theorem dX3_ifGust_87 : decode cX3_ifGust 87 = .ok (.iload_n 1, 1) := by decide +kernel
theorem dX3_ifGust_88 : decode cX3_ifGust 88 = .ok (.iload_n 2, 1) := by decide +kernel
theorem dX3_ifGust_89 : decode cX3_ifGust 89 = .ok (.iload_n 3, 1) := by decide +kernel
theorem dX3_ifGust_90 : decode cX3_ifGust 90 = .ok (.invokevirtual 171, 3) := by decide +kernel
theorem dX3_ifGust_93 : decode cX3_ifGust 93 = .ok (.ireturn, 1) := by decide +kernel
theorem dX3_ifGust_94 : decode cX3_ifGust 94 = .ok (.aload_n 0, 1) := by decide +kernel
theorem dX3_ifGust_95 : decode cX3_ifGust 95 = .ok (.getfield 10, 3) := by decide +kernel
theorem dX3_ifGust_98 : decode cX3_ifGust 98 = .ok (.iload_n 1, 1) := by decide +kernel
theorem dX3_ifGust_99 : decode cX3_ifGust 99 = .ok (.iload_n 2, 1) := by decide +kernel
theorem dX3_ifGust_100 : decode cX3_ifGust 100 = .ok (.iload_n 3, 1) := by decide +kernel
theorem dX3_ifGust_101 : decode cX3_ifGust 101 = .ok (.invokevirtual 171, 3) := by decide +kernel
theorem dX3_ifGust_104 : decode cX3_ifGust 104 = .ok (.aload_n 0, 1) := by decide +kernel
theorem dX3_ifGust_105 : decode cX3_ifGust 105 = .ok (.getfield 10, 3) := by decide +kernel
theorem dX3_ifGust_108 : decode cX3_ifGust 108 = .ok (.getfield 136, 3) := by decide +kernel
theorem dX3_ifGust_111 : decode cX3_ifGust 111 = .ok (.iload_n 1, 1) := by decide +kernel
theorem dX3_ifGust_112 : decode cX3_ifGust 112 = .ok (.iaload, 1) := by decide +kernel
theorem dX3_ifGust_113 : decode cX3_ifGust 113 = .ok (.if_icmp .le 7, 3) := by decide +kernel
theorem dX3_ifGust_116 : decode cX3_ifGust 116 = .ok (.iconst 1, 1) := by decide +kernel
theorem dX3_ifGust_117 : decode cX3_ifGust 117 = .ok (.goto 4, 3) := by decide +kernel
theorem dX3_ifGust_120 : decode cX3_ifGust 120 = .ok (.iconst 0, 1) := by decide +kernel
theorem dX3_ifGust_121 : decode cX3_ifGust 121 = .ok (.ireturn, 1) := by decide +kernel
theorem dX3_ifGust_122 : decode cX3_ifGust 122 = .ok (.bipush (-2), 2) := by decide +kernel
theorem dX3_ifGust_124 : decode cX3_ifGust 124 = .ok (.ireturn, 1) := by decide +kernel
set_option maxRecDepth 20000 in
theorem ggX3_reason_X1_hasNeighbour : GoodIn wsX3_reason wsX1_hasNeighbour := goodIn_r _ [6, 7, 21, 22, 23, 24, 25, 26, 27, 28, 29, 30, 31, 32, 33, 34, 35, 36, 37] (by decide +kernel) (by decide +kernel)
set_option maxRecDepth 20000 in
theorem gX3_reason_X1_hasNeighbour : GoodIn wsX3_reason (wsV RX3 174 RX1 yX1_hasNeighbour wsX1_hasNeighbour) := goodIn_app (goodIn_of _ (by decide +kernel)) ggX3_reason_X1_hasNeighbour
set_option maxRecDepth 20000 in
theorem ggX3_reason_X1_refusal : GoodIn wsX3_reason wsX1_refusal := goodIn_r _ [11, 12, 13, 21, 22, 23, 24, 25, 26, 27, 28, 29, 30, 31, 32, 33, 34, 35, 36, 37] (by decide +kernel) (by decide +kernel)
set_option maxRecDepth 20000 in
theorem gX3_reason_X1_refusal : GoodIn wsX3_reason (wsV RX3 177 RX1 yX1_refusal wsX1_refusal) := goodIn_app (goodIn_of _ (by decide +kernel)) ggX3_reason_X1_refusal
theorem dX3_reason_0 : decode cX3_reason 0 = .ok (.aload_n 0, 1) := by decide +kernel
theorem dX3_reason_1 : decode cX3_reason 1 = .ok (.getfield 10, 3) := by decide +kernel
theorem dX3_reason_4 : decode cX3_reason 4 = .ok (.iload_n 1, 1) := by decide +kernel
theorem dX3_reason_5 : decode cX3_reason 5 = .ok (.invokevirtual 174, 3) := by decide +kernel
theorem dX3_reason_8 : decode cX3_reason 8 = .ok (.ifCond .eq 14, 3) := by decide +kernel
theorem dX3_reason_11 : decode cX3_reason 11 = .ok (.aload_n 0, 1) := by decide +kernel
theorem dX3_reason_12 : decode cX3_reason 12 = .ok (.getfield 10, 3) := by decide +kernel
theorem dX3_reason_15 : decode cX3_reason 15 = .ok (.iload_n 1, 1) := by decide +kernel
theorem dX3_reason_16 : decode cX3_reason 16 = .ok (.invokevirtual 177, 3) := by decide +kernel
theorem dX3_reason_19 : decode cX3_reason 19 = .ok (.goto 4, 3) := by decide +kernel
theorem dX3_reason_22 : decode cX3_reason 22 = .ok (.iconst (-1), 1) := by decide +kernel
theorem dX3_reason_23 : decode cX3_reason 23 = .ok (.ireturn, 1) := by decide +kernel
set_option maxRecDepth 20000 in
theorem ggX3_bestSwap_X3_isGust : GoodIn wsX3_bestSwap wsX3_isGust := goodIn_r _ [5, 6, 7, 4, 8] (by decide +kernel) (by decide +kernel)
set_option maxRecDepth 20000 in
theorem gX3_bestSwap_X3_isGust : GoodIn wsX3_bestSwap (va_wsS RX3 161 yX3_isGust wsX3_isGust) := goodIn_app (goodIn_of _ (by decide +kernel)) ggX3_bestSwap_X3_isGust
set_option maxRecDepth 20000 in
theorem ggX3_bestSwap_X1_driestSwap : GoodIn wsX3_bestSwap wsX1_driestSwap := goodIn_r _ [13, 14, 15, 16, 17, 18, 12, 19, 20, 21, 22, 23, 24, 25, 26, 27, 28, 29, 30, 31, 32, 33, 34, 35, 36, 37, 38, 39, 40, 41, 42, 43, 44, 45, 46, 47, 48, 49, 50, 51, 52, 53, 54, 55, 56, 57, 58, 66, 67, 68, 69, 70, 71, 72, 73, 74, 75, 76, 77, 78, 79, 80, 81, 82] (by decide +kernel) (by decide +kernel)
set_option maxRecDepth 20000 in
theorem gX3_bestSwap_X1_driestSwap : GoodIn wsX3_bestSwap (wsV RX3 180 RX1 yX1_driestSwap wsX1_driestSwap) := goodIn_app (goodIn_of _ (by decide +kernel)) ggX3_bestSwap_X1_driestSwap
theorem dX3_bestSwap_0 : decode cX3_bestSwap 0 = .ok (.iload_n 1, 1) := by decide +kernel
theorem dX3_bestSwap_1 : decode cX3_bestSwap 1 = .ok (.iload_n 2, 1) := by decide +kernel
theorem dX3_bestSwap_2 : decode cX3_bestSwap 2 = .ok (.invokestatic 161, 3) := by decide +kernel
theorem dX3_bestSwap_5 : decode cX3_bestSwap 5 = .ok (.ifCond .eq 15, 3) := by decide +kernel
theorem dX3_bestSwap_8 : decode cX3_bestSwap 8 = .ok (.aload_n 0, 1) := by decide +kernel
theorem dX3_bestSwap_9 : decode cX3_bestSwap 9 = .ok (.getfield 10, 3) := by decide +kernel
theorem dX3_bestSwap_12 : decode cX3_bestSwap 12 = .ok (.iload_n 1, 1) := by decide +kernel
theorem dX3_bestSwap_13 : decode cX3_bestSwap 13 = .ok (.iload_n 2, 1) := by decide +kernel
theorem dX3_bestSwap_14 : decode cX3_bestSwap 14 = .ok (.invokevirtual 180, 3) := by decide +kernel
theorem dX3_bestSwap_17 : decode cX3_bestSwap 17 = .ok (.goto 5, 3) := by decide +kernel
theorem dX3_bestSwap_20 : decode cX3_bestSwap 20 = .ok (.bipush (-2), 2) := by decide +kernel
theorem dX3_bestSwap_22 : decode cX3_bestSwap 22 = .ok (.ireturn, 1) := by decide +kernel
set_option maxRecDepth 20000 in
theorem ggX3_payer_X3_isWithin : GoodIn wsX3_payer wsX3_isWithin := goodIn_r _ [6] (by decide +kernel) (by decide +kernel)
set_option maxRecDepth 20000 in
theorem gX3_payer_X3_isWithin : GoodIn wsX3_payer (va_wsS RX3 157 yX3_isWithin wsX3_isWithin) := goodIn_app (goodIn_of _ (by decide +kernel)) ggX3_payer_X3_isWithin
set_option maxRecDepth 20000 in
theorem ggX3_payer_X1_driestToServe : GoodIn wsX3_payer wsX1_driestToServe := goodIn_r _ [11, 12, 13, 14, 15, 10, 16, 17, 18, 19, 20, 21, 22, 39, 40, 41, 42, 43, 44, 45, 46, 47, 48, 49, 50, 51, 52, 53, 54, 55] (by decide +kernel) (by decide +kernel)
set_option maxRecDepth 20000 in
theorem gX3_payer_X1_driestToServe : GoodIn wsX3_payer (wsV RX3 183 RX1 yX1_driestToServe wsX1_driestToServe) := goodIn_app (goodIn_of _ (by decide +kernel)) ggX3_payer_X1_driestToServe
set_option maxRecDepth 20000 in
theorem ggX3_payer_X1_paidFrom : GoodIn wsX3_payer wsX1_paidFrom := goodIn_r _ [26, 27, 19, 20, 21, 22, 28, 29, 30, 10, 31, 18, 13, 14, 15, 16, 17, 39, 40, 41, 42, 43, 44, 45, 46, 47, 48, 49, 50, 51, 52, 53, 54, 55] (by decide +kernel) (by decide +kernel)
set_option maxRecDepth 20000 in
theorem gX3_payer_X1_paidFrom : GoodIn wsX3_payer (wsV RX3 186 RX1 yX1_paidFrom wsX1_paidFrom) := goodIn_app (goodIn_of _ (by decide +kernel)) ggX3_payer_X1_paidFrom
theorem dX3_payer_0 : decode cX3_payer 0 = .ok (.iload_n 1, 1) := by decide +kernel
theorem dX3_payer_1 : decode cX3_payer 1 = .ok (.iconst 0, 1) := by decide +kernel
theorem dX3_payer_2 : decode cX3_payer 2 = .ok (.iconst 1, 1) := by decide +kernel
theorem dX3_payer_3 : decode cX3_payer 3 = .ok (.invokestatic 157, 3) := by decide +kernel
theorem dX3_payer_6 : decode cX3_payer 6 = .ok (.ifCond .ne 6, 3) := by decide +kernel
theorem dX3_payer_9 : decode cX3_payer 9 = .ok (.bipush (-2), 2) := by decide +kernel
theorem dX3_payer_11 : decode cX3_payer 11 = .ok (.ireturn, 1) := by decide +kernel
theorem dX3_payer_12 : decode cX3_payer 12 = .ok (.aload_n 0, 1) := by decide +kernel
theorem dX3_payer_13 : decode cX3_payer 13 = .ok (.getfield 10, 3) := by decide +kernel
theorem dX3_payer_16 : decode cX3_payer 16 = .ok (.getfield 124, 3) := by decide +kernel
theorem dX3_payer_19 : decode cX3_payer 19 = .ok (.ifCond .ne 6, 3) := by decide +kernel
theorem dX3_payer_22 : decode cX3_payer 22 = .ok (.bipush (-5), 2) := by decide +kernel
theorem dX3_payer_24 : decode cX3_payer 24 = .ok (.ireturn, 1) := by decide +kernel
theorem dX3_payer_25 : decode cX3_payer 25 = .ok (.aload_n 0, 1) := by decide +kernel
theorem dX3_payer_26 : decode cX3_payer 26 = .ok (.getfield 10, 3) := by decide +kernel
theorem dX3_payer_29 : decode cX3_payer 29 = .ok (.invokevirtual 183, 3) := by decide +kernel
theorem dX3_payer_32 : decode cX3_payer 32 = .ok (.istore_n 2, 1) := by decide +kernel
theorem dX3_payer_33 : decode cX3_payer 33 = .ok (.iload_n 1, 1) := by decide +kernel
theorem dX3_payer_34 : decode cX3_payer 34 = .ok (.ifCond .ne 7, 3) := by decide +kernel
theorem dX3_payer_37 : decode cX3_payer 37 = .ok (.iload_n 2, 1) := by decide +kernel
theorem dX3_payer_38 : decode cX3_payer 38 = .ok (.goto 11, 3) := by decide +kernel
theorem dX3_payer_41 : decode cX3_payer 41 = .ok (.aload_n 0, 1) := by decide +kernel
theorem dX3_payer_42 : decode cX3_payer 42 = .ok (.getfield 10, 3) := by decide +kernel
theorem dX3_payer_45 : decode cX3_payer 45 = .ok (.iload_n 2, 1) := by decide +kernel
theorem dX3_payer_46 : decode cX3_payer 46 = .ok (.invokevirtual 186, 3) := by decide +kernel
theorem dX3_payer_49 : decode cX3_payer 49 = .ok (.ireturn, 1) := by decide +kernel
set_option maxRecDepth 20000 in
theorem ggX3_bears_X1_isPlace : GoodIn wsX3_bears wsX1_isPlace := goodIn_r _ [6, 7, 53, 54, 55, 56, 57, 58, 59, 60, 61, 62, 63, 64, 65, 66, 67, 68, 69] (by decide +kernel) (by decide +kernel)
set_option maxRecDepth 20000 in
theorem gX3_bears_X1_isPlace : GoodIn wsX3_bears (wsV RX3 127 RX1 yX1_isPlace wsX1_isPlace) := goodIn_app (goodIn_of _ (by decide +kernel)) ggX3_bears_X1_isPlace
set_option maxRecDepth 20000 in
theorem ggX3_bears_X3_isWithin : GoodIn wsX3_bears wsX3_isWithin := goodIn_r _ [11] (by decide +kernel) (by decide +kernel)
set_option maxRecDepth 20000 in
theorem gX3_bears_X3_isWithin : GoodIn wsX3_bears (va_wsS RX3 157 yX3_isWithin wsX3_isWithin) := goodIn_app (goodIn_of _ (by decide +kernel)) ggX3_bears_X3_isWithin
set_option maxRecDepth 20000 in
theorem ggX3_bears_X1_gustsBorne : GoodIn wsX3_bears wsX1_gustsBorne := goodIn_r _ [15, 16, 17, 18, 19, 20, 5, 21, 22, 23, 24, 25, 7, 26, 27, 28, 29, 30, 31, 32, 33, 34, 35, 36, 37, 38, 39, 40, 41, 42, 43, 44, 45, 53, 54, 55, 56, 57, 58, 59, 60, 61, 62, 63, 64, 65, 66, 67, 68, 69] (by decide +kernel) (by decide +kernel)
set_option maxRecDepth 20000 in
theorem gX3_bears_X1_gustsBorne : GoodIn wsX3_bears (wsV RX3 189 RX1 yX1_gustsBorne wsX1_gustsBorne) := goodIn_app (goodIn_of _ (by decide +kernel)) ggX3_bears_X1_gustsBorne
theorem dX3_bears_0 : decode cX3_bears 0 = .ok (.aload_n 0, 1) := by decide +kernel
theorem dX3_bears_1 : decode cX3_bears 1 = .ok (.getfield 10, 3) := by decide +kernel
theorem dX3_bears_4 : decode cX3_bears 4 = .ok (.iload_n 1, 1) := by decide +kernel
theorem dX3_bears_5 : decode cX3_bears 5 = .ok (.invokevirtual 127, 3) := by decide +kernel
theorem dX3_bears_8 : decode cX3_bears 8 = .ok (.ifCond .ne 5, 3) := by decide +kernel
theorem dX3_bears_11 : decode cX3_bears 11 = .ok (.iconst (-1), 1) := by decide +kernel
theorem dX3_bears_12 : decode cX3_bears 12 = .ok (.ireturn, 1) := by decide +kernel
theorem dX3_bears_13 : decode cX3_bears 13 = .ok (.iload_n 2, 1) := by decide +kernel
theorem dX3_bears_14 : decode cX3_bears 14 = .ok (.iconst 1, 1) := by decide +kernel
theorem dX3_bears_15 : decode cX3_bears 15 = .ok (.bipush 99, 2) := by decide +kernel
theorem dX3_bears_17 : decode cX3_bears 17 = .ok (.invokestatic 157, 3) := by decide +kernel
theorem dX3_bears_20 : decode cX3_bears 20 = .ok (.ifCond .ne 6, 3) := by decide +kernel
theorem dX3_bears_23 : decode cX3_bears 23 = .ok (.bipush (-2), 2) := by decide +kernel
theorem dX3_bears_25 : decode cX3_bears 25 = .ok (.ireturn, 1) := by decide +kernel
theorem dX3_bears_26 : decode cX3_bears 26 = .ok (.aload_n 0, 1) := by decide +kernel
theorem dX3_bears_27 : decode cX3_bears 27 = .ok (.getfield 10, 3) := by decide +kernel
theorem dX3_bears_30 : decode cX3_bears 30 = .ok (.iload_n 1, 1) := by decide +kernel
theorem dX3_bears_31 : decode cX3_bears 31 = .ok (.iload_n 2, 1) := by decide +kernel
theorem dX3_bears_32 : decode cX3_bears 32 = .ok (.invokevirtual 189, 3) := by decide +kernel
theorem dX3_bears_35 : decode cX3_bears 35 = .ok (.ireturn, 1) := by decide +kernel
set_option maxRecDepth 20000 in
theorem ggX3_count_X1_totalWetness : GoodIn wsX3_count wsX1_totalWetness := goodIn_r _ [21, 22, 23, 62, 63, 64, 65, 66, 67, 68, 69, 70, 71, 72, 73, 74, 75, 76, 77, 78] (by decide +kernel) (by decide +kernel)
set_option maxRecDepth 20000 in
theorem gX3_count_X1_totalWetness : GoodIn wsX3_count (wsV RX3 219 RX1 yX1_totalWetness wsX1_totalWetness) := goodIn_app (goodIn_of _ (by decide +kernel)) ggX3_count_X1_totalWetness
set_option maxRecDepth 20000 in
theorem ggX3_count_X1_wettest : GoodIn wsX3_count wsX1_wettest := goodIn_r _ [27, 22, 23, 62, 63, 64, 65, 66, 67, 68, 69, 70, 71, 72, 73, 74, 75, 76, 77, 78] (by decide +kernel) (by decide +kernel)
set_option maxRecDepth 20000 in
theorem gX3_count_X1_wettest : GoodIn wsX3_count (wsV RX3 222 RX1 yX1_wettest wsX1_wettest) := goodIn_app (goodIn_of _ (by decide +kernel)) ggX3_count_X1_wettest
set_option maxRecDepth 20000 in
theorem ggX3_count_X1_placesUnreached : GoodIn wsX3_count wsX1_placesUnreached := goodIn_r _ [31, 22, 32, 33, 34, 20, 35, 36, 37, 38, 39, 40, 41, 42, 43, 44, 45, 46, 47, 48, 49, 50, 51, 52, 53, 54, 62, 63, 64, 65, 66, 67, 68, 69, 70, 71, 72, 73, 74, 75, 76, 77, 78] (by decide +kernel) (by decide +kernel)
set_option maxRecDepth 20000 in
theorem gX3_count_X1_placesUnreached : GoodIn wsX3_count (wsV RX3 225 RX1 yX1_placesUnreached wsX1_placesUnreached) := goodIn_app (goodIn_of _ (by decide +kernel)) ggX3_count_X1_placesUnreached
theorem dX3_count_0 : decode cX3_count 0 = .ok (.iload_n 1, 1) := by decide +kernel
theorem dX3_count_1 : decode cX3_count 1 = .ok (.tableswitch 237 0 17 #[87, 95, 103, 111, 119, 127, 135, 143, 151, 159, 167, 175, 183, 191, 201, 211, 221, 229], 87) := by decide +kernel
theorem dX3_count_88 : decode cX3_count 88 = .ok (.aload_n 0, 1) := by decide +kernel
theorem dX3_count_89 : decode cX3_count 89 = .ok (.getfield 10, 3) := by decide +kernel
theorem dX3_count_92 : decode cX3_count 92 = .ok (.getfield 124, 3) := by decide +kernel
theorem dX3_count_95 : decode cX3_count 95 = .ok (.ireturn, 1) := by decide +kernel
theorem dX3_count_96 : decode cX3_count 96 = .ok (.aload_n 0, 1) := by decide +kernel
theorem dX3_count_97 : decode cX3_count 97 = .ok (.getfield 10, 3) := by decide +kernel
theorem dX3_count_100 : decode cX3_count 100 = .ok (.getfield 192, 3) := by decide +kernel
theorem dX3_count_103 : decode cX3_count 103 = .ok (.ireturn, 1) := by decide +kernel
theorem dX3_count_104 : decode cX3_count 104 = .ok (.aload_n 0, 1) := by decide +kernel
theorem dX3_count_105 : decode cX3_count 105 = .ok (.getfield 10, 3) := by decide +kernel
theorem dX3_count_108 : decode cX3_count 108 = .ok (.getfield 195, 3) := by decide +kernel
theorem dX3_count_111 : decode cX3_count 111 = .ok (.ireturn, 1) := by decide +kernel
theorem dX3_count_112 : decode cX3_count 112 = .ok (.aload_n 0, 1) := by decide +kernel
theorem dX3_count_113 : decode cX3_count 113 = .ok (.getfield 10, 3) := by decide +kernel
theorem dX3_count_116 : decode cX3_count 116 = .ok (.getfield 198, 3) := by decide +kernel
theorem dX3_count_119 : decode cX3_count 119 = .ok (.ireturn, 1) := by decide +kernel
theorem dX3_count_120 : decode cX3_count 120 = .ok (.aload_n 0, 1) := by decide +kernel
theorem dX3_count_121 : decode cX3_count 121 = .ok (.getfield 10, 3) := by decide +kernel
theorem dX3_count_124 : decode cX3_count 124 = .ok (.getfield 201, 3) := by decide +kernel
theorem dX3_count_127 : decode cX3_count 127 = .ok (.ireturn, 1) := by decide +kernel
theorem dX3_count_128 : decode cX3_count 128 = .ok (.aload_n 0, 1) := by decide +kernel
theorem dX3_count_129 : decode cX3_count 129 = .ok (.getfield 10, 3) := by decide +kernel
theorem dX3_count_132 : decode cX3_count 132 = .ok (.getfield 204, 3) := by decide +kernel
theorem dX3_count_135 : decode cX3_count 135 = .ok (.ireturn, 1) := by decide +kernel
theorem dX3_count_136 : decode cX3_count 136 = .ok (.aload_n 0, 1) := by decide +kernel
theorem dX3_count_137 : decode cX3_count 137 = .ok (.getfield 10, 3) := by decide +kernel
theorem dX3_count_140 : decode cX3_count 140 = .ok (.getfield 207, 3) := by decide +kernel
theorem dX3_count_143 : decode cX3_count 143 = .ok (.ireturn, 1) := by decide +kernel
theorem dX3_count_144 : decode cX3_count 144 = .ok (.aload_n 0, 1) := by decide +kernel
theorem dX3_count_145 : decode cX3_count 145 = .ok (.getfield 10, 3) := by decide +kernel
theorem dX3_count_148 : decode cX3_count 148 = .ok (.getfield 210, 3) := by decide +kernel
theorem dX3_count_151 : decode cX3_count 151 = .ok (.ireturn, 1) := by decide +kernel
theorem dX3_count_152 : decode cX3_count 152 = .ok (.aload_n 0, 1) := by decide +kernel
theorem dX3_count_153 : decode cX3_count 153 = .ok (.getfield 10, 3) := by decide +kernel
theorem dX3_count_156 : decode cX3_count 156 = .ok (.getfield 213, 3) := by decide +kernel
theorem dX3_count_159 : decode cX3_count 159 = .ok (.ireturn, 1) := by decide +kernel
theorem dX3_count_160 : decode cX3_count 160 = .ok (.aload_n 0, 1) := by decide +kernel
theorem dX3_count_161 : decode cX3_count 161 = .ok (.getfield 10, 3) := by decide +kernel
theorem dX3_count_164 : decode cX3_count 164 = .ok (.getfield 216, 3) := by decide +kernel
theorem dX3_count_167 : decode cX3_count 167 = .ok (.ireturn, 1) := by decide +kernel
theorem dX3_count_168 : decode cX3_count 168 = .ok (.aload_n 0, 1) := by decide +kernel
theorem dX3_count_169 : decode cX3_count 169 = .ok (.getfield 10, 3) := by decide +kernel
theorem dX3_count_172 : decode cX3_count 172 = .ok (.invokevirtual 219, 3) := by decide +kernel
theorem dX3_count_175 : decode cX3_count 175 = .ok (.ireturn, 1) := by decide +kernel
theorem dX3_count_176 : decode cX3_count 176 = .ok (.aload_n 0, 1) := by decide +kernel
theorem dX3_count_177 : decode cX3_count 177 = .ok (.getfield 10, 3) := by decide +kernel
theorem dX3_count_180 : decode cX3_count 180 = .ok (.invokevirtual 222, 3) := by decide +kernel
theorem dX3_count_183 : decode cX3_count 183 = .ok (.ireturn, 1) := by decide +kernel
theorem dX3_count_184 : decode cX3_count 184 = .ok (.aload_n 0, 1) := by decide +kernel
theorem dX3_count_185 : decode cX3_count 185 = .ok (.getfield 10, 3) := by decide +kernel
theorem dX3_count_188 : decode cX3_count 188 = .ok (.invokevirtual 225, 3) := by decide +kernel
theorem dX3_count_191 : decode cX3_count 191 = .ok (.ireturn, 1) := by decide +kernel
theorem dX3_count_192 : decode cX3_count 192 = .ok (.aload_n 0, 1) := by decide +kernel
theorem dX3_count_193 : decode cX3_count 193 = .ok (.getfield 10, 3) := by decide +kernel
theorem dX3_count_196 : decode cX3_count 196 = .ok (.getfield 228, 3) := by decide +kernel
theorem dX3_count_199 : decode cX3_count 199 = .ok (.iconst 0, 1) := by decide +kernel
theorem dX3_count_200 : decode cX3_count 200 = .ok (.iaload, 1) := by decide +kernel
theorem dX3_count_201 : decode cX3_count 201 = .ok (.ireturn, 1) := by decide +kernel
theorem dX3_count_202 : decode cX3_count 202 = .ok (.aload_n 0, 1) := by decide +kernel
theorem dX3_count_203 : decode cX3_count 203 = .ok (.getfield 10, 3) := by decide +kernel
theorem dX3_count_206 : decode cX3_count 206 = .ok (.getfield 228, 3) := by decide +kernel
theorem dX3_count_209 : decode cX3_count 209 = .ok (.iconst 1, 1) := by decide +kernel
theorem dX3_count_210 : decode cX3_count 210 = .ok (.iaload, 1) := by decide +kernel
theorem dX3_count_211 : decode cX3_count 211 = .ok (.ireturn, 1) := by decide +kernel
theorem dX3_count_212 : decode cX3_count 212 = .ok (.aload_n 0, 1) := by decide +kernel
theorem dX3_count_213 : decode cX3_count 213 = .ok (.getfield 10, 3) := by decide +kernel
theorem dX3_count_216 : decode cX3_count 216 = .ok (.getfield 228, 3) := by decide +kernel
theorem dX3_count_219 : decode cX3_count 219 = .ok (.iconst 2, 1) := by decide +kernel
theorem dX3_count_220 : decode cX3_count 220 = .ok (.iaload, 1) := by decide +kernel
theorem dX3_count_221 : decode cX3_count 221 = .ok (.ireturn, 1) := by decide +kernel
theorem dX3_count_222 : decode cX3_count 222 = .ok (.aload_n 0, 1) := by decide +kernel
theorem dX3_count_223 : decode cX3_count 223 = .ok (.getfield 22, 3) := by decide +kernel
theorem dX3_count_226 : decode cX3_count 226 = .ok (.getfield 114, 3) := by decide +kernel
theorem dX3_count_229 : decode cX3_count 229 = .ok (.ireturn, 1) := by decide +kernel
theorem dX3_count_230 : decode cX3_count 230 = .ok (.aload_n 0, 1) := by decide +kernel
theorem dX3_count_231 : decode cX3_count 231 = .ok (.getfield 29, 3) := by decide +kernel
theorem dX3_count_234 : decode cX3_count 234 = .ok (.getfield 231, 3) := by decide +kernel
theorem dX3_count_237 : decode cX3_count 237 = .ok (.ireturn, 1) := by decide +kernel
theorem dX3_count_238 : decode cX3_count 238 = .ok (.bipush (-2), 2) := by decide +kernel
theorem dX3_count_240 : decode cX3_count 240 = .ok (.ireturn, 1) := by decide +kernel
set_option maxRecDepth 20000 in
theorem ggX3_recorded_X0_keepDraft : GoodIn wsX3_recorded wsX0_keepDraft := goodIn_r _ [6, 7, 8, 16, 17] (by decide +kernel) (by decide +kernel)
set_option maxRecDepth 20000 in
theorem gX3_recorded_X0_keepDraft : GoodIn wsX3_recorded (wsV RX3 234 RX0 yX0_keepDraft wsX0_keepDraft) := goodIn_app (goodIn_of _ (by decide +kernel)) ggX3_recorded_X0_keepDraft
theorem dX3_recorded_0 : decode cX3_recorded 0 = .ok (.iload_n 1, 1) := by decide +kernel
theorem dX3_recorded_1 : decode cX3_recorded 1 = .ok (.ifCond .lt 10, 3) := by decide +kernel
theorem dX3_recorded_4 : decode cX3_recorded 4 = .ok (.aload_n 0, 1) := by decide +kernel
theorem dX3_recorded_5 : decode cX3_recorded 5 = .ok (.getfield 22, 3) := by decide +kernel
theorem dX3_recorded_8 : decode cX3_recorded 8 = .ok (.invokevirtual 234, 3) := by decide +kernel
theorem dX3_recorded_11 : decode cX3_recorded 11 = .ok (.iload_n 1, 1) := by decide +kernel
theorem dX3_recorded_12 : decode cX3_recorded 12 = .ok (.ireturn, 1) := by decide +kernel
set_option maxRecDepth 20000 in
theorem ggX3_happen_X1_rain : GoodIn wsX3_happen wsX1_rain := goodIn_r _ [6, 7, 8, 9, 10, 11, 12, 13, 14, 15, 16, 17, 18, 5, 19, 20, 21, 22, 23, 24, 25, 26, 27, 28, 29, 30, 31, 32, 33, 34, 35, 36, 37, 38, 39, 40, 41, 42, 43, 44, 45, 46, 47, 48, 49, 50, 51, 52, 53, 54, 55, 56, 57, 58, 59, 60, 61, 62, 63, 64, 65, 66, 67, 121, 122, 123, 124, 125, 126, 127, 128, 129, 130, 131, 132, 133, 134, 135, 136, 137] (by decide +kernel) (by decide +kernel)
set_option maxRecDepth 20000 in
theorem gX3_happen_X1_rain : GoodIn wsX3_happen (wsV RX3 65 RX1 yX1_rain wsX1_rain) := goodIn_app (goodIn_of _ (by decide +kernel)) ggX3_happen_X1_rain
set_option maxRecDepth 20000 in
theorem ggX3_happen_X1_dry : GoodIn wsX3_happen wsX1_dry := goodIn_r _ [71, 72, 73, 7, 8, 74, 37, 38, 22, 39, 14, 11, 15, 121, 122, 123, 124, 125, 126, 127, 128, 129, 130, 131, 132, 133, 134, 135, 136, 137] (by decide +kernel) (by decide +kernel)
set_option maxRecDepth 20000 in
theorem gX3_happen_X1_dry : GoodIn wsX3_happen (wsV RX3 68 RX1 yX1_dry wsX1_dry) := goodIn_app (goodIn_of _ (by decide +kernel)) ggX3_happen_X1_dry
set_option maxRecDepth 20000 in
theorem ggX3_happen_X1_serveFirst : GoodIn wsX3_happen wsX1_serveFirst := goodIn_r _ [78, 7, 79, 80, 81, 82, 83, 84, 5, 85, 74, 20, 21, 22, 23, 86, 87, 88, 89, 8, 90, 91, 92, 93, 59, 94, 95, 96, 97, 54, 55, 56, 57, 58, 52, 32, 60, 61, 62, 63, 64, 65, 66, 67, 121, 122, 123, 124, 125, 126, 127, 128, 129, 130, 131, 132, 133, 134, 135, 136, 137] (by decide +kernel) (by decide +kernel)
set_option maxRecDepth 20000 in
theorem gX3_happen_X1_serveFirst : GoodIn wsX3_happen (wsV RX3 71 RX1 yX1_serveFirst wsX1_serveFirst) := goodIn_app (goodIn_of _ (by decide +kernel)) ggX3_happen_X1_serveFirst
set_option maxRecDepth 20000 in
theorem ggX3_happen_X1_swapUmbrellas : GoodIn wsX3_happen wsX1_swapUmbrellas := goodIn_r _ [101, 32, 60, 102, 103, 104, 105, 5, 106, 7, 107, 108, 109, 110, 8, 111, 112, 113, 121, 122, 123, 124, 125, 126, 127, 128, 129, 130, 131, 132, 133, 134, 135, 136, 137] (by decide +kernel) (by decide +kernel)
set_option maxRecDepth 20000 in
theorem gX3_happen_X1_swapUmbrellas : GoodIn wsX3_happen (wsV RX3 58 RX1 yX1_swapUmbrellas wsX1_swapUmbrellas) := goodIn_app (goodIn_of _ (by decide +kernel)) ggX3_happen_X1_swapUmbrellas
theorem dX3_happen_0 : decode cX3_happen 0 = .ok (.iload_n 1, 1) := by decide +kernel
theorem dX3_happen_1 : decode cX3_happen 1 = .ok (.bipush 103, 2) := by decide +kernel
theorem dX3_happen_3 : decode cX3_happen 3 = .ok (.if_icmp .ne 13, 3) := by decide +kernel
theorem dX3_happen_6 : decode cX3_happen 6 = .ok (.aload_n 0, 1) := by decide +kernel
theorem dX3_happen_7 : decode cX3_happen 7 = .ok (.getfield 10, 3) := by decide +kernel
theorem dX3_happen_10 : decode cX3_happen 10 = .ok (.iload_n 2, 1) := by decide +kernel
theorem dX3_happen_11 : decode cX3_happen 11 = .ok (.iload_n 3, 1) := by decide +kernel
theorem dX3_happen_12 : decode cX3_happen 12 = .ok (.invokevirtual 65, 3) := by decide +kernel
theorem dX3_happen_15 : decode cX3_happen 15 = .ok (.ireturn, 1) := by decide +kernel
theorem dX3_happen_16 : decode cX3_happen 16 = .ok (.iload_n 1, 1) := by decide +kernel
theorem dX3_happen_17 : decode cX3_happen 17 = .ok (.bipush 46, 2) := by decide +kernel
theorem dX3_happen_19 : decode cX3_happen 19 = .ok (.if_icmp .ne 12, 3) := by decide +kernel
theorem dX3_happen_22 : decode cX3_happen 22 = .ok (.aload_n 0, 1) := by decide +kernel
theorem dX3_happen_23 : decode cX3_happen 23 = .ok (.getfield 10, 3) := by decide +kernel
theorem dX3_happen_26 : decode cX3_happen 26 = .ok (.iload_n 2, 1) := by decide +kernel
theorem dX3_happen_27 : decode cX3_happen 27 = .ok (.invokevirtual 68, 3) := by decide +kernel
theorem dX3_happen_30 : decode cX3_happen 30 = .ok (.ireturn, 1) := by decide +kernel
theorem dX3_happen_31 : decode cX3_happen 31 = .ok (.iload_n 1, 1) := by decide +kernel
theorem dX3_happen_32 : decode cX3_happen 32 = .ok (.bipush 99, 2) := by decide +kernel
theorem dX3_happen_34 : decode cX3_happen 34 = .ok (.if_icmp .ne 11, 3) := by decide +kernel
theorem dX3_happen_37 : decode cX3_happen 37 = .ok (.aload_n 0, 1) := by decide +kernel
theorem dX3_happen_38 : decode cX3_happen 38 = .ok (.getfield 10, 3) := by decide +kernel
theorem dX3_happen_41 : decode cX3_happen 41 = .ok (.invokevirtual 71, 3) := by decide +kernel
theorem dX3_happen_44 : decode cX3_happen 44 = .ok (.ireturn, 1) := by decide +kernel
theorem dX3_happen_45 : decode cX3_happen 45 = .ok (.aload_n 0, 1) := by decide +kernel
theorem dX3_happen_46 : decode cX3_happen 46 = .ok (.getfield 10, 3) := by decide +kernel
theorem dX3_happen_49 : decode cX3_happen 49 = .ok (.iload_n 2, 1) := by decide +kernel
theorem dX3_happen_50 : decode cX3_happen 50 = .ok (.invokevirtual 58, 3) := by decide +kernel
theorem dX3_happen_53 : decode cX3_happen 53 = .ok (.ireturn, 1) := by decide +kernel
set_option maxRecDepth 20000 in
theorem ggX3_isStop_X3_isWithin : GoodIn wsX3_isStop wsX3_isWithin := goodIn_r _ [4] (by decide +kernel) (by decide +kernel)
set_option maxRecDepth 20000 in
theorem gX3_isStop_X3_isWithin : GoodIn wsX3_isStop (va_wsS RX3 157 yX3_isWithin wsX3_isWithin) := goodIn_app (goodIn_of _ (by decide +kernel)) ggX3_isStop_X3_isWithin
theorem dX3_isStop_0 : decode cX3_isStop 0 = .ok (.iload_n 0, 1) := by decide +kernel
theorem dX3_isStop_1 : decode cX3_isStop 1 = .ok (.bipush (-4), 2) := by decide +kernel
theorem dX3_isStop_3 : decode cX3_isStop 3 = .ok (.iconst (-1), 1) := by decide +kernel
theorem dX3_isStop_4 : decode cX3_isStop 4 = .ok (.invokestatic 157, 3) := by decide +kernel
theorem dX3_isStop_7 : decode cX3_isStop 7 = .ok (.ireturn, 1) := by decide +kernel
set_option maxRecDepth 20000 in
theorem ggX3_isGust_X3_isWithin : GoodIn wsX3_isGust wsX3_isWithin := goodIn_r _ [4] (by decide +kernel) (by decide +kernel)
set_option maxRecDepth 20000 in
theorem gX3_isGust_X3_isWithin : GoodIn wsX3_isGust (va_wsS RX3 157 yX3_isWithin wsX3_isWithin) := goodIn_app (goodIn_of _ (by decide +kernel)) ggX3_isGust_X3_isWithin
theorem dX3_isGust_0 : decode cX3_isGust 0 = .ok (.iload_n 0, 1) := by decide +kernel
theorem dX3_isGust_1 : decode cX3_isGust 1 = .ok (.iconst 1, 1) := by decide +kernel
theorem dX3_isGust_2 : decode cX3_isGust 2 = .ok (.bipush 99, 2) := by decide +kernel
theorem dX3_isGust_4 : decode cX3_isGust 4 = .ok (.invokestatic 157, 3) := by decide +kernel
theorem dX3_isGust_7 : decode cX3_isGust 7 = .ok (.ifCond .eq 16, 3) := by decide +kernel
theorem dX3_isGust_10 : decode cX3_isGust 10 = .ok (.iload_n 1, 1) := by decide +kernel
theorem dX3_isGust_11 : decode cX3_isGust 11 = .ok (.iconst 0, 1) := by decide +kernel
theorem dX3_isGust_12 : decode cX3_isGust 12 = .ok (.iconst 2, 1) := by decide +kernel
theorem dX3_isGust_13 : decode cX3_isGust 13 = .ok (.invokestatic 157, 3) := by decide +kernel
theorem dX3_isGust_16 : decode cX3_isGust 16 = .ok (.ifCond .eq 7, 3) := by decide +kernel
theorem dX3_isGust_19 : decode cX3_isGust 19 = .ok (.iconst 1, 1) := by decide +kernel
theorem dX3_isGust_20 : decode cX3_isGust 20 = .ok (.goto 4, 3) := by decide +kernel
theorem dX3_isGust_23 : decode cX3_isGust 23 = .ok (.iconst 0, 1) := by decide +kernel
theorem dX3_isGust_24 : decode cX3_isGust 24 = .ok (.ireturn, 1) := by decide +kernel
theorem dX3_isWithin_0 : decode cX3_isWithin 0 = .ok (.iload_n 0, 1) := by decide +kernel
theorem dX3_isWithin_1 : decode cX3_isWithin 1 = .ok (.iload_n 1, 1) := by decide +kernel
theorem dX3_isWithin_2 : decode cX3_isWithin 2 = .ok (.if_icmp .lt 12, 3) := by decide +kernel
theorem dX3_isWithin_5 : decode cX3_isWithin 5 = .ok (.iload_n 0, 1) := by decide +kernel
theorem dX3_isWithin_6 : decode cX3_isWithin 6 = .ok (.iload_n 2, 1) := by decide +kernel
theorem dX3_isWithin_7 : decode cX3_isWithin 7 = .ok (.if_icmp .gt 7, 3) := by decide +kernel
theorem dX3_isWithin_10 : decode cX3_isWithin 10 = .ok (.iconst 1, 1) := by decide +kernel
theorem dX3_isWithin_11 : decode cX3_isWithin 11 = .ok (.goto 4, 3) := by decide +kernel
theorem dX3_isWithin_14 : decode cX3_isWithin 14 = .ok (.iconst 0, 1) := by decide +kernel
theorem dX3_isWithin_15 : decode cX3_isWithin 15 = .ok (.ireturn, 1) := by decide +kernel
end
section
theorem dX4_init_0 : decode cX4_init 0 = .ok (.aload_n 0, 1) := by decide +kernel
theorem dX4_init_1 : decode cX4_init 1 = .ok (.invokespecial 1, 3) := by decide +kernel
theorem dX4_init_4 : decode cX4_init 4 = .ok (.aload_n 0, 1) := by decide +kernel
theorem dX4_init_5 : decode cX4_init 5 = .ok (.bipush 109, 2) := by decide +kernel
theorem dX4_init_7 : decode cX4_init 7 = .ok (.newarray .int, 2) := by decide +kernel
theorem dX4_init_9 : decode cX4_init 9 = .ok (.putfield 7, 3) := by decide +kernel
theorem dX4_init_12 : decode cX4_init 12 = .ok (.aload_n 0, 1) := by decide +kernel
theorem dX4_init_13 : decode cX4_init 13 = .ok (.bipush 109, 2) := by decide +kernel
theorem dX4_init_15 : decode cX4_init 15 = .ok (.newarray .int, 2) := by decide +kernel
theorem dX4_init_17 : decode cX4_init 17 = .ok (.putfield 13, 3) := by decide +kernel
theorem dX4_init_20 : decode cX4_init 20 = .ok (.aload_n 0, 1) := by decide +kernel
theorem dX4_init_21 : decode cX4_init 21 = .ok (.bipush 109, 2) := by decide +kernel
theorem dX4_init_23 : decode cX4_init 23 = .ok (.newarray .int, 2) := by decide +kernel
theorem dX4_init_25 : decode cX4_init 25 = .ok (.putfield 16, 3) := by decide +kernel
theorem dX4_init_28 : decode cX4_init 28 = .ok (.aload_n 0, 1) := by decide +kernel
theorem dX4_init_29 : decode cX4_init 29 = .ok (.sipush 436, 3) := by decide +kernel
theorem dX4_init_32 : decode cX4_init 32 = .ok (.newarray .int, 2) := by decide +kernel
theorem dX4_init_34 : decode cX4_init 34 = .ok (.putfield 19, 3) := by decide +kernel
theorem dX4_init_37 : decode cX4_init 37 = .ok (.aload_n 0, 1) := by decide +kernel
theorem dX4_init_38 : decode cX4_init 38 = .ok (.bipush 60, 2) := by decide +kernel
theorem dX4_init_40 : decode cX4_init 40 = .ok (.newarray .int, 2) := by decide +kernel
theorem dX4_init_42 : decode cX4_init 42 = .ok (.putfield 22, 3) := by decide +kernel
theorem dX4_init_45 : decode cX4_init 45 = .ok (.aload_n 0, 1) := by decide +kernel
theorem dX4_init_46 : decode cX4_init 46 = .ok (.bipush (-5), 2) := by decide +kernel
theorem dX4_init_48 : decode cX4_init 48 = .ok (.putfield 25, 3) := by decide +kernel
theorem dX4_init_51 : decode cX4_init 51 = .ok (.aload_n 0, 1) := by decide +kernel
theorem dX4_init_52 : decode cX4_init 52 = .ok (.bipush (-5), 2) := by decide +kernel
theorem dX4_init_54 : decode cX4_init 54 = .ok (.putfield 29, 3) := by decide +kernel
theorem dX4_init_57 : decode cX4_init 57 = .ok (.aload_n 0, 1) := by decide +kernel
theorem dX4_init_58 : decode cX4_init 58 = .ok (.getfield 7, 3) := by decide +kernel
theorem dX4_init_61 : decode cX4_init 61 = .ok (.bipush 10, 2) := by decide +kernel
theorem dX4_init_63 : decode cX4_init 63 = .ok (.iconst 3, 1) := by decide +kernel
theorem dX4_init_64 : decode cX4_init 64 = .ok (.iastore, 1) := by decide +kernel
theorem dX4_init_65 : decode cX4_init 65 = .ok (.aload_n 0, 1) := by decide +kernel
theorem dX4_init_66 : decode cX4_init 66 = .ok (.getfield 7, 3) := by decide +kernel
theorem dX4_init_69 : decode cX4_init 69 = .ok (.bipush 11, 2) := by decide +kernel
theorem dX4_init_71 : decode cX4_init 71 = .ok (.iconst 2, 1) := by decide +kernel
theorem dX4_init_72 : decode cX4_init 72 = .ok (.iastore, 1) := by decide +kernel
theorem dX4_init_73 : decode cX4_init 73 = .ok (.aload_n 0, 1) := by decide +kernel
theorem dX4_init_74 : decode cX4_init 74 = .ok (.getfield 7, 3) := by decide +kernel
theorem dX4_init_77 : decode cX4_init 77 = .ok (.bipush 12, 2) := by decide +kernel
theorem dX4_init_79 : decode cX4_init 79 = .ok (.iconst 5, 1) := by decide +kernel
theorem dX4_init_80 : decode cX4_init 80 = .ok (.iastore, 1) := by decide +kernel
theorem dX4_init_81 : decode cX4_init 81 = .ok (.return_, 1) := by decide +kernel
theorem dX4_in_0 : decode cX4_in 0 = .ok (.iload_n 0, 1) := by decide +kernel
theorem dX4_in_1 : decode cX4_in 1 = .ok (.iload_n 1, 1) := by decide +kernel
theorem dX4_in_2 : decode cX4_in 2 = .ok (.if_icmp .lt 12, 3) := by decide +kernel
theorem dX4_in_5 : decode cX4_in 5 = .ok (.iload_n 0, 1) := by decide +kernel
theorem dX4_in_6 : decode cX4_in 6 = .ok (.iload_n 2, 1) := by decide +kernel
theorem dX4_in_7 : decode cX4_in 7 = .ok (.if_icmp .gt 7, 3) := by decide +kernel
theorem dX4_in_10 : decode cX4_in 10 = .ok (.iconst 1, 1) := by decide +kernel
theorem dX4_in_11 : decode cX4_in 11 = .ok (.goto 4, 3) := by decide +kernel
theorem dX4_in_14 : decode cX4_in 14 = .ok (.iconst 0, 1) := by decide +kernel
theorem dX4_in_15 : decode cX4_in 15 = .ok (.ireturn, 1) := by decide +kernel
set_option maxRecDepth 20000 in
theorem ggX4_isPlace_X4_in : GoodIn wsX4_isPlace wsX4_in := goodIn_r _ [5] (by decide +kernel) (by decide +kernel)
set_option maxRecDepth 20000 in
theorem gX4_isPlace_X4_in : GoodIn wsX4_isPlace (va_wsS RX4 32 yX4_in wsX4_in) := goodIn_app (goodIn_of _ (by decide +kernel)) ggX4_isPlace_X4_in
theorem dX4_isPlace_0 : decode cX4_isPlace 0 = .ok (.iload_n 1, 1) := by decide +kernel
theorem dX4_isPlace_1 : decode cX4_isPlace 1 = .ok (.iconst 0, 1) := by decide +kernel
theorem dX4_isPlace_2 : decode cX4_isPlace 2 = .ok (.aload_n 0, 1) := by decide +kernel
theorem dX4_isPlace_3 : decode cX4_isPlace 3 = .ok (.getfield 7, 3) := by decide +kernel
theorem dX4_isPlace_6 : decode cX4_isPlace 6 = .ok (.iconst 0, 1) := by decide +kernel
theorem dX4_isPlace_7 : decode cX4_isPlace 7 = .ok (.iaload, 1) := by decide +kernel
theorem dX4_isPlace_8 : decode cX4_isPlace 8 = .ok (.iconst 1, 1) := by decide +kernel
theorem dX4_isPlace_9 : decode cX4_isPlace 9 = .ok (.isub, 1) := by decide +kernel
theorem dX4_isPlace_10 : decode cX4_isPlace 10 = .ok (.invokestatic 32, 3) := by decide +kernel
theorem dX4_isPlace_13 : decode cX4_isPlace 13 = .ok (.ireturn, 1) := by decide +kernel
theorem dX4_at_0 : decode cX4_at 0 = .ok (.bipush 13, 2) := by decide +kernel
theorem dX4_at_2 : decode cX4_at 2 = .ok (.bipush 6, 2) := by decide +kernel
theorem dX4_at_4 : decode cX4_at 4 = .ok (.iload_n 0, 1) := by decide +kernel
theorem dX4_at_5 : decode cX4_at 5 = .ok (.imul, 1) := by decide +kernel
theorem dX4_at_6 : decode cX4_at 6 = .ok (.iadd, 1) := by decide +kernel
theorem dX4_at_7 : decode cX4_at 7 = .ok (.iload_n 1, 1) := by decide +kernel
theorem dX4_at_8 : decode cX4_at 8 = .ok (.iadd, 1) := by decide +kernel
theorem dX4_at_9 : decode cX4_at 9 = .ok (.ireturn, 1) := by decide +kernel
set_option maxRecDepth 20000 in
theorem ggX4_of_X4_at : GoodIn wsX4_of wsX4_at := goodIn_r _ [5] (by decide +kernel) (by decide +kernel)
set_option maxRecDepth 20000 in
theorem gX4_of_X4_at : GoodIn wsX4_of (va_wsS RX4 36 yX4_at wsX4_at) := goodIn_app (goodIn_of _ (by decide +kernel)) ggX4_of_X4_at
theorem dX4_of_0 : decode cX4_of 0 = .ok (.aload_n 0, 1) := by decide +kernel
theorem dX4_of_1 : decode cX4_of 1 = .ok (.getfield 7, 3) := by decide +kernel
theorem dX4_of_4 : decode cX4_of 4 = .ok (.iload_n 1, 1) := by decide +kernel
theorem dX4_of_5 : decode cX4_of 5 = .ok (.iload_n 2, 1) := by decide +kernel
theorem dX4_of_6 : decode cX4_of 6 = .ok (.invokestatic 36, 3) := by decide +kernel
theorem dX4_of_9 : decode cX4_of 9 = .ok (.iaload, 1) := by decide +kernel
theorem dX4_of_10 : decode cX4_of 10 = .ok (.ireturn, 1) := by decide +kernel
theorem dX4_looks_0 : decode cX4_looks 0 = .ok (.iconst 0, 1) := by decide +kernel
theorem dX4_looks_1 : decode cX4_looks 1 = .ok (.istore_n 1, 1) := by decide +kernel
theorem dX4_looks_2 : decode cX4_looks 2 = .ok (.iload_n 1, 1) := by decide +kernel
theorem dX4_looks_3 : decode cX4_looks 3 = .ok (.bipush 109, 2) := by decide +kernel
theorem dX4_looks_5 : decode cX4_looks 5 = .ok (.if_icmp .ge 21, 3) := by decide +kernel
theorem dX4_looks_8 : decode cX4_looks 8 = .ok (.aload_n 0, 1) := by decide +kernel
theorem dX4_looks_9 : decode cX4_looks 9 = .ok (.getfield 13, 3) := by decide +kernel
theorem dX4_looks_12 : decode cX4_looks 12 = .ok (.iload_n 1, 1) := by decide +kernel
theorem dX4_looks_13 : decode cX4_looks 13 = .ok (.aload_n 0, 1) := by decide +kernel
theorem dX4_looks_14 : decode cX4_looks 14 = .ok (.getfield 7, 3) := by decide +kernel
theorem dX4_looks_17 : decode cX4_looks 17 = .ok (.iload_n 1, 1) := by decide +kernel
theorem dX4_looks_18 : decode cX4_looks 18 = .ok (.iaload, 1) := by decide +kernel
theorem dX4_looks_19 : decode cX4_looks 19 = .ok (.iastore, 1) := by decide +kernel
theorem dX4_looks_20 : decode cX4_looks 20 = .ok (.iinc 1 1, 3) := by decide +kernel
theorem dX4_looks_23 : decode cX4_looks 23 = .ok (.goto (-21), 3) := by decide +kernel
theorem dX4_looks_26 : decode cX4_looks 26 = .ok (.return_, 1) := by decide +kernel
theorem dX4_records_0 : decode cX4_records 0 = .ok (.aload_n 0, 1) := by decide +kernel
theorem dX4_records_1 : decode cX4_records 1 = .ok (.getfield 40, 3) := by decide +kernel
theorem dX4_records_4 : decode cX4_records 4 = .ok (.iconst 4, 1) := by decide +kernel
theorem dX4_records_5 : decode cX4_records 5 = .ok (.if_icmp .ne 43, 3) := by decide +kernel
theorem dX4_records_8 : decode cX4_records 8 = .ok (.iconst 0, 1) := by decide +kernel
theorem dX4_records_9 : decode cX4_records 9 = .ok (.istore_n 1, 1) := by decide +kernel
theorem dX4_records_10 : decode cX4_records 10 = .ok (.iload_n 1, 1) := by decide +kernel
theorem dX4_records_11 : decode cX4_records 11 = .ok (.sipush 327, 3) := by decide +kernel
theorem dX4_records_14 : decode cX4_records 14 = .ok (.if_icmp .ge 24, 3) := by decide +kernel
theorem dX4_records_17 : decode cX4_records 17 = .ok (.aload_n 0, 1) := by decide +kernel
theorem dX4_records_18 : decode cX4_records 18 = .ok (.getfield 19, 3) := by decide +kernel
theorem dX4_records_21 : decode cX4_records 21 = .ok (.iload_n 1, 1) := by decide +kernel
theorem dX4_records_22 : decode cX4_records 22 = .ok (.aload_n 0, 1) := by decide +kernel
theorem dX4_records_23 : decode cX4_records 23 = .ok (.getfield 19, 3) := by decide +kernel
theorem dX4_records_26 : decode cX4_records 26 = .ok (.bipush 109, 2) := by decide +kernel
theorem dX4_records_28 : decode cX4_records 28 = .ok (.iload_n 1, 1) := by decide +kernel
theorem dX4_records_29 : decode cX4_records 29 = .ok (.iadd, 1) := by decide +kernel
theorem dX4_records_30 : decode cX4_records 30 = .ok (.iaload, 1) := by decide +kernel
theorem dX4_records_31 : decode cX4_records 31 = .ok (.iastore, 1) := by decide +kernel
theorem dX4_records_32 : decode cX4_records 32 = .ok (.iinc 1 1, 3) := by decide +kernel
theorem dX4_records_35 : decode cX4_records 35 = .ok (.goto (-25), 3) := by decide +kernel
theorem dX4_records_38 : decode cX4_records 38 = .ok (.aload_n 0, 1) := by decide +kernel
theorem dX4_records_39 : decode cX4_records 39 = .ok (.dup, 1) := by decide +kernel
theorem dX4_records_40 : decode cX4_records 40 = .ok (.getfield 40, 3) := by decide +kernel
theorem dX4_records_43 : decode cX4_records 43 = .ok (.iconst 1, 1) := by decide +kernel
theorem dX4_records_44 : decode cX4_records 44 = .ok (.isub, 1) := by decide +kernel
theorem dX4_records_45 : decode cX4_records 45 = .ok (.putfield 40, 3) := by decide +kernel
theorem dX4_records_48 : decode cX4_records 48 = .ok (.iconst 0, 1) := by decide +kernel
theorem dX4_records_49 : decode cX4_records 49 = .ok (.istore_n 1, 1) := by decide +kernel
theorem dX4_records_50 : decode cX4_records 50 = .ok (.iload_n 1, 1) := by decide +kernel
theorem dX4_records_51 : decode cX4_records 51 = .ok (.bipush 109, 2) := by decide +kernel
theorem dX4_records_53 : decode cX4_records 53 = .ok (.if_icmp .ge 29, 3) := by decide +kernel
theorem dX4_records_56 : decode cX4_records 56 = .ok (.aload_n 0, 1) := by decide +kernel
theorem dX4_records_57 : decode cX4_records 57 = .ok (.getfield 19, 3) := by decide +kernel
theorem dX4_records_60 : decode cX4_records 60 = .ok (.bipush 109, 2) := by decide +kernel
theorem dX4_records_62 : decode cX4_records 62 = .ok (.aload_n 0, 1) := by decide +kernel
theorem dX4_records_63 : decode cX4_records 63 = .ok (.getfield 40, 3) := by decide +kernel
theorem dX4_records_66 : decode cX4_records 66 = .ok (.imul, 1) := by decide +kernel
theorem dX4_records_67 : decode cX4_records 67 = .ok (.iload_n 1, 1) := by decide +kernel
theorem dX4_records_68 : decode cX4_records 68 = .ok (.iadd, 1) := by decide +kernel
theorem dX4_records_69 : decode cX4_records 69 = .ok (.aload_n 0, 1) := by decide +kernel
theorem dX4_records_70 : decode cX4_records 70 = .ok (.getfield 13, 3) := by decide +kernel
theorem dX4_records_73 : decode cX4_records 73 = .ok (.iload_n 1, 1) := by decide +kernel
theorem dX4_records_74 : decode cX4_records 74 = .ok (.iaload, 1) := by decide +kernel
theorem dX4_records_75 : decode cX4_records 75 = .ok (.iastore, 1) := by decide +kernel
theorem dX4_records_76 : decode cX4_records 76 = .ok (.iinc 1 1, 3) := by decide +kernel
theorem dX4_records_79 : decode cX4_records 79 = .ok (.goto (-29), 3) := by decide +kernel
theorem dX4_records_82 : decode cX4_records 82 = .ok (.aload_n 0, 1) := by decide +kernel
theorem dX4_records_83 : decode cX4_records 83 = .ok (.dup, 1) := by decide +kernel
theorem dX4_records_84 : decode cX4_records 84 = .ok (.getfield 40, 3) := by decide +kernel
theorem dX4_records_87 : decode cX4_records 87 = .ok (.iconst 1, 1) := by decide +kernel
theorem dX4_records_88 : decode cX4_records 88 = .ok (.iadd, 1) := by decide +kernel
theorem dX4_records_89 : decode cX4_records 89 = .ok (.putfield 40, 3) := by decide +kernel
theorem dX4_records_92 : decode cX4_records 92 = .ok (.return_, 1) := by decide +kernel
set_option maxRecDepth 20000 in
theorem ggX4_know_X4_looks : GoodIn wsX4_know wsX4_looks := goodIn_r _ [5, 6, 7, 14, 15, 16, 17, 18, 19, 20, 21, 22, 23, 24, 25, 26, 27, 28, 29] (by decide +kernel) (by decide +kernel)
set_option maxRecDepth 20000 in
theorem gX4_know_X4_looks : GoodIn wsX4_know (wsV RX4 43 RX4 yX4_looks wsX4_looks) := goodIn_app (goodIn_of _ (by decide +kernel)) ggX4_know_X4_looks
set_option maxRecDepth 20000 in
theorem ggX4_know_X4_records : GoodIn wsX4_know wsX4_records := goodIn_r _ [11, 12, 13, 6, 14, 15, 16, 17, 18, 19, 20, 21, 22, 23, 24, 25, 26, 27, 28, 29] (by decide +kernel) (by decide +kernel)
set_option maxRecDepth 20000 in
theorem gX4_know_X4_records : GoodIn wsX4_know (wsV RX4 46 RX4 yX4_records wsX4_records) := goodIn_app (goodIn_of _ (by decide +kernel)) ggX4_know_X4_records
theorem dX4_know_0 : decode cX4_know 0 = .ok (.aload_n 0, 1) := by decide +kernel
theorem dX4_know_1 : decode cX4_know 1 = .ok (.invokevirtual 43, 3) := by decide +kernel
theorem dX4_know_4 : decode cX4_know 4 = .ok (.aload_n 0, 1) := by decide +kernel
theorem dX4_know_5 : decode cX4_know 5 = .ok (.invokevirtual 46, 3) := by decide +kernel
theorem dX4_know_8 : decode cX4_know 8 = .ok (.return_, 1) := by decide +kernel
set_option maxRecDepth 20000 in
theorem ggX4_leastOf_X4_of : GoodIn wsX4_leastOf wsX4_of := goodIn_r _ [5, 6, 7, 8, 4, 9, 10, 11, 12, 13, 14, 15, 16, 17, 18, 19, 20, 21, 22, 23, 24, 25] (by decide +kernel) (by decide +kernel)
set_option maxRecDepth 20000 in
theorem gX4_leastOf_X4_of : GoodIn wsX4_leastOf (wsV RX4 49 RX4 yX4_of wsX4_of) := goodIn_app (goodIn_of _ (by decide +kernel)) ggX4_leastOf_X4_of
theorem dX4_leastOf_0 : decode cX4_leastOf 0 = .ok (.iload_n 1, 1) := by decide +kernel
theorem dX4_leastOf_1 : decode cX4_leastOf 1 = .ok (.aload_n 0, 1) := by decide +kernel
theorem dX4_leastOf_2 : decode cX4_leastOf 2 = .ok (.iload_n 1, 1) := by decide +kernel
theorem dX4_leastOf_3 : decode cX4_leastOf 3 = .ok (.iconst 4, 1) := by decide +kernel
theorem dX4_leastOf_4 : decode cX4_leastOf 4 = .ok (.invokevirtual 49, 3) := by decide +kernel
theorem dX4_leastOf_7 : decode cX4_leastOf 7 = .ok (.iconst 2, 1) := by decide +kernel
theorem dX4_leastOf_8 : decode cX4_leastOf 8 = .ok (.idiv, 1) := by decide +kernel
theorem dX4_leastOf_9 : decode cX4_leastOf 9 = .ok (.isub, 1) := by decide +kernel
theorem dX4_leastOf_10 : decode cX4_leastOf 10 = .ok (.istore_n 2, 1) := by decide +kernel
theorem dX4_leastOf_11 : decode cX4_leastOf 11 = .ok (.iload_n 2, 1) := by decide +kernel
theorem dX4_leastOf_12 : decode cX4_leastOf 12 = .ok (.ifCond .ge 7, 3) := by decide +kernel
theorem dX4_leastOf_15 : decode cX4_leastOf 15 = .ok (.iconst 0, 1) := by decide +kernel
theorem dX4_leastOf_16 : decode cX4_leastOf 16 = .ok (.goto 4, 3) := by decide +kernel
theorem dX4_leastOf_19 : decode cX4_leastOf 19 = .ok (.iload_n 2, 1) := by decide +kernel
theorem dX4_leastOf_20 : decode cX4_leastOf 20 = .ok (.ireturn, 1) := by decide +kernel
set_option maxRecDepth 20000 in
theorem ggX4_greatestOf_X4_of : GoodIn wsX4_greatestOf wsX4_of := goodIn_r _ [6, 1, 7, 8, 5, 9, 10, 11, 12, 13, 14, 15, 16, 17, 18, 19, 20, 21, 22, 23, 24, 25] (by decide +kernel) (by decide +kernel)
set_option maxRecDepth 20000 in
theorem gX4_greatestOf_X4_of : GoodIn wsX4_greatestOf (wsV RX4 49 RX4 yX4_of wsX4_of) := goodIn_app (goodIn_of _ (by decide +kernel)) ggX4_greatestOf_X4_of
theorem dX4_greatestOf_0 : decode cX4_greatestOf 0 = .ok (.iload_n 1, 1) := by decide +kernel
theorem dX4_greatestOf_1 : decode cX4_greatestOf 1 = .ok (.aload_n 0, 1) := by decide +kernel
theorem dX4_greatestOf_2 : decode cX4_greatestOf 2 = .ok (.iload_n 1, 1) := by decide +kernel
theorem dX4_greatestOf_3 : decode cX4_greatestOf 3 = .ok (.iconst 4, 1) := by decide +kernel
theorem dX4_greatestOf_4 : decode cX4_greatestOf 4 = .ok (.invokevirtual 49, 3) := by decide +kernel
theorem dX4_greatestOf_7 : decode cX4_greatestOf 7 = .ok (.iconst 1, 1) := by decide +kernel
theorem dX4_greatestOf_8 : decode cX4_greatestOf 8 = .ok (.isub, 1) := by decide +kernel
theorem dX4_greatestOf_9 : decode cX4_greatestOf 9 = .ok (.iconst 2, 1) := by decide +kernel
theorem dX4_greatestOf_10 : decode cX4_greatestOf 10 = .ok (.idiv, 1) := by decide +kernel
theorem dX4_greatestOf_11 : decode cX4_greatestOf 11 = .ok (.iadd, 1) := by decide +kernel
theorem dX4_greatestOf_12 : decode cX4_greatestOf 12 = .ok (.istore_n 2, 1) := by decide +kernel
theorem dX4_greatestOf_13 : decode cX4_greatestOf 13 = .ok (.iload_n 2, 1) := by decide +kernel
theorem dX4_greatestOf_14 : decode cX4_greatestOf 14 = .ok (.aload_n 0, 1) := by decide +kernel
theorem dX4_greatestOf_15 : decode cX4_greatestOf 15 = .ok (.getfield 7, 3) := by decide +kernel
theorem dX4_greatestOf_18 : decode cX4_greatestOf 18 = .ok (.iconst 0, 1) := by decide +kernel
theorem dX4_greatestOf_19 : decode cX4_greatestOf 19 = .ok (.iaload, 1) := by decide +kernel
theorem dX4_greatestOf_20 : decode cX4_greatestOf 20 = .ok (.if_icmp .ge 7, 3) := by decide +kernel
theorem dX4_greatestOf_23 : decode cX4_greatestOf 23 = .ok (.iload_n 2, 1) := by decide +kernel
theorem dX4_greatestOf_24 : decode cX4_greatestOf 24 = .ok (.goto 11, 3) := by decide +kernel
theorem dX4_greatestOf_27 : decode cX4_greatestOf 27 = .ok (.aload_n 0, 1) := by decide +kernel
theorem dX4_greatestOf_28 : decode cX4_greatestOf 28 = .ok (.getfield 7, 3) := by decide +kernel
theorem dX4_greatestOf_31 : decode cX4_greatestOf 31 = .ok (.iconst 0, 1) := by decide +kernel
theorem dX4_greatestOf_32 : decode cX4_greatestOf 32 = .ok (.iaload, 1) := by decide +kernel
theorem dX4_greatestOf_33 : decode cX4_greatestOf 33 = .ok (.iconst 1, 1) := by decide +kernel
theorem dX4_greatestOf_34 : decode cX4_greatestOf 34 = .ok (.isub, 1) := by decide +kernel
theorem dX4_greatestOf_35 : decode cX4_greatestOf 35 = .ok (.ireturn, 1) := by decide +kernel
set_option maxRecDepth 20000 in
theorem ggX4_reaching_X4_of : GoodIn wsX4_reaching wsX4_of := goodIn_r _ [6, 1, 7, 8, 5, 9, 21, 22, 23, 24, 25, 26, 27, 28, 29, 30, 31, 32, 33, 34, 35, 36] (by decide +kernel) (by decide +kernel)
set_option maxRecDepth 20000 in
theorem gX4_reaching_X4_of : GoodIn wsX4_reaching (wsV RX4 49 RX4 yX4_of wsX4_of) := goodIn_app (goodIn_of _ (by decide +kernel)) ggX4_reaching_X4_of
set_option maxRecDepth 20000 in
theorem ggX4_reaching_X4_leastOf : GoodIn wsX4_reaching wsX4_leastOf := goodIn_r _ [13, 2, 3, 4, 5, 6, 1, 7, 8, 9, 21, 22, 23, 24, 25, 26, 27, 28, 29, 30, 31, 32, 33, 34, 35, 36] (by decide +kernel) (by decide +kernel)
set_option maxRecDepth 20000 in
theorem gX4_reaching_X4_leastOf : GoodIn wsX4_reaching (wsV RX4 52 RX4 yX4_leastOf wsX4_leastOf) := goodIn_app (goodIn_of _ (by decide +kernel)) ggX4_reaching_X4_leastOf
set_option maxRecDepth 20000 in
theorem ggX4_reaching_X4_greatestOf : GoodIn wsX4_reaching wsX4_greatestOf := goodIn_r _ [17, 1, 2, 3, 4, 5, 6, 7, 8, 9, 21, 22, 23, 24, 25, 26, 27, 28, 29, 30, 31, 32, 33, 34, 35, 36] (by decide +kernel) (by decide +kernel)
set_option maxRecDepth 20000 in
theorem gX4_reaching_X4_greatestOf : GoodIn wsX4_reaching (wsV RX4 56 RX4 yX4_greatestOf wsX4_greatestOf) := goodIn_app (goodIn_of _ (by decide +kernel)) ggX4_reaching_X4_greatestOf
set_option maxRecDepth 20000 in
theorem ggX4_reaching_X4_in : GoodIn wsX4_reaching wsX4_in := goodIn_r _ [20] (by decide +kernel) (by decide +kernel)
set_option maxRecDepth 20000 in
theorem gX4_reaching_X4_in : GoodIn wsX4_reaching (va_wsS RX4 32 yX4_in wsX4_in) := goodIn_app (goodIn_of _ (by decide +kernel)) ggX4_reaching_X4_in
theorem dX4_reaching_0 : decode cX4_reaching 0 = .ok (.iconst 0, 1) := by decide +kernel
theorem dX4_reaching_1 : decode cX4_reaching 1 = .ok (.istore_n 2, 1) := by decide +kernel
theorem dX4_reaching_2 : decode cX4_reaching 2 = .ok (.iconst 0, 1) := by decide +kernel
theorem dX4_reaching_3 : decode cX4_reaching 3 = .ok (.istore_n 3, 1) := by decide +kernel
theorem dX4_reaching_4 : decode cX4_reaching 4 = .ok (.iload_n 3, 1) := by decide +kernel
theorem dX4_reaching_5 : decode cX4_reaching 5 = .ok (.aload_n 0, 1) := by decide +kernel
theorem dX4_reaching_6 : decode cX4_reaching 6 = .ok (.getfield 7, 3) := by decide +kernel
theorem dX4_reaching_9 : decode cX4_reaching 9 = .ok (.iconst 0, 1) := by decide +kernel
theorem dX4_reaching_10 : decode cX4_reaching 10 = .ok (.iaload, 1) := by decide +kernel
theorem dX4_reaching_11 : decode cX4_reaching 11 = .ok (.if_icmp .ge 43, 3) := by decide +kernel
theorem dX4_reaching_14 : decode cX4_reaching 14 = .ok (.iload_n 2, 1) := by decide +kernel
theorem dX4_reaching_15 : decode cX4_reaching 15 = .ok (.aload_n 0, 1) := by decide +kernel
theorem dX4_reaching_16 : decode cX4_reaching 16 = .ok (.iload_n 3, 1) := by decide +kernel
theorem dX4_reaching_17 : decode cX4_reaching 17 = .ok (.iconst 4, 1) := by decide +kernel
theorem dX4_reaching_18 : decode cX4_reaching 18 = .ok (.invokevirtual 49, 3) := by decide +kernel
theorem dX4_reaching_21 : decode cX4_reaching 21 = .ok (.ifCond .le 24, 3) := by decide +kernel
theorem dX4_reaching_24 : decode cX4_reaching 24 = .ok (.iload_n 1, 1) := by decide +kernel
theorem dX4_reaching_25 : decode cX4_reaching 25 = .ok (.aload_n 0, 1) := by decide +kernel
theorem dX4_reaching_26 : decode cX4_reaching 26 = .ok (.iload_n 3, 1) := by decide +kernel
theorem dX4_reaching_27 : decode cX4_reaching 27 = .ok (.invokevirtual 52, 3) := by decide +kernel
theorem dX4_reaching_30 : decode cX4_reaching 30 = .ok (.aload_n 0, 1) := by decide +kernel
theorem dX4_reaching_31 : decode cX4_reaching 31 = .ok (.iload_n 3, 1) := by decide +kernel
theorem dX4_reaching_32 : decode cX4_reaching 32 = .ok (.invokevirtual 56, 3) := by decide +kernel
theorem dX4_reaching_35 : decode cX4_reaching 35 = .ok (.invokestatic 32, 3) := by decide +kernel
theorem dX4_reaching_38 : decode cX4_reaching 38 = .ok (.ifCond .eq 7, 3) := by decide +kernel
theorem dX4_reaching_41 : decode cX4_reaching 41 = .ok (.iconst 1, 1) := by decide +kernel
theorem dX4_reaching_42 : decode cX4_reaching 42 = .ok (.goto 4, 3) := by decide +kernel
theorem dX4_reaching_45 : decode cX4_reaching 45 = .ok (.iconst 0, 1) := by decide +kernel
theorem dX4_reaching_46 : decode cX4_reaching 46 = .ok (.iadd, 1) := by decide +kernel
theorem dX4_reaching_47 : decode cX4_reaching 47 = .ok (.istore_n 2, 1) := by decide +kernel
theorem dX4_reaching_48 : decode cX4_reaching 48 = .ok (.iinc 3 1, 3) := by decide +kernel
theorem dX4_reaching_51 : decode cX4_reaching 51 = .ok (.goto (-47), 3) := by decide +kernel
theorem dX4_reaching_54 : decode cX4_reaching 54 = .ok (.iload_n 2, 1) := by decide +kernel
theorem dX4_reaching_55 : decode cX4_reaching 55 = .ok (.ireturn, 1) := by decide +kernel
set_option maxRecDepth 20000 in
theorem ggX4_isCovered_X4_reaching : GoodIn wsX4_isCovered wsX4_reaching := goodIn_r _ [5, 6, 7, 8, 9, 4, 10, 11, 12, 13, 14, 15, 16, 17, 18, 19, 20, 21, 22, 23, 24, 25, 26, 27, 28, 29, 30, 31, 32, 33, 34, 35, 36, 37, 38, 39, 40] (by decide +kernel) (by decide +kernel)
set_option maxRecDepth 20000 in
theorem gX4_isCovered_X4_reaching : GoodIn wsX4_isCovered (wsV RX4 59 RX4 yX4_reaching wsX4_reaching) := goodIn_app (goodIn_of _ (by decide +kernel)) ggX4_isCovered_X4_reaching
theorem dX4_isCovered_0 : decode cX4_isCovered 0 = .ok (.aload_n 0, 1) := by decide +kernel
theorem dX4_isCovered_1 : decode cX4_isCovered 1 = .ok (.iload_n 1, 1) := by decide +kernel
theorem dX4_isCovered_2 : decode cX4_isCovered 2 = .ok (.invokevirtual 59, 3) := by decide +kernel
theorem dX4_isCovered_5 : decode cX4_isCovered 5 = .ok (.ifCond .gt 33, 3) := by decide +kernel
theorem dX4_isCovered_8 : decode cX4_isCovered 8 = .ok (.iload_n 2, 1) := by decide +kernel
theorem dX4_isCovered_9 : decode cX4_isCovered 9 = .ok (.iconst 1, 1) := by decide +kernel
theorem dX4_isCovered_10 : decode cX4_isCovered 10 = .ok (.if_icmp .ne 13, 3) := by decide +kernel
theorem dX4_isCovered_13 : decode cX4_isCovered 13 = .ok (.aload_n 0, 1) := by decide +kernel
theorem dX4_isCovered_14 : decode cX4_isCovered 14 = .ok (.iload_n 1, 1) := by decide +kernel
theorem dX4_isCovered_15 : decode cX4_isCovered 15 = .ok (.iconst 1, 1) := by decide +kernel
theorem dX4_isCovered_16 : decode cX4_isCovered 16 = .ok (.isub, 1) := by decide +kernel
theorem dX4_isCovered_17 : decode cX4_isCovered 17 = .ok (.invokevirtual 59, 3) := by decide +kernel
theorem dX4_isCovered_20 : decode cX4_isCovered 20 = .ok (.ifCond .gt 18, 3) := by decide +kernel
theorem dX4_isCovered_23 : decode cX4_isCovered 23 = .ok (.iload_n 2, 1) := by decide +kernel
theorem dX4_isCovered_24 : decode cX4_isCovered 24 = .ok (.iconst 2, 1) := by decide +kernel
theorem dX4_isCovered_25 : decode cX4_isCovered 25 = .ok (.if_icmp .ne 17, 3) := by decide +kernel
theorem dX4_isCovered_28 : decode cX4_isCovered 28 = .ok (.aload_n 0, 1) := by decide +kernel
theorem dX4_isCovered_29 : decode cX4_isCovered 29 = .ok (.iload_n 1, 1) := by decide +kernel
theorem dX4_isCovered_30 : decode cX4_isCovered 30 = .ok (.iconst 1, 1) := by decide +kernel
theorem dX4_isCovered_31 : decode cX4_isCovered 31 = .ok (.iadd, 1) := by decide +kernel
theorem dX4_isCovered_32 : decode cX4_isCovered 32 = .ok (.invokevirtual 59, 3) := by decide +kernel
theorem dX4_isCovered_35 : decode cX4_isCovered 35 = .ok (.ifCond .le 7, 3) := by decide +kernel
theorem dX4_isCovered_38 : decode cX4_isCovered 38 = .ok (.iconst 1, 1) := by decide +kernel
theorem dX4_isCovered_39 : decode cX4_isCovered 39 = .ok (.goto 4, 3) := by decide +kernel
theorem dX4_isCovered_42 : decode cX4_isCovered 42 = .ok (.iconst 0, 1) := by decide +kernel
theorem dX4_isCovered_43 : decode cX4_isCovered 43 = .ok (.ireturn, 1) := by decide +kernel
set_option maxRecDepth 20000 in
theorem ggX4_running_X4_of : GoodIn wsX4_running wsX4_of := goodIn_r _ [6, 1, 7, 8, 5, 9, 18, 19, 20, 21, 22, 23, 24, 25, 26, 27, 28, 29, 30, 31, 32, 33] (by decide +kernel) (by decide +kernel)
set_option maxRecDepth 20000 in
theorem gX4_running_X4_of : GoodIn wsX4_running (wsV RX4 49 RX4 yX4_of wsX4_of) := goodIn_app (goodIn_of _ (by decide +kernel)) ggX4_running_X4_of
set_option maxRecDepth 20000 in
theorem ggX4_running_X4_leastOf : GoodIn wsX4_running wsX4_leastOf := goodIn_r _ [13, 2, 3, 4, 5, 6, 1, 7, 8, 9, 18, 19, 20, 21, 22, 23, 24, 25, 26, 27, 28, 29, 30, 31, 32, 33] (by decide +kernel) (by decide +kernel)
set_option maxRecDepth 20000 in
theorem gX4_running_X4_leastOf : GoodIn wsX4_running (wsV RX4 52 RX4 yX4_leastOf wsX4_leastOf) := goodIn_app (goodIn_of _ (by decide +kernel)) ggX4_running_X4_leastOf
set_option maxRecDepth 20000 in
theorem ggX4_running_X4_greatestOf : GoodIn wsX4_running wsX4_greatestOf := goodIn_r _ [17, 1, 2, 3, 4, 5, 6, 7, 8, 9, 18, 19, 20, 21, 22, 23, 24, 25, 26, 27, 28, 29, 30, 31, 32, 33] (by decide +kernel) (by decide +kernel)
set_option maxRecDepth 20000 in
theorem gX4_running_X4_greatestOf : GoodIn wsX4_running (wsV RX4 56 RX4 yX4_greatestOf wsX4_greatestOf) := goodIn_app (goodIn_of _ (by decide +kernel)) ggX4_running_X4_greatestOf
theorem dX4_running_0 : decode cX4_running 0 = .ok (.iconst 0, 1) := by decide +kernel
theorem dX4_running_1 : decode cX4_running 1 = .ok (.istore_n 2, 1) := by decide +kernel
theorem dX4_running_2 : decode cX4_running 2 = .ok (.iconst 0, 1) := by decide +kernel
theorem dX4_running_3 : decode cX4_running 3 = .ok (.istore_n 3, 1) := by decide +kernel
theorem dX4_running_4 : decode cX4_running 4 = .ok (.iload_n 3, 1) := by decide +kernel
theorem dX4_running_5 : decode cX4_running 5 = .ok (.aload_n 0, 1) := by decide +kernel
theorem dX4_running_6 : decode cX4_running 6 = .ok (.getfield 7, 3) := by decide +kernel
theorem dX4_running_9 : decode cX4_running 9 = .ok (.iconst 0, 1) := by decide +kernel
theorem dX4_running_10 : decode cX4_running 10 = .ok (.iaload, 1) := by decide +kernel
theorem dX4_running_11 : decode cX4_running 11 = .ok (.if_icmp .ge 48, 3) := by decide +kernel
theorem dX4_running_14 : decode cX4_running 14 = .ok (.iload_n 2, 1) := by decide +kernel
theorem dX4_running_15 : decode cX4_running 15 = .ok (.aload_n 0, 1) := by decide +kernel
theorem dX4_running_16 : decode cX4_running 16 = .ok (.iload_n 3, 1) := by decide +kernel
theorem dX4_running_17 : decode cX4_running 17 = .ok (.iconst 4, 1) := by decide +kernel
theorem dX4_running_18 : decode cX4_running 18 = .ok (.invokevirtual 49, 3) := by decide +kernel
theorem dX4_running_21 : decode cX4_running 21 = .ok (.ifCond .le 29, 3) := by decide +kernel
theorem dX4_running_24 : decode cX4_running 24 = .ok (.iload_n 1, 1) := by decide +kernel
theorem dX4_running_25 : decode cX4_running 25 = .ok (.aload_n 0, 1) := by decide +kernel
theorem dX4_running_26 : decode cX4_running 26 = .ok (.iload_n 3, 1) := by decide +kernel
theorem dX4_running_27 : decode cX4_running 27 = .ok (.invokevirtual 52, 3) := by decide +kernel
theorem dX4_running_30 : decode cX4_running 30 = .ok (.iconst 1, 1) := by decide +kernel
theorem dX4_running_31 : decode cX4_running 31 = .ok (.isub, 1) := by decide +kernel
theorem dX4_running_32 : decode cX4_running 32 = .ok (.if_icmp .eq 14, 3) := by decide +kernel
theorem dX4_running_35 : decode cX4_running 35 = .ok (.iload_n 1, 1) := by decide +kernel
theorem dX4_running_36 : decode cX4_running 36 = .ok (.aload_n 0, 1) := by decide +kernel
theorem dX4_running_37 : decode cX4_running 37 = .ok (.iload_n 3, 1) := by decide +kernel
theorem dX4_running_38 : decode cX4_running 38 = .ok (.invokevirtual 56, 3) := by decide +kernel
theorem dX4_running_41 : decode cX4_running 41 = .ok (.iconst 1, 1) := by decide +kernel
theorem dX4_running_42 : decode cX4_running 42 = .ok (.iadd, 1) := by decide +kernel
theorem dX4_running_43 : decode cX4_running 43 = .ok (.if_icmp .ne 7, 3) := by decide +kernel
theorem dX4_running_46 : decode cX4_running 46 = .ok (.iconst 1, 1) := by decide +kernel
theorem dX4_running_47 : decode cX4_running 47 = .ok (.goto 4, 3) := by decide +kernel
theorem dX4_running_50 : decode cX4_running 50 = .ok (.iconst 0, 1) := by decide +kernel
theorem dX4_running_51 : decode cX4_running 51 = .ok (.iadd, 1) := by decide +kernel
theorem dX4_running_52 : decode cX4_running 52 = .ok (.istore_n 2, 1) := by decide +kernel
theorem dX4_running_53 : decode cX4_running 53 = .ok (.iinc 3 1, 3) := by decide +kernel
theorem dX4_running_56 : decode cX4_running 56 = .ok (.goto (-52), 3) := by decide +kernel
theorem dX4_running_59 : decode cX4_running 59 = .ok (.iload_n 2, 1) := by decide +kernel
theorem dX4_running_60 : decode cX4_running 60 = .ok (.ireturn, 1) := by decide +kernel
set_option maxRecDepth 20000 in
theorem ggX4_wetter_X4_isCovered : GoodIn wsX4_wetter wsX4_isCovered := goodIn_r _ [5, 6, 7, 8, 4, 9, 10, 11, 12, 13, 14, 15, 16, 17, 18, 19, 20, 21, 22, 23, 24, 25, 26, 27, 28, 33, 34, 35, 36, 37, 38, 39, 40, 41, 42, 43, 44, 45, 46, 47, 48] (by decide +kernel) (by decide +kernel)
set_option maxRecDepth 20000 in
theorem gX4_wetter_X4_isCovered : GoodIn wsX4_wetter (wsV RX4 62 RX4 yX4_isCovered wsX4_isCovered) := goodIn_app (goodIn_of _ (by decide +kernel)) ggX4_wetter_X4_isCovered
set_option maxRecDepth 20000 in
theorem ggX4_wetter_X4_running : GoodIn wsX4_wetter wsX4_running := goodIn_r _ [32, 10, 11, 12, 13, 4, 14, 15, 16, 17, 18, 19, 20, 21, 22, 23, 24, 25, 33, 34, 35, 36, 37, 38, 39, 40, 41, 42, 43, 44, 45, 46, 47, 48] (by decide +kernel) (by decide +kernel)
set_option maxRecDepth 20000 in
theorem gX4_wetter_X4_running : GoodIn wsX4_wetter (wsV RX4 66 RX4 yX4_running wsX4_running) := goodIn_app (goodIn_of _ (by decide +kernel)) ggX4_wetter_X4_running
theorem dX4_wetter_0 : decode cX4_wetter 0 = .ok (.aload_n 0, 1) := by decide +kernel
theorem dX4_wetter_1 : decode cX4_wetter 1 = .ok (.iload_n 1, 1) := by decide +kernel
theorem dX4_wetter_2 : decode cX4_wetter 2 = .ok (.iload_n 3, 1) := by decide +kernel
theorem dX4_wetter_3 : decode cX4_wetter 3 = .ok (.invokevirtual 62, 3) := by decide +kernel
theorem dX4_wetter_6 : decode cX4_wetter 6 = .ok (.ifCond .eq 7, 3) := by decide +kernel
theorem dX4_wetter_9 : decode cX4_wetter 9 = .ok (.iconst 0, 1) := by decide +kernel
theorem dX4_wetter_10 : decode cX4_wetter 10 = .ok (.goto 4, 3) := by decide +kernel
theorem dX4_wetter_13 : decode cX4_wetter 13 = .ok (.iload_n 2, 1) := by decide +kernel
theorem dX4_wetter_14 : decode cX4_wetter 14 = .ok (.aload_n 0, 1) := by decide +kernel
theorem dX4_wetter_15 : decode cX4_wetter 15 = .ok (.iload_n 1, 1) := by decide +kernel
theorem dX4_wetter_16 : decode cX4_wetter 16 = .ok (.invokevirtual 66, 3) := by decide +kernel
theorem dX4_wetter_19 : decode cX4_wetter 19 = .ok (.iload_n 2, 1) := by decide +kernel
theorem dX4_wetter_20 : decode cX4_wetter 20 = .ok (.iconst 2, 1) := by decide +kernel
theorem dX4_wetter_21 : decode cX4_wetter 21 = .ok (.idiv, 1) := by decide +kernel
theorem dX4_wetter_22 : decode cX4_wetter 22 = .ok (.imul, 1) := by decide +kernel
theorem dX4_wetter_23 : decode cX4_wetter 23 = .ok (.iadd, 1) := by decide +kernel
theorem dX4_wetter_24 : decode cX4_wetter 24 = .ok (.ireturn, 1) := by decide +kernel
set_option maxRecDepth 20000 in
theorem ggX4_wetBy_X4_of : GoodIn wsX4_wetBy wsX4_of := goodIn_r _ [5, 6, 7, 8, 4, 9, 37, 38, 39, 40, 41, 42, 43, 44, 45, 46, 47, 48, 49, 50, 51, 52] (by decide +kernel) (by decide +kernel)
set_option maxRecDepth 20000 in
theorem gX4_wetBy_X4_of : GoodIn wsX4_wetBy (wsV RX4 49 RX4 yX4_of wsX4_of) := goodIn_app (goodIn_of _ (by decide +kernel)) ggX4_wetBy_X4_of
set_option maxRecDepth 20000 in
theorem ggX4_wetBy_X4_wetter : GoodIn wsX4_wetBy wsX4_wetter := goodIn_r _ [13, 14, 15, 16, 4, 17, 18, 19, 20, 21, 6, 1, 2, 3, 5, 7, 8, 9, 22, 23, 24, 25, 26, 27, 28, 29, 30, 31, 32, 33, 34, 35, 36, 37, 38, 39, 40, 41, 42, 43, 44, 45, 46, 47, 48, 49, 50, 51, 52] (by decide +kernel) (by decide +kernel)
set_option maxRecDepth 20000 in
theorem gX4_wetBy_X4_wetter : GoodIn wsX4_wetBy (wsV RX4 69 RX4 yX4_wetter wsX4_wetter) := goodIn_app (goodIn_of _ (by decide +kernel)) ggX4_wetBy_X4_wetter
theorem dX4_wetBy_0 : decode cX4_wetBy 0 = .ok (.aload_n 0, 1) := by decide +kernel
theorem dX4_wetBy_1 : decode cX4_wetBy 1 = .ok (.iload_n 1, 1) := by decide +kernel
theorem dX4_wetBy_2 : decode cX4_wetBy 2 = .ok (.iconst 1, 1) := by decide +kernel
theorem dX4_wetBy_3 : decode cX4_wetBy 3 = .ok (.invokevirtual 49, 3) := by decide +kernel
theorem dX4_wetBy_6 : decode cX4_wetBy 6 = .ok (.aload_n 0, 1) := by decide +kernel
theorem dX4_wetBy_7 : decode cX4_wetBy 7 = .ok (.iload_n 1, 1) := by decide +kernel
theorem dX4_wetBy_8 : decode cX4_wetBy 8 = .ok (.iload_n 2, 1) := by decide +kernel
theorem dX4_wetBy_9 : decode cX4_wetBy 9 = .ok (.iload_n 3, 1) := by decide +kernel
theorem dX4_wetBy_10 : decode cX4_wetBy 10 = .ok (.invokevirtual 69, 3) := by decide +kernel
theorem dX4_wetBy_13 : decode cX4_wetBy 13 = .ok (.iadd, 1) := by decide +kernel
theorem dX4_wetBy_14 : decode cX4_wetBy 14 = .ok (.istore 4, 2) := by decide +kernel
theorem dX4_wetBy_16 : decode cX4_wetBy 16 = .ok (.iload 4, 2) := by decide +kernel
theorem dX4_wetBy_18 : decode cX4_wetBy 18 = .ok (.sipush 999, 3) := by decide +kernel
theorem dX4_wetBy_21 : decode cX4_wetBy 21 = .ok (.if_icmp .ge 8, 3) := by decide +kernel
theorem dX4_wetBy_24 : decode cX4_wetBy 24 = .ok (.iload 4, 2) := by decide +kernel
theorem dX4_wetBy_26 : decode cX4_wetBy 26 = .ok (.goto 6, 3) := by decide +kernel
theorem dX4_wetBy_29 : decode cX4_wetBy 29 = .ok (.sipush 999, 3) := by decide +kernel
theorem dX4_wetBy_32 : decode cX4_wetBy 32 = .ok (.ireturn, 1) := by decide +kernel
set_option maxRecDepth 20000 in
theorem ggX4_goes_X4_at : GoodIn wsX4_goes wsX4_at := goodIn_r _ [5] (by decide +kernel) (by decide +kernel)
set_option maxRecDepth 20000 in
theorem gX4_goes_X4_at : GoodIn wsX4_goes (va_wsS RX4 36 yX4_at wsX4_at) := goodIn_app (goodIn_of _ (by decide +kernel)) ggX4_goes_X4_at
theorem dX4_goes_0 : decode cX4_goes 0 = .ok (.aload_n 0, 1) := by decide +kernel
theorem dX4_goes_1 : decode cX4_goes 1 = .ok (.getfield 7, 3) := by decide +kernel
theorem dX4_goes_4 : decode cX4_goes 4 = .ok (.iconst 0, 1) := by decide +kernel
theorem dX4_goes_5 : decode cX4_goes 5 = .ok (.dup2, 1) := by decide +kernel
theorem dX4_goes_6 : decode cX4_goes 6 = .ok (.iaload, 1) := by decide +kernel
theorem dX4_goes_7 : decode cX4_goes 7 = .ok (.iconst 1, 1) := by decide +kernel
theorem dX4_goes_8 : decode cX4_goes 8 = .ok (.isub, 1) := by decide +kernel
theorem dX4_goes_9 : decode cX4_goes 9 = .ok (.iastore, 1) := by decide +kernel
theorem dX4_goes_10 : decode cX4_goes 10 = .ok (.iload_n 1, 1) := by decide +kernel
theorem dX4_goes_11 : decode cX4_goes 11 = .ok (.iconst 0, 1) := by decide +kernel
theorem dX4_goes_12 : decode cX4_goes 12 = .ok (.invokestatic 36, 3) := by decide +kernel
theorem dX4_goes_15 : decode cX4_goes 15 = .ok (.istore_n 2, 1) := by decide +kernel
theorem dX4_goes_16 : decode cX4_goes 16 = .ok (.iload_n 2, 1) := by decide +kernel
theorem dX4_goes_17 : decode cX4_goes 17 = .ok (.aload_n 0, 1) := by decide +kernel
theorem dX4_goes_18 : decode cX4_goes 18 = .ok (.getfield 7, 3) := by decide +kernel
theorem dX4_goes_21 : decode cX4_goes 21 = .ok (.iconst 0, 1) := by decide +kernel
theorem dX4_goes_22 : decode cX4_goes 22 = .ok (.iaload, 1) := by decide +kernel
theorem dX4_goes_23 : decode cX4_goes 23 = .ok (.iconst 0, 1) := by decide +kernel
theorem dX4_goes_24 : decode cX4_goes 24 = .ok (.invokestatic 36, 3) := by decide +kernel
theorem dX4_goes_27 : decode cX4_goes 27 = .ok (.if_icmp .ge 24, 3) := by decide +kernel
theorem dX4_goes_30 : decode cX4_goes 30 = .ok (.aload_n 0, 1) := by decide +kernel
theorem dX4_goes_31 : decode cX4_goes 31 = .ok (.getfield 7, 3) := by decide +kernel
theorem dX4_goes_34 : decode cX4_goes 34 = .ok (.iload_n 2, 1) := by decide +kernel
theorem dX4_goes_35 : decode cX4_goes 35 = .ok (.aload_n 0, 1) := by decide +kernel
theorem dX4_goes_36 : decode cX4_goes 36 = .ok (.getfield 7, 3) := by decide +kernel
theorem dX4_goes_39 : decode cX4_goes 39 = .ok (.iload_n 2, 1) := by decide +kernel
theorem dX4_goes_40 : decode cX4_goes 40 = .ok (.bipush 6, 2) := by decide +kernel
theorem dX4_goes_42 : decode cX4_goes 42 = .ok (.iadd, 1) := by decide +kernel
theorem dX4_goes_43 : decode cX4_goes 43 = .ok (.iaload, 1) := by decide +kernel
theorem dX4_goes_44 : decode cX4_goes 44 = .ok (.iastore, 1) := by decide +kernel
theorem dX4_goes_45 : decode cX4_goes 45 = .ok (.iinc 2 1, 3) := by decide +kernel
theorem dX4_goes_48 : decode cX4_goes 48 = .ok (.goto (-32), 3) := by decide +kernel
theorem dX4_goes_51 : decode cX4_goes 51 = .ok (.iconst 0, 1) := by decide +kernel
theorem dX4_goes_52 : decode cX4_goes 52 = .ok (.istore_n 2, 1) := by decide +kernel
theorem dX4_goes_53 : decode cX4_goes 53 = .ok (.iload_n 2, 1) := by decide +kernel
theorem dX4_goes_54 : decode cX4_goes 54 = .ok (.bipush 6, 2) := by decide +kernel
theorem dX4_goes_56 : decode cX4_goes 56 = .ok (.if_icmp .ge 25, 3) := by decide +kernel
theorem dX4_goes_59 : decode cX4_goes 59 = .ok (.aload_n 0, 1) := by decide +kernel
theorem dX4_goes_60 : decode cX4_goes 60 = .ok (.getfield 7, 3) := by decide +kernel
theorem dX4_goes_63 : decode cX4_goes 63 = .ok (.aload_n 0, 1) := by decide +kernel
theorem dX4_goes_64 : decode cX4_goes 64 = .ok (.getfield 7, 3) := by decide +kernel
theorem dX4_goes_67 : decode cX4_goes 67 = .ok (.iconst 0, 1) := by decide +kernel
theorem dX4_goes_68 : decode cX4_goes 68 = .ok (.iaload, 1) := by decide +kernel
theorem dX4_goes_69 : decode cX4_goes 69 = .ok (.iload_n 2, 1) := by decide +kernel
theorem dX4_goes_70 : decode cX4_goes 70 = .ok (.invokestatic 36, 3) := by decide +kernel
theorem dX4_goes_73 : decode cX4_goes 73 = .ok (.iconst 0, 1) := by decide +kernel
theorem dX4_goes_74 : decode cX4_goes 74 = .ok (.iastore, 1) := by decide +kernel
theorem dX4_goes_75 : decode cX4_goes 75 = .ok (.iinc 2 1, 3) := by decide +kernel
theorem dX4_goes_78 : decode cX4_goes 78 = .ok (.goto (-25), 3) := by decide +kernel
theorem dX4_goes_81 : decode cX4_goes 81 = .ok (.return_, 1) := by decide +kernel
set_option maxRecDepth 20000 in
theorem ggX4_gusts_X4_at : GoodIn wsX4_gusts wsX4_at := goodIn_r _ [5] (by decide +kernel) (by decide +kernel)
set_option maxRecDepth 20000 in
theorem gX4_gusts_X4_at : GoodIn wsX4_gusts (va_wsS RX4 36 yX4_at wsX4_at) := goodIn_app (goodIn_of _ (by decide +kernel)) ggX4_gusts_X4_at
set_option maxRecDepth 20000 in
theorem ggX4_gusts_X4_wetBy : GoodIn wsX4_gusts wsX4_wetBy := goodIn_r _ [9, 10, 11, 12, 4, 13, 1, 2, 3, 5, 14, 15, 16, 17, 18, 19, 20, 21, 22, 23, 24, 25, 26, 27, 28, 29, 30, 31, 32, 33, 34, 35, 36, 37, 38, 39, 40, 45, 46, 47, 48, 49, 50, 51, 52, 53, 54, 55, 56, 57, 58, 59, 60] (by decide +kernel) (by decide +kernel)
set_option maxRecDepth 20000 in
theorem gX4_gusts_X4_wetBy : GoodIn wsX4_gusts (wsV RX4 73 RX4 yX4_wetBy wsX4_wetBy) := goodIn_app (goodIn_of _ (by decide +kernel)) ggX4_gusts_X4_wetBy
set_option maxRecDepth 20000 in
theorem ggX4_gusts_X4_of : GoodIn wsX4_gusts wsX4_of := goodIn_r _ [13, 1, 2, 3, 4, 5, 45, 46, 47, 48, 49, 50, 51, 52, 53, 54, 55, 56, 57, 58, 59, 60] (by decide +kernel) (by decide +kernel)
set_option maxRecDepth 20000 in
theorem gX4_gusts_X4_of : GoodIn wsX4_gusts (wsV RX4 49 RX4 yX4_of wsX4_of) := goodIn_app (goodIn_of _ (by decide +kernel)) ggX4_gusts_X4_of
set_option maxRecDepth 20000 in
theorem ggX4_gusts_X4_goes : GoodIn wsX4_gusts wsX4_goes := goodIn_r _ [44, 1, 2, 3, 4, 5, 45, 46, 47, 48, 49, 50, 51, 52, 53, 54, 55, 56, 57, 58, 59, 60] (by decide +kernel) (by decide +kernel)
set_option maxRecDepth 20000 in
theorem gX4_gusts_X4_goes : GoodIn wsX4_gusts (wsV RX4 76 RX4 yX4_goes wsX4_goes) := goodIn_app (goodIn_of _ (by decide +kernel)) ggX4_gusts_X4_goes
theorem dX4_gusts_0 : decode cX4_gusts 0 = .ok (.aload_n 0, 1) := by decide +kernel
theorem dX4_gusts_1 : decode cX4_gusts 1 = .ok (.getfield 7, 3) := by decide +kernel
theorem dX4_gusts_4 : decode cX4_gusts 4 = .ok (.iconst 0, 1) := by decide +kernel
theorem dX4_gusts_5 : decode cX4_gusts 5 = .ok (.iaload, 1) := by decide +kernel
theorem dX4_gusts_6 : decode cX4_gusts 6 = .ok (.ifCond .ne 6, 3) := by decide +kernel
theorem dX4_gusts_9 : decode cX4_gusts 9 = .ok (.bipush (-5), 2) := by decide +kernel
theorem dX4_gusts_11 : decode cX4_gusts 11 = .ok (.ireturn, 1) := by decide +kernel
theorem dX4_gusts_12 : decode cX4_gusts 12 = .ok (.iconst 0, 1) := by decide +kernel
theorem dX4_gusts_13 : decode cX4_gusts 13 = .ok (.istore_n 3, 1) := by decide +kernel
theorem dX4_gusts_14 : decode cX4_gusts 14 = .ok (.iload_n 3, 1) := by decide +kernel
theorem dX4_gusts_15 : decode cX4_gusts 15 = .ok (.aload_n 0, 1) := by decide +kernel
theorem dX4_gusts_16 : decode cX4_gusts 16 = .ok (.getfield 7, 3) := by decide +kernel
theorem dX4_gusts_19 : decode cX4_gusts 19 = .ok (.iconst 0, 1) := by decide +kernel
theorem dX4_gusts_20 : decode cX4_gusts 20 = .ok (.iaload, 1) := by decide +kernel
theorem dX4_gusts_21 : decode cX4_gusts 21 = .ok (.if_icmp .ge 26, 3) := by decide +kernel
theorem dX4_gusts_24 : decode cX4_gusts 24 = .ok (.aload_n 0, 1) := by decide +kernel
theorem dX4_gusts_25 : decode cX4_gusts 25 = .ok (.getfield 7, 3) := by decide +kernel
theorem dX4_gusts_28 : decode cX4_gusts 28 = .ok (.iload_n 3, 1) := by decide +kernel
theorem dX4_gusts_29 : decode cX4_gusts 29 = .ok (.iconst 1, 1) := by decide +kernel
theorem dX4_gusts_30 : decode cX4_gusts 30 = .ok (.invokestatic 36, 3) := by decide +kernel
theorem dX4_gusts_33 : decode cX4_gusts 33 = .ok (.aload_n 0, 1) := by decide +kernel
theorem dX4_gusts_34 : decode cX4_gusts 34 = .ok (.iload_n 3, 1) := by decide +kernel
theorem dX4_gusts_35 : decode cX4_gusts 35 = .ok (.iload_n 1, 1) := by decide +kernel
theorem dX4_gusts_36 : decode cX4_gusts 36 = .ok (.iload_n 2, 1) := by decide +kernel
theorem dX4_gusts_37 : decode cX4_gusts 37 = .ok (.invokevirtual 73, 3) := by decide +kernel
theorem dX4_gusts_40 : decode cX4_gusts 40 = .ok (.iastore, 1) := by decide +kernel
theorem dX4_gusts_41 : decode cX4_gusts 41 = .ok (.iinc 3 1, 3) := by decide +kernel
theorem dX4_gusts_44 : decode cX4_gusts 44 = .ok (.goto (-30), 3) := by decide +kernel
theorem dX4_gusts_47 : decode cX4_gusts 47 = .ok (.iconst 0, 1) := by decide +kernel
theorem dX4_gusts_48 : decode cX4_gusts 48 = .ok (.istore_n 3, 1) := by decide +kernel
theorem dX4_gusts_49 : decode cX4_gusts 49 = .ok (.aload_n 0, 1) := by decide +kernel
theorem dX4_gusts_50 : decode cX4_gusts 50 = .ok (.getfield 7, 3) := by decide +kernel
theorem dX4_gusts_53 : decode cX4_gusts 53 = .ok (.iconst 0, 1) := by decide +kernel
theorem dX4_gusts_54 : decode cX4_gusts 54 = .ok (.iaload, 1) := by decide +kernel
theorem dX4_gusts_55 : decode cX4_gusts 55 = .ok (.iconst 1, 1) := by decide +kernel
theorem dX4_gusts_56 : decode cX4_gusts 56 = .ok (.isub, 1) := by decide +kernel
theorem dX4_gusts_57 : decode cX4_gusts 57 = .ok (.istore 4, 2) := by decide +kernel
theorem dX4_gusts_59 : decode cX4_gusts 59 = .ok (.iload 4, 2) := by decide +kernel
theorem dX4_gusts_61 : decode cX4_gusts 61 = .ok (.ifCond .lt 35, 3) := by decide +kernel
theorem dX4_gusts_64 : decode cX4_gusts 64 = .ok (.aload_n 0, 1) := by decide +kernel
theorem dX4_gusts_65 : decode cX4_gusts 65 = .ok (.iload 4, 2) := by decide +kernel
theorem dX4_gusts_67 : decode cX4_gusts 67 = .ok (.iconst 1, 1) := by decide +kernel
theorem dX4_gusts_68 : decode cX4_gusts 68 = .ok (.invokevirtual 49, 3) := by decide +kernel
theorem dX4_gusts_71 : decode cX4_gusts 71 = .ok (.aload_n 0, 1) := by decide +kernel
theorem dX4_gusts_72 : decode cX4_gusts 72 = .ok (.iload 4, 2) := by decide +kernel
theorem dX4_gusts_74 : decode cX4_gusts 74 = .ok (.iconst 2, 1) := by decide +kernel
theorem dX4_gusts_75 : decode cX4_gusts 75 = .ok (.invokevirtual 49, 3) := by decide +kernel
theorem dX4_gusts_78 : decode cX4_gusts 78 = .ok (.if_icmp .le 12, 3) := by decide +kernel
theorem dX4_gusts_81 : decode cX4_gusts 81 = .ok (.aload_n 0, 1) := by decide +kernel
theorem dX4_gusts_82 : decode cX4_gusts 82 = .ok (.iload 4, 2) := by decide +kernel
theorem dX4_gusts_84 : decode cX4_gusts 84 = .ok (.invokevirtual 76, 3) := by decide +kernel
theorem dX4_gusts_87 : decode cX4_gusts 87 = .ok (.iinc 3 1, 3) := by decide +kernel
theorem dX4_gusts_90 : decode cX4_gusts 90 = .ok (.iinc 4 (-1), 3) := by decide +kernel
theorem dX4_gusts_93 : decode cX4_gusts 93 = .ok (.goto (-34), 3) := by decide +kernel
theorem dX4_gusts_96 : decode cX4_gusts 96 = .ok (.aload_n 0, 1) := by decide +kernel
theorem dX4_gusts_97 : decode cX4_gusts 97 = .ok (.getfield 7, 3) := by decide +kernel
theorem dX4_gusts_100 : decode cX4_gusts 100 = .ok (.iconst 3, 1) := by decide +kernel
theorem dX4_gusts_101 : decode cX4_gusts 101 = .ok (.dup2, 1) := by decide +kernel
theorem dX4_gusts_102 : decode cX4_gusts 102 = .ok (.iaload, 1) := by decide +kernel
theorem dX4_gusts_103 : decode cX4_gusts 103 = .ok (.iload_n 3, 1) := by decide +kernel
theorem dX4_gusts_104 : decode cX4_gusts 104 = .ok (.iadd, 1) := by decide +kernel
theorem dX4_gusts_105 : decode cX4_gusts 105 = .ok (.iastore, 1) := by decide +kernel
theorem dX4_gusts_106 : decode cX4_gusts 106 = .ok (.aload_n 0, 1) := by decide +kernel
theorem dX4_gusts_107 : decode cX4_gusts 107 = .ok (.getfield 7, 3) := by decide +kernel
theorem dX4_gusts_110 : decode cX4_gusts 110 = .ok (.bipush 8, 2) := by decide +kernel
theorem dX4_gusts_112 : decode cX4_gusts 112 = .ok (.dup2, 1) := by decide +kernel
theorem dX4_gusts_113 : decode cX4_gusts 113 = .ok (.iaload, 1) := by decide +kernel
theorem dX4_gusts_114 : decode cX4_gusts 114 = .ok (.iconst 1, 1) := by decide +kernel
theorem dX4_gusts_115 : decode cX4_gusts 115 = .ok (.iadd, 1) := by decide +kernel
theorem dX4_gusts_116 : decode cX4_gusts 116 = .ok (.iastore, 1) := by decide +kernel
theorem dX4_gusts_117 : decode cX4_gusts 117 = .ok (.iload_n 3, 1) := by decide +kernel
theorem dX4_gusts_118 : decode cX4_gusts 118 = .ok (.ireturn, 1) := by decide +kernel
set_option maxRecDepth 20000 in
theorem ggX4_passes_X4_of : GoodIn wsX4_passes wsX4_of := goodIn_r _ [7, 1, 8, 9, 6, 10, 11, 12, 13, 14, 15, 16, 17, 18, 19, 20, 21, 22, 23, 24, 25, 26] (by decide +kernel) (by decide +kernel)
set_option maxRecDepth 20000 in
theorem gX4_passes_X4_of : GoodIn wsX4_passes (wsV RX4 49 RX4 yX4_of wsX4_of) := goodIn_app (goodIn_of _ (by decide +kernel)) ggX4_passes_X4_of
set_option maxRecDepth 20000 in
theorem ggX4_passes_X4_at : GoodIn wsX4_passes wsX4_at := goodIn_r _ [10] (by decide +kernel) (by decide +kernel)
set_option maxRecDepth 20000 in
theorem gX4_passes_X4_at : GoodIn wsX4_passes (va_wsS RX4 36 yX4_at wsX4_at) := goodIn_app (goodIn_of _ (by decide +kernel)) ggX4_passes_X4_at
theorem dX4_passes_0 : decode cX4_passes 0 = .ok (.aload_n 0, 1) := by decide +kernel
theorem dX4_passes_1 : decode cX4_passes 1 = .ok (.getfield 7, 3) := by decide +kernel
theorem dX4_passes_4 : decode cX4_passes 4 = .ok (.bipush 9, 2) := by decide +kernel
theorem dX4_passes_6 : decode cX4_passes 6 = .ok (.iaload, 1) := by decide +kernel
theorem dX4_passes_7 : decode cX4_passes 7 = .ok (.iload_n 1, 1) := by decide +kernel
theorem dX4_passes_8 : decode cX4_passes 8 = .ok (.iadd, 1) := by decide +kernel
theorem dX4_passes_9 : decode cX4_passes 9 = .ok (.ldc 80, 2) := by decide +kernel
theorem dX4_passes_11 : decode cX4_passes 11 = .ok (.if_icmp .le 6, 3) := by decide +kernel
theorem dX4_passes_14 : decode cX4_passes 14 = .ok (.bipush (-3), 2) := by decide +kernel
theorem dX4_passes_16 : decode cX4_passes 16 = .ok (.ireturn, 1) := by decide +kernel
theorem dX4_passes_17 : decode cX4_passes 17 = .ok (.iconst 0, 1) := by decide +kernel
theorem dX4_passes_18 : decode cX4_passes 18 = .ok (.istore_n 2, 1) := by decide +kernel
theorem dX4_passes_19 : decode cX4_passes 19 = .ok (.iconst 0, 1) := by decide +kernel
theorem dX4_passes_20 : decode cX4_passes 20 = .ok (.istore_n 3, 1) := by decide +kernel
theorem dX4_passes_21 : decode cX4_passes 21 = .ok (.iload_n 3, 1) := by decide +kernel
theorem dX4_passes_22 : decode cX4_passes 22 = .ok (.aload_n 0, 1) := by decide +kernel
theorem dX4_passes_23 : decode cX4_passes 23 = .ok (.getfield 7, 3) := by decide +kernel
theorem dX4_passes_26 : decode cX4_passes 26 = .ok (.iconst 0, 1) := by decide +kernel
theorem dX4_passes_27 : decode cX4_passes 27 = .ok (.iaload, 1) := by decide +kernel
theorem dX4_passes_28 : decode cX4_passes 28 = .ok (.if_icmp .ge 61, 3) := by decide +kernel
theorem dX4_passes_31 : decode cX4_passes 31 = .ok (.aload_n 0, 1) := by decide +kernel
theorem dX4_passes_32 : decode cX4_passes 32 = .ok (.iload_n 3, 1) := by decide +kernel
theorem dX4_passes_33 : decode cX4_passes 33 = .ok (.iconst 1, 1) := by decide +kernel
theorem dX4_passes_34 : decode cX4_passes 34 = .ok (.invokevirtual 49, 3) := by decide +kernel
theorem dX4_passes_37 : decode cX4_passes 37 = .ok (.iload_n 1, 1) := by decide +kernel
theorem dX4_passes_38 : decode cX4_passes 38 = .ok (.aload_n 0, 1) := by decide +kernel
theorem dX4_passes_39 : decode cX4_passes 39 = .ok (.getfield 7, 3) := by decide +kernel
theorem dX4_passes_42 : decode cX4_passes 42 = .ok (.bipush 10, 2) := by decide +kernel
theorem dX4_passes_44 : decode cX4_passes 44 = .ok (.iaload, 1) := by decide +kernel
theorem dX4_passes_45 : decode cX4_passes 45 = .ok (.imul, 1) := by decide +kernel
theorem dX4_passes_46 : decode cX4_passes 46 = .ok (.isub, 1) := by decide +kernel
theorem dX4_passes_47 : decode cX4_passes 47 = .ok (.istore 4, 2) := by decide +kernel
theorem dX4_passes_49 : decode cX4_passes 49 = .ok (.aload_n 0, 1) := by decide +kernel
theorem dX4_passes_50 : decode cX4_passes 50 = .ok (.getfield 7, 3) := by decide +kernel
theorem dX4_passes_53 : decode cX4_passes 53 = .ok (.iload_n 3, 1) := by decide +kernel
theorem dX4_passes_54 : decode cX4_passes 54 = .ok (.iconst 1, 1) := by decide +kernel
theorem dX4_passes_55 : decode cX4_passes 55 = .ok (.invokestatic 36, 3) := by decide +kernel
theorem dX4_passes_58 : decode cX4_passes 58 = .ok (.iload 4, 2) := by decide +kernel
theorem dX4_passes_60 : decode cX4_passes 60 = .ok (.ifCond .ge 7, 3) := by decide +kernel
theorem dX4_passes_63 : decode cX4_passes 63 = .ok (.iconst 0, 1) := by decide +kernel
theorem dX4_passes_64 : decode cX4_passes 64 = .ok (.goto 5, 3) := by decide +kernel
theorem dX4_passes_67 : decode cX4_passes 67 = .ok (.iload 4, 2) := by decide +kernel
theorem dX4_passes_69 : decode cX4_passes 69 = .ok (.iastore, 1) := by decide +kernel
theorem dX4_passes_70 : decode cX4_passes 70 = .ok (.iload_n 2, 1) := by decide +kernel
theorem dX4_passes_71 : decode cX4_passes 71 = .ok (.iload 4, 2) := by decide +kernel
theorem dX4_passes_73 : decode cX4_passes 73 = .ok (.ifCond .gt 7, 3) := by decide +kernel
theorem dX4_passes_76 : decode cX4_passes 76 = .ok (.iconst 1, 1) := by decide +kernel
theorem dX4_passes_77 : decode cX4_passes 77 = .ok (.goto 4, 3) := by decide +kernel
theorem dX4_passes_80 : decode cX4_passes 80 = .ok (.iconst 0, 1) := by decide +kernel
theorem dX4_passes_81 : decode cX4_passes 81 = .ok (.iadd, 1) := by decide +kernel
theorem dX4_passes_82 : decode cX4_passes 82 = .ok (.istore_n 2, 1) := by decide +kernel
theorem dX4_passes_83 : decode cX4_passes 83 = .ok (.iinc 3 1, 3) := by decide +kernel
theorem dX4_passes_86 : decode cX4_passes 86 = .ok (.goto (-65), 3) := by decide +kernel
theorem dX4_passes_89 : decode cX4_passes 89 = .ok (.aload_n 0, 1) := by decide +kernel
theorem dX4_passes_90 : decode cX4_passes 90 = .ok (.getfield 7, 3) := by decide +kernel
theorem dX4_passes_93 : decode cX4_passes 93 = .ok (.bipush 9, 2) := by decide +kernel
theorem dX4_passes_95 : decode cX4_passes 95 = .ok (.dup2, 1) := by decide +kernel
theorem dX4_passes_96 : decode cX4_passes 96 = .ok (.iaload, 1) := by decide +kernel
theorem dX4_passes_97 : decode cX4_passes 97 = .ok (.iload_n 1, 1) := by decide +kernel
theorem dX4_passes_98 : decode cX4_passes 98 = .ok (.iadd, 1) := by decide +kernel
theorem dX4_passes_99 : decode cX4_passes 99 = .ok (.iastore, 1) := by decide +kernel
theorem dX4_passes_100 : decode cX4_passes 100 = .ok (.iload_n 2, 1) := by decide +kernel
theorem dX4_passes_101 : decode cX4_passes 101 = .ok (.ireturn, 1) := by decide +kernel
theorem dX4_served_0 : decode cX4_served 0 = .ok (.aload_n 0, 1) := by decide +kernel
theorem dX4_served_1 : decode cX4_served 1 = .ok (.getfield 7, 3) := by decide +kernel
theorem dX4_served_4 : decode cX4_served 4 = .ok (.bipush 11, 2) := by decide +kernel
theorem dX4_served_6 : decode cX4_served 6 = .ok (.iaload, 1) := by decide +kernel
theorem dX4_served_7 : decode cX4_served 7 = .ok (.aload_n 0, 1) := by decide +kernel
theorem dX4_served_8 : decode cX4_served 8 = .ok (.getfield 7, 3) := by decide +kernel
theorem dX4_served_11 : decode cX4_served 11 = .ok (.iconst 0, 1) := by decide +kernel
theorem dX4_served_12 : decode cX4_served 12 = .ok (.iaload, 1) := by decide +kernel
theorem dX4_served_13 : decode cX4_served 13 = .ok (.if_icmp .ge 13, 3) := by decide +kernel
theorem dX4_served_16 : decode cX4_served 16 = .ok (.aload_n 0, 1) := by decide +kernel
theorem dX4_served_17 : decode cX4_served 17 = .ok (.getfield 7, 3) := by decide +kernel
theorem dX4_served_20 : decode cX4_served 20 = .ok (.bipush 11, 2) := by decide +kernel
theorem dX4_served_22 : decode cX4_served 22 = .ok (.iaload, 1) := by decide +kernel
theorem dX4_served_23 : decode cX4_served 23 = .ok (.goto 9, 3) := by decide +kernel
theorem dX4_served_26 : decode cX4_served 26 = .ok (.aload_n 0, 1) := by decide +kernel
theorem dX4_served_27 : decode cX4_served 27 = .ok (.getfield 7, 3) := by decide +kernel
theorem dX4_served_30 : decode cX4_served 30 = .ok (.iconst 0, 1) := by decide +kernel
theorem dX4_served_31 : decode cX4_served 31 = .ok (.iaload, 1) := by decide +kernel
theorem dX4_served_32 : decode cX4_served 32 = .ok (.ireturn, 1) := by decide +kernel
set_option maxRecDepth 20000 in
theorem ggX4_driest_X4_served : GoodIn wsX4_driest wsX4_served := goodIn_r _ [5, 6, 14, 15, 16, 17, 18, 19, 20, 21, 22, 23, 24, 25, 26, 27, 28, 29] (by decide +kernel) (by decide +kernel)
set_option maxRecDepth 20000 in
theorem gX4_driest_X4_served : GoodIn wsX4_driest (wsV RX4 81 RX4 yX4_served wsX4_served) := goodIn_app (goodIn_of _ (by decide +kernel)) ggX4_driest_X4_served
set_option maxRecDepth 20000 in
theorem ggX4_driest_X4_of : GoodIn wsX4_driest wsX4_of := goodIn_r _ [10, 6, 11, 12, 4, 13, 14, 15, 16, 17, 18, 19, 20, 21, 22, 23, 24, 25, 26, 27, 28, 29] (by decide +kernel) (by decide +kernel)
set_option maxRecDepth 20000 in
theorem gX4_driest_X4_of : GoodIn wsX4_driest (wsV RX4 49 RX4 yX4_of wsX4_of) := goodIn_app (goodIn_of _ (by decide +kernel)) ggX4_driest_X4_of
theorem dX4_driest_0 : decode cX4_driest 0 = .ok (.iconst 0, 1) := by decide +kernel
theorem dX4_driest_1 : decode cX4_driest 1 = .ok (.istore_n 1, 1) := by decide +kernel
theorem dX4_driest_2 : decode cX4_driest 2 = .ok (.iconst 1, 1) := by decide +kernel
theorem dX4_driest_3 : decode cX4_driest 3 = .ok (.istore_n 2, 1) := by decide +kernel
theorem dX4_driest_4 : decode cX4_driest 4 = .ok (.iload_n 2, 1) := by decide +kernel
theorem dX4_driest_5 : decode cX4_driest 5 = .ok (.aload_n 0, 1) := by decide +kernel
theorem dX4_driest_6 : decode cX4_driest 6 = .ok (.invokevirtual 81, 3) := by decide +kernel
theorem dX4_driest_9 : decode cX4_driest 9 = .ok (.if_icmp .ge 30, 3) := by decide +kernel
theorem dX4_driest_12 : decode cX4_driest 12 = .ok (.aload_n 0, 1) := by decide +kernel
theorem dX4_driest_13 : decode cX4_driest 13 = .ok (.iload_n 2, 1) := by decide +kernel
theorem dX4_driest_14 : decode cX4_driest 14 = .ok (.iconst 1, 1) := by decide +kernel
theorem dX4_driest_15 : decode cX4_driest 15 = .ok (.invokevirtual 49, 3) := by decide +kernel
theorem dX4_driest_18 : decode cX4_driest 18 = .ok (.aload_n 0, 1) := by decide +kernel
theorem dX4_driest_19 : decode cX4_driest 19 = .ok (.iload_n 1, 1) := by decide +kernel
theorem dX4_driest_20 : decode cX4_driest 20 = .ok (.iconst 1, 1) := by decide +kernel
theorem dX4_driest_21 : decode cX4_driest 21 = .ok (.invokevirtual 49, 3) := by decide +kernel
theorem dX4_driest_24 : decode cX4_driest 24 = .ok (.if_icmp .ge 7, 3) := by decide +kernel
theorem dX4_driest_27 : decode cX4_driest 27 = .ok (.iload_n 2, 1) := by decide +kernel
theorem dX4_driest_28 : decode cX4_driest 28 = .ok (.goto 4, 3) := by decide +kernel
theorem dX4_driest_31 : decode cX4_driest 31 = .ok (.iload_n 1, 1) := by decide +kernel
theorem dX4_driest_32 : decode cX4_driest 32 = .ok (.istore_n 1, 1) := by decide +kernel
theorem dX4_driest_33 : decode cX4_driest 33 = .ok (.iinc 2 1, 3) := by decide +kernel
theorem dX4_driest_36 : decode cX4_driest 36 = .ok (.goto (-32), 3) := by decide +kernel
theorem dX4_driest_39 : decode cX4_driest 39 = .ok (.iload_n 1, 1) := by decide +kernel
theorem dX4_driest_40 : decode cX4_driest 40 = .ok (.ireturn, 1) := by decide +kernel
set_option maxRecDepth 20000 in
theorem ggX4_coinsPaid_X4_served : GoodIn wsX4_coinsPaid wsX4_served := goodIn_r _ [6, 1, 18, 19, 20, 21, 22, 23, 24, 25, 26, 27, 28, 29, 30, 31, 32, 33] (by decide +kernel) (by decide +kernel)
set_option maxRecDepth 20000 in
theorem gX4_coinsPaid_X4_served : GoodIn wsX4_coinsPaid (wsV RX4 81 RX4 yX4_served wsX4_served) := goodIn_app (goodIn_of _ (by decide +kernel)) ggX4_coinsPaid_X4_served
set_option maxRecDepth 20000 in
theorem ggX4_coinsPaid_X4_driest : GoodIn wsX4_coinsPaid wsX4_driest := goodIn_r _ [10, 2, 3, 4, 5, 6, 1, 11, 12, 13, 14, 15, 16, 17, 18, 19, 20, 21, 22, 23, 24, 25, 26, 27, 28, 29, 30, 31, 32, 33] (by decide +kernel) (by decide +kernel)
set_option maxRecDepth 20000 in
theorem gX4_coinsPaid_X4_driest : GoodIn wsX4_coinsPaid (wsV RX4 85 RX4 yX4_driest wsX4_driest) := goodIn_app (goodIn_of _ (by decide +kernel)) ggX4_coinsPaid_X4_driest
set_option maxRecDepth 20000 in
theorem ggX4_coinsPaid_X4_of : GoodIn wsX4_coinsPaid wsX4_of := goodIn_r _ [14, 1, 15, 16, 5, 17, 18, 19, 20, 21, 22, 23, 24, 25, 26, 27, 28, 29, 30, 31, 32, 33] (by decide +kernel) (by decide +kernel)
set_option maxRecDepth 20000 in
theorem gX4_coinsPaid_X4_of : GoodIn wsX4_coinsPaid (wsV RX4 49 RX4 yX4_of wsX4_of) := goodIn_app (goodIn_of _ (by decide +kernel)) ggX4_coinsPaid_X4_of
theorem dX4_coinsPaid_0 : decode cX4_coinsPaid 0 = .ok (.aload_n 0, 1) := by decide +kernel
theorem dX4_coinsPaid_1 : decode cX4_coinsPaid 1 = .ok (.invokevirtual 81, 3) := by decide +kernel
theorem dX4_coinsPaid_4 : decode cX4_coinsPaid 4 = .ok (.aload_n 0, 1) := by decide +kernel
theorem dX4_coinsPaid_5 : decode cX4_coinsPaid 5 = .ok (.getfield 7, 3) := by decide +kernel
theorem dX4_coinsPaid_8 : decode cX4_coinsPaid 8 = .ok (.bipush 12, 2) := by decide +kernel
theorem dX4_coinsPaid_10 : decode cX4_coinsPaid 10 = .ok (.iaload, 1) := by decide +kernel
theorem dX4_coinsPaid_11 : decode cX4_coinsPaid 11 = .ok (.imul, 1) := by decide +kernel
theorem dX4_coinsPaid_12 : decode cX4_coinsPaid 12 = .ok (.istore_n 1, 1) := by decide +kernel
theorem dX4_coinsPaid_13 : decode cX4_coinsPaid 13 = .ok (.iload_n 1, 1) := by decide +kernel
theorem dX4_coinsPaid_14 : decode cX4_coinsPaid 14 = .ok (.aload_n 0, 1) := by decide +kernel
theorem dX4_coinsPaid_15 : decode cX4_coinsPaid 15 = .ok (.aload_n 0, 1) := by decide +kernel
theorem dX4_coinsPaid_16 : decode cX4_coinsPaid 16 = .ok (.invokevirtual 85, 3) := by decide +kernel
theorem dX4_coinsPaid_19 : decode cX4_coinsPaid 19 = .ok (.iconst 3, 1) := by decide +kernel
theorem dX4_coinsPaid_20 : decode cX4_coinsPaid 20 = .ok (.invokevirtual 49, 3) := by decide +kernel
theorem dX4_coinsPaid_23 : decode cX4_coinsPaid 23 = .ok (.if_icmp .ge 7, 3) := by decide +kernel
theorem dX4_coinsPaid_26 : decode cX4_coinsPaid 26 = .ok (.iload_n 1, 1) := by decide +kernel
theorem dX4_coinsPaid_27 : decode cX4_coinsPaid 27 = .ok (.goto 12, 3) := by decide +kernel
theorem dX4_coinsPaid_30 : decode cX4_coinsPaid 30 = .ok (.aload_n 0, 1) := by decide +kernel
theorem dX4_coinsPaid_31 : decode cX4_coinsPaid 31 = .ok (.aload_n 0, 1) := by decide +kernel
theorem dX4_coinsPaid_32 : decode cX4_coinsPaid 32 = .ok (.invokevirtual 85, 3) := by decide +kernel
theorem dX4_coinsPaid_35 : decode cX4_coinsPaid 35 = .ok (.iconst 3, 1) := by decide +kernel
theorem dX4_coinsPaid_36 : decode cX4_coinsPaid 36 = .ok (.invokevirtual 49, 3) := by decide +kernel
theorem dX4_coinsPaid_39 : decode cX4_coinsPaid 39 = .ok (.ireturn, 1) := by decide +kernel
set_option maxRecDepth 20000 in
theorem ggX4_serves_X4_served : GoodIn wsX4_serves wsX4_served := goodIn_r _ [6, 1, 26, 27, 28, 29, 30, 31, 32, 33, 34, 35, 36, 37, 38, 39, 40, 41] (by decide +kernel) (by decide +kernel)
set_option maxRecDepth 20000 in
theorem gX4_serves_X4_served : GoodIn wsX4_serves (wsV RX4 81 RX4 yX4_served wsX4_served) := goodIn_app (goodIn_of _ (by decide +kernel)) ggX4_serves_X4_served
set_option maxRecDepth 20000 in
theorem ggX4_serves_X4_coinsPaid : GoodIn wsX4_serves wsX4_coinsPaid := goodIn_r _ [10, 1, 2, 3, 4, 5, 6, 11, 12, 13, 14, 15, 16, 17, 18, 19, 20, 21, 26, 27, 28, 29, 30, 31, 32, 33, 34, 35, 36, 37, 38, 39, 40, 41] (by decide +kernel) (by decide +kernel)
set_option maxRecDepth 20000 in
theorem gX4_serves_X4_coinsPaid : GoodIn wsX4_serves (wsV RX4 88 RX4 yX4_coinsPaid wsX4_coinsPaid) := goodIn_app (goodIn_of _ (by decide +kernel)) ggX4_serves_X4_coinsPaid
set_option maxRecDepth 20000 in
theorem ggX4_serves_X4_goes : GoodIn wsX4_serves wsX4_goes := goodIn_r _ [25, 1, 19, 20, 5, 21, 26, 27, 28, 29, 30, 31, 32, 33, 34, 35, 36, 37, 38, 39, 40, 41] (by decide +kernel) (by decide +kernel)
set_option maxRecDepth 20000 in
theorem gX4_serves_X4_goes : GoodIn wsX4_serves (wsV RX4 76 RX4 yX4_goes wsX4_goes) := goodIn_app (goodIn_of _ (by decide +kernel)) ggX4_serves_X4_goes
theorem dX4_serves_0 : decode cX4_serves 0 = .ok (.aload_n 0, 1) := by decide +kernel
theorem dX4_serves_1 : decode cX4_serves 1 = .ok (.getfield 7, 3) := by decide +kernel
theorem dX4_serves_4 : decode cX4_serves 4 = .ok (.iconst 0, 1) := by decide +kernel
theorem dX4_serves_5 : decode cX4_serves 5 = .ok (.iaload, 1) := by decide +kernel
theorem dX4_serves_6 : decode cX4_serves 6 = .ok (.ifCond .ne 6, 3) := by decide +kernel
theorem dX4_serves_9 : decode cX4_serves 9 = .ok (.bipush (-5), 2) := by decide +kernel
theorem dX4_serves_11 : decode cX4_serves 11 = .ok (.ireturn, 1) := by decide +kernel
theorem dX4_serves_12 : decode cX4_serves 12 = .ok (.aload_n 0, 1) := by decide +kernel
theorem dX4_serves_13 : decode cX4_serves 13 = .ok (.invokevirtual 81, 3) := by decide +kernel
theorem dX4_serves_16 : decode cX4_serves 16 = .ok (.istore_n 1, 1) := by decide +kernel
theorem dX4_serves_17 : decode cX4_serves 17 = .ok (.aload_n 0, 1) := by decide +kernel
theorem dX4_serves_18 : decode cX4_serves 18 = .ok (.invokevirtual 88, 3) := by decide +kernel
theorem dX4_serves_21 : decode cX4_serves 21 = .ok (.istore_n 2, 1) := by decide +kernel
theorem dX4_serves_22 : decode cX4_serves 22 = .ok (.aload_n 0, 1) := by decide +kernel
theorem dX4_serves_23 : decode cX4_serves 23 = .ok (.getfield 7, 3) := by decide +kernel
theorem dX4_serves_26 : decode cX4_serves 26 = .ok (.iconst 4, 1) := by decide +kernel
theorem dX4_serves_27 : decode cX4_serves 27 = .ok (.dup2, 1) := by decide +kernel
theorem dX4_serves_28 : decode cX4_serves 28 = .ok (.iaload, 1) := by decide +kernel
theorem dX4_serves_29 : decode cX4_serves 29 = .ok (.iload_n 1, 1) := by decide +kernel
theorem dX4_serves_30 : decode cX4_serves 30 = .ok (.iadd, 1) := by decide +kernel
theorem dX4_serves_31 : decode cX4_serves 31 = .ok (.iastore, 1) := by decide +kernel
theorem dX4_serves_32 : decode cX4_serves 32 = .ok (.aload_n 0, 1) := by decide +kernel
theorem dX4_serves_33 : decode cX4_serves 33 = .ok (.getfield 7, 3) := by decide +kernel
theorem dX4_serves_36 : decode cX4_serves 36 = .ok (.iconst 5, 1) := by decide +kernel
theorem dX4_serves_37 : decode cX4_serves 37 = .ok (.dup2, 1) := by decide +kernel
theorem dX4_serves_38 : decode cX4_serves 38 = .ok (.iaload, 1) := by decide +kernel
theorem dX4_serves_39 : decode cX4_serves 39 = .ok (.iload_n 2, 1) := by decide +kernel
theorem dX4_serves_40 : decode cX4_serves 40 = .ok (.iadd, 1) := by decide +kernel
theorem dX4_serves_41 : decode cX4_serves 41 = .ok (.iastore, 1) := by decide +kernel
theorem dX4_serves_42 : decode cX4_serves 42 = .ok (.aload_n 0, 1) := by decide +kernel
theorem dX4_serves_43 : decode cX4_serves 43 = .ok (.getfield 7, 3) := by decide +kernel
theorem dX4_serves_46 : decode cX4_serves 46 = .ok (.bipush 6, 2) := by decide +kernel
theorem dX4_serves_48 : decode cX4_serves 48 = .ok (.dup2, 1) := by decide +kernel
theorem dX4_serves_49 : decode cX4_serves 49 = .ok (.iaload, 1) := by decide +kernel
theorem dX4_serves_50 : decode cX4_serves 50 = .ok (.iload_n 1, 1) := by decide +kernel
theorem dX4_serves_51 : decode cX4_serves 51 = .ok (.aload_n 0, 1) := by decide +kernel
theorem dX4_serves_52 : decode cX4_serves 52 = .ok (.getfield 7, 3) := by decide +kernel
theorem dX4_serves_55 : decode cX4_serves 55 = .ok (.bipush 12, 2) := by decide +kernel
theorem dX4_serves_57 : decode cX4_serves 57 = .ok (.iaload, 1) := by decide +kernel
theorem dX4_serves_58 : decode cX4_serves 58 = .ok (.imul, 1) := by decide +kernel
theorem dX4_serves_59 : decode cX4_serves 59 = .ok (.iload_n 2, 1) := by decide +kernel
theorem dX4_serves_60 : decode cX4_serves 60 = .ok (.isub, 1) := by decide +kernel
theorem dX4_serves_61 : decode cX4_serves 61 = .ok (.iadd, 1) := by decide +kernel
theorem dX4_serves_62 : decode cX4_serves 62 = .ok (.iastore, 1) := by decide +kernel
theorem dX4_serves_63 : decode cX4_serves 63 = .ok (.iconst 0, 1) := by decide +kernel
theorem dX4_serves_64 : decode cX4_serves 64 = .ok (.istore_n 3, 1) := by decide +kernel
theorem dX4_serves_65 : decode cX4_serves 65 = .ok (.iload_n 3, 1) := by decide +kernel
theorem dX4_serves_66 : decode cX4_serves 66 = .ok (.iload_n 1, 1) := by decide +kernel
theorem dX4_serves_67 : decode cX4_serves 67 = .ok (.if_icmp .ge 14, 3) := by decide +kernel
theorem dX4_serves_70 : decode cX4_serves 70 = .ok (.aload_n 0, 1) := by decide +kernel
theorem dX4_serves_71 : decode cX4_serves 71 = .ok (.iconst 0, 1) := by decide +kernel
theorem dX4_serves_72 : decode cX4_serves 72 = .ok (.invokevirtual 76, 3) := by decide +kernel
theorem dX4_serves_75 : decode cX4_serves 75 = .ok (.iinc 3 1, 3) := by decide +kernel
theorem dX4_serves_78 : decode cX4_serves 78 = .ok (.goto (-13), 3) := by decide +kernel
theorem dX4_serves_81 : decode cX4_serves 81 = .ok (.iload_n 2, 1) := by decide +kernel
theorem dX4_serves_82 : decode cX4_serves 82 = .ok (.ireturn, 1) := by decide +kernel
set_option maxRecDepth 20000 in
theorem ggX4_arePair_X4_isPlace : GoodIn wsX4_arePair wsX4_isPlace := goodIn_r _ [5, 6, 7, 8, 4, 9, 10, 11, 12, 13, 14, 15, 16, 17, 18, 19, 20, 21, 22, 23, 24, 25] (by decide +kernel) (by decide +kernel)
set_option maxRecDepth 20000 in
theorem gX4_arePair_X4_isPlace : GoodIn wsX4_arePair (wsV RX4 91 RX4 yX4_isPlace wsX4_isPlace) := goodIn_app (goodIn_of _ (by decide +kernel)) ggX4_arePair_X4_isPlace
theorem dX4_arePair_0 : decode cX4_arePair 0 = .ok (.aload_n 0, 1) := by decide +kernel
theorem dX4_arePair_1 : decode cX4_arePair 1 = .ok (.iload_n 1, 1) := by decide +kernel
theorem dX4_arePair_2 : decode cX4_arePair 2 = .ok (.invokevirtual 91, 3) := by decide +kernel
theorem dX4_arePair_5 : decode cX4_arePair 5 = .ok (.ifCond .eq 17, 3) := by decide +kernel
theorem dX4_arePair_8 : decode cX4_arePair 8 = .ok (.aload_n 0, 1) := by decide +kernel
theorem dX4_arePair_9 : decode cX4_arePair 9 = .ok (.iload_n 1, 1) := by decide +kernel
theorem dX4_arePair_10 : decode cX4_arePair 10 = .ok (.iconst 1, 1) := by decide +kernel
theorem dX4_arePair_11 : decode cX4_arePair 11 = .ok (.iadd, 1) := by decide +kernel
theorem dX4_arePair_12 : decode cX4_arePair 12 = .ok (.invokevirtual 91, 3) := by decide +kernel
theorem dX4_arePair_15 : decode cX4_arePair 15 = .ok (.ifCond .eq 7, 3) := by decide +kernel
theorem dX4_arePair_18 : decode cX4_arePair 18 = .ok (.iconst 1, 1) := by decide +kernel
theorem dX4_arePair_19 : decode cX4_arePair 19 = .ok (.goto 4, 3) := by decide +kernel
theorem dX4_arePair_22 : decode cX4_arePair 22 = .ok (.iconst 0, 1) := by decide +kernel
theorem dX4_arePair_23 : decode cX4_arePair 23 = .ok (.ireturn, 1) := by decide +kernel
set_option maxRecDepth 20000 in
theorem ggX4_why_X4_of : GoodIn wsX4_why wsX4_of := goodIn_r _ [5, 6, 7, 8, 4, 9, 10, 11, 12, 13, 14, 15, 16, 17, 18, 19, 20, 21, 22, 23, 24, 25] (by decide +kernel) (by decide +kernel)
set_option maxRecDepth 20000 in
theorem gX4_why_X4_of : GoodIn wsX4_why (wsV RX4 49 RX4 yX4_of wsX4_of) := goodIn_app (goodIn_of _ (by decide +kernel)) ggX4_why_X4_of
theorem dX4_why_0 : decode cX4_why 0 = .ok (.aload_n 0, 1) := by decide +kernel
theorem dX4_why_1 : decode cX4_why 1 = .ok (.iload_n 1, 1) := by decide +kernel
theorem dX4_why_2 : decode cX4_why 2 = .ok (.iconst 4, 1) := by decide +kernel
theorem dX4_why_3 : decode cX4_why 3 = .ok (.invokevirtual 49, 3) := by decide +kernel
theorem dX4_why_6 : decode cX4_why 6 = .ok (.istore_n 2, 1) := by decide +kernel
theorem dX4_why_7 : decode cX4_why 7 = .ok (.aload_n 0, 1) := by decide +kernel
theorem dX4_why_8 : decode cX4_why 8 = .ok (.iload_n 1, 1) := by decide +kernel
theorem dX4_why_9 : decode cX4_why 9 = .ok (.iconst 1, 1) := by decide +kernel
theorem dX4_why_10 : decode cX4_why 10 = .ok (.iadd, 1) := by decide +kernel
theorem dX4_why_11 : decode cX4_why 11 = .ok (.iconst 4, 1) := by decide +kernel
theorem dX4_why_12 : decode cX4_why 12 = .ok (.invokevirtual 49, 3) := by decide +kernel
theorem dX4_why_15 : decode cX4_why 15 = .ok (.istore_n 3, 1) := by decide +kernel
theorem dX4_why_16 : decode cX4_why 16 = .ok (.iload_n 2, 1) := by decide +kernel
theorem dX4_why_17 : decode cX4_why 17 = .ok (.iload_n 3, 1) := by decide +kernel
theorem dX4_why_18 : decode cX4_why 18 = .ok (.if_icmp .le 21, 3) := by decide +kernel
theorem dX4_why_21 : decode cX4_why 21 = .ok (.aload_n 0, 1) := by decide +kernel
theorem dX4_why_22 : decode cX4_why 22 = .ok (.iload_n 1, 1) := by decide +kernel
theorem dX4_why_23 : decode cX4_why 23 = .ok (.iconst 1, 1) := by decide +kernel
theorem dX4_why_24 : decode cX4_why 24 = .ok (.invokevirtual 49, 3) := by decide +kernel
theorem dX4_why_27 : decode cX4_why 27 = .ok (.aload_n 0, 1) := by decide +kernel
theorem dX4_why_28 : decode cX4_why 28 = .ok (.iload_n 1, 1) := by decide +kernel
theorem dX4_why_29 : decode cX4_why 29 = .ok (.iconst 1, 1) := by decide +kernel
theorem dX4_why_30 : decode cX4_why 30 = .ok (.iadd, 1) := by decide +kernel
theorem dX4_why_31 : decode cX4_why 31 = .ok (.iconst 1, 1) := by decide +kernel
theorem dX4_why_32 : decode cX4_why 32 = .ok (.invokevirtual 49, 3) := by decide +kernel
theorem dX4_why_35 : decode cX4_why 35 = .ok (.isub, 1) := by decide +kernel
theorem dX4_why_36 : decode cX4_why 36 = .ok (.goto 18, 3) := by decide +kernel
theorem dX4_why_39 : decode cX4_why 39 = .ok (.aload_n 0, 1) := by decide +kernel
theorem dX4_why_40 : decode cX4_why 40 = .ok (.iload_n 1, 1) := by decide +kernel
theorem dX4_why_41 : decode cX4_why 41 = .ok (.iconst 1, 1) := by decide +kernel
theorem dX4_why_42 : decode cX4_why 42 = .ok (.iadd, 1) := by decide +kernel
theorem dX4_why_43 : decode cX4_why 43 = .ok (.iconst 1, 1) := by decide +kernel
theorem dX4_why_44 : decode cX4_why 44 = .ok (.invokevirtual 49, 3) := by decide +kernel
theorem dX4_why_47 : decode cX4_why 47 = .ok (.aload_n 0, 1) := by decide +kernel
theorem dX4_why_48 : decode cX4_why 48 = .ok (.iload_n 1, 1) := by decide +kernel
theorem dX4_why_49 : decode cX4_why 49 = .ok (.iconst 1, 1) := by decide +kernel
theorem dX4_why_50 : decode cX4_why 50 = .ok (.invokevirtual 49, 3) := by decide +kernel
theorem dX4_why_53 : decode cX4_why 53 = .ok (.isub, 1) := by decide +kernel
theorem dX4_why_54 : decode cX4_why 54 = .ok (.istore 4, 2) := by decide +kernel
theorem dX4_why_56 : decode cX4_why 56 = .ok (.iload_n 2, 1) := by decide +kernel
theorem dX4_why_57 : decode cX4_why 57 = .ok (.iload_n 3, 1) := by decide +kernel
theorem dX4_why_58 : decode cX4_why 58 = .ok (.if_icmp .ne 7, 3) := by decide +kernel
theorem dX4_why_61 : decode cX4_why 61 = .ok (.iconst 1, 1) := by decide +kernel
theorem dX4_why_62 : decode cX4_why 62 = .ok (.goto 32, 3) := by decide +kernel
theorem dX4_why_65 : decode cX4_why 65 = .ok (.iload_n 2, 1) := by decide +kernel
theorem dX4_why_66 : decode cX4_why 66 = .ok (.ifCond .eq 7, 3) := by decide +kernel
theorem dX4_why_69 : decode cX4_why 69 = .ok (.iload_n 3, 1) := by decide +kernel
theorem dX4_why_70 : decode cX4_why 70 = .ok (.ifCond .ne 14, 3) := by decide +kernel
theorem dX4_why_73 : decode cX4_why 73 = .ok (.iload 4, 2) := by decide +kernel
theorem dX4_why_75 : decode cX4_why 75 = .ok (.bipush (-50), 2) := by decide +kernel
theorem dX4_why_77 : decode cX4_why 77 = .ok (.if_icmp .le 7, 3) := by decide +kernel
theorem dX4_why_80 : decode cX4_why 80 = .ok (.iconst 2, 1) := by decide +kernel
theorem dX4_why_81 : decode cX4_why 81 = .ok (.goto 13, 3) := by decide +kernel
theorem dX4_why_84 : decode cX4_why 84 = .ok (.iload 4, 2) := by decide +kernel
theorem dX4_why_86 : decode cX4_why 86 = .ok (.ifCond .le 7, 3) := by decide +kernel
theorem dX4_why_89 : decode cX4_why 89 = .ok (.iconst 3, 1) := by decide +kernel
theorem dX4_why_90 : decode cX4_why 90 = .ok (.goto 4, 3) := by decide +kernel
theorem dX4_why_93 : decode cX4_why 93 = .ok (.iconst 0, 1) := by decide +kernel
theorem dX4_why_94 : decode cX4_why 94 = .ok (.ireturn, 1) := by decide +kernel
set_option maxRecDepth 20000 in
theorem ggX4_exchange_X4_of : GoodIn wsX4_exchange wsX4_of := goodIn_r _ [6, 1, 7, 8, 5, 9, 10, 11, 12, 13, 14, 15, 16, 17, 18, 19, 20, 21, 22, 23, 24, 25] (by decide +kernel) (by decide +kernel)
set_option maxRecDepth 20000 in
theorem gX4_exchange_X4_of : GoodIn wsX4_exchange (wsV RX4 49 RX4 yX4_of wsX4_of) := goodIn_app (goodIn_of _ (by decide +kernel)) ggX4_exchange_X4_of
set_option maxRecDepth 20000 in
theorem ggX4_exchange_X4_at : GoodIn wsX4_exchange wsX4_at := goodIn_r _ [9] (by decide +kernel) (by decide +kernel)
set_option maxRecDepth 20000 in
theorem gX4_exchange_X4_at : GoodIn wsX4_exchange (va_wsS RX4 36 yX4_at wsX4_at) := goodIn_app (goodIn_of _ (by decide +kernel)) ggX4_exchange_X4_at
theorem dX4_exchange_0 : decode cX4_exchange 0 = .ok (.aload_n 0, 1) := by decide +kernel
theorem dX4_exchange_1 : decode cX4_exchange 1 = .ok (.iload_n 1, 1) := by decide +kernel
theorem dX4_exchange_2 : decode cX4_exchange 2 = .ok (.iload_n 2, 1) := by decide +kernel
theorem dX4_exchange_3 : decode cX4_exchange 3 = .ok (.invokevirtual 49, 3) := by decide +kernel
theorem dX4_exchange_6 : decode cX4_exchange 6 = .ok (.istore_n 3, 1) := by decide +kernel
theorem dX4_exchange_7 : decode cX4_exchange 7 = .ok (.aload_n 0, 1) := by decide +kernel
theorem dX4_exchange_8 : decode cX4_exchange 8 = .ok (.getfield 7, 3) := by decide +kernel
theorem dX4_exchange_11 : decode cX4_exchange 11 = .ok (.iload_n 1, 1) := by decide +kernel
theorem dX4_exchange_12 : decode cX4_exchange 12 = .ok (.iload_n 2, 1) := by decide +kernel
theorem dX4_exchange_13 : decode cX4_exchange 13 = .ok (.invokestatic 36, 3) := by decide +kernel
theorem dX4_exchange_16 : decode cX4_exchange 16 = .ok (.aload_n 0, 1) := by decide +kernel
theorem dX4_exchange_17 : decode cX4_exchange 17 = .ok (.iload_n 1, 1) := by decide +kernel
theorem dX4_exchange_18 : decode cX4_exchange 18 = .ok (.iconst 1, 1) := by decide +kernel
theorem dX4_exchange_19 : decode cX4_exchange 19 = .ok (.iadd, 1) := by decide +kernel
theorem dX4_exchange_20 : decode cX4_exchange 20 = .ok (.iload_n 2, 1) := by decide +kernel
theorem dX4_exchange_21 : decode cX4_exchange 21 = .ok (.invokevirtual 49, 3) := by decide +kernel
theorem dX4_exchange_24 : decode cX4_exchange 24 = .ok (.iastore, 1) := by decide +kernel
theorem dX4_exchange_25 : decode cX4_exchange 25 = .ok (.aload_n 0, 1) := by decide +kernel
theorem dX4_exchange_26 : decode cX4_exchange 26 = .ok (.getfield 7, 3) := by decide +kernel
theorem dX4_exchange_29 : decode cX4_exchange 29 = .ok (.iload_n 1, 1) := by decide +kernel
theorem dX4_exchange_30 : decode cX4_exchange 30 = .ok (.iconst 1, 1) := by decide +kernel
theorem dX4_exchange_31 : decode cX4_exchange 31 = .ok (.iadd, 1) := by decide +kernel
theorem dX4_exchange_32 : decode cX4_exchange 32 = .ok (.iload_n 2, 1) := by decide +kernel
theorem dX4_exchange_33 : decode cX4_exchange 33 = .ok (.invokestatic 36, 3) := by decide +kernel
theorem dX4_exchange_36 : decode cX4_exchange 36 = .ok (.iload_n 3, 1) := by decide +kernel
theorem dX4_exchange_37 : decode cX4_exchange 37 = .ok (.iastore, 1) := by decide +kernel
theorem dX4_exchange_38 : decode cX4_exchange 38 = .ok (.return_, 1) := by decide +kernel
set_option maxRecDepth 20000 in
theorem ggX4_swaps_X4_arePair : GoodIn wsX4_swaps wsX4_arePair := goodIn_r _ [6, 7, 8, 9, 5, 10, 1, 11, 12, 13, 29, 30, 31, 32, 33, 34, 35, 36, 37, 38, 39, 40, 41, 42, 43, 44] (by decide +kernel) (by decide +kernel)
set_option maxRecDepth 20000 in
theorem gX4_swaps_X4_arePair : GoodIn wsX4_swaps (wsV RX4 95 RX4 yX4_arePair wsX4_arePair) := goodIn_app (goodIn_of _ (by decide +kernel)) ggX4_swaps_X4_arePair
set_option maxRecDepth 20000 in
theorem ggX4_swaps_X4_why : GoodIn wsX4_swaps wsX4_why := goodIn_r _ [17, 18, 19, 20, 5, 21, 1, 22, 23, 24, 29, 30, 31, 32, 33, 34, 35, 36, 37, 38, 39, 40, 41, 42, 43, 44] (by decide +kernel) (by decide +kernel)
set_option maxRecDepth 20000 in
theorem gX4_swaps_X4_why : GoodIn wsX4_swaps (wsV RX4 98 RX4 yX4_why wsX4_why) := goodIn_app (goodIn_of _ (by decide +kernel)) ggX4_swaps_X4_why
set_option maxRecDepth 20000 in
theorem ggX4_swaps_X4_exchange : GoodIn wsX4_swaps wsX4_exchange := goodIn_r _ [28, 1, 18, 19, 20, 5, 21, 22, 23, 24, 29, 30, 31, 32, 33, 34, 35, 36, 37, 38, 39, 40, 41, 42, 43, 44] (by decide +kernel) (by decide +kernel)
set_option maxRecDepth 20000 in
theorem gX4_swaps_X4_exchange : GoodIn wsX4_swaps (wsV RX4 101 RX4 yX4_exchange wsX4_exchange) := goodIn_app (goodIn_of _ (by decide +kernel)) ggX4_swaps_X4_exchange
set_option maxRecDepth 20000 in
theorem ggX4_swaps_X4_at : GoodIn wsX4_swaps wsX4_at := goodIn_r _ [24] (by decide +kernel) (by decide +kernel)
set_option maxRecDepth 20000 in
theorem gX4_swaps_X4_at : GoodIn wsX4_swaps (va_wsS RX4 36 yX4_at wsX4_at) := goodIn_app (goodIn_of _ (by decide +kernel)) ggX4_swaps_X4_at
set_option maxRecDepth 20000 in
theorem ggX4_swaps_X4_of : GoodIn wsX4_swaps wsX4_of := goodIn_r _ [21, 1, 22, 23, 5, 24, 29, 30, 31, 32, 33, 34, 35, 36, 37, 38, 39, 40, 41, 42, 43, 44] (by decide +kernel) (by decide +kernel)
set_option maxRecDepth 20000 in
theorem gX4_swaps_X4_of : GoodIn wsX4_swaps (wsV RX4 49 RX4 yX4_of wsX4_of) := goodIn_app (goodIn_of _ (by decide +kernel)) ggX4_swaps_X4_of
theorem dX4_swaps_0 : decode cX4_swaps 0 = .ok (.aload_n 0, 1) := by decide +kernel
theorem dX4_swaps_1 : decode cX4_swaps 1 = .ok (.iload_n 1, 1) := by decide +kernel
theorem dX4_swaps_2 : decode cX4_swaps 2 = .ok (.invokevirtual 95, 3) := by decide +kernel
theorem dX4_swaps_5 : decode cX4_swaps 5 = .ok (.ifCond .ne 5, 3) := by decide +kernel
theorem dX4_swaps_8 : decode cX4_swaps 8 = .ok (.iconst (-1), 1) := by decide +kernel
theorem dX4_swaps_9 : decode cX4_swaps 9 = .ok (.ireturn, 1) := by decide +kernel
theorem dX4_swaps_10 : decode cX4_swaps 10 = .ok (.aload_n 0, 1) := by decide +kernel
theorem dX4_swaps_11 : decode cX4_swaps 11 = .ok (.iload_n 1, 1) := by decide +kernel
theorem dX4_swaps_12 : decode cX4_swaps 12 = .ok (.invokevirtual 98, 3) := by decide +kernel
theorem dX4_swaps_15 : decode cX4_swaps 15 = .ok (.ifCond .le 12, 3) := by decide +kernel
theorem dX4_swaps_18 : decode cX4_swaps 18 = .ok (.bipush (-10), 2) := by decide +kernel
theorem dX4_swaps_20 : decode cX4_swaps 20 = .ok (.aload_n 0, 1) := by decide +kernel
theorem dX4_swaps_21 : decode cX4_swaps 21 = .ok (.iload_n 1, 1) := by decide +kernel
theorem dX4_swaps_22 : decode cX4_swaps 22 = .ok (.invokevirtual 98, 3) := by decide +kernel
theorem dX4_swaps_25 : decode cX4_swaps 25 = .ok (.isub, 1) := by decide +kernel
theorem dX4_swaps_26 : decode cX4_swaps 26 = .ok (.ireturn, 1) := by decide +kernel
theorem dX4_swaps_27 : decode cX4_swaps 27 = .ok (.aload_n 0, 1) := by decide +kernel
theorem dX4_swaps_28 : decode cX4_swaps 28 = .ok (.iload_n 1, 1) := by decide +kernel
theorem dX4_swaps_29 : decode cX4_swaps 29 = .ok (.iconst 4, 1) := by decide +kernel
theorem dX4_swaps_30 : decode cX4_swaps 30 = .ok (.invokevirtual 101, 3) := by decide +kernel
theorem dX4_swaps_33 : decode cX4_swaps 33 = .ok (.aload_n 0, 1) := by decide +kernel
theorem dX4_swaps_34 : decode cX4_swaps 34 = .ok (.getfield 7, 3) := by decide +kernel
theorem dX4_swaps_37 : decode cX4_swaps 37 = .ok (.iload_n 1, 1) := by decide +kernel
theorem dX4_swaps_38 : decode cX4_swaps 38 = .ok (.iconst 5, 1) := by decide +kernel
theorem dX4_swaps_39 : decode cX4_swaps 39 = .ok (.invokestatic 36, 3) := by decide +kernel
theorem dX4_swaps_42 : decode cX4_swaps 42 = .ok (.dup2, 1) := by decide +kernel
theorem dX4_swaps_43 : decode cX4_swaps 43 = .ok (.iaload, 1) := by decide +kernel
theorem dX4_swaps_44 : decode cX4_swaps 44 = .ok (.iconst 1, 1) := by decide +kernel
theorem dX4_swaps_45 : decode cX4_swaps 45 = .ok (.iadd, 1) := by decide +kernel
theorem dX4_swaps_46 : decode cX4_swaps 46 = .ok (.iastore, 1) := by decide +kernel
theorem dX4_swaps_47 : decode cX4_swaps 47 = .ok (.aload_n 0, 1) := by decide +kernel
theorem dX4_swaps_48 : decode cX4_swaps 48 = .ok (.getfield 7, 3) := by decide +kernel
theorem dX4_swaps_51 : decode cX4_swaps 51 = .ok (.iload_n 1, 1) := by decide +kernel
theorem dX4_swaps_52 : decode cX4_swaps 52 = .ok (.iconst 1, 1) := by decide +kernel
theorem dX4_swaps_53 : decode cX4_swaps 53 = .ok (.iadd, 1) := by decide +kernel
theorem dX4_swaps_54 : decode cX4_swaps 54 = .ok (.iconst 5, 1) := by decide +kernel
theorem dX4_swaps_55 : decode cX4_swaps 55 = .ok (.invokestatic 36, 3) := by decide +kernel
theorem dX4_swaps_58 : decode cX4_swaps 58 = .ok (.dup2, 1) := by decide +kernel
theorem dX4_swaps_59 : decode cX4_swaps 59 = .ok (.iaload, 1) := by decide +kernel
theorem dX4_swaps_60 : decode cX4_swaps 60 = .ok (.iconst 1, 1) := by decide +kernel
theorem dX4_swaps_61 : decode cX4_swaps 61 = .ok (.iadd, 1) := by decide +kernel
theorem dX4_swaps_62 : decode cX4_swaps 62 = .ok (.iastore, 1) := by decide +kernel
theorem dX4_swaps_63 : decode cX4_swaps 63 = .ok (.aload_n 0, 1) := by decide +kernel
theorem dX4_swaps_64 : decode cX4_swaps 64 = .ok (.getfield 7, 3) := by decide +kernel
theorem dX4_swaps_67 : decode cX4_swaps 67 = .ok (.bipush 7, 2) := by decide +kernel
theorem dX4_swaps_69 : decode cX4_swaps 69 = .ok (.dup2, 1) := by decide +kernel
theorem dX4_swaps_70 : decode cX4_swaps 70 = .ok (.iaload, 1) := by decide +kernel
theorem dX4_swaps_71 : decode cX4_swaps 71 = .ok (.iconst 1, 1) := by decide +kernel
theorem dX4_swaps_72 : decode cX4_swaps 72 = .ok (.iadd, 1) := by decide +kernel
theorem dX4_swaps_73 : decode cX4_swaps 73 = .ok (.iastore, 1) := by decide +kernel
theorem dX4_swaps_74 : decode cX4_swaps 74 = .ok (.aload_n 0, 1) := by decide +kernel
theorem dX4_swaps_75 : decode cX4_swaps 75 = .ok (.iload_n 1, 1) := by decide +kernel
theorem dX4_swaps_76 : decode cX4_swaps 76 = .ok (.iconst 4, 1) := by decide +kernel
theorem dX4_swaps_77 : decode cX4_swaps 77 = .ok (.invokevirtual 49, 3) := by decide +kernel
theorem dX4_swaps_80 : decode cX4_swaps 80 = .ok (.ireturn, 1) := by decide +kernel
set_option maxRecDepth 20000 in
theorem ggX4_acted_X4_records : GoodIn wsX4_acted wsX4_records := goodIn_r _ [5, 6, 7, 8, 9, 10, 11, 12, 13, 14, 15, 16, 17, 18, 19, 20, 21, 22, 23, 24] (by decide +kernel) (by decide +kernel)
set_option maxRecDepth 20000 in
theorem gX4_acted_X4_records : GoodIn wsX4_acted (wsV RX4 46 RX4 yX4_records wsX4_records) := goodIn_app (goodIn_of _ (by decide +kernel)) ggX4_acted_X4_records
theorem dX4_acted_0 : decode cX4_acted 0 = .ok (.iload_n 1, 1) := by decide +kernel
theorem dX4_acted_1 : decode cX4_acted 1 = .ok (.ifCond .lt 7, 3) := by decide +kernel
theorem dX4_acted_4 : decode cX4_acted 4 = .ok (.aload_n 0, 1) := by decide +kernel
theorem dX4_acted_5 : decode cX4_acted 5 = .ok (.invokevirtual 46, 3) := by decide +kernel
theorem dX4_acted_8 : decode cX4_acted 8 = .ok (.iload_n 1, 1) := by decide +kernel
theorem dX4_acted_9 : decode cX4_acted 9 = .ok (.ireturn, 1) := by decide +kernel
set_option maxRecDepth 20000 in
theorem ggX4_come_X4_in : GoodIn wsX4_come wsX4_in := goodIn_r _ [5] (by decide +kernel) (by decide +kernel)
set_option maxRecDepth 20000 in
theorem gX4_come_X4_in : GoodIn wsX4_come (va_wsS RX4 32 yX4_in wsX4_in) := goodIn_app (goodIn_of _ (by decide +kernel)) ggX4_come_X4_in
set_option maxRecDepth 20000 in
theorem ggX4_come_X4_know : GoodIn wsX4_come wsX4_know := goodIn_r _ [9, 10, 11, 12, 4, 13, 14, 1, 15, 16, 17, 18, 19, 20, 24, 25, 26, 27, 28, 29, 30, 31, 32, 33, 34, 35, 36, 37, 38, 39] (by decide +kernel) (by decide +kernel)
set_option maxRecDepth 20000 in
theorem gX4_come_X4_know : GoodIn wsX4_come (wsV RX4 105 RX4 yX4_know wsX4_know) := goodIn_app (goodIn_of _ (by decide +kernel)) ggX4_come_X4_know
set_option maxRecDepth 20000 in
theorem ggX4_come_X4_at : GoodIn wsX4_come wsX4_at := goodIn_r _ [23] (by decide +kernel) (by decide +kernel)
set_option maxRecDepth 20000 in
theorem gX4_come_X4_at : GoodIn wsX4_come (va_wsS RX4 36 yX4_at wsX4_at) := goodIn_app (goodIn_of _ (by decide +kernel)) ggX4_come_X4_at
theorem dX4_come_0 : decode cX4_come 0 = .ok (.iload_n 1, 1) := by decide +kernel
theorem dX4_come_1 : decode cX4_come 1 = .ok (.bipush 10, 2) := by decide +kernel
theorem dX4_come_3 : decode cX4_come 3 = .ok (.sipush 999, 3) := by decide +kernel
theorem dX4_come_6 : decode cX4_come 6 = .ok (.invokestatic 32, 3) := by decide +kernel
theorem dX4_come_9 : decode cX4_come 9 = .ok (.ifCond .eq 23, 3) := by decide +kernel
theorem dX4_come_12 : decode cX4_come 12 = .ok (.iload_n 2, 1) := by decide +kernel
theorem dX4_come_13 : decode cX4_come 13 = .ok (.iconst 0, 1) := by decide +kernel
theorem dX4_come_14 : decode cX4_come 14 = .ok (.sipush 9999, 3) := by decide +kernel
theorem dX4_come_17 : decode cX4_come 17 = .ok (.invokestatic 32, 3) := by decide +kernel
theorem dX4_come_20 : decode cX4_come 20 = .ok (.ifCond .eq 12, 3) := by decide +kernel
theorem dX4_come_23 : decode cX4_come 23 = .ok (.iload_n 3, 1) := by decide +kernel
theorem dX4_come_24 : decode cX4_come 24 = .ok (.iconst 0, 1) := by decide +kernel
theorem dX4_come_25 : decode cX4_come 25 = .ok (.iconst 5, 1) := by decide +kernel
theorem dX4_come_26 : decode cX4_come 26 = .ok (.invokestatic 32, 3) := by decide +kernel
theorem dX4_come_29 : decode cX4_come 29 = .ok (.ifCond .ne 6, 3) := by decide +kernel
theorem dX4_come_32 : decode cX4_come 32 = .ok (.bipush (-2), 2) := by decide +kernel
theorem dX4_come_34 : decode cX4_come 34 = .ok (.ireturn, 1) := by decide +kernel
theorem dX4_come_35 : decode cX4_come 35 = .ok (.aload_n 0, 1) := by decide +kernel
theorem dX4_come_36 : decode cX4_come 36 = .ok (.getfield 7, 3) := by decide +kernel
theorem dX4_come_39 : decode cX4_come 39 = .ok (.iconst 0, 1) := by decide +kernel
theorem dX4_come_40 : decode cX4_come 40 = .ok (.iaload, 1) := by decide +kernel
theorem dX4_come_41 : decode cX4_come 41 = .ok (.bipush 16, 2) := by decide +kernel
theorem dX4_come_43 : decode cX4_come 43 = .ok (.if_icmp .eq 15, 3) := by decide +kernel
theorem dX4_come_46 : decode cX4_come 46 = .ok (.aload_n 0, 1) := by decide +kernel
theorem dX4_come_47 : decode cX4_come 47 = .ok (.getfield 7, 3) := by decide +kernel
theorem dX4_come_50 : decode cX4_come 50 = .ok (.iconst 1, 1) := by decide +kernel
theorem dX4_come_51 : decode cX4_come 51 = .ok (.iaload, 1) := by decide +kernel
theorem dX4_come_52 : decode cX4_come 52 = .ok (.sipush 200, 3) := by decide +kernel
theorem dX4_come_55 : decode cX4_come 55 = .ok (.if_icmp .ne 6, 3) := by decide +kernel
theorem dX4_come_58 : decode cX4_come 58 = .ok (.bipush (-3), 2) := by decide +kernel
theorem dX4_come_60 : decode cX4_come 60 = .ok (.ireturn, 1) := by decide +kernel
theorem dX4_come_61 : decode cX4_come 61 = .ok (.aload_n 0, 1) := by decide +kernel
theorem dX4_come_62 : decode cX4_come 62 = .ok (.invokevirtual 105, 3) := by decide +kernel
theorem dX4_come_65 : decode cX4_come 65 = .ok (.aload_n 0, 1) := by decide +kernel
theorem dX4_come_66 : decode cX4_come 66 = .ok (.getfield 7, 3) := by decide +kernel
theorem dX4_come_69 : decode cX4_come 69 = .ok (.iconst 0, 1) := by decide +kernel
theorem dX4_come_70 : decode cX4_come 70 = .ok (.iaload, 1) := by decide +kernel
theorem dX4_come_71 : decode cX4_come 71 = .ok (.istore 4, 2) := by decide +kernel
theorem dX4_come_73 : decode cX4_come 73 = .ok (.aload_n 0, 1) := by decide +kernel
theorem dX4_come_74 : decode cX4_come 74 = .ok (.getfield 7, 3) := by decide +kernel
theorem dX4_come_77 : decode cX4_come 77 = .ok (.iconst 0, 1) := by decide +kernel
theorem dX4_come_78 : decode cX4_come 78 = .ok (.dup2, 1) := by decide +kernel
theorem dX4_come_79 : decode cX4_come 79 = .ok (.iaload, 1) := by decide +kernel
theorem dX4_come_80 : decode cX4_come 80 = .ok (.iconst 1, 1) := by decide +kernel
theorem dX4_come_81 : decode cX4_come 81 = .ok (.iadd, 1) := by decide +kernel
theorem dX4_come_82 : decode cX4_come 82 = .ok (.iastore, 1) := by decide +kernel
theorem dX4_come_83 : decode cX4_come 83 = .ok (.aload_n 0, 1) := by decide +kernel
theorem dX4_come_84 : decode cX4_come 84 = .ok (.getfield 7, 3) := by decide +kernel
theorem dX4_come_87 : decode cX4_come 87 = .ok (.iload 4, 2) := by decide +kernel
theorem dX4_come_89 : decode cX4_come 89 = .ok (.iconst 0, 1) := by decide +kernel
theorem dX4_come_90 : decode cX4_come 90 = .ok (.invokestatic 36, 3) := by decide +kernel
theorem dX4_come_93 : decode cX4_come 93 = .ok (.aload_n 0, 1) := by decide +kernel
theorem dX4_come_94 : decode cX4_come 94 = .ok (.getfield 7, 3) := by decide +kernel
theorem dX4_come_97 : decode cX4_come 97 = .ok (.iconst 1, 1) := by decide +kernel
theorem dX4_come_98 : decode cX4_come 98 = .ok (.iaload, 1) := by decide +kernel
theorem dX4_come_99 : decode cX4_come 99 = .ok (.iastore, 1) := by decide +kernel
theorem dX4_come_100 : decode cX4_come 100 = .ok (.aload_n 0, 1) := by decide +kernel
theorem dX4_come_101 : decode cX4_come 101 = .ok (.getfield 7, 3) := by decide +kernel
theorem dX4_come_104 : decode cX4_come 104 = .ok (.iload 4, 2) := by decide +kernel
theorem dX4_come_106 : decode cX4_come 106 = .ok (.iconst 1, 1) := by decide +kernel
theorem dX4_come_107 : decode cX4_come 107 = .ok (.invokestatic 36, 3) := by decide +kernel
theorem dX4_come_110 : decode cX4_come 110 = .ok (.iconst 0, 1) := by decide +kernel
theorem dX4_come_111 : decode cX4_come 111 = .ok (.iastore, 1) := by decide +kernel
theorem dX4_come_112 : decode cX4_come 112 = .ok (.aload_n 0, 1) := by decide +kernel
theorem dX4_come_113 : decode cX4_come 113 = .ok (.getfield 7, 3) := by decide +kernel
theorem dX4_come_116 : decode cX4_come 116 = .ok (.iload 4, 2) := by decide +kernel
theorem dX4_come_118 : decode cX4_come 118 = .ok (.iconst 2, 1) := by decide +kernel
theorem dX4_come_119 : decode cX4_come 119 = .ok (.invokestatic 36, 3) := by decide +kernel
theorem dX4_come_122 : decode cX4_come 122 = .ok (.iload_n 1, 1) := by decide +kernel
theorem dX4_come_123 : decode cX4_come 123 = .ok (.iastore, 1) := by decide +kernel
theorem dX4_come_124 : decode cX4_come 124 = .ok (.aload_n 0, 1) := by decide +kernel
theorem dX4_come_125 : decode cX4_come 125 = .ok (.getfield 7, 3) := by decide +kernel
theorem dX4_come_128 : decode cX4_come 128 = .ok (.iload 4, 2) := by decide +kernel
theorem dX4_come_130 : decode cX4_come 130 = .ok (.iconst 3, 1) := by decide +kernel
theorem dX4_come_131 : decode cX4_come 131 = .ok (.invokestatic 36, 3) := by decide +kernel
theorem dX4_come_134 : decode cX4_come 134 = .ok (.iload_n 2, 1) := by decide +kernel
theorem dX4_come_135 : decode cX4_come 135 = .ok (.iastore, 1) := by decide +kernel
theorem dX4_come_136 : decode cX4_come 136 = .ok (.aload_n 0, 1) := by decide +kernel
theorem dX4_come_137 : decode cX4_come 137 = .ok (.getfield 7, 3) := by decide +kernel
theorem dX4_come_140 : decode cX4_come 140 = .ok (.iload 4, 2) := by decide +kernel
theorem dX4_come_142 : decode cX4_come 142 = .ok (.iconst 4, 1) := by decide +kernel
theorem dX4_come_143 : decode cX4_come 143 = .ok (.invokestatic 36, 3) := by decide +kernel
theorem dX4_come_146 : decode cX4_come 146 = .ok (.iload_n 3, 1) := by decide +kernel
theorem dX4_come_147 : decode cX4_come 147 = .ok (.iastore, 1) := by decide +kernel
theorem dX4_come_148 : decode cX4_come 148 = .ok (.aload_n 0, 1) := by decide +kernel
theorem dX4_come_149 : decode cX4_come 149 = .ok (.getfield 7, 3) := by decide +kernel
theorem dX4_come_152 : decode cX4_come 152 = .ok (.iload 4, 2) := by decide +kernel
theorem dX4_come_154 : decode cX4_come 154 = .ok (.iconst 5, 1) := by decide +kernel
theorem dX4_come_155 : decode cX4_come 155 = .ok (.invokestatic 36, 3) := by decide +kernel
theorem dX4_come_158 : decode cX4_come 158 = .ok (.iconst 0, 1) := by decide +kernel
theorem dX4_come_159 : decode cX4_come 159 = .ok (.iastore, 1) := by decide +kernel
theorem dX4_come_160 : decode cX4_come 160 = .ok (.aload_n 0, 1) := by decide +kernel
theorem dX4_come_161 : decode cX4_come 161 = .ok (.getfield 7, 3) := by decide +kernel
theorem dX4_come_164 : decode cX4_come 164 = .ok (.iconst 1, 1) := by decide +kernel
theorem dX4_come_165 : decode cX4_come 165 = .ok (.dup2, 1) := by decide +kernel
theorem dX4_come_166 : decode cX4_come 166 = .ok (.iaload, 1) := by decide +kernel
theorem dX4_come_167 : decode cX4_come 167 = .ok (.iconst 1, 1) := by decide +kernel
theorem dX4_come_168 : decode cX4_come 168 = .ok (.iadd, 1) := by decide +kernel
theorem dX4_come_169 : decode cX4_come 169 = .ok (.iastore, 1) := by decide +kernel
theorem dX4_come_170 : decode cX4_come 170 = .ok (.iload 4, 2) := by decide +kernel
theorem dX4_come_172 : decode cX4_come 172 = .ok (.ireturn, 1) := by decide +kernel
set_option maxRecDepth 20000 in
theorem ggX4_leave_X4_isPlace : GoodIn wsX4_leave wsX4_isPlace := goodIn_r _ [6, 1, 7, 8, 5, 9, 36, 37, 38, 39, 40, 41, 42, 43, 44, 45, 46, 47, 48, 49, 50, 51] (by decide +kernel) (by decide +kernel)
set_option maxRecDepth 20000 in
theorem gX4_leave_X4_isPlace : GoodIn wsX4_leave (wsV RX4 91 RX4 yX4_isPlace wsX4_isPlace) := goodIn_app (goodIn_of _ (by decide +kernel)) ggX4_leave_X4_isPlace
set_option maxRecDepth 20000 in
theorem ggX4_leave_X4_know : GoodIn wsX4_leave wsX4_know := goodIn_r _ [13, 14, 15, 16, 5, 17, 18, 1, 19, 20, 21, 22, 23, 24, 36, 37, 38, 39, 40, 41, 42, 43, 44, 45, 46, 47, 48, 49, 50, 51] (by decide +kernel) (by decide +kernel)
set_option maxRecDepth 20000 in
theorem gX4_leave_X4_know : GoodIn wsX4_leave (wsV RX4 105 RX4 yX4_know wsX4_know) := goodIn_app (goodIn_of _ (by decide +kernel)) ggX4_leave_X4_know
set_option maxRecDepth 20000 in
theorem ggX4_leave_X4_of : GoodIn wsX4_leave wsX4_of := goodIn_r _ [28, 1, 29, 30, 5, 31, 36, 37, 38, 39, 40, 41, 42, 43, 44, 45, 46, 47, 48, 49, 50, 51] (by decide +kernel) (by decide +kernel)
set_option maxRecDepth 20000 in
theorem gX4_leave_X4_of : GoodIn wsX4_leave (wsV RX4 49 RX4 yX4_of wsX4_of) := goodIn_app (goodIn_of _ (by decide +kernel)) ggX4_leave_X4_of
set_option maxRecDepth 20000 in
theorem ggX4_leave_X4_goes : GoodIn wsX4_leave wsX4_goes := goodIn_r _ [35, 1, 29, 30, 5, 31, 36, 37, 38, 39, 40, 41, 42, 43, 44, 45, 46, 47, 48, 49, 50, 51] (by decide +kernel) (by decide +kernel)
set_option maxRecDepth 20000 in
theorem gX4_leave_X4_goes : GoodIn wsX4_leave (wsV RX4 76 RX4 yX4_goes wsX4_goes) := goodIn_app (goodIn_of _ (by decide +kernel)) ggX4_leave_X4_goes
theorem dX4_leave_0 : decode cX4_leave 0 = .ok (.aload_n 0, 1) := by decide +kernel
theorem dX4_leave_1 : decode cX4_leave 1 = .ok (.iload_n 1, 1) := by decide +kernel
theorem dX4_leave_2 : decode cX4_leave 2 = .ok (.invokevirtual 91, 3) := by decide +kernel
theorem dX4_leave_5 : decode cX4_leave 5 = .ok (.ifCond .ne 5, 3) := by decide +kernel
theorem dX4_leave_8 : decode cX4_leave 8 = .ok (.iconst (-1), 1) := by decide +kernel
theorem dX4_leave_9 : decode cX4_leave 9 = .ok (.ireturn, 1) := by decide +kernel
theorem dX4_leave_10 : decode cX4_leave 10 = .ok (.aload_n 0, 1) := by decide +kernel
theorem dX4_leave_11 : decode cX4_leave 11 = .ok (.invokevirtual 105, 3) := by decide +kernel
theorem dX4_leave_14 : decode cX4_leave 14 = .ok (.aload_n 0, 1) := by decide +kernel
theorem dX4_leave_15 : decode cX4_leave 15 = .ok (.iload_n 1, 1) := by decide +kernel
theorem dX4_leave_16 : decode cX4_leave 16 = .ok (.iconst 1, 1) := by decide +kernel
theorem dX4_leave_17 : decode cX4_leave 17 = .ok (.invokevirtual 49, 3) := by decide +kernel
theorem dX4_leave_20 : decode cX4_leave 20 = .ok (.istore_n 2, 1) := by decide +kernel
theorem dX4_leave_21 : decode cX4_leave 21 = .ok (.aload_n 0, 1) := by decide +kernel
theorem dX4_leave_22 : decode cX4_leave 22 = .ok (.iload_n 1, 1) := by decide +kernel
theorem dX4_leave_23 : decode cX4_leave 23 = .ok (.invokevirtual 76, 3) := by decide +kernel
theorem dX4_leave_26 : decode cX4_leave 26 = .ok (.aload_n 0, 1) := by decide +kernel
theorem dX4_leave_27 : decode cX4_leave 27 = .ok (.getfield 7, 3) := by decide +kernel
theorem dX4_leave_30 : decode cX4_leave 30 = .ok (.iconst 2, 1) := by decide +kernel
theorem dX4_leave_31 : decode cX4_leave 31 = .ok (.dup2, 1) := by decide +kernel
theorem dX4_leave_32 : decode cX4_leave 32 = .ok (.iaload, 1) := by decide +kernel
theorem dX4_leave_33 : decode cX4_leave 33 = .ok (.iconst 1, 1) := by decide +kernel
theorem dX4_leave_34 : decode cX4_leave 34 = .ok (.iadd, 1) := by decide +kernel
theorem dX4_leave_35 : decode cX4_leave 35 = .ok (.iastore, 1) := by decide +kernel
theorem dX4_leave_36 : decode cX4_leave 36 = .ok (.iload_n 2, 1) := by decide +kernel
theorem dX4_leave_37 : decode cX4_leave 37 = .ok (.ireturn, 1) := by decide +kernel
set_option maxRecDepth 20000 in
theorem ggX4_letAhead_X4_arePair : GoodIn wsX4_letAhead wsX4_arePair := goodIn_r _ [5, 6, 7, 8, 4, 9, 10, 11, 12, 13, 40, 41, 42, 43, 44, 45, 46, 47, 48, 49, 50, 51, 52, 53, 54, 55] (by decide +kernel) (by decide +kernel)
set_option maxRecDepth 20000 in
theorem gX4_letAhead_X4_arePair : GoodIn wsX4_letAhead (wsV RX4 95 RX4 yX4_arePair wsX4_arePair) := goodIn_app (goodIn_of _ (by decide +kernel)) ggX4_letAhead_X4_arePair
set_option maxRecDepth 20000 in
theorem ggX4_letAhead_X4_know : GoodIn wsX4_letAhead wsX4_know := goodIn_r _ [17, 18, 19, 20, 4, 21, 22, 10, 23, 24, 25, 26, 27, 28, 40, 41, 42, 43, 44, 45, 46, 47, 48, 49, 50, 51, 52, 53, 54, 55] (by decide +kernel) (by decide +kernel)
set_option maxRecDepth 20000 in
theorem gX4_letAhead_X4_know : GoodIn wsX4_letAhead (wsV RX4 105 RX4 yX4_know wsX4_know) := goodIn_app (goodIn_of _ (by decide +kernel)) ggX4_letAhead_X4_know
set_option maxRecDepth 20000 in
theorem ggX4_letAhead_X4_exchange : GoodIn wsX4_letAhead wsX4_exchange := goodIn_r _ [32, 10, 33, 34, 35, 4, 36, 37, 38, 39, 40, 41, 42, 43, 44, 45, 46, 47, 48, 49, 50, 51, 52, 53, 54, 55] (by decide +kernel) (by decide +kernel)
set_option maxRecDepth 20000 in
theorem gX4_letAhead_X4_exchange : GoodIn wsX4_letAhead (wsV RX4 101 RX4 yX4_exchange wsX4_exchange) := goodIn_app (goodIn_of _ (by decide +kernel)) ggX4_letAhead_X4_exchange
set_option maxRecDepth 20000 in
theorem ggX4_letAhead_X4_of : GoodIn wsX4_letAhead wsX4_of := goodIn_r _ [36, 10, 37, 38, 4, 39, 40, 41, 42, 43, 44, 45, 46, 47, 48, 49, 50, 51, 52, 53, 54, 55] (by decide +kernel) (by decide +kernel)
set_option maxRecDepth 20000 in
theorem gX4_letAhead_X4_of : GoodIn wsX4_letAhead (wsV RX4 49 RX4 yX4_of wsX4_of) := goodIn_app (goodIn_of _ (by decide +kernel)) ggX4_letAhead_X4_of
theorem dX4_letAhead_0 : decode cX4_letAhead 0 = .ok (.aload_n 0, 1) := by decide +kernel
theorem dX4_letAhead_1 : decode cX4_letAhead 1 = .ok (.iload_n 1, 1) := by decide +kernel
theorem dX4_letAhead_2 : decode cX4_letAhead 2 = .ok (.invokevirtual 95, 3) := by decide +kernel
theorem dX4_letAhead_5 : decode cX4_letAhead 5 = .ok (.ifCond .ne 5, 3) := by decide +kernel
theorem dX4_letAhead_8 : decode cX4_letAhead 8 = .ok (.iconst (-1), 1) := by decide +kernel
theorem dX4_letAhead_9 : decode cX4_letAhead 9 = .ok (.ireturn, 1) := by decide +kernel
theorem dX4_letAhead_10 : decode cX4_letAhead 10 = .ok (.aload_n 0, 1) := by decide +kernel
theorem dX4_letAhead_11 : decode cX4_letAhead 11 = .ok (.invokevirtual 105, 3) := by decide +kernel
theorem dX4_letAhead_14 : decode cX4_letAhead 14 = .ok (.iconst 0, 1) := by decide +kernel
theorem dX4_letAhead_15 : decode cX4_letAhead 15 = .ok (.istore_n 2, 1) := by decide +kernel
theorem dX4_letAhead_16 : decode cX4_letAhead 16 = .ok (.iload_n 2, 1) := by decide +kernel
theorem dX4_letAhead_17 : decode cX4_letAhead 17 = .ok (.bipush 6, 2) := by decide +kernel
theorem dX4_letAhead_19 : decode cX4_letAhead 19 = .ok (.if_icmp .ge 15, 3) := by decide +kernel
theorem dX4_letAhead_22 : decode cX4_letAhead 22 = .ok (.aload_n 0, 1) := by decide +kernel
theorem dX4_letAhead_23 : decode cX4_letAhead 23 = .ok (.iload_n 1, 1) := by decide +kernel
theorem dX4_letAhead_24 : decode cX4_letAhead 24 = .ok (.iload_n 2, 1) := by decide +kernel
theorem dX4_letAhead_25 : decode cX4_letAhead 25 = .ok (.invokevirtual 101, 3) := by decide +kernel
theorem dX4_letAhead_28 : decode cX4_letAhead 28 = .ok (.iinc 2 1, 3) := by decide +kernel
theorem dX4_letAhead_31 : decode cX4_letAhead 31 = .ok (.goto (-15), 3) := by decide +kernel
theorem dX4_letAhead_34 : decode cX4_letAhead 34 = .ok (.aload_n 0, 1) := by decide +kernel
theorem dX4_letAhead_35 : decode cX4_letAhead 35 = .ok (.iload_n 1, 1) := by decide +kernel
theorem dX4_letAhead_36 : decode cX4_letAhead 36 = .ok (.iconst 0, 1) := by decide +kernel
theorem dX4_letAhead_37 : decode cX4_letAhead 37 = .ok (.invokevirtual 49, 3) := by decide +kernel
theorem dX4_letAhead_40 : decode cX4_letAhead 40 = .ok (.ireturn, 1) := by decide +kernel
set_option maxRecDepth 20000 in
theorem ggX4_swap_X4_looks : GoodIn wsX4_swap wsX4_looks := goodIn_r _ [5, 6, 7, 48, 49, 50, 51, 52, 53, 54, 55, 56, 57, 58, 59, 60, 61, 62, 63] (by decide +kernel) (by decide +kernel)
set_option maxRecDepth 20000 in
theorem gX4_swap_X4_looks : GoodIn wsX4_swap (wsV RX4 43 RX4 yX4_looks wsX4_looks) := goodIn_app (goodIn_of _ (by decide +kernel)) ggX4_swap_X4_looks
set_option maxRecDepth 20000 in
theorem ggX4_swap_X4_swaps : GoodIn wsX4_swap wsX4_swaps := goodIn_r _ [11, 7, 12, 13, 14, 4, 15, 16, 17, 18, 19, 20, 21, 22, 23, 24, 25, 26, 27, 28, 29, 30, 31, 32, 33, 34, 35, 36, 37, 48, 49, 50, 51, 52, 53, 54, 55, 56, 57, 58, 59, 60, 61, 62, 63] (by decide +kernel) (by decide +kernel)
set_option maxRecDepth 20000 in
theorem gX4_swap_X4_swaps : GoodIn wsX4_swap (wsV RX4 108 RX4 yX4_swaps wsX4_swaps) := goodIn_app (goodIn_of _ (by decide +kernel)) ggX4_swap_X4_swaps
set_option maxRecDepth 20000 in
theorem ggX4_swap_X4_acted : GoodIn wsX4_swap wsX4_acted := goodIn_r _ [41, 42, 43, 44, 4, 45, 46, 47, 6, 48, 49, 50, 51, 52, 53, 54, 55, 56, 57, 58, 59, 60, 61, 62, 63] (by decide +kernel) (by decide +kernel)
set_option maxRecDepth 20000 in
theorem gX4_swap_X4_acted : GoodIn wsX4_swap (wsV RX4 111 RX4 yX4_acted wsX4_acted) := goodIn_app (goodIn_of _ (by decide +kernel)) ggX4_swap_X4_acted
theorem dX4_swap_0 : decode cX4_swap 0 = .ok (.aload_n 0, 1) := by decide +kernel
theorem dX4_swap_1 : decode cX4_swap 1 = .ok (.invokevirtual 43, 3) := by decide +kernel
theorem dX4_swap_4 : decode cX4_swap 4 = .ok (.aload_n 0, 1) := by decide +kernel
theorem dX4_swap_5 : decode cX4_swap 5 = .ok (.aload_n 0, 1) := by decide +kernel
theorem dX4_swap_6 : decode cX4_swap 6 = .ok (.iload_n 1, 1) := by decide +kernel
theorem dX4_swap_7 : decode cX4_swap 7 = .ok (.invokevirtual 108, 3) := by decide +kernel
theorem dX4_swap_10 : decode cX4_swap 10 = .ok (.invokevirtual 111, 3) := by decide +kernel
theorem dX4_swap_13 : decode cX4_swap 13 = .ok (.ireturn, 1) := by decide +kernel
set_option maxRecDepth 20000 in
theorem ggX4_set_X4_in : GoodIn wsX4_set wsX4_in := goodIn_r _ [5] (by decide +kernel) (by decide +kernel)
set_option maxRecDepth 20000 in
theorem gX4_set_X4_in : GoodIn wsX4_set (va_wsS RX4 32 yX4_in wsX4_in) := goodIn_app (goodIn_of _ (by decide +kernel)) ggX4_set_X4_in
set_option maxRecDepth 20000 in
theorem ggX4_set_X4_know : GoodIn wsX4_set wsX4_know := goodIn_r _ [9, 10, 11, 12, 4, 13, 14, 1, 15, 16, 17, 18, 19, 20, 21, 22, 23, 24, 25, 26, 27, 28, 29, 30, 31, 32, 33, 34, 35, 36] (by decide +kernel) (by decide +kernel)
set_option maxRecDepth 20000 in
theorem gX4_set_X4_know : GoodIn wsX4_set (wsV RX4 105 RX4 yX4_know wsX4_know) := goodIn_app (goodIn_of _ (by decide +kernel)) ggX4_set_X4_know
theorem dX4_set_0 : decode cX4_set 0 = .ok (.iload_n 1, 1) := by decide +kernel
theorem dX4_set_1 : decode cX4_set 1 = .ok (.iconst 0, 1) := by decide +kernel
theorem dX4_set_2 : decode cX4_set 2 = .ok (.iconst 2, 1) := by decide +kernel
theorem dX4_set_3 : decode cX4_set 3 = .ok (.invokestatic 32, 3) := by decide +kernel
theorem dX4_set_6 : decode cX4_set 6 = .ok (.ifCond .ne 5, 3) := by decide +kernel
theorem dX4_set_9 : decode cX4_set 9 = .ok (.iconst (-1), 1) := by decide +kernel
theorem dX4_set_10 : decode cX4_set 10 = .ok (.ireturn, 1) := by decide +kernel
theorem dX4_set_11 : decode cX4_set 11 = .ok (.iload_n 2, 1) := by decide +kernel
theorem dX4_set_12 : decode cX4_set 12 = .ok (.iload_n 1, 1) := by decide +kernel
theorem dX4_set_13 : decode cX4_set 13 = .ok (.iconst 1, 1) := by decide +kernel
theorem dX4_set_14 : decode cX4_set 14 = .ok (.if_icmp .ne 7, 3) := by decide +kernel
theorem dX4_set_17 : decode cX4_set 17 = .ok (.iconst 1, 1) := by decide +kernel
theorem dX4_set_18 : decode cX4_set 18 = .ok (.goto 4, 3) := by decide +kernel
theorem dX4_set_21 : decode cX4_set 21 = .ok (.iconst 0, 1) := by decide +kernel
theorem dX4_set_22 : decode cX4_set 22 = .ok (.iload_n 1, 1) := by decide +kernel
theorem dX4_set_23 : decode cX4_set 23 = .ok (.ifCond .ne 8, 3) := by decide +kernel
theorem dX4_set_26 : decode cX4_set 26 = .ok (.bipush 50, 2) := by decide +kernel
theorem dX4_set_28 : decode cX4_set 28 = .ok (.goto 14, 3) := by decide +kernel
theorem dX4_set_31 : decode cX4_set 31 = .ok (.iload_n 1, 1) := by decide +kernel
theorem dX4_set_32 : decode cX4_set 32 = .ok (.iconst 1, 1) := by decide +kernel
theorem dX4_set_33 : decode cX4_set 33 = .ok (.if_icmp .ne 7, 3) := by decide +kernel
theorem dX4_set_36 : decode cX4_set 36 = .ok (.iconst 4, 1) := by decide +kernel
theorem dX4_set_37 : decode cX4_set 37 = .ok (.goto 5, 3) := by decide +kernel
theorem dX4_set_40 : decode cX4_set 40 = .ok (.bipush 99, 2) := by decide +kernel
theorem dX4_set_42 : decode cX4_set 42 = .ok (.invokestatic 32, 3) := by decide +kernel
theorem dX4_set_45 : decode cX4_set 45 = .ok (.ifCond .ne 6, 3) := by decide +kernel
theorem dX4_set_48 : decode cX4_set 48 = .ok (.bipush (-2), 2) := by decide +kernel
theorem dX4_set_50 : decode cX4_set 50 = .ok (.ireturn, 1) := by decide +kernel
theorem dX4_set_51 : decode cX4_set 51 = .ok (.aload_n 0, 1) := by decide +kernel
theorem dX4_set_52 : decode cX4_set 52 = .ok (.getfield 7, 3) := by decide +kernel
theorem dX4_set_55 : decode cX4_set 55 = .ok (.bipush 10, 2) := by decide +kernel
theorem dX4_set_57 : decode cX4_set 57 = .ok (.iload_n 1, 1) := by decide +kernel
theorem dX4_set_58 : decode cX4_set 58 = .ok (.iadd, 1) := by decide +kernel
theorem dX4_set_59 : decode cX4_set 59 = .ok (.iaload, 1) := by decide +kernel
theorem dX4_set_60 : decode cX4_set 60 = .ok (.istore_n 3, 1) := by decide +kernel
theorem dX4_set_61 : decode cX4_set 61 = .ok (.iload_n 3, 1) := by decide +kernel
theorem dX4_set_62 : decode cX4_set 62 = .ok (.iload_n 2, 1) := by decide +kernel
theorem dX4_set_63 : decode cX4_set 63 = .ok (.if_icmp .ne 6, 3) := by decide +kernel
theorem dX4_set_66 : decode cX4_set 66 = .ok (.bipush (-5), 2) := by decide +kernel
theorem dX4_set_68 : decode cX4_set 68 = .ok (.ireturn, 1) := by decide +kernel
theorem dX4_set_69 : decode cX4_set 69 = .ok (.aload_n 0, 1) := by decide +kernel
theorem dX4_set_70 : decode cX4_set 70 = .ok (.invokevirtual 105, 3) := by decide +kernel
theorem dX4_set_73 : decode cX4_set 73 = .ok (.aload_n 0, 1) := by decide +kernel
theorem dX4_set_74 : decode cX4_set 74 = .ok (.getfield 7, 3) := by decide +kernel
theorem dX4_set_77 : decode cX4_set 77 = .ok (.bipush 10, 2) := by decide +kernel
theorem dX4_set_79 : decode cX4_set 79 = .ok (.iload_n 1, 1) := by decide +kernel
theorem dX4_set_80 : decode cX4_set 80 = .ok (.iadd, 1) := by decide +kernel
theorem dX4_set_81 : decode cX4_set 81 = .ok (.iload_n 2, 1) := by decide +kernel
theorem dX4_set_82 : decode cX4_set 82 = .ok (.iastore, 1) := by decide +kernel
theorem dX4_set_83 : decode cX4_set 83 = .ok (.iload_n 3, 1) := by decide +kernel
theorem dX4_set_84 : decode cX4_set 84 = .ok (.ireturn, 1) := by decide +kernel
set_option maxRecDepth 20000 in
theorem ggX4_isGust_X4_in : GoodIn wsX4_isGust wsX4_in := goodIn_r _ [4] (by decide +kernel) (by decide +kernel)
set_option maxRecDepth 20000 in
theorem gX4_isGust_X4_in : GoodIn wsX4_isGust (va_wsS RX4 32 yX4_in wsX4_in) := goodIn_app (goodIn_of _ (by decide +kernel)) ggX4_isGust_X4_in
theorem dX4_isGust_0 : decode cX4_isGust 0 = .ok (.iload_n 0, 1) := by decide +kernel
theorem dX4_isGust_1 : decode cX4_isGust 1 = .ok (.iconst 1, 1) := by decide +kernel
theorem dX4_isGust_2 : decode cX4_isGust 2 = .ok (.bipush 99, 2) := by decide +kernel
theorem dX4_isGust_4 : decode cX4_isGust 4 = .ok (.invokestatic 32, 3) := by decide +kernel
theorem dX4_isGust_7 : decode cX4_isGust 7 = .ok (.ifCond .eq 16, 3) := by decide +kernel
theorem dX4_isGust_10 : decode cX4_isGust 10 = .ok (.iload_n 1, 1) := by decide +kernel
theorem dX4_isGust_11 : decode cX4_isGust 11 = .ok (.iconst 0, 1) := by decide +kernel
theorem dX4_isGust_12 : decode cX4_isGust 12 = .ok (.iconst 2, 1) := by decide +kernel
theorem dX4_isGust_13 : decode cX4_isGust 13 = .ok (.invokestatic 32, 3) := by decide +kernel
theorem dX4_isGust_16 : decode cX4_isGust 16 = .ok (.ifCond .eq 7, 3) := by decide +kernel
theorem dX4_isGust_19 : decode cX4_isGust 19 = .ok (.iconst 1, 1) := by decide +kernel
theorem dX4_isGust_20 : decode cX4_isGust 20 = .ok (.goto 4, 3) := by decide +kernel
theorem dX4_isGust_23 : decode cX4_isGust 23 = .ok (.iconst 0, 1) := by decide +kernel
theorem dX4_isGust_24 : decode cX4_isGust 24 = .ok (.ireturn, 1) := by decide +kernel
set_option maxRecDepth 20000 in
theorem ggX4_gust_X4_looks : GoodIn wsX4_gust wsX4_looks := goodIn_r _ [5, 6, 7, 67, 68, 69, 70, 71, 72, 73, 74, 75, 76, 77, 78, 79, 80, 81, 82] (by decide +kernel) (by decide +kernel)
set_option maxRecDepth 20000 in
theorem gX4_gust_X4_looks : GoodIn wsX4_gust (wsV RX4 43 RX4 yX4_looks wsX4_looks) := goodIn_app (goodIn_of _ (by decide +kernel)) ggX4_gust_X4_looks
set_option maxRecDepth 20000 in
theorem ggX4_gust_X4_isGust : GoodIn wsX4_gust wsX4_isGust := goodIn_r _ [10, 11, 12, 4, 13] (by decide +kernel) (by decide +kernel)
set_option maxRecDepth 20000 in
theorem gX4_gust_X4_isGust : GoodIn wsX4_gust (va_wsS RX4 114 yX4_isGust wsX4_isGust) := goodIn_app (goodIn_of _ (by decide +kernel)) ggX4_gust_X4_isGust
set_option maxRecDepth 20000 in
theorem ggX4_gust_X4_gusts : GoodIn wsX4_gust wsX4_gusts := goodIn_r _ [17, 7, 18, 19, 4, 20, 21, 22, 23, 24, 25, 26, 27, 28, 29, 30, 31, 32, 33, 34, 35, 36, 37, 38, 39, 40, 41, 42, 43, 44, 45, 46, 47, 48, 11, 12, 13, 49, 50, 51, 52, 53, 54, 55, 56, 67, 68, 69, 70, 71, 72, 73, 74, 75, 76, 77, 78, 79, 80, 81, 82] (by decide +kernel) (by decide +kernel)
set_option maxRecDepth 20000 in
theorem gX4_gust_X4_gusts : GoodIn wsX4_gust (wsV RX4 117 RX4 yX4_gusts wsX4_gusts) := goodIn_app (goodIn_of _ (by decide +kernel)) ggX4_gust_X4_gusts
set_option maxRecDepth 20000 in
theorem ggX4_gust_X4_acted : GoodIn wsX4_gust wsX4_acted := goodIn_r _ [60, 61, 62, 63, 4, 64, 65, 66, 6, 67, 68, 69, 70, 71, 72, 73, 74, 75, 76, 77, 78, 79, 80, 81, 82] (by decide +kernel) (by decide +kernel)
set_option maxRecDepth 20000 in
theorem gX4_gust_X4_acted : GoodIn wsX4_gust (wsV RX4 111 RX4 yX4_acted wsX4_acted) := goodIn_app (goodIn_of _ (by decide +kernel)) ggX4_gust_X4_acted
theorem dX4_gust_0 : decode cX4_gust 0 = .ok (.aload_n 0, 1) := by decide +kernel
theorem dX4_gust_1 : decode cX4_gust 1 = .ok (.invokevirtual 43, 3) := by decide +kernel
theorem dX4_gust_4 : decode cX4_gust 4 = .ok (.iload_n 1, 1) := by decide +kernel
theorem dX4_gust_5 : decode cX4_gust 5 = .ok (.iload_n 2, 1) := by decide +kernel
theorem dX4_gust_6 : decode cX4_gust 6 = .ok (.invokestatic 114, 3) := by decide +kernel
theorem dX4_gust_9 : decode cX4_gust 9 = .ok (.ifCond .eq 16, 3) := by decide +kernel
theorem dX4_gust_12 : decode cX4_gust 12 = .ok (.aload_n 0, 1) := by decide +kernel
theorem dX4_gust_13 : decode cX4_gust 13 = .ok (.aload_n 0, 1) := by decide +kernel
theorem dX4_gust_14 : decode cX4_gust 14 = .ok (.iload_n 1, 1) := by decide +kernel
theorem dX4_gust_15 : decode cX4_gust 15 = .ok (.iload_n 2, 1) := by decide +kernel
theorem dX4_gust_16 : decode cX4_gust 16 = .ok (.invokevirtual 117, 3) := by decide +kernel
theorem dX4_gust_19 : decode cX4_gust 19 = .ok (.invokevirtual 111, 3) := by decide +kernel
theorem dX4_gust_22 : decode cX4_gust 22 = .ok (.goto 5, 3) := by decide +kernel
theorem dX4_gust_25 : decode cX4_gust 25 = .ok (.bipush (-2), 2) := by decide +kernel
theorem dX4_gust_27 : decode cX4_gust 27 = .ok (.ireturn, 1) := by decide +kernel
set_option maxRecDepth 20000 in
theorem ggX4_pass_X4_looks : GoodIn wsX4_pass wsX4_looks := goodIn_r _ [5, 6, 7, 33, 34, 35, 36, 37, 38, 39, 40, 41, 42, 43, 44, 45, 46, 47, 48] (by decide +kernel) (by decide +kernel)
set_option maxRecDepth 20000 in
theorem gX4_pass_X4_looks : GoodIn wsX4_pass (wsV RX4 43 RX4 yX4_looks wsX4_looks) := goodIn_app (goodIn_of _ (by decide +kernel)) ggX4_pass_X4_looks
set_option maxRecDepth 20000 in
theorem ggX4_pass_X4_in : GoodIn wsX4_pass wsX4_in := goodIn_r _ [10] (by decide +kernel) (by decide +kernel)
set_option maxRecDepth 20000 in
theorem gX4_pass_X4_in : GoodIn wsX4_pass (va_wsS RX4 32 yX4_in wsX4_in) := goodIn_app (goodIn_of _ (by decide +kernel)) ggX4_pass_X4_in
set_option maxRecDepth 20000 in
theorem ggX4_pass_X4_passes : GoodIn wsX4_pass wsX4_passes := goodIn_r _ [14, 7, 15, 16, 17, 18, 4, 19, 20, 21, 22, 33, 34, 35, 36, 37, 38, 39, 40, 41, 42, 43, 44, 45, 46, 47, 48] (by decide +kernel) (by decide +kernel)
set_option maxRecDepth 20000 in
theorem gX4_pass_X4_passes : GoodIn wsX4_pass (wsV RX4 120 RX4 yX4_passes wsX4_passes) := goodIn_app (goodIn_of _ (by decide +kernel)) ggX4_pass_X4_passes
set_option maxRecDepth 20000 in
theorem ggX4_pass_X4_acted : GoodIn wsX4_pass wsX4_acted := goodIn_r _ [26, 27, 28, 29, 4, 30, 31, 32, 6, 33, 34, 35, 36, 37, 38, 39, 40, 41, 42, 43, 44, 45, 46, 47, 48] (by decide +kernel) (by decide +kernel)
set_option maxRecDepth 20000 in
theorem gX4_pass_X4_acted : GoodIn wsX4_pass (wsV RX4 111 RX4 yX4_acted wsX4_acted) := goodIn_app (goodIn_of _ (by decide +kernel)) ggX4_pass_X4_acted
theorem dX4_pass_0 : decode cX4_pass 0 = .ok (.aload_n 0, 1) := by decide +kernel
theorem dX4_pass_1 : decode cX4_pass 1 = .ok (.invokevirtual 43, 3) := by decide +kernel
theorem dX4_pass_4 : decode cX4_pass 4 = .ok (.iload_n 1, 1) := by decide +kernel
theorem dX4_pass_5 : decode cX4_pass 5 = .ok (.iconst 1, 1) := by decide +kernel
theorem dX4_pass_6 : decode cX4_pass 6 = .ok (.bipush 99, 2) := by decide +kernel
theorem dX4_pass_8 : decode cX4_pass 8 = .ok (.invokestatic 32, 3) := by decide +kernel
theorem dX4_pass_11 : decode cX4_pass 11 = .ok (.ifCond .eq 15, 3) := by decide +kernel
theorem dX4_pass_14 : decode cX4_pass 14 = .ok (.aload_n 0, 1) := by decide +kernel
theorem dX4_pass_15 : decode cX4_pass 15 = .ok (.aload_n 0, 1) := by decide +kernel
theorem dX4_pass_16 : decode cX4_pass 16 = .ok (.iload_n 1, 1) := by decide +kernel
theorem dX4_pass_17 : decode cX4_pass 17 = .ok (.invokevirtual 120, 3) := by decide +kernel
theorem dX4_pass_20 : decode cX4_pass 20 = .ok (.invokevirtual 111, 3) := by decide +kernel
theorem dX4_pass_23 : decode cX4_pass 23 = .ok (.goto 5, 3) := by decide +kernel
theorem dX4_pass_26 : decode cX4_pass 26 = .ok (.bipush (-2), 2) := by decide +kernel
theorem dX4_pass_28 : decode cX4_pass 28 = .ok (.ireturn, 1) := by decide +kernel
set_option maxRecDepth 20000 in
theorem ggX4_serve_X4_looks : GoodIn wsX4_serve wsX4_looks := goodIn_r _ [5, 6, 7, 45, 46, 47, 48, 49, 50, 51, 52, 53, 54, 55, 56, 57, 58, 59, 60] (by decide +kernel) (by decide +kernel)
set_option maxRecDepth 20000 in
theorem gX4_serve_X4_looks : GoodIn wsX4_serve (wsV RX4 43 RX4 yX4_looks wsX4_looks) := goodIn_app (goodIn_of _ (by decide +kernel)) ggX4_serve_X4_looks
set_option maxRecDepth 20000 in
theorem ggX4_serve_X4_serves : GoodIn wsX4_serve wsX4_serves := goodIn_r _ [11, 7, 12, 13, 14, 4, 15, 16, 17, 18, 19, 20, 21, 22, 23, 24, 25, 26, 27, 28, 29, 30, 31, 32, 33, 34, 45, 46, 47, 48, 49, 50, 51, 52, 53, 54, 55, 56, 57, 58, 59, 60] (by decide +kernel) (by decide +kernel)
set_option maxRecDepth 20000 in
theorem gX4_serve_X4_serves : GoodIn wsX4_serve (wsV RX4 123 RX4 yX4_serves wsX4_serves) := goodIn_app (goodIn_of _ (by decide +kernel)) ggX4_serve_X4_serves
set_option maxRecDepth 20000 in
theorem ggX4_serve_X4_acted : GoodIn wsX4_serve wsX4_acted := goodIn_r _ [38, 39, 40, 41, 4, 42, 43, 44, 6, 45, 46, 47, 48, 49, 50, 51, 52, 53, 54, 55, 56, 57, 58, 59, 60] (by decide +kernel) (by decide +kernel)
set_option maxRecDepth 20000 in
theorem gX4_serve_X4_acted : GoodIn wsX4_serve (wsV RX4 111 RX4 yX4_acted wsX4_acted) := goodIn_app (goodIn_of _ (by decide +kernel)) ggX4_serve_X4_acted
theorem dX4_serve_0 : decode cX4_serve 0 = .ok (.aload_n 0, 1) := by decide +kernel
theorem dX4_serve_1 : decode cX4_serve 1 = .ok (.invokevirtual 43, 3) := by decide +kernel
theorem dX4_serve_4 : decode cX4_serve 4 = .ok (.aload_n 0, 1) := by decide +kernel
theorem dX4_serve_5 : decode cX4_serve 5 = .ok (.aload_n 0, 1) := by decide +kernel
theorem dX4_serve_6 : decode cX4_serve 6 = .ok (.invokevirtual 123, 3) := by decide +kernel
theorem dX4_serve_9 : decode cX4_serve 9 = .ok (.invokevirtual 111, 3) := by decide +kernel
theorem dX4_serve_12 : decode cX4_serve 12 = .ok (.ireturn, 1) := by decide +kernel
theorem dX4_type_0 : decode cX4_type 0 = .ok (.aload_n 0, 1) := by decide +kernel
theorem dX4_type_1 : decode cX4_type 1 = .ok (.getfield 126, 3) := by decide +kernel
theorem dX4_type_4 : decode cX4_type 4 = .ok (.bipush 60, 2) := by decide +kernel
theorem dX4_type_6 : decode cX4_type 6 = .ok (.if_icmp .ne 6, 3) := by decide +kernel
theorem dX4_type_9 : decode cX4_type 9 = .ok (.bipush (-3), 2) := by decide +kernel
theorem dX4_type_11 : decode cX4_type 11 = .ok (.ireturn, 1) := by decide +kernel
theorem dX4_type_12 : decode cX4_type 12 = .ok (.aload_n 0, 1) := by decide +kernel
theorem dX4_type_13 : decode cX4_type 13 = .ok (.getfield 22, 3) := by decide +kernel
theorem dX4_type_16 : decode cX4_type 16 = .ok (.aload_n 0, 1) := by decide +kernel
theorem dX4_type_17 : decode cX4_type 17 = .ok (.getfield 126, 3) := by decide +kernel
theorem dX4_type_20 : decode cX4_type 20 = .ok (.iload_n 1, 1) := by decide +kernel
theorem dX4_type_21 : decode cX4_type 21 = .ok (.iastore, 1) := by decide +kernel
theorem dX4_type_22 : decode cX4_type 22 = .ok (.aload_n 0, 1) := by decide +kernel
theorem dX4_type_23 : decode cX4_type 23 = .ok (.dup, 1) := by decide +kernel
theorem dX4_type_24 : decode cX4_type 24 = .ok (.getfield 126, 3) := by decide +kernel
theorem dX4_type_27 : decode cX4_type 27 = .ok (.iconst 1, 1) := by decide +kernel
theorem dX4_type_28 : decode cX4_type 28 = .ok (.iadd, 1) := by decide +kernel
theorem dX4_type_29 : decode cX4_type 29 = .ok (.putfield 126, 3) := by decide +kernel
theorem dX4_type_32 : decode cX4_type 32 = .ok (.aload_n 0, 1) := by decide +kernel
theorem dX4_type_33 : decode cX4_type 33 = .ok (.getfield 126, 3) := by decide +kernel
theorem dX4_type_36 : decode cX4_type 36 = .ok (.ireturn, 1) := by decide +kernel
theorem dX4_clearText_0 : decode cX4_clearText 0 = .ok (.aload_n 0, 1) := by decide +kernel
theorem dX4_clearText_1 : decode cX4_clearText 1 = .ok (.getfield 126, 3) := by decide +kernel
theorem dX4_clearText_4 : decode cX4_clearText 4 = .ok (.istore_n 1, 1) := by decide +kernel
theorem dX4_clearText_5 : decode cX4_clearText 5 = .ok (.aload_n 0, 1) := by decide +kernel
theorem dX4_clearText_6 : decode cX4_clearText 6 = .ok (.iconst 0, 1) := by decide +kernel
theorem dX4_clearText_7 : decode cX4_clearText 7 = .ok (.putfield 126, 3) := by decide +kernel
theorem dX4_clearText_10 : decode cX4_clearText 10 = .ok (.iload_n 1, 1) := by decide +kernel
theorem dX4_clearText_11 : decode cX4_clearText 11 = .ok (.ireturn, 1) := by decide +kernel
set_option maxRecDepth 20000 in
theorem ggX4_isNext_X4_in : GoodIn wsX4_isNext wsX4_in := goodIn_r _ [8] (by decide +kernel) (by decide +kernel)
set_option maxRecDepth 20000 in
theorem gX4_isNext_X4_in : GoodIn wsX4_isNext (va_wsS RX4 32 yX4_in wsX4_in) := goodIn_app (goodIn_of _ (by decide +kernel)) ggX4_isNext_X4_in
theorem dX4_isNext_0 : decode cX4_isNext 0 = .ok (.aload_n 0, 1) := by decide +kernel
theorem dX4_isNext_1 : decode cX4_isNext 1 = .ok (.getfield 129, 3) := by decide +kernel
theorem dX4_isNext_4 : decode cX4_isNext 4 = .ok (.ifCond .ne 35, 3) := by decide +kernel
theorem dX4_isNext_7 : decode cX4_isNext 7 = .ok (.aload_n 0, 1) := by decide +kernel
theorem dX4_isNext_8 : decode cX4_isNext 8 = .ok (.getfield 133, 3) := by decide +kernel
theorem dX4_isNext_11 : decode cX4_isNext 11 = .ok (.aload_n 0, 1) := by decide +kernel
theorem dX4_isNext_12 : decode cX4_isNext 12 = .ok (.getfield 126, 3) := by decide +kernel
theorem dX4_isNext_15 : decode cX4_isNext 15 = .ok (.if_icmp .ge 24, 3) := by decide +kernel
theorem dX4_isNext_18 : decode cX4_isNext 18 = .ok (.aload_n 0, 1) := by decide +kernel
theorem dX4_isNext_19 : decode cX4_isNext 19 = .ok (.getfield 22, 3) := by decide +kernel
theorem dX4_isNext_22 : decode cX4_isNext 22 = .ok (.aload_n 0, 1) := by decide +kernel
theorem dX4_isNext_23 : decode cX4_isNext 23 = .ok (.getfield 133, 3) := by decide +kernel
theorem dX4_isNext_26 : decode cX4_isNext 26 = .ok (.iaload, 1) := by decide +kernel
theorem dX4_isNext_27 : decode cX4_isNext 27 = .ok (.iload_n 1, 1) := by decide +kernel
theorem dX4_isNext_28 : decode cX4_isNext 28 = .ok (.iload_n 2, 1) := by decide +kernel
theorem dX4_isNext_29 : decode cX4_isNext 29 = .ok (.invokestatic 32, 3) := by decide +kernel
theorem dX4_isNext_32 : decode cX4_isNext 32 = .ok (.ifCond .eq 7, 3) := by decide +kernel
theorem dX4_isNext_35 : decode cX4_isNext 35 = .ok (.iconst 1, 1) := by decide +kernel
theorem dX4_isNext_36 : decode cX4_isNext 36 = .ok (.goto 4, 3) := by decide +kernel
theorem dX4_isNext_39 : decode cX4_isNext 39 = .ok (.iconst 0, 1) := by decide +kernel
theorem dX4_isNext_40 : decode cX4_isNext 40 = .ok (.ireturn, 1) := by decide +kernel
set_option maxRecDepth 20000 in
theorem ggX4_takes_X4_in : GoodIn wsX4_takes wsX4_in := goodIn_r _ [8] (by decide +kernel) (by decide +kernel)
set_option maxRecDepth 20000 in
theorem gX4_takes_X4_in : GoodIn wsX4_takes (va_wsS RX4 32 yX4_in wsX4_in) := goodIn_app (goodIn_of _ (by decide +kernel)) ggX4_takes_X4_in
theorem dX4_takes_0 : decode cX4_takes 0 = .ok (.aload_n 0, 1) := by decide +kernel
theorem dX4_takes_1 : decode cX4_takes 1 = .ok (.getfield 133, 3) := by decide +kernel
theorem dX4_takes_4 : decode cX4_takes 4 = .ok (.aload_n 0, 1) := by decide +kernel
theorem dX4_takes_5 : decode cX4_takes 5 = .ok (.getfield 126, 3) := by decide +kernel
theorem dX4_takes_8 : decode cX4_takes 8 = .ok (.if_icmp .ge 15, 3) := by decide +kernel
theorem dX4_takes_11 : decode cX4_takes 11 = .ok (.aload_n 0, 1) := by decide +kernel
theorem dX4_takes_12 : decode cX4_takes 12 = .ok (.getfield 22, 3) := by decide +kernel
theorem dX4_takes_15 : decode cX4_takes 15 = .ok (.aload_n 0, 1) := by decide +kernel
theorem dX4_takes_16 : decode cX4_takes 16 = .ok (.getfield 133, 3) := by decide +kernel
theorem dX4_takes_19 : decode cX4_takes 19 = .ok (.iaload, 1) := by decide +kernel
theorem dX4_takes_20 : decode cX4_takes 20 = .ok (.goto 4, 3) := by decide +kernel
theorem dX4_takes_23 : decode cX4_takes 23 = .ok (.iconst 0, 1) := by decide +kernel
theorem dX4_takes_24 : decode cX4_takes 24 = .ok (.istore_n 3, 1) := by decide +kernel
theorem dX4_takes_25 : decode cX4_takes 25 = .ok (.aload_n 0, 1) := by decide +kernel
theorem dX4_takes_26 : decode cX4_takes 26 = .ok (.aload_n 0, 1) := by decide +kernel
theorem dX4_takes_27 : decode cX4_takes 27 = .ok (.getfield 129, 3) := by decide +kernel
theorem dX4_takes_30 : decode cX4_takes 30 = .ok (.ifCond .ne 12, 3) := by decide +kernel
theorem dX4_takes_33 : decode cX4_takes 33 = .ok (.iload_n 3, 1) := by decide +kernel
theorem dX4_takes_34 : decode cX4_takes 34 = .ok (.iload_n 1, 1) := by decide +kernel
theorem dX4_takes_35 : decode cX4_takes 35 = .ok (.iload_n 2, 1) := by decide +kernel
theorem dX4_takes_36 : decode cX4_takes 36 = .ok (.invokestatic 32, 3) := by decide +kernel
theorem dX4_takes_39 : decode cX4_takes 39 = .ok (.ifCond .ne 7, 3) := by decide +kernel
theorem dX4_takes_42 : decode cX4_takes 42 = .ok (.iconst 1, 1) := by decide +kernel
theorem dX4_takes_43 : decode cX4_takes 43 = .ok (.goto 4, 3) := by decide +kernel
theorem dX4_takes_46 : decode cX4_takes 46 = .ok (.iconst 0, 1) := by decide +kernel
theorem dX4_takes_47 : decode cX4_takes 47 = .ok (.putfield 129, 3) := by decide +kernel
theorem dX4_takes_50 : decode cX4_takes 50 = .ok (.aload_n 0, 1) := by decide +kernel
theorem dX4_takes_51 : decode cX4_takes 51 = .ok (.dup, 1) := by decide +kernel
theorem dX4_takes_52 : decode cX4_takes 52 = .ok (.getfield 133, 3) := by decide +kernel
theorem dX4_takes_55 : decode cX4_takes 55 = .ok (.aload_n 0, 1) := by decide +kernel
theorem dX4_takes_56 : decode cX4_takes 56 = .ok (.getfield 129, 3) := by decide +kernel
theorem dX4_takes_59 : decode cX4_takes 59 = .ok (.ifCond .eq 7, 3) := by decide +kernel
theorem dX4_takes_62 : decode cX4_takes 62 = .ok (.iconst 0, 1) := by decide +kernel
theorem dX4_takes_63 : decode cX4_takes 63 = .ok (.goto 4, 3) := by decide +kernel
theorem dX4_takes_66 : decode cX4_takes 66 = .ok (.iconst 1, 1) := by decide +kernel
theorem dX4_takes_67 : decode cX4_takes 67 = .ok (.iadd, 1) := by decide +kernel
theorem dX4_takes_68 : decode cX4_takes 68 = .ok (.putfield 133, 3) := by decide +kernel
theorem dX4_takes_71 : decode cX4_takes 71 = .ok (.iload_n 3, 1) := by decide +kernel
theorem dX4_takes_72 : decode cX4_takes 72 = .ok (.iload_n 1, 1) := by decide +kernel
theorem dX4_takes_73 : decode cX4_takes 73 = .ok (.isub, 1) := by decide +kernel
theorem dX4_takes_74 : decode cX4_takes 74 = .ok (.ireturn, 1) := by decide +kernel
set_option maxRecDepth 20000 in
theorem ggX4_takesNumber_X4_takes : GoodIn wsX4_takesNumber wsX4_takes := goodIn_r _ [7, 2, 8, 1, 9, 10, 11, 6, 12, 17, 18, 19, 20, 21, 22, 23, 24, 25, 26, 27, 28, 29, 30, 31, 32] (by decide +kernel) (by decide +kernel)
set_option maxRecDepth 20000 in
theorem gX4_takesNumber_X4_takes : GoodIn wsX4_takesNumber (wsV RX4 136 RX4 yX4_takes wsX4_takes) := goodIn_app (goodIn_of _ (by decide +kernel)) ggX4_takesNumber_X4_takes
set_option maxRecDepth 20000 in
theorem ggX4_takesNumber_X4_isNext : GoodIn wsX4_takesNumber wsX4_isNext := goodIn_r _ [16, 9, 2, 8, 1, 10, 11, 6, 12, 17, 18, 19, 20, 21, 22, 23, 24, 25, 26, 27, 28, 29, 30, 31, 32] (by decide +kernel) (by decide +kernel)
set_option maxRecDepth 20000 in
theorem gX4_takesNumber_X4_isNext : GoodIn wsX4_takesNumber (wsV RX4 139 RX4 yX4_isNext wsX4_isNext) := goodIn_app (goodIn_of _ (by decide +kernel)) ggX4_takesNumber_X4_isNext
theorem dX4_takesNumber_0 : decode cX4_takesNumber 0 = .ok (.iload_n 1, 1) := by decide +kernel
theorem dX4_takesNumber_1 : decode cX4_takesNumber 1 = .ok (.aload_n 0, 1) := by decide +kernel
theorem dX4_takesNumber_2 : decode cX4_takesNumber 2 = .ok (.bipush 48, 2) := by decide +kernel
theorem dX4_takesNumber_4 : decode cX4_takesNumber 4 = .ok (.iload_n 1, 1) := by decide +kernel
theorem dX4_takesNumber_5 : decode cX4_takesNumber 5 = .ok (.iadd, 1) := by decide +kernel
theorem dX4_takesNumber_6 : decode cX4_takesNumber 6 = .ok (.bipush 57, 2) := by decide +kernel
theorem dX4_takesNumber_8 : decode cX4_takesNumber 8 = .ok (.invokevirtual 136, 3) := by decide +kernel
theorem dX4_takesNumber_11 : decode cX4_takesNumber 11 = .ok (.iadd, 1) := by decide +kernel
theorem dX4_takesNumber_12 : decode cX4_takesNumber 12 = .ok (.istore_n 3, 1) := by decide +kernel
theorem dX4_takesNumber_13 : decode cX4_takesNumber 13 = .ok (.iload_n 3, 1) := by decide +kernel
theorem dX4_takesNumber_14 : decode cX4_takesNumber 14 = .ok (.ifCond .le 7, 3) := by decide +kernel
theorem dX4_takesNumber_17 : decode cX4_takesNumber 17 = .ok (.iconst 1, 1) := by decide +kernel
theorem dX4_takesNumber_18 : decode cX4_takesNumber 18 = .ok (.goto 4, 3) := by decide +kernel
theorem dX4_takesNumber_21 : decode cX4_takesNumber 21 = .ok (.iconst 0, 1) := by decide +kernel
theorem dX4_takesNumber_22 : decode cX4_takesNumber 22 = .ok (.istore 4, 2) := by decide +kernel
theorem dX4_takesNumber_24 : decode cX4_takesNumber 24 = .ok (.iload 4, 2) := by decide +kernel
theorem dX4_takesNumber_26 : decode cX4_takesNumber 26 = .ok (.ifCond .eq 68, 3) := by decide +kernel
theorem dX4_takesNumber_29 : decode cX4_takesNumber 29 = .ok (.aload_n 0, 1) := by decide +kernel
theorem dX4_takesNumber_30 : decode cX4_takesNumber 30 = .ok (.bipush 48, 2) := by decide +kernel
theorem dX4_takesNumber_32 : decode cX4_takesNumber 32 = .ok (.bipush 57, 2) := by decide +kernel
theorem dX4_takesNumber_34 : decode cX4_takesNumber 34 = .ok (.invokevirtual 139, 3) := by decide +kernel
theorem dX4_takesNumber_37 : decode cX4_takesNumber 37 = .ok (.ifCond .eq 28, 3) := by decide +kernel
theorem dX4_takesNumber_40 : decode cX4_takesNumber 40 = .ok (.bipush 10, 2) := by decide +kernel
theorem dX4_takesNumber_42 : decode cX4_takesNumber 42 = .ok (.iload_n 3, 1) := by decide +kernel
theorem dX4_takesNumber_43 : decode cX4_takesNumber 43 = .ok (.imul, 1) := by decide +kernel
theorem dX4_takesNumber_44 : decode cX4_takesNumber 44 = .ok (.aload_n 0, 1) := by decide +kernel
theorem dX4_takesNumber_45 : decode cX4_takesNumber 45 = .ok (.getfield 22, 3) := by decide +kernel
theorem dX4_takesNumber_48 : decode cX4_takesNumber 48 = .ok (.aload_n 0, 1) := by decide +kernel
theorem dX4_takesNumber_49 : decode cX4_takesNumber 49 = .ok (.getfield 133, 3) := by decide +kernel
theorem dX4_takesNumber_52 : decode cX4_takesNumber 52 = .ok (.iaload, 1) := by decide +kernel
theorem dX4_takesNumber_53 : decode cX4_takesNumber 53 = .ok (.iadd, 1) := by decide +kernel
theorem dX4_takesNumber_54 : decode cX4_takesNumber 54 = .ok (.bipush 48, 2) := by decide +kernel
theorem dX4_takesNumber_56 : decode cX4_takesNumber 56 = .ok (.isub, 1) := by decide +kernel
theorem dX4_takesNumber_57 : decode cX4_takesNumber 57 = .ok (.iload_n 2, 1) := by decide +kernel
theorem dX4_takesNumber_58 : decode cX4_takesNumber 58 = .ok (.if_icmp .gt 7, 3) := by decide +kernel
theorem dX4_takesNumber_61 : decode cX4_takesNumber 61 = .ok (.iconst 1, 1) := by decide +kernel
theorem dX4_takesNumber_62 : decode cX4_takesNumber 62 = .ok (.goto 4, 3) := by decide +kernel
theorem dX4_takesNumber_65 : decode cX4_takesNumber 65 = .ok (.iconst 0, 1) := by decide +kernel
theorem dX4_takesNumber_66 : decode cX4_takesNumber 66 = .ok (.istore 4, 2) := by decide +kernel
theorem dX4_takesNumber_68 : decode cX4_takesNumber 68 = .ok (.iload 4, 2) := by decide +kernel
theorem dX4_takesNumber_70 : decode cX4_takesNumber 70 = .ok (.ifCond .eq 19, 3) := by decide +kernel
theorem dX4_takesNumber_73 : decode cX4_takesNumber 73 = .ok (.bipush 10, 2) := by decide +kernel
theorem dX4_takesNumber_75 : decode cX4_takesNumber 75 = .ok (.iload_n 3, 1) := by decide +kernel
theorem dX4_takesNumber_76 : decode cX4_takesNumber 76 = .ok (.imul, 1) := by decide +kernel
theorem dX4_takesNumber_77 : decode cX4_takesNumber 77 = .ok (.aload_n 0, 1) := by decide +kernel
theorem dX4_takesNumber_78 : decode cX4_takesNumber 78 = .ok (.bipush 48, 2) := by decide +kernel
theorem dX4_takesNumber_80 : decode cX4_takesNumber 80 = .ok (.bipush 57, 2) := by decide +kernel
theorem dX4_takesNumber_82 : decode cX4_takesNumber 82 = .ok (.invokevirtual 136, 3) := by decide +kernel
theorem dX4_takesNumber_85 : decode cX4_takesNumber 85 = .ok (.iadd, 1) := by decide +kernel
theorem dX4_takesNumber_86 : decode cX4_takesNumber 86 = .ok (.goto 4, 3) := by decide +kernel
theorem dX4_takesNumber_89 : decode cX4_takesNumber 89 = .ok (.iload_n 3, 1) := by decide +kernel
theorem dX4_takesNumber_90 : decode cX4_takesNumber 90 = .ok (.istore_n 3, 1) := by decide +kernel
theorem dX4_takesNumber_91 : decode cX4_takesNumber 91 = .ok (.goto (-67), 3) := by decide +kernel
theorem dX4_takesNumber_94 : decode cX4_takesNumber 94 = .ok (.iload_n 3, 1) := by decide +kernel
theorem dX4_takesNumber_95 : decode cX4_takesNumber 95 = .ok (.ireturn, 1) := by decide +kernel
set_option maxRecDepth 20000 in
theorem ggX4_readThing_X4_takesNumber : GoodIn wsX4_readThing wsX4_takesNumber := goodIn_r _ [12, 3, 1, 13, 14, 15, 11, 16, 2, 5, 17, 18, 19, 20, 21, 22, 23, 24, 25, 26, 27, 28, 29, 30, 31, 32, 33, 34, 35, 36, 37, 38, 39] (by decide +kernel) (by decide +kernel)
set_option maxRecDepth 20000 in
theorem gX4_readThing_X4_takesNumber : GoodIn wsX4_readThing (wsV RX4 145 RX4 yX4_takesNumber wsX4_takesNumber) := goodIn_app (goodIn_of _ (by decide +kernel)) ggX4_readThing_X4_takesNumber
set_option maxRecDepth 20000 in
theorem ggX4_readThing_X4_isNext : GoodIn wsX4_readThing wsX4_isNext := goodIn_r _ [23, 5, 1, 2, 3, 17, 18, 11, 19, 24, 25, 26, 27, 28, 29, 30, 31, 32, 33, 34, 35, 36, 37, 38, 39] (by decide +kernel) (by decide +kernel)
set_option maxRecDepth 20000 in
theorem gX4_readThing_X4_isNext : GoodIn wsX4_readThing (wsV RX4 139 RX4 yX4_isNext wsX4_isNext) := goodIn_app (goodIn_of _ (by decide +kernel)) ggX4_readThing_X4_isNext
theorem dX4_readThing_0 : decode cX4_readThing 0 = .ok (.aload_n 0, 1) := by decide +kernel
theorem dX4_readThing_1 : decode cX4_readThing 1 = .ok (.aload_n 0, 1) := by decide +kernel
theorem dX4_readThing_2 : decode cX4_readThing 2 = .ok (.getfield 133, 3) := by decide +kernel
theorem dX4_readThing_5 : decode cX4_readThing 5 = .ok (.aload_n 0, 1) := by decide +kernel
theorem dX4_readThing_6 : decode cX4_readThing 6 = .ok (.getfield 126, 3) := by decide +kernel
theorem dX4_readThing_9 : decode cX4_readThing 9 = .ok (.if_icmp .ge 15, 3) := by decide +kernel
theorem dX4_readThing_12 : decode cX4_readThing 12 = .ok (.aload_n 0, 1) := by decide +kernel
theorem dX4_readThing_13 : decode cX4_readThing 13 = .ok (.getfield 22, 3) := by decide +kernel
theorem dX4_readThing_16 : decode cX4_readThing 16 = .ok (.aload_n 0, 1) := by decide +kernel
theorem dX4_readThing_17 : decode cX4_readThing 17 = .ok (.getfield 133, 3) := by decide +kernel
theorem dX4_readThing_20 : decode cX4_readThing 20 = .ok (.iaload, 1) := by decide +kernel
theorem dX4_readThing_21 : decode cX4_readThing 21 = .ok (.goto 4, 3) := by decide +kernel
theorem dX4_readThing_24 : decode cX4_readThing 24 = .ok (.iconst 0, 1) := by decide +kernel
theorem dX4_readThing_25 : decode cX4_readThing 25 = .ok (.putfield 142, 3) := by decide +kernel
theorem dX4_readThing_28 : decode cX4_readThing 28 = .ok (.aload_n 0, 1) := by decide +kernel
theorem dX4_readThing_29 : decode cX4_readThing 29 = .ok (.aload_n 0, 1) := by decide +kernel
theorem dX4_readThing_30 : decode cX4_readThing 30 = .ok (.getfield 129, 3) := by decide +kernel
theorem dX4_readThing_33 : decode cX4_readThing 33 = .ok (.ifCond .ne 39, 3) := by decide +kernel
theorem dX4_readThing_36 : decode cX4_readThing 36 = .ok (.aload_n 0, 1) := by decide +kernel
theorem dX4_readThing_37 : decode cX4_readThing 37 = .ok (.getfield 142, 3) := by decide +kernel
theorem dX4_readThing_40 : decode cX4_readThing 40 = .ok (.bipush 103, 2) := by decide +kernel
theorem dX4_readThing_42 : decode cX4_readThing 42 = .ok (.if_icmp .eq 34, 3) := by decide +kernel
theorem dX4_readThing_45 : decode cX4_readThing 45 = .ok (.aload_n 0, 1) := by decide +kernel
theorem dX4_readThing_46 : decode cX4_readThing 46 = .ok (.getfield 142, 3) := by decide +kernel
theorem dX4_readThing_49 : decode cX4_readThing 49 = .ok (.bipush 46, 2) := by decide +kernel
theorem dX4_readThing_51 : decode cX4_readThing 51 = .ok (.if_icmp .eq 25, 3) := by decide +kernel
theorem dX4_readThing_54 : decode cX4_readThing 54 = .ok (.aload_n 0, 1) := by decide +kernel
theorem dX4_readThing_55 : decode cX4_readThing 55 = .ok (.getfield 142, 3) := by decide +kernel
theorem dX4_readThing_58 : decode cX4_readThing 58 = .ok (.bipush 99, 2) := by decide +kernel
theorem dX4_readThing_60 : decode cX4_readThing 60 = .ok (.if_icmp .eq 16, 3) := by decide +kernel
theorem dX4_readThing_63 : decode cX4_readThing 63 = .ok (.aload_n 0, 1) := by decide +kernel
theorem dX4_readThing_64 : decode cX4_readThing 64 = .ok (.getfield 142, 3) := by decide +kernel
theorem dX4_readThing_67 : decode cX4_readThing 67 = .ok (.bipush 120, 2) := by decide +kernel
theorem dX4_readThing_69 : decode cX4_readThing 69 = .ok (.if_icmp .eq 7, 3) := by decide +kernel
theorem dX4_readThing_72 : decode cX4_readThing 72 = .ok (.iconst 1, 1) := by decide +kernel
theorem dX4_readThing_73 : decode cX4_readThing 73 = .ok (.goto 4, 3) := by decide +kernel
theorem dX4_readThing_76 : decode cX4_readThing 76 = .ok (.iconst 0, 1) := by decide +kernel
theorem dX4_readThing_77 : decode cX4_readThing 77 = .ok (.putfield 129, 3) := by decide +kernel
theorem dX4_readThing_80 : decode cX4_readThing 80 = .ok (.aload_n 0, 1) := by decide +kernel
theorem dX4_readThing_81 : decode cX4_readThing 81 = .ok (.dup, 1) := by decide +kernel
theorem dX4_readThing_82 : decode cX4_readThing 82 = .ok (.getfield 133, 3) := by decide +kernel
theorem dX4_readThing_85 : decode cX4_readThing 85 = .ok (.aload_n 0, 1) := by decide +kernel
theorem dX4_readThing_86 : decode cX4_readThing 86 = .ok (.getfield 129, 3) := by decide +kernel
theorem dX4_readThing_89 : decode cX4_readThing 89 = .ok (.ifCond .eq 7, 3) := by decide +kernel
theorem dX4_readThing_92 : decode cX4_readThing 92 = .ok (.iconst 0, 1) := by decide +kernel
theorem dX4_readThing_93 : decode cX4_readThing 93 = .ok (.goto 4, 3) := by decide +kernel
theorem dX4_readThing_96 : decode cX4_readThing 96 = .ok (.iconst 1, 1) := by decide +kernel
theorem dX4_readThing_97 : decode cX4_readThing 97 = .ok (.iadd, 1) := by decide +kernel
theorem dX4_readThing_98 : decode cX4_readThing 98 = .ok (.putfield 133, 3) := by decide +kernel
theorem dX4_readThing_101 : decode cX4_readThing 101 = .ok (.aload_n 0, 1) := by decide +kernel
theorem dX4_readThing_102 : decode cX4_readThing 102 = .ok (.aload_n 0, 1) := by decide +kernel
theorem dX4_readThing_103 : decode cX4_readThing 103 = .ok (.getfield 142, 3) := by decide +kernel
theorem dX4_readThing_106 : decode cX4_readThing 106 = .ok (.bipush 99, 2) := by decide +kernel
theorem dX4_readThing_108 : decode cX4_readThing 108 = .ok (.if_icmp .ne 7, 3) := by decide +kernel
theorem dX4_readThing_111 : decode cX4_readThing 111 = .ok (.iconst 0, 1) := by decide +kernel
theorem dX4_readThing_112 : decode cX4_readThing 112 = .ok (.goto 29, 3) := by decide +kernel
theorem dX4_readThing_115 : decode cX4_readThing 115 = .ok (.aload_n 0, 1) := by decide +kernel
theorem dX4_readThing_116 : decode cX4_readThing 116 = .ok (.getfield 142, 3) := by decide +kernel
theorem dX4_readThing_119 : decode cX4_readThing 119 = .ok (.bipush 120, 2) := by decide +kernel
theorem dX4_readThing_121 : decode cX4_readThing 121 = .ok (.if_icmp .ne 13, 3) := by decide +kernel
theorem dX4_readThing_124 : decode cX4_readThing 124 = .ok (.aload_n 0, 1) := by decide +kernel
theorem dX4_readThing_125 : decode cX4_readThing 125 = .ok (.iconst 0, 1) := by decide +kernel
theorem dX4_readThing_126 : decode cX4_readThing 126 = .ok (.bipush 15, 2) := by decide +kernel
theorem dX4_readThing_128 : decode cX4_readThing 128 = .ok (.invokevirtual 145, 3) := by decide +kernel
theorem dX4_readThing_131 : decode cX4_readThing 131 = .ok (.goto 10, 3) := by decide +kernel
theorem dX4_readThing_134 : decode cX4_readThing 134 = .ok (.aload_n 0, 1) := by decide +kernel
theorem dX4_readThing_135 : decode cX4_readThing 135 = .ok (.iconst 1, 1) := by decide +kernel
theorem dX4_readThing_136 : decode cX4_readThing 136 = .ok (.bipush 99, 2) := by decide +kernel
theorem dX4_readThing_138 : decode cX4_readThing 138 = .ok (.invokevirtual 145, 3) := by decide +kernel
theorem dX4_readThing_141 : decode cX4_readThing 141 = .ok (.putfield 148, 3) := by decide +kernel
theorem dX4_readThing_144 : decode cX4_readThing 144 = .ok (.aload_n 0, 1) := by decide +kernel
theorem dX4_readThing_145 : decode cX4_readThing 145 = .ok (.aload_n 0, 1) := by decide +kernel
theorem dX4_readThing_146 : decode cX4_readThing 146 = .ok (.getfield 142, 3) := by decide +kernel
theorem dX4_readThing_149 : decode cX4_readThing 149 = .ok (.bipush 103, 2) := by decide +kernel
theorem dX4_readThing_151 : decode cX4_readThing 151 = .ok (.if_icmp .ne 18, 3) := by decide +kernel
theorem dX4_readThing_154 : decode cX4_readThing 154 = .ok (.aload_n 0, 1) := by decide +kernel
theorem dX4_readThing_155 : decode cX4_readThing 155 = .ok (.bipush 60, 2) := by decide +kernel
theorem dX4_readThing_157 : decode cX4_readThing 157 = .ok (.bipush 60, 2) := by decide +kernel
theorem dX4_readThing_159 : decode cX4_readThing 159 = .ok (.invokevirtual 139, 3) := by decide +kernel
theorem dX4_readThing_162 : decode cX4_readThing 162 = .ok (.ifCond .eq 7, 3) := by decide +kernel
theorem dX4_readThing_165 : decode cX4_readThing 165 = .ok (.iconst 1, 1) := by decide +kernel
theorem dX4_readThing_166 : decode cX4_readThing 166 = .ok (.goto 28, 3) := by decide +kernel
theorem dX4_readThing_169 : decode cX4_readThing 169 = .ok (.aload_n 0, 1) := by decide +kernel
theorem dX4_readThing_170 : decode cX4_readThing 170 = .ok (.getfield 142, 3) := by decide +kernel
theorem dX4_readThing_173 : decode cX4_readThing 173 = .ok (.bipush 103, 2) := by decide +kernel
theorem dX4_readThing_175 : decode cX4_readThing 175 = .ok (.if_icmp .ne 18, 3) := by decide +kernel
theorem dX4_readThing_178 : decode cX4_readThing 178 = .ok (.aload_n 0, 1) := by decide +kernel
theorem dX4_readThing_179 : decode cX4_readThing 179 = .ok (.bipush 62, 2) := by decide +kernel
theorem dX4_readThing_181 : decode cX4_readThing 181 = .ok (.bipush 62, 2) := by decide +kernel
theorem dX4_readThing_183 : decode cX4_readThing 183 = .ok (.invokevirtual 139, 3) := by decide +kernel
theorem dX4_readThing_186 : decode cX4_readThing 186 = .ok (.ifCond .eq 7, 3) := by decide +kernel
theorem dX4_readThing_189 : decode cX4_readThing 189 = .ok (.iconst 2, 1) := by decide +kernel
theorem dX4_readThing_190 : decode cX4_readThing 190 = .ok (.goto 4, 3) := by decide +kernel
theorem dX4_readThing_193 : decode cX4_readThing 193 = .ok (.iconst 0, 1) := by decide +kernel
theorem dX4_readThing_194 : decode cX4_readThing 194 = .ok (.putfield 151, 3) := by decide +kernel
theorem dX4_readThing_197 : decode cX4_readThing 197 = .ok (.aload_n 0, 1) := by decide +kernel
theorem dX4_readThing_198 : decode cX4_readThing 198 = .ok (.dup, 1) := by decide +kernel
theorem dX4_readThing_199 : decode cX4_readThing 199 = .ok (.getfield 133, 3) := by decide +kernel
theorem dX4_readThing_202 : decode cX4_readThing 202 = .ok (.aload_n 0, 1) := by decide +kernel
theorem dX4_readThing_203 : decode cX4_readThing 203 = .ok (.getfield 151, 3) := by decide +kernel
theorem dX4_readThing_206 : decode cX4_readThing 206 = .ok (.ifCond .le 7, 3) := by decide +kernel
theorem dX4_readThing_209 : decode cX4_readThing 209 = .ok (.iconst 1, 1) := by decide +kernel
theorem dX4_readThing_210 : decode cX4_readThing 210 = .ok (.goto 4, 3) := by decide +kernel
theorem dX4_readThing_213 : decode cX4_readThing 213 = .ok (.iconst 0, 1) := by decide +kernel
theorem dX4_readThing_214 : decode cX4_readThing 214 = .ok (.iadd, 1) := by decide +kernel
theorem dX4_readThing_215 : decode cX4_readThing 215 = .ok (.putfield 133, 3) := by decide +kernel
theorem dX4_readThing_218 : decode cX4_readThing 218 = .ok (.return_, 1) := by decide +kernel
set_option maxRecDepth 20000 in
theorem ggX4_does_X4_gusts : GoodIn wsX4_does wsX4_gusts := goodIn_r _ [8, 9, 10, 11, 7, 12, 13, 14, 15, 16, 17, 18, 19, 20, 21, 22, 23, 24, 25, 26, 27, 28, 29, 30, 31, 32, 33, 34, 35, 36, 37, 38, 39, 40, 41, 42, 43, 44, 45, 46, 47, 48, 49, 50, 51, 93, 94, 95, 96, 97, 98, 99, 100, 101, 102, 103, 104, 105, 106, 107, 108] (by decide +kernel) (by decide +kernel)
set_option maxRecDepth 20000 in
theorem gX4_does_X4_gusts : GoodIn wsX4_does (wsV RX4 117 RX4 yX4_gusts wsX4_gusts) := goodIn_app (goodIn_of _ (by decide +kernel)) ggX4_does_X4_gusts
set_option maxRecDepth 20000 in
theorem ggX4_does_X4_passes : GoodIn wsX4_does wsX4_passes := goodIn_r _ [55, 9, 56, 17, 18, 19, 7, 20, 10, 11, 12, 93, 94, 95, 96, 97, 98, 99, 100, 101, 102, 103, 104, 105, 106, 107, 108] (by decide +kernel) (by decide +kernel)
set_option maxRecDepth 20000 in
theorem gX4_does_X4_passes : GoodIn wsX4_does (wsV RX4 120 RX4 yX4_passes wsX4_passes) := goodIn_app (goodIn_of _ (by decide +kernel)) ggX4_does_X4_passes
set_option maxRecDepth 20000 in
theorem ggX4_does_X4_serves : GoodIn wsX4_does wsX4_serves := goodIn_r _ [60, 9, 61, 62, 63, 7, 64, 65, 66, 67, 68, 69, 70, 71, 72, 17, 18, 19, 20, 10, 11, 12, 48, 49, 50, 51, 93, 94, 95, 96, 97, 98, 99, 100, 101, 102, 103, 104, 105, 106, 107, 108] (by decide +kernel) (by decide +kernel)
set_option maxRecDepth 20000 in
theorem gX4_does_X4_serves : GoodIn wsX4_does (wsV RX4 123 RX4 yX4_serves wsX4_serves) := goodIn_app (goodIn_of _ (by decide +kernel)) ggX4_does_X4_serves
set_option maxRecDepth 20000 in
theorem ggX4_does_X4_swaps : GoodIn wsX4_does wsX4_swaps := goodIn_r _ [76, 9, 77, 78, 79, 7, 80, 81, 82, 83, 84, 41, 42, 43, 85, 86, 87, 88, 17, 18, 19, 20, 10, 11, 12, 89, 90, 91, 92, 93, 94, 95, 96, 97, 98, 99, 100, 101, 102, 103, 104, 105, 106, 107, 108] (by decide +kernel) (by decide +kernel)
set_option maxRecDepth 20000 in
theorem gX4_does_X4_swaps : GoodIn wsX4_does (wsV RX4 108 RX4 yX4_swaps wsX4_swaps) := goodIn_app (goodIn_of _ (by decide +kernel)) ggX4_does_X4_swaps
theorem dX4_does_0 : decode cX4_does 0 = .ok (.aload_n 0, 1) := by decide +kernel
theorem dX4_does_1 : decode cX4_does 1 = .ok (.getfield 142, 3) := by decide +kernel
theorem dX4_does_4 : decode cX4_does 4 = .ok (.lookupswitch 63 #[(46, 49), (99, 58), (103, 36)], 36) := by decide +kernel
theorem dX4_does_40 : decode cX4_does 40 = .ok (.aload_n 0, 1) := by decide +kernel
theorem dX4_does_41 : decode cX4_does 41 = .ok (.aload_n 0, 1) := by decide +kernel
theorem dX4_does_42 : decode cX4_does 42 = .ok (.getfield 148, 3) := by decide +kernel
theorem dX4_does_45 : decode cX4_does 45 = .ok (.aload_n 0, 1) := by decide +kernel
theorem dX4_does_46 : decode cX4_does 46 = .ok (.getfield 151, 3) := by decide +kernel
theorem dX4_does_49 : decode cX4_does 49 = .ok (.invokevirtual 117, 3) := by decide +kernel
theorem dX4_does_52 : decode cX4_does 52 = .ok (.ireturn, 1) := by decide +kernel
theorem dX4_does_53 : decode cX4_does 53 = .ok (.aload_n 0, 1) := by decide +kernel
theorem dX4_does_54 : decode cX4_does 54 = .ok (.aload_n 0, 1) := by decide +kernel
theorem dX4_does_55 : decode cX4_does 55 = .ok (.getfield 148, 3) := by decide +kernel
theorem dX4_does_58 : decode cX4_does 58 = .ok (.invokevirtual 120, 3) := by decide +kernel
theorem dX4_does_61 : decode cX4_does 61 = .ok (.ireturn, 1) := by decide +kernel
theorem dX4_does_62 : decode cX4_does 62 = .ok (.aload_n 0, 1) := by decide +kernel
theorem dX4_does_63 : decode cX4_does 63 = .ok (.invokevirtual 123, 3) := by decide +kernel
theorem dX4_does_66 : decode cX4_does 66 = .ok (.ireturn, 1) := by decide +kernel
theorem dX4_does_67 : decode cX4_does 67 = .ok (.aload_n 0, 1) := by decide +kernel
theorem dX4_does_68 : decode cX4_does 68 = .ok (.aload_n 0, 1) := by decide +kernel
theorem dX4_does_69 : decode cX4_does 69 = .ok (.getfield 148, 3) := by decide +kernel
theorem dX4_does_72 : decode cX4_does 72 = .ok (.invokevirtual 108, 3) := by decide +kernel
theorem dX4_does_75 : decode cX4_does 75 = .ok (.ireturn, 1) := by decide +kernel
set_option maxRecDepth 20000 in
theorem ggX4_runs_X4_readThing : GoodIn wsX4_runs wsX4_readThing := goodIn_r _ [9, 1, 4, 10, 11, 2, 12, 13, 14, 15, 16, 8, 17, 18, 19, 20, 21, 22, 23, 24, 25, 26, 27, 28, 118, 119, 120, 121, 122, 123, 124, 125, 126, 127, 128, 129, 130, 131, 132, 133] (by decide +kernel) (by decide +kernel)
set_option maxRecDepth 20000 in
theorem gX4_runs_X4_readThing : GoodIn wsX4_runs (wsV RX4 157 RX4 yX4_readThing wsX4_readThing) := goodIn_app (goodIn_of _ (by decide +kernel)) ggX4_runs_X4_readThing
set_option maxRecDepth 20000 in
theorem ggX4_runs_X4_does : GoodIn wsX4_runs wsX4_does := goodIn_r _ [32, 11, 12, 13, 33, 34, 35, 8, 36, 37, 38, 39, 40, 41, 42, 43, 44, 45, 46, 47, 48, 49, 50, 51, 52, 53, 54, 55, 56, 57, 58, 59, 60, 61, 62, 63, 64, 65, 66, 67, 68, 22, 23, 24, 69, 70, 71, 72, 73, 74, 75, 76, 77, 78, 79, 80, 81, 82, 83, 84, 85, 86, 87, 88, 89, 90, 91, 92, 93, 94, 95, 96, 97, 98, 99, 100, 101, 102, 103, 104, 105, 106, 107, 108, 109, 110, 111, 112, 113, 114, 115, 116, 117, 118, 119, 120, 121, 122, 123, 124, 125, 126, 127, 128, 129, 130, 131, 132, 133] (by decide +kernel) (by decide +kernel)
set_option maxRecDepth 20000 in
theorem gX4_runs_X4_does : GoodIn wsX4_runs (wsV RX4 160 RX4 yX4_does wsX4_does) := goodIn_app (goodIn_of _ (by decide +kernel)) ggX4_runs_X4_does
set_option maxRecDepth 20000 in
theorem ggX4_runs_X4_takes : GoodIn wsX4_runs wsX4_takes := goodIn_r _ [21, 1, 4, 10, 2, 22, 23, 8, 24, 118, 119, 120, 121, 122, 123, 124, 125, 126, 127, 128, 129, 130, 131, 132, 133] (by decide +kernel) (by decide +kernel)
set_option maxRecDepth 20000 in
theorem gX4_runs_X4_takes : GoodIn wsX4_runs (wsV RX4 136 RX4 yX4_takes wsX4_takes) := goodIn_app (goodIn_of _ (by decide +kernel)) ggX4_runs_X4_takes
theorem dX4_runs_0 : decode cX4_runs 0 = .ok (.aload_n 0, 1) := by decide +kernel
theorem dX4_runs_1 : decode cX4_runs 1 = .ok (.iconst 0, 1) := by decide +kernel
theorem dX4_runs_2 : decode cX4_runs 2 = .ok (.putfield 133, 3) := by decide +kernel
theorem dX4_runs_5 : decode cX4_runs 5 = .ok (.aload_n 0, 1) := by decide +kernel
theorem dX4_runs_6 : decode cX4_runs 6 = .ok (.iconst 0, 1) := by decide +kernel
theorem dX4_runs_7 : decode cX4_runs 7 = .ok (.putfield 129, 3) := by decide +kernel
theorem dX4_runs_10 : decode cX4_runs 10 = .ok (.aload_n 0, 1) := by decide +kernel
theorem dX4_runs_11 : decode cX4_runs 11 = .ok (.iconst 0, 1) := by decide +kernel
theorem dX4_runs_12 : decode cX4_runs 12 = .ok (.putfield 154, 3) := by decide +kernel
theorem dX4_runs_15 : decode cX4_runs 15 = .ok (.iconst 0, 1) := by decide +kernel
theorem dX4_runs_16 : decode cX4_runs 16 = .ok (.istore_n 2, 1) := by decide +kernel
theorem dX4_runs_17 : decode cX4_runs 17 = .ok (.iconst 1, 1) := by decide +kernel
theorem dX4_runs_18 : decode cX4_runs 18 = .ok (.istore_n 3, 1) := by decide +kernel
theorem dX4_runs_19 : decode cX4_runs 19 = .ok (.iload_n 3, 1) := by decide +kernel
theorem dX4_runs_20 : decode cX4_runs 20 = .ok (.ifCond .eq 126, 3) := by decide +kernel
theorem dX4_runs_23 : decode cX4_runs 23 = .ok (.aload_n 0, 1) := by decide +kernel
theorem dX4_runs_24 : decode cX4_runs 24 = .ok (.invokevirtual 157, 3) := by decide +kernel
theorem dX4_runs_27 : decode cX4_runs 27 = .ok (.iload_n 1, 1) := by decide +kernel
theorem dX4_runs_28 : decode cX4_runs 28 = .ok (.ifCond .eq 10, 3) := by decide +kernel
theorem dX4_runs_31 : decode cX4_runs 31 = .ok (.aload_n 0, 1) := by decide +kernel
theorem dX4_runs_32 : decode cX4_runs 32 = .ok (.invokevirtual 160, 3) := by decide +kernel
theorem dX4_runs_35 : decode cX4_runs 35 = .ok (.goto 4, 3) := by decide +kernel
theorem dX4_runs_38 : decode cX4_runs 38 = .ok (.iconst 0, 1) := by decide +kernel
theorem dX4_runs_39 : decode cX4_runs 39 = .ok (.istore 4, 2) := by decide +kernel
theorem dX4_runs_41 : decode cX4_runs 41 = .ok (.aload_n 0, 1) := by decide +kernel
theorem dX4_runs_42 : decode cX4_runs 42 = .ok (.iload 4, 2) := by decide +kernel
theorem dX4_runs_44 : decode cX4_runs 44 = .ok (.ifCond .ge 22, 3) := by decide +kernel
theorem dX4_runs_47 : decode cX4_runs 47 = .ok (.iload 4, 2) := by decide +kernel
theorem dX4_runs_49 : decode cX4_runs 49 = .ok (.bipush (-5), 2) := by decide +kernel
theorem dX4_runs_51 : decode cX4_runs 51 = .ok (.if_icmp .eq 15, 3) := by decide +kernel
theorem dX4_runs_54 : decode cX4_runs 54 = .ok (.iload 4, 2) := by decide +kernel
theorem dX4_runs_56 : decode cX4_runs 56 = .ok (.bipush (-10), 2) := by decide +kernel
theorem dX4_runs_58 : decode cX4_runs 58 = .ok (.if_icmp .le 8, 3) := by decide +kernel
theorem dX4_runs_61 : decode cX4_runs 61 = .ok (.iload 4, 2) := by decide +kernel
theorem dX4_runs_63 : decode cX4_runs 63 = .ok (.goto 4, 3) := by decide +kernel
theorem dX4_runs_66 : decode cX4_runs 66 = .ok (.iconst 0, 1) := by decide +kernel
theorem dX4_runs_67 : decode cX4_runs 67 = .ok (.putfield 154, 3) := by decide +kernel
theorem dX4_runs_70 : decode cX4_runs 70 = .ok (.iload_n 2, 1) := by decide +kernel
theorem dX4_runs_71 : decode cX4_runs 71 = .ok (.aload_n 0, 1) := by decide +kernel
theorem dX4_runs_72 : decode cX4_runs 72 = .ok (.getfield 154, 3) := by decide +kernel
theorem dX4_runs_75 : decode cX4_runs 75 = .ok (.ifCond .ge 7, 3) := by decide +kernel
theorem dX4_runs_78 : decode cX4_runs 78 = .ok (.iconst 0, 1) := by decide +kernel
theorem dX4_runs_79 : decode cX4_runs 79 = .ok (.goto 4, 3) := by decide +kernel
theorem dX4_runs_82 : decode cX4_runs 82 = .ok (.iconst 1, 1) := by decide +kernel
theorem dX4_runs_83 : decode cX4_runs 83 = .ok (.iadd, 1) := by decide +kernel
theorem dX4_runs_84 : decode cX4_runs 84 = .ok (.istore_n 2, 1) := by decide +kernel
theorem dX4_runs_85 : decode cX4_runs 85 = .ok (.aload_n 0, 1) := by decide +kernel
theorem dX4_runs_86 : decode cX4_runs 86 = .ok (.getfield 154, 3) := by decide +kernel
theorem dX4_runs_89 : decode cX4_runs 89 = .ok (.ifCond .ne 25, 3) := by decide +kernel
theorem dX4_runs_92 : decode cX4_runs 92 = .ok (.aload_n 0, 1) := by decide +kernel
theorem dX4_runs_93 : decode cX4_runs 93 = .ok (.getfield 129, 3) := by decide +kernel
theorem dX4_runs_96 : decode cX4_runs 96 = .ok (.ifCond .ne 18, 3) := by decide +kernel
theorem dX4_runs_99 : decode cX4_runs 99 = .ok (.aload_n 0, 1) := by decide +kernel
theorem dX4_runs_100 : decode cX4_runs 100 = .ok (.getfield 133, 3) := by decide +kernel
theorem dX4_runs_103 : decode cX4_runs 103 = .ok (.aload_n 0, 1) := by decide +kernel
theorem dX4_runs_104 : decode cX4_runs 104 = .ok (.getfield 126, 3) := by decide +kernel
theorem dX4_runs_107 : decode cX4_runs 107 = .ok (.if_icmp .ge 7, 3) := by decide +kernel
theorem dX4_runs_110 : decode cX4_runs 110 = .ok (.iconst 1, 1) := by decide +kernel
theorem dX4_runs_111 : decode cX4_runs 111 = .ok (.goto 4, 3) := by decide +kernel
theorem dX4_runs_114 : decode cX4_runs 114 = .ok (.iconst 0, 1) := by decide +kernel
theorem dX4_runs_115 : decode cX4_runs 115 = .ok (.istore_n 3, 1) := by decide +kernel
theorem dX4_runs_116 : decode cX4_runs 116 = .ok (.iload_n 3, 1) := by decide +kernel
theorem dX4_runs_117 : decode cX4_runs 117 = .ok (.ifCond .eq 26, 3) := by decide +kernel
theorem dX4_runs_120 : decode cX4_runs 120 = .ok (.aload_n 0, 1) := by decide +kernel
theorem dX4_runs_121 : decode cX4_runs 121 = .ok (.bipush 59, 2) := by decide +kernel
theorem dX4_runs_123 : decode cX4_runs 123 = .ok (.bipush 59, 2) := by decide +kernel
theorem dX4_runs_125 : decode cX4_runs 125 = .ok (.invokevirtual 136, 3) := by decide +kernel
theorem dX4_runs_128 : decode cX4_runs 128 = .ok (.istore 5, 2) := by decide +kernel
theorem dX4_runs_130 : decode cX4_runs 130 = .ok (.aload_n 0, 1) := by decide +kernel
theorem dX4_runs_131 : decode cX4_runs 131 = .ok (.getfield 129, 3) := by decide +kernel
theorem dX4_runs_134 : decode cX4_runs 134 = .ok (.ifCond .ne 7, 3) := by decide +kernel
theorem dX4_runs_137 : decode cX4_runs 137 = .ok (.iconst 1, 1) := by decide +kernel
theorem dX4_runs_138 : decode cX4_runs 138 = .ok (.goto 4, 3) := by decide +kernel
theorem dX4_runs_141 : decode cX4_runs 141 = .ok (.iconst 0, 1) := by decide +kernel
theorem dX4_runs_142 : decode cX4_runs 142 = .ok (.istore_n 3, 1) := by decide +kernel
theorem dX4_runs_143 : decode cX4_runs 143 = .ok (.goto (-124), 3) := by decide +kernel
theorem dX4_runs_146 : decode cX4_runs 146 = .ok (.iload_n 2, 1) := by decide +kernel
theorem dX4_runs_147 : decode cX4_runs 147 = .ok (.ireturn, 1) := by decide +kernel
set_option maxRecDepth 20000 in
theorem ggX4_perform_X4_runs : GoodIn wsX4_perform wsX4_runs := goodIn_r _ [12, 2, 1, 3, 13, 14, 15, 16, 11, 17, 18, 19, 20, 21, 22, 23, 24, 25, 26, 27, 28, 29, 30, 31, 32, 33, 34, 35, 36, 37, 38, 39, 40, 41, 42, 43, 44, 6, 45, 46, 47, 48, 49, 50, 51, 52, 53, 54, 55, 56, 57, 58, 59, 60, 61, 62, 63, 64, 65, 66, 67, 68, 69, 70, 71, 72, 73, 74, 75, 76, 77, 78, 79, 80, 81, 82, 83, 84, 85, 86, 87, 88, 89, 90, 91, 92, 93, 94, 95, 96, 97, 98, 99, 100, 101, 102, 103, 104, 105, 106, 107, 108, 109, 110, 111, 112, 113, 114, 115, 116, 117, 118, 119, 120, 121, 122, 123, 124, 135, 136, 137, 138, 139, 140, 141, 142, 143, 144, 145, 146, 147, 148, 149, 150] (by decide +kernel) (by decide +kernel)
set_option maxRecDepth 20000 in
theorem gX4_perform_X4_runs : GoodIn wsX4_perform (wsV RX4 163 RX4 yX4_runs wsX4_runs) := goodIn_app (goodIn_of _ (by decide +kernel)) ggX4_perform_X4_runs
set_option maxRecDepth 20000 in
theorem ggX4_perform_X4_looks : GoodIn wsX4_perform wsX4_looks := goodIn_r _ [128, 7, 6, 135, 136, 137, 138, 139, 140, 141, 142, 143, 144, 145, 146, 147, 148, 149, 150] (by decide +kernel) (by decide +kernel)
set_option maxRecDepth 20000 in
theorem gX4_perform_X4_looks : GoodIn wsX4_perform (wsV RX4 43 RX4 yX4_looks wsX4_looks) := goodIn_app (goodIn_of _ (by decide +kernel)) ggX4_perform_X4_looks
set_option maxRecDepth 20000 in
theorem ggX4_perform_X4_records : GoodIn wsX4_perform wsX4_records := goodIn_r _ [132, 133, 134, 7, 135, 136, 137, 138, 139, 140, 141, 142, 143, 144, 145, 146, 147, 148, 149, 150] (by decide +kernel) (by decide +kernel)
set_option maxRecDepth 20000 in
theorem gX4_perform_X4_records : GoodIn wsX4_perform (wsV RX4 46 RX4 yX4_records wsX4_records) := goodIn_app (goodIn_of _ (by decide +kernel)) ggX4_perform_X4_records
theorem dX4_perform_0 : decode cX4_perform 0 = .ok (.aload_n 0, 1) := by decide +kernel
theorem dX4_perform_1 : decode cX4_perform 1 = .ok (.iconst 0, 1) := by decide +kernel
theorem dX4_perform_2 : decode cX4_perform 2 = .ok (.invokevirtual 163, 3) := by decide +kernel
theorem dX4_perform_5 : decode cX4_perform 5 = .ok (.istore_n 1, 1) := by decide +kernel
theorem dX4_perform_6 : decode cX4_perform 6 = .ok (.aload_n 0, 1) := by decide +kernel
theorem dX4_perform_7 : decode cX4_perform 7 = .ok (.getfield 129, 3) := by decide +kernel
theorem dX4_perform_10 : decode cX4_perform 10 = .ok (.ifCond .eq 11, 3) := by decide +kernel
theorem dX4_perform_13 : decode cX4_perform 13 = .ok (.bipush (-100), 2) := by decide +kernel
theorem dX4_perform_15 : decode cX4_perform 15 = .ok (.aload_n 0, 1) := by decide +kernel
theorem dX4_perform_16 : decode cX4_perform 16 = .ok (.getfield 133, 3) := by decide +kernel
theorem dX4_perform_19 : decode cX4_perform 19 = .ok (.isub, 1) := by decide +kernel
theorem dX4_perform_20 : decode cX4_perform 20 = .ok (.ireturn, 1) := by decide +kernel
theorem dX4_perform_21 : decode cX4_perform 21 = .ok (.aload_n 0, 1) := by decide +kernel
theorem dX4_perform_22 : decode cX4_perform 22 = .ok (.invokevirtual 43, 3) := by decide +kernel
theorem dX4_perform_25 : decode cX4_perform 25 = .ok (.aload_n 0, 1) := by decide +kernel
theorem dX4_perform_26 : decode cX4_perform 26 = .ok (.iconst 1, 1) := by decide +kernel
theorem dX4_perform_27 : decode cX4_perform 27 = .ok (.invokevirtual 163, 3) := by decide +kernel
theorem dX4_perform_30 : decode cX4_perform 30 = .ok (.istore_n 2, 1) := by decide +kernel
theorem dX4_perform_31 : decode cX4_perform 31 = .ok (.aload_n 0, 1) := by decide +kernel
theorem dX4_perform_32 : decode cX4_perform 32 = .ok (.getfield 154, 3) := by decide +kernel
theorem dX4_perform_35 : decode cX4_perform 35 = .ok (.ifCond .ge 45, 3) := by decide +kernel
theorem dX4_perform_38 : decode cX4_perform 38 = .ok (.aload_n 0, 1) := by decide +kernel
theorem dX4_perform_39 : decode cX4_perform 39 = .ok (.iload_n 2, 1) := by decide +kernel
theorem dX4_perform_40 : decode cX4_perform 40 = .ok (.putfield 25, 3) := by decide +kernel
theorem dX4_perform_43 : decode cX4_perform 43 = .ok (.aload_n 0, 1) := by decide +kernel
theorem dX4_perform_44 : decode cX4_perform 44 = .ok (.aload_n 0, 1) := by decide +kernel
theorem dX4_perform_45 : decode cX4_perform 45 = .ok (.getfield 154, 3) := by decide +kernel
theorem dX4_perform_48 : decode cX4_perform 48 = .ok (.putfield 29, 3) := by decide +kernel
theorem dX4_perform_51 : decode cX4_perform 51 = .ok (.iconst 0, 1) := by decide +kernel
theorem dX4_perform_52 : decode cX4_perform 52 = .ok (.istore_n 3, 1) := by decide +kernel
theorem dX4_perform_53 : decode cX4_perform 53 = .ok (.iload_n 3, 1) := by decide +kernel
theorem dX4_perform_54 : decode cX4_perform 54 = .ok (.bipush 109, 2) := by decide +kernel
theorem dX4_perform_56 : decode cX4_perform 56 = .ok (.if_icmp .ge 21, 3) := by decide +kernel
theorem dX4_perform_59 : decode cX4_perform 59 = .ok (.aload_n 0, 1) := by decide +kernel
theorem dX4_perform_60 : decode cX4_perform 60 = .ok (.getfield 7, 3) := by decide +kernel
theorem dX4_perform_63 : decode cX4_perform 63 = .ok (.iload_n 3, 1) := by decide +kernel
theorem dX4_perform_64 : decode cX4_perform 64 = .ok (.aload_n 0, 1) := by decide +kernel
theorem dX4_perform_65 : decode cX4_perform 65 = .ok (.getfield 13, 3) := by decide +kernel
theorem dX4_perform_68 : decode cX4_perform 68 = .ok (.iload_n 3, 1) := by decide +kernel
theorem dX4_perform_69 : decode cX4_perform 69 = .ok (.iaload, 1) := by decide +kernel
theorem dX4_perform_70 : decode cX4_perform 70 = .ok (.iastore, 1) := by decide +kernel
theorem dX4_perform_71 : decode cX4_perform 71 = .ok (.iinc 3 1, 3) := by decide +kernel
theorem dX4_perform_74 : decode cX4_perform 74 = .ok (.goto (-21), 3) := by decide +kernel
theorem dX4_perform_77 : decode cX4_perform 77 = .ok (.bipush (-4), 2) := by decide +kernel
theorem dX4_perform_79 : decode cX4_perform 79 = .ok (.ireturn, 1) := by decide +kernel
theorem dX4_perform_80 : decode cX4_perform 80 = .ok (.aload_n 0, 1) := by decide +kernel
theorem dX4_perform_81 : decode cX4_perform 81 = .ok (.invokevirtual 46, 3) := by decide +kernel
theorem dX4_perform_84 : decode cX4_perform 84 = .ok (.iload_n 2, 1) := by decide +kernel
theorem dX4_perform_85 : decode cX4_perform 85 = .ok (.ireturn, 1) := by decide +kernel
theorem dX4_stopped_0 : decode cX4_stopped 0 = .ok (.iload_n 1, 1) := by decide +kernel
theorem dX4_stopped_1 : decode cX4_stopped 1 = .ok (.ifCond .ne 10, 3) := by decide +kernel
theorem dX4_stopped_4 : decode cX4_stopped 4 = .ok (.aload_n 0, 1) := by decide +kernel
theorem dX4_stopped_5 : decode cX4_stopped 5 = .ok (.getfield 25, 3) := by decide +kernel
theorem dX4_stopped_8 : decode cX4_stopped 8 = .ok (.goto 17, 3) := by decide +kernel
theorem dX4_stopped_11 : decode cX4_stopped 11 = .ok (.iload_n 1, 1) := by decide +kernel
theorem dX4_stopped_12 : decode cX4_stopped 12 = .ok (.iconst 1, 1) := by decide +kernel
theorem dX4_stopped_13 : decode cX4_stopped 13 = .ok (.if_icmp .ne 10, 3) := by decide +kernel
theorem dX4_stopped_16 : decode cX4_stopped 16 = .ok (.aload_n 0, 1) := by decide +kernel
theorem dX4_stopped_17 : decode cX4_stopped 17 = .ok (.getfield 29, 3) := by decide +kernel
theorem dX4_stopped_20 : decode cX4_stopped 20 = .ok (.goto 5, 3) := by decide +kernel
theorem dX4_stopped_23 : decode cX4_stopped 23 = .ok (.bipush (-2), 2) := by decide +kernel
theorem dX4_stopped_25 : decode cX4_stopped 25 = .ok (.ireturn, 1) := by decide +kernel
theorem dX4_undo_0 : decode cX4_undo 0 = .ok (.aload_n 0, 1) := by decide +kernel
theorem dX4_undo_1 : decode cX4_undo 1 = .ok (.getfield 40, 3) := by decide +kernel
theorem dX4_undo_4 : decode cX4_undo 4 = .ok (.ifCond .ne 6, 3) := by decide +kernel
theorem dX4_undo_7 : decode cX4_undo 7 = .ok (.bipush (-5), 2) := by decide +kernel
theorem dX4_undo_9 : decode cX4_undo 9 = .ok (.ireturn, 1) := by decide +kernel
theorem dX4_undo_10 : decode cX4_undo 10 = .ok (.aload_n 0, 1) := by decide +kernel
theorem dX4_undo_11 : decode cX4_undo 11 = .ok (.dup, 1) := by decide +kernel
theorem dX4_undo_12 : decode cX4_undo 12 = .ok (.getfield 40, 3) := by decide +kernel
theorem dX4_undo_15 : decode cX4_undo 15 = .ok (.iconst 1, 1) := by decide +kernel
theorem dX4_undo_16 : decode cX4_undo 16 = .ok (.isub, 1) := by decide +kernel
theorem dX4_undo_17 : decode cX4_undo 17 = .ok (.putfield 40, 3) := by decide +kernel
theorem dX4_undo_20 : decode cX4_undo 20 = .ok (.iconst 0, 1) := by decide +kernel
theorem dX4_undo_21 : decode cX4_undo 21 = .ok (.istore_n 1, 1) := by decide +kernel
theorem dX4_undo_22 : decode cX4_undo 22 = .ok (.iload_n 1, 1) := by decide +kernel
theorem dX4_undo_23 : decode cX4_undo 23 = .ok (.bipush 109, 2) := by decide +kernel
theorem dX4_undo_25 : decode cX4_undo 25 = .ok (.if_icmp .ge 29, 3) := by decide +kernel
theorem dX4_undo_28 : decode cX4_undo 28 = .ok (.aload_n 0, 1) := by decide +kernel
theorem dX4_undo_29 : decode cX4_undo 29 = .ok (.getfield 7, 3) := by decide +kernel
theorem dX4_undo_32 : decode cX4_undo 32 = .ok (.iload_n 1, 1) := by decide +kernel
theorem dX4_undo_33 : decode cX4_undo 33 = .ok (.aload_n 0, 1) := by decide +kernel
theorem dX4_undo_34 : decode cX4_undo 34 = .ok (.getfield 19, 3) := by decide +kernel
theorem dX4_undo_37 : decode cX4_undo 37 = .ok (.bipush 109, 2) := by decide +kernel
theorem dX4_undo_39 : decode cX4_undo 39 = .ok (.aload_n 0, 1) := by decide +kernel
theorem dX4_undo_40 : decode cX4_undo 40 = .ok (.getfield 40, 3) := by decide +kernel
theorem dX4_undo_43 : decode cX4_undo 43 = .ok (.imul, 1) := by decide +kernel
theorem dX4_undo_44 : decode cX4_undo 44 = .ok (.iload_n 1, 1) := by decide +kernel
theorem dX4_undo_45 : decode cX4_undo 45 = .ok (.iadd, 1) := by decide +kernel
theorem dX4_undo_46 : decode cX4_undo 46 = .ok (.iaload, 1) := by decide +kernel
theorem dX4_undo_47 : decode cX4_undo 47 = .ok (.iastore, 1) := by decide +kernel
theorem dX4_undo_48 : decode cX4_undo 48 = .ok (.iinc 1 1, 3) := by decide +kernel
theorem dX4_undo_51 : decode cX4_undo 51 = .ok (.goto (-29), 3) := by decide +kernel
theorem dX4_undo_54 : decode cX4_undo 54 = .ok (.aload_n 0, 1) := by decide +kernel
theorem dX4_undo_55 : decode cX4_undo 55 = .ok (.getfield 40, 3) := by decide +kernel
theorem dX4_undo_58 : decode cX4_undo 58 = .ok (.ireturn, 1) := by decide +kernel
theorem dX4_keep_0 : decode cX4_keep 0 = .ok (.iconst 0, 1) := by decide +kernel
theorem dX4_keep_1 : decode cX4_keep 1 = .ok (.istore_n 1, 1) := by decide +kernel
theorem dX4_keep_2 : decode cX4_keep 2 = .ok (.iload_n 1, 1) := by decide +kernel
theorem dX4_keep_3 : decode cX4_keep 3 = .ok (.bipush 109, 2) := by decide +kernel
theorem dX4_keep_5 : decode cX4_keep 5 = .ok (.if_icmp .ge 21, 3) := by decide +kernel
theorem dX4_keep_8 : decode cX4_keep 8 = .ok (.aload_n 0, 1) := by decide +kernel
theorem dX4_keep_9 : decode cX4_keep 9 = .ok (.getfield 16, 3) := by decide +kernel
theorem dX4_keep_12 : decode cX4_keep 12 = .ok (.iload_n 1, 1) := by decide +kernel
theorem dX4_keep_13 : decode cX4_keep 13 = .ok (.aload_n 0, 1) := by decide +kernel
theorem dX4_keep_14 : decode cX4_keep 14 = .ok (.getfield 7, 3) := by decide +kernel
theorem dX4_keep_17 : decode cX4_keep 17 = .ok (.iload_n 1, 1) := by decide +kernel
theorem dX4_keep_18 : decode cX4_keep 18 = .ok (.iaload, 1) := by decide +kernel
theorem dX4_keep_19 : decode cX4_keep 19 = .ok (.iastore, 1) := by decide +kernel
theorem dX4_keep_20 : decode cX4_keep 20 = .ok (.iinc 1 1, 3) := by decide +kernel
theorem dX4_keep_23 : decode cX4_keep 23 = .ok (.goto (-21), 3) := by decide +kernel
theorem dX4_keep_26 : decode cX4_keep 26 = .ok (.aload_n 0, 1) := by decide +kernel
theorem dX4_keep_27 : decode cX4_keep 27 = .ok (.iconst 1, 1) := by decide +kernel
theorem dX4_keep_28 : decode cX4_keep 28 = .ok (.putfield 167, 3) := by decide +kernel
theorem dX4_keep_31 : decode cX4_keep 31 = .ok (.aload_n 0, 1) := by decide +kernel
theorem dX4_keep_32 : decode cX4_keep 32 = .ok (.getfield 7, 3) := by decide +kernel
theorem dX4_keep_35 : decode cX4_keep 35 = .ok (.iconst 0, 1) := by decide +kernel
theorem dX4_keep_36 : decode cX4_keep 36 = .ok (.iaload, 1) := by decide +kernel
theorem dX4_keep_37 : decode cX4_keep 37 = .ok (.ireturn, 1) := by decide +kernel
set_option maxRecDepth 20000 in
theorem ggX4_restore_X4_know : GoodIn wsX4_restore wsX4_know := goodIn_r _ [8, 9, 10, 11, 7, 12, 13, 2, 14, 15, 16, 17, 18, 19, 20, 21, 22, 23, 24, 25, 26, 27, 28, 29, 30, 31, 32, 33, 34, 35] (by decide +kernel) (by decide +kernel)
set_option maxRecDepth 20000 in
theorem gX4_restore_X4_know : GoodIn wsX4_restore (wsV RX4 105 RX4 yX4_know wsX4_know) := goodIn_app (goodIn_of _ (by decide +kernel)) ggX4_restore_X4_know
theorem dX4_restore_0 : decode cX4_restore 0 = .ok (.aload_n 0, 1) := by decide +kernel
theorem dX4_restore_1 : decode cX4_restore 1 = .ok (.getfield 167, 3) := by decide +kernel
theorem dX4_restore_4 : decode cX4_restore 4 = .ok (.ifCond .ne 6, 3) := by decide +kernel
theorem dX4_restore_7 : decode cX4_restore 7 = .ok (.bipush (-5), 2) := by decide +kernel
theorem dX4_restore_9 : decode cX4_restore 9 = .ok (.ireturn, 1) := by decide +kernel
theorem dX4_restore_10 : decode cX4_restore 10 = .ok (.aload_n 0, 1) := by decide +kernel
theorem dX4_restore_11 : decode cX4_restore 11 = .ok (.invokevirtual 105, 3) := by decide +kernel
theorem dX4_restore_14 : decode cX4_restore 14 = .ok (.iconst 0, 1) := by decide +kernel
theorem dX4_restore_15 : decode cX4_restore 15 = .ok (.istore_n 1, 1) := by decide +kernel
theorem dX4_restore_16 : decode cX4_restore 16 = .ok (.iload_n 1, 1) := by decide +kernel
theorem dX4_restore_17 : decode cX4_restore 17 = .ok (.bipush 109, 2) := by decide +kernel
theorem dX4_restore_19 : decode cX4_restore 19 = .ok (.if_icmp .ge 21, 3) := by decide +kernel
theorem dX4_restore_22 : decode cX4_restore 22 = .ok (.aload_n 0, 1) := by decide +kernel
theorem dX4_restore_23 : decode cX4_restore 23 = .ok (.getfield 7, 3) := by decide +kernel
theorem dX4_restore_26 : decode cX4_restore 26 = .ok (.iload_n 1, 1) := by decide +kernel
theorem dX4_restore_27 : decode cX4_restore 27 = .ok (.aload_n 0, 1) := by decide +kernel
theorem dX4_restore_28 : decode cX4_restore 28 = .ok (.getfield 16, 3) := by decide +kernel
theorem dX4_restore_31 : decode cX4_restore 31 = .ok (.iload_n 1, 1) := by decide +kernel
theorem dX4_restore_32 : decode cX4_restore 32 = .ok (.iaload, 1) := by decide +kernel
theorem dX4_restore_33 : decode cX4_restore 33 = .ok (.iastore, 1) := by decide +kernel
theorem dX4_restore_34 : decode cX4_restore 34 = .ok (.iinc 1 1, 3) := by decide +kernel
theorem dX4_restore_37 : decode cX4_restore 37 = .ok (.goto (-21), 3) := by decide +kernel
theorem dX4_restore_40 : decode cX4_restore 40 = .ok (.aload_n 0, 1) := by decide +kernel
theorem dX4_restore_41 : decode cX4_restore 41 = .ok (.getfield 7, 3) := by decide +kernel
theorem dX4_restore_44 : decode cX4_restore 44 = .ok (.iconst 0, 1) := by decide +kernel
theorem dX4_restore_45 : decode cX4_restore 45 = .ok (.iaload, 1) := by decide +kernel
theorem dX4_restore_46 : decode cX4_restore 46 = .ok (.ireturn, 1) := by decide +kernel
set_option maxRecDepth 20000 in
theorem ggX4_person_X4_isPlace : GoodIn wsX4_person wsX4_isPlace := goodIn_r _ [5, 6, 7, 8, 4, 9, 29, 30, 31, 32, 33, 34, 35, 36, 37, 38, 39, 40, 41, 42, 43, 44] (by decide +kernel) (by decide +kernel)
set_option maxRecDepth 20000 in
theorem gX4_person_X4_isPlace : GoodIn wsX4_person (wsV RX4 91 RX4 yX4_isPlace wsX4_isPlace) := goodIn_app (goodIn_of _ (by decide +kernel)) ggX4_person_X4_isPlace
set_option maxRecDepth 20000 in
theorem ggX4_person_X4_of : GoodIn wsX4_person wsX4_of := goodIn_r _ [13, 6, 14, 15, 4, 16, 29, 30, 31, 32, 33, 34, 35, 36, 37, 38, 39, 40, 41, 42, 43, 44] (by decide +kernel) (by decide +kernel)
set_option maxRecDepth 20000 in
theorem gX4_person_X4_of : GoodIn wsX4_person (wsV RX4 49 RX4 yX4_of wsX4_of) := goodIn_app (goodIn_of _ (by decide +kernel)) ggX4_person_X4_of
set_option maxRecDepth 20000 in
theorem ggX4_person_X4_leastOf : GoodIn wsX4_person wsX4_leastOf := goodIn_r _ [20, 10, 11, 12, 4, 13, 6, 14, 15, 16, 29, 30, 31, 32, 33, 34, 35, 36, 37, 38, 39, 40, 41, 42, 43, 44] (by decide +kernel) (by decide +kernel)
set_option maxRecDepth 20000 in
theorem gX4_person_X4_leastOf : GoodIn wsX4_person (wsV RX4 52 RX4 yX4_leastOf wsX4_leastOf) := goodIn_app (goodIn_of _ (by decide +kernel)) ggX4_person_X4_leastOf
set_option maxRecDepth 20000 in
theorem ggX4_person_X4_greatestOf : GoodIn wsX4_person wsX4_greatestOf := goodIn_r _ [24, 6, 10, 11, 12, 4, 13, 14, 15, 16, 29, 30, 31, 32, 33, 34, 35, 36, 37, 38, 39, 40, 41, 42, 43, 44] (by decide +kernel) (by decide +kernel)
set_option maxRecDepth 20000 in
theorem gX4_person_X4_greatestOf : GoodIn wsX4_person (wsV RX4 56 RX4 yX4_greatestOf wsX4_greatestOf) := goodIn_app (goodIn_of _ (by decide +kernel)) ggX4_person_X4_greatestOf
set_option maxRecDepth 20000 in
theorem ggX4_person_X4_reaching : GoodIn wsX4_person wsX4_reaching := goodIn_r _ [28, 6, 10, 11, 12, 4, 13, 14, 15, 16, 17, 18, 19, 20, 21, 22, 23, 24, 7, 8, 9, 29, 30, 31, 32, 33, 34, 35, 36, 37, 38, 39, 40, 41, 42, 43, 44] (by decide +kernel) (by decide +kernel)
set_option maxRecDepth 20000 in
theorem gX4_person_X4_reaching : GoodIn wsX4_person (wsV RX4 59 RX4 yX4_reaching wsX4_reaching) := goodIn_app (goodIn_of _ (by decide +kernel)) ggX4_person_X4_reaching
set_option maxRecDepth 20000 in
theorem ggX4_person_X4_in : GoodIn wsX4_person wsX4_in := goodIn_r _ [9] (by decide +kernel) (by decide +kernel)
set_option maxRecDepth 20000 in
theorem gX4_person_X4_in : GoodIn wsX4_person (va_wsS RX4 32 yX4_in wsX4_in) := goodIn_app (goodIn_of _ (by decide +kernel)) ggX4_person_X4_in
theorem dX4_person_0 : decode cX4_person 0 = .ok (.aload_n 0, 1) := by decide +kernel
theorem dX4_person_1 : decode cX4_person 1 = .ok (.iload_n 1, 1) := by decide +kernel
theorem dX4_person_2 : decode cX4_person 2 = .ok (.invokevirtual 91, 3) := by decide +kernel
theorem dX4_person_5 : decode cX4_person 5 = .ok (.ifCond .ne 5, 3) := by decide +kernel
theorem dX4_person_8 : decode cX4_person 8 = .ok (.iconst (-1), 1) := by decide +kernel
theorem dX4_person_9 : decode cX4_person 9 = .ok (.ireturn, 1) := by decide +kernel
theorem dX4_person_10 : decode cX4_person 10 = .ok (.iload_n 2, 1) := by decide +kernel
theorem dX4_person_11 : decode cX4_person 11 = .ok (.tableswitch 82 5 8 #[29, 49, 69, 75], 29) := by decide +kernel
theorem dX4_person_40 : decode cX4_person 40 = .ok (.aload_n 0, 1) := by decide +kernel
theorem dX4_person_41 : decode cX4_person 41 = .ok (.iload_n 1, 1) := by decide +kernel
theorem dX4_person_42 : decode cX4_person 42 = .ok (.iconst 4, 1) := by decide +kernel
theorem dX4_person_43 : decode cX4_person 43 = .ok (.invokevirtual 49, 3) := by decide +kernel
theorem dX4_person_46 : decode cX4_person 46 = .ok (.ifCond .ne 8, 3) := by decide +kernel
theorem dX4_person_49 : decode cX4_person 49 = .ok (.bipush (-5), 2) := by decide +kernel
theorem dX4_person_51 : decode cX4_person 51 = .ok (.goto 8, 3) := by decide +kernel
theorem dX4_person_54 : decode cX4_person 54 = .ok (.aload_n 0, 1) := by decide +kernel
theorem dX4_person_55 : decode cX4_person 55 = .ok (.iload_n 1, 1) := by decide +kernel
theorem dX4_person_56 : decode cX4_person 56 = .ok (.invokevirtual 52, 3) := by decide +kernel
theorem dX4_person_59 : decode cX4_person 59 = .ok (.ireturn, 1) := by decide +kernel
theorem dX4_person_60 : decode cX4_person 60 = .ok (.aload_n 0, 1) := by decide +kernel
theorem dX4_person_61 : decode cX4_person 61 = .ok (.iload_n 1, 1) := by decide +kernel
theorem dX4_person_62 : decode cX4_person 62 = .ok (.iconst 4, 1) := by decide +kernel
theorem dX4_person_63 : decode cX4_person 63 = .ok (.invokevirtual 49, 3) := by decide +kernel
theorem dX4_person_66 : decode cX4_person 66 = .ok (.ifCond .ne 8, 3) := by decide +kernel
theorem dX4_person_69 : decode cX4_person 69 = .ok (.bipush (-5), 2) := by decide +kernel
theorem dX4_person_71 : decode cX4_person 71 = .ok (.goto 8, 3) := by decide +kernel
theorem dX4_person_74 : decode cX4_person 74 = .ok (.aload_n 0, 1) := by decide +kernel
theorem dX4_person_75 : decode cX4_person 75 = .ok (.iload_n 1, 1) := by decide +kernel
theorem dX4_person_76 : decode cX4_person 76 = .ok (.invokevirtual 56, 3) := by decide +kernel
theorem dX4_person_79 : decode cX4_person 79 = .ok (.ireturn, 1) := by decide +kernel
theorem dX4_person_80 : decode cX4_person 80 = .ok (.aload_n 0, 1) := by decide +kernel
theorem dX4_person_81 : decode cX4_person 81 = .ok (.iload_n 1, 1) := by decide +kernel
theorem dX4_person_82 : decode cX4_person 82 = .ok (.invokevirtual 59, 3) := by decide +kernel
theorem dX4_person_85 : decode cX4_person 85 = .ok (.ireturn, 1) := by decide +kernel
theorem dX4_person_86 : decode cX4_person 86 = .ok (.aload_n 0, 1) := by decide +kernel
theorem dX4_person_87 : decode cX4_person 87 = .ok (.iload_n 1, 1) := by decide +kernel
theorem dX4_person_88 : decode cX4_person 88 = .ok (.iconst 5, 1) := by decide +kernel
theorem dX4_person_89 : decode cX4_person 89 = .ok (.invokevirtual 49, 3) := by decide +kernel
theorem dX4_person_92 : decode cX4_person 92 = .ok (.ireturn, 1) := by decide +kernel
theorem dX4_person_93 : decode cX4_person 93 = .ok (.iload_n 2, 1) := by decide +kernel
theorem dX4_person_94 : decode cX4_person 94 = .ok (.iconst 0, 1) := by decide +kernel
theorem dX4_person_95 : decode cX4_person 95 = .ok (.iconst 4, 1) := by decide +kernel
theorem dX4_person_96 : decode cX4_person 96 = .ok (.invokestatic 32, 3) := by decide +kernel
theorem dX4_person_99 : decode cX4_person 99 = .ok (.ifCond .eq 12, 3) := by decide +kernel
theorem dX4_person_102 : decode cX4_person 102 = .ok (.aload_n 0, 1) := by decide +kernel
theorem dX4_person_103 : decode cX4_person 103 = .ok (.iload_n 1, 1) := by decide +kernel
theorem dX4_person_104 : decode cX4_person 104 = .ok (.iload_n 2, 1) := by decide +kernel
theorem dX4_person_105 : decode cX4_person 105 = .ok (.invokevirtual 49, 3) := by decide +kernel
theorem dX4_person_108 : decode cX4_person 108 = .ok (.goto 5, 3) := by decide +kernel
theorem dX4_person_111 : decode cX4_person 111 = .ok (.bipush (-2), 2) := by decide +kernel
theorem dX4_person_113 : decode cX4_person 113 = .ok (.ireturn, 1) := by decide +kernel
set_option maxRecDepth 20000 in
theorem ggX4_placeOf_X4_in : GoodIn wsX4_placeOf wsX4_in := goodIn_r _ [5] (by decide +kernel) (by decide +kernel)
set_option maxRecDepth 20000 in
theorem gX4_placeOf_X4_in : GoodIn wsX4_placeOf (va_wsS RX4 32 yX4_in wsX4_in) := goodIn_app (goodIn_of _ (by decide +kernel)) ggX4_placeOf_X4_in
set_option maxRecDepth 20000 in
theorem ggX4_placeOf_X4_of : GoodIn wsX4_placeOf wsX4_of := goodIn_r _ [9, 1, 10, 11, 4, 12, 13, 14, 15, 16, 17, 18, 19, 20, 21, 22, 23, 24, 25, 26, 27, 28] (by decide +kernel) (by decide +kernel)
set_option maxRecDepth 20000 in
theorem gX4_placeOf_X4_of : GoodIn wsX4_placeOf (wsV RX4 49 RX4 yX4_of wsX4_of) := goodIn_app (goodIn_of _ (by decide +kernel)) ggX4_placeOf_X4_of
theorem dX4_placeOf_0 : decode cX4_placeOf 0 = .ok (.iload_n 1, 1) := by decide +kernel
theorem dX4_placeOf_1 : decode cX4_placeOf 1 = .ok (.iconst 0, 1) := by decide +kernel
theorem dX4_placeOf_2 : decode cX4_placeOf 2 = .ok (.sipush 199, 3) := by decide +kernel
theorem dX4_placeOf_5 : decode cX4_placeOf 5 = .ok (.invokestatic 32, 3) := by decide +kernel
theorem dX4_placeOf_8 : decode cX4_placeOf 8 = .ok (.ifCond .ne 6, 3) := by decide +kernel
theorem dX4_placeOf_11 : decode cX4_placeOf 11 = .ok (.bipush (-2), 2) := by decide +kernel
theorem dX4_placeOf_13 : decode cX4_placeOf 13 = .ok (.ireturn, 1) := by decide +kernel
theorem dX4_placeOf_14 : decode cX4_placeOf 14 = .ok (.iconst 0, 1) := by decide +kernel
theorem dX4_placeOf_15 : decode cX4_placeOf 15 = .ok (.istore_n 2, 1) := by decide +kernel
theorem dX4_placeOf_16 : decode cX4_placeOf 16 = .ok (.iload_n 2, 1) := by decide +kernel
theorem dX4_placeOf_17 : decode cX4_placeOf 17 = .ok (.aload_n 0, 1) := by decide +kernel
theorem dX4_placeOf_18 : decode cX4_placeOf 18 = .ok (.getfield 7, 3) := by decide +kernel
theorem dX4_placeOf_21 : decode cX4_placeOf 21 = .ok (.iconst 0, 1) := by decide +kernel
theorem dX4_placeOf_22 : decode cX4_placeOf 22 = .ok (.iaload, 1) := by decide +kernel
theorem dX4_placeOf_23 : decode cX4_placeOf 23 = .ok (.if_icmp .ge 21, 3) := by decide +kernel
theorem dX4_placeOf_26 : decode cX4_placeOf 26 = .ok (.aload_n 0, 1) := by decide +kernel
theorem dX4_placeOf_27 : decode cX4_placeOf 27 = .ok (.iload_n 2, 1) := by decide +kernel
theorem dX4_placeOf_28 : decode cX4_placeOf 28 = .ok (.iconst 0, 1) := by decide +kernel
theorem dX4_placeOf_29 : decode cX4_placeOf 29 = .ok (.invokevirtual 49, 3) := by decide +kernel
theorem dX4_placeOf_32 : decode cX4_placeOf 32 = .ok (.iload_n 1, 1) := by decide +kernel
theorem dX4_placeOf_33 : decode cX4_placeOf 33 = .ok (.if_icmp .ne 5, 3) := by decide +kernel
theorem dX4_placeOf_36 : decode cX4_placeOf 36 = .ok (.iload_n 2, 1) := by decide +kernel
theorem dX4_placeOf_37 : decode cX4_placeOf 37 = .ok (.ireturn, 1) := by decide +kernel
theorem dX4_placeOf_38 : decode cX4_placeOf 38 = .ok (.iinc 2 1, 3) := by decide +kernel
theorem dX4_placeOf_41 : decode cX4_placeOf 41 = .ok (.goto (-25), 3) := by decide +kernel
theorem dX4_placeOf_44 : decode cX4_placeOf 44 = .ok (.bipush (-5), 2) := by decide +kernel
theorem dX4_placeOf_46 : decode cX4_placeOf 46 = .ok (.ireturn, 1) := by decide +kernel
set_option maxRecDepth 20000 in
theorem ggX4_told_X4_isCovered : GoodIn wsX4_told wsX4_isCovered := goodIn_r _ [5, 6, 7, 8, 4, 9, 10, 11, 12, 13, 14, 15, 16, 17, 18, 19, 20, 21, 22, 23, 24, 25, 26, 27, 28, 41, 42, 43, 44, 45, 46, 47, 48, 49, 50, 51, 52, 53, 54, 55, 56] (by decide +kernel) (by decide +kernel)
set_option maxRecDepth 20000 in
theorem gX4_told_X4_isCovered : GoodIn wsX4_told (wsV RX4 62 RX4 yX4_isCovered wsX4_isCovered) := goodIn_app (goodIn_of _ (by decide +kernel)) ggX4_told_X4_isCovered
set_option maxRecDepth 20000 in
theorem ggX4_told_X4_running : GoodIn wsX4_told wsX4_running := goodIn_r _ [32, 10, 11, 12, 13, 4, 14, 15, 16, 17, 18, 19, 20, 21, 22, 23, 24, 25, 41, 42, 43, 44, 45, 46, 47, 48, 49, 50, 51, 52, 53, 54, 55, 56] (by decide +kernel) (by decide +kernel)
set_option maxRecDepth 20000 in
theorem gX4_told_X4_running : GoodIn wsX4_told (wsV RX4 66 RX4 yX4_running wsX4_running) := goodIn_app (goodIn_of _ (by decide +kernel)) ggX4_told_X4_running
set_option maxRecDepth 20000 in
theorem ggX4_told_X4_wetBy : GoodIn wsX4_told wsX4_wetBy := goodIn_r _ [36, 11, 12, 13, 4, 14, 10, 15, 16, 17, 37, 38, 39, 40, 1, 2, 3, 5, 6, 7, 8, 9, 18, 19, 20, 21, 22, 23, 24, 25, 26, 27, 28, 29, 30, 31, 32, 41, 42, 43, 44, 45, 46, 47, 48, 49, 50, 51, 52, 53, 54, 55, 56] (by decide +kernel) (by decide +kernel)
set_option maxRecDepth 20000 in
theorem gX4_told_X4_wetBy : GoodIn wsX4_told (wsV RX4 73 RX4 yX4_wetBy wsX4_wetBy) := goodIn_app (goodIn_of _ (by decide +kernel)) ggX4_told_X4_wetBy
set_option maxRecDepth 20000 in
theorem ggX4_told_X4_of : GoodIn wsX4_told wsX4_of := goodIn_r _ [14, 10, 15, 16, 4, 17, 41, 42, 43, 44, 45, 46, 47, 48, 49, 50, 51, 52, 53, 54, 55, 56] (by decide +kernel) (by decide +kernel)
set_option maxRecDepth 20000 in
theorem gX4_told_X4_of : GoodIn wsX4_told (wsV RX4 49 RX4 yX4_of wsX4_of) := goodIn_app (goodIn_of _ (by decide +kernel)) ggX4_told_X4_of
theorem dX4_told_0 : decode cX4_told 0 = .ok (.iload 4, 2) := by decide +kernel
theorem dX4_told_2 : decode cX4_told 2 = .ok (.tableswitch 55 0 2 #[26, 41, 47], 26) := by decide +kernel
theorem dX4_told_28 : decode cX4_told 28 = .ok (.aload_n 0, 1) := by decide +kernel
theorem dX4_told_29 : decode cX4_told 29 = .ok (.iload_n 1, 1) := by decide +kernel
theorem dX4_told_30 : decode cX4_told 30 = .ok (.iload_n 3, 1) := by decide +kernel
theorem dX4_told_31 : decode cX4_told 31 = .ok (.invokevirtual 62, 3) := by decide +kernel
theorem dX4_told_34 : decode cX4_told 34 = .ok (.ifCond .eq 7, 3) := by decide +kernel
theorem dX4_told_37 : decode cX4_told 37 = .ok (.iconst 1, 1) := by decide +kernel
theorem dX4_told_38 : decode cX4_told 38 = .ok (.goto 4, 3) := by decide +kernel
theorem dX4_told_41 : decode cX4_told 41 = .ok (.iconst 0, 1) := by decide +kernel
theorem dX4_told_42 : decode cX4_told 42 = .ok (.ireturn, 1) := by decide +kernel
theorem dX4_told_43 : decode cX4_told 43 = .ok (.aload_n 0, 1) := by decide +kernel
theorem dX4_told_44 : decode cX4_told 44 = .ok (.iload_n 1, 1) := by decide +kernel
theorem dX4_told_45 : decode cX4_told 45 = .ok (.invokevirtual 66, 3) := by decide +kernel
theorem dX4_told_48 : decode cX4_told 48 = .ok (.ireturn, 1) := by decide +kernel
theorem dX4_told_49 : decode cX4_told 49 = .ok (.aload_n 0, 1) := by decide +kernel
theorem dX4_told_50 : decode cX4_told 50 = .ok (.iload_n 1, 1) := by decide +kernel
theorem dX4_told_51 : decode cX4_told 51 = .ok (.iload_n 2, 1) := by decide +kernel
theorem dX4_told_52 : decode cX4_told 52 = .ok (.iload_n 3, 1) := by decide +kernel
theorem dX4_told_53 : decode cX4_told 53 = .ok (.invokevirtual 73, 3) := by decide +kernel
theorem dX4_told_56 : decode cX4_told 56 = .ok (.ireturn, 1) := by decide +kernel
theorem dX4_told_57 : decode cX4_told 57 = .ok (.aload_n 0, 1) := by decide +kernel
theorem dX4_told_58 : decode cX4_told 58 = .ok (.iload_n 1, 1) := by decide +kernel
theorem dX4_told_59 : decode cX4_told 59 = .ok (.iload_n 2, 1) := by decide +kernel
theorem dX4_told_60 : decode cX4_told 60 = .ok (.iload_n 3, 1) := by decide +kernel
theorem dX4_told_61 : decode cX4_told 61 = .ok (.invokevirtual 73, 3) := by decide +kernel
theorem dX4_told_64 : decode cX4_told 64 = .ok (.aload_n 0, 1) := by decide +kernel
theorem dX4_told_65 : decode cX4_told 65 = .ok (.iload_n 1, 1) := by decide +kernel
theorem dX4_told_66 : decode cX4_told 66 = .ok (.iconst 2, 1) := by decide +kernel
theorem dX4_told_67 : decode cX4_told 67 = .ok (.invokevirtual 49, 3) := by decide +kernel
theorem dX4_told_70 : decode cX4_told 70 = .ok (.if_icmp .le 7, 3) := by decide +kernel
theorem dX4_told_73 : decode cX4_told 73 = .ok (.iconst 1, 1) := by decide +kernel
theorem dX4_told_74 : decode cX4_told 74 = .ok (.goto 4, 3) := by decide +kernel
theorem dX4_told_77 : decode cX4_told 77 = .ok (.iconst 0, 1) := by decide +kernel
theorem dX4_told_78 : decode cX4_told 78 = .ok (.ireturn, 1) := by decide +kernel
set_option maxRecDepth 20000 in
theorem ggX4_ifGust_X4_isPlace : GoodIn wsX4_ifGust wsX4_isPlace := goodIn_r _ [5, 6, 7, 8, 4, 9, 52, 53, 54, 55, 56, 57, 58, 59, 60, 61, 62, 63, 64, 65, 66, 67] (by decide +kernel) (by decide +kernel)
set_option maxRecDepth 20000 in
theorem gX4_ifGust_X4_isPlace : GoodIn wsX4_ifGust (wsV RX4 91 RX4 yX4_isPlace wsX4_isPlace) := goodIn_app (goodIn_of _ (by decide +kernel)) ggX4_ifGust_X4_isPlace
set_option maxRecDepth 20000 in
theorem ggX4_ifGust_X4_isGust : GoodIn wsX4_ifGust wsX4_isGust := goodIn_r _ [12, 7, 8, 4, 9] (by decide +kernel) (by decide +kernel)
set_option maxRecDepth 20000 in
theorem gX4_ifGust_X4_isGust : GoodIn wsX4_ifGust (va_wsS RX4 114 yX4_isGust wsX4_isGust) := goodIn_app (goodIn_of _ (by decide +kernel)) ggX4_ifGust_X4_isGust
set_option maxRecDepth 20000 in
theorem ggX4_ifGust_X4_in : GoodIn wsX4_ifGust wsX4_in := goodIn_r _ [9] (by decide +kernel) (by decide +kernel)
set_option maxRecDepth 20000 in
theorem gX4_ifGust_X4_in : GoodIn wsX4_ifGust (va_wsS RX4 32 yX4_in wsX4_in) := goodIn_app (goodIn_of _ (by decide +kernel)) ggX4_ifGust_X4_in
set_option maxRecDepth 20000 in
theorem ggX4_ifGust_X4_told : GoodIn wsX4_ifGust wsX4_told := goodIn_r _ [16, 17, 18, 19, 4, 20, 21, 22, 23, 24, 6, 25, 26, 27, 28, 29, 30, 31, 32, 33, 34, 35, 36, 37, 38, 39, 7, 8, 9, 40, 41, 42, 43, 44, 45, 46, 47, 48, 49, 50, 51, 52, 53, 54, 55, 56, 57, 58, 59, 60, 61, 62, 63, 64, 65, 66, 67] (by decide +kernel) (by decide +kernel)
set_option maxRecDepth 20000 in
theorem gX4_ifGust_X4_told : GoodIn wsX4_ifGust (wsV RX4 170 RX4 yX4_told wsX4_told) := goodIn_app (goodIn_of _ (by decide +kernel)) ggX4_ifGust_X4_told
theorem dX4_ifGust_0 : decode cX4_ifGust 0 = .ok (.aload_n 0, 1) := by decide +kernel
theorem dX4_ifGust_1 : decode cX4_ifGust 1 = .ok (.iload_n 1, 1) := by decide +kernel
theorem dX4_ifGust_2 : decode cX4_ifGust 2 = .ok (.invokevirtual 91, 3) := by decide +kernel
theorem dX4_ifGust_5 : decode cX4_ifGust 5 = .ok (.ifCond .ne 7, 3) := by decide +kernel
theorem dX4_ifGust_8 : decode cX4_ifGust 8 = .ok (.iconst (-1), 1) := by decide +kernel
theorem dX4_ifGust_9 : decode cX4_ifGust 9 = .ok (.goto 35, 3) := by decide +kernel
theorem dX4_ifGust_12 : decode cX4_ifGust 12 = .ok (.iload_n 2, 1) := by decide +kernel
theorem dX4_ifGust_13 : decode cX4_ifGust 13 = .ok (.iload_n 3, 1) := by decide +kernel
theorem dX4_ifGust_14 : decode cX4_ifGust 14 = .ok (.invokestatic 114, 3) := by decide +kernel
theorem dX4_ifGust_17 : decode cX4_ifGust 17 = .ok (.ifCond .eq 25, 3) := by decide +kernel
theorem dX4_ifGust_20 : decode cX4_ifGust 20 = .ok (.iload 4, 2) := by decide +kernel
theorem dX4_ifGust_22 : decode cX4_ifGust 22 = .ok (.iconst 0, 1) := by decide +kernel
theorem dX4_ifGust_23 : decode cX4_ifGust 23 = .ok (.iconst 3, 1) := by decide +kernel
theorem dX4_ifGust_24 : decode cX4_ifGust 24 = .ok (.invokestatic 32, 3) := by decide +kernel
theorem dX4_ifGust_27 : decode cX4_ifGust 27 = .ok (.ifCond .eq 15, 3) := by decide +kernel
theorem dX4_ifGust_30 : decode cX4_ifGust 30 = .ok (.aload_n 0, 1) := by decide +kernel
theorem dX4_ifGust_31 : decode cX4_ifGust 31 = .ok (.iload_n 1, 1) := by decide +kernel
theorem dX4_ifGust_32 : decode cX4_ifGust 32 = .ok (.iload_n 2, 1) := by decide +kernel
theorem dX4_ifGust_33 : decode cX4_ifGust 33 = .ok (.iload_n 3, 1) := by decide +kernel
theorem dX4_ifGust_34 : decode cX4_ifGust 34 = .ok (.iload 4, 2) := by decide +kernel
theorem dX4_ifGust_36 : decode cX4_ifGust 36 = .ok (.invokevirtual 170, 3) := by decide +kernel
theorem dX4_ifGust_39 : decode cX4_ifGust 39 = .ok (.goto 5, 3) := by decide +kernel
theorem dX4_ifGust_42 : decode cX4_ifGust 42 = .ok (.bipush (-2), 2) := by decide +kernel
theorem dX4_ifGust_44 : decode cX4_ifGust 44 = .ok (.ireturn, 1) := by decide +kernel
set_option maxRecDepth 20000 in
theorem ggX4_reason_X4_arePair : GoodIn wsX4_reason wsX4_arePair := goodIn_r _ [5, 6, 7, 8, 4, 9, 10, 11, 12, 13, 25, 26, 27, 28, 29, 30, 31, 32, 33, 34, 35, 36, 37, 38, 39, 40] (by decide +kernel) (by decide +kernel)
set_option maxRecDepth 20000 in
theorem gX4_reason_X4_arePair : GoodIn wsX4_reason (wsV RX4 95 RX4 yX4_arePair wsX4_arePair) := goodIn_app (goodIn_of _ (by decide +kernel)) ggX4_reason_X4_arePair
set_option maxRecDepth 20000 in
theorem ggX4_reason_X4_why : GoodIn wsX4_reason wsX4_why := goodIn_r _ [17, 18, 19, 20, 4, 21, 10, 22, 23, 24, 25, 26, 27, 28, 29, 30, 31, 32, 33, 34, 35, 36, 37, 38, 39, 40] (by decide +kernel) (by decide +kernel)
set_option maxRecDepth 20000 in
theorem gX4_reason_X4_why : GoodIn wsX4_reason (wsV RX4 98 RX4 yX4_why wsX4_why) := goodIn_app (goodIn_of _ (by decide +kernel)) ggX4_reason_X4_why
theorem dX4_reason_0 : decode cX4_reason 0 = .ok (.aload_n 0, 1) := by decide +kernel
theorem dX4_reason_1 : decode cX4_reason 1 = .ok (.iload_n 1, 1) := by decide +kernel
theorem dX4_reason_2 : decode cX4_reason 2 = .ok (.invokevirtual 95, 3) := by decide +kernel
theorem dX4_reason_5 : decode cX4_reason 5 = .ok (.ifCond .eq 11, 3) := by decide +kernel
theorem dX4_reason_8 : decode cX4_reason 8 = .ok (.aload_n 0, 1) := by decide +kernel
theorem dX4_reason_9 : decode cX4_reason 9 = .ok (.iload_n 1, 1) := by decide +kernel
theorem dX4_reason_10 : decode cX4_reason 10 = .ok (.invokevirtual 98, 3) := by decide +kernel
theorem dX4_reason_13 : decode cX4_reason 13 = .ok (.goto 4, 3) := by decide +kernel
theorem dX4_reason_16 : decode cX4_reason 16 = .ok (.iconst (-1), 1) := by decide +kernel
theorem dX4_reason_17 : decode cX4_reason 17 = .ok (.ireturn, 1) := by decide +kernel
set_option maxRecDepth 20000 in
theorem ggX4_allWetBy_X4_wetBy : GoodIn wsX4_allWetBy wsX4_wetBy := goodIn_r _ [6, 7, 8, 9, 5, 10, 1, 11, 12, 13, 14, 15, 16, 17, 18, 19, 20, 21, 22, 23, 24, 25, 26, 27, 28, 29, 30, 31, 32, 33, 34, 35, 36, 37, 38, 39, 40, 41, 42, 43, 44, 45, 46, 47, 48, 49, 50, 51, 52, 53, 54, 55, 56] (by decide +kernel) (by decide +kernel)
set_option maxRecDepth 20000 in
theorem gX4_allWetBy_X4_wetBy : GoodIn wsX4_allWetBy (wsV RX4 73 RX4 yX4_wetBy wsX4_wetBy) := goodIn_app (goodIn_of _ (by decide +kernel)) ggX4_allWetBy_X4_wetBy
theorem dX4_allWetBy_0 : decode cX4_allWetBy 0 = .ok (.iconst 0, 1) := by decide +kernel
theorem dX4_allWetBy_1 : decode cX4_allWetBy 1 = .ok (.istore_n 3, 1) := by decide +kernel
theorem dX4_allWetBy_2 : decode cX4_allWetBy 2 = .ok (.iconst 0, 1) := by decide +kernel
theorem dX4_allWetBy_3 : decode cX4_allWetBy 3 = .ok (.istore 4, 2) := by decide +kernel
theorem dX4_allWetBy_5 : decode cX4_allWetBy 5 = .ok (.iload 4, 2) := by decide +kernel
theorem dX4_allWetBy_7 : decode cX4_allWetBy 7 = .ok (.aload_n 0, 1) := by decide +kernel
theorem dX4_allWetBy_8 : decode cX4_allWetBy 8 = .ok (.getfield 7, 3) := by decide +kernel
theorem dX4_allWetBy_11 : decode cX4_allWetBy 11 = .ok (.iconst 0, 1) := by decide +kernel
theorem dX4_allWetBy_12 : decode cX4_allWetBy 12 = .ok (.iaload, 1) := by decide +kernel
theorem dX4_allWetBy_13 : decode cX4_allWetBy 13 = .ok (.if_icmp .ge 20, 3) := by decide +kernel
theorem dX4_allWetBy_16 : decode cX4_allWetBy 16 = .ok (.iload_n 3, 1) := by decide +kernel
theorem dX4_allWetBy_17 : decode cX4_allWetBy 17 = .ok (.aload_n 0, 1) := by decide +kernel
theorem dX4_allWetBy_18 : decode cX4_allWetBy 18 = .ok (.iload 4, 2) := by decide +kernel
theorem dX4_allWetBy_20 : decode cX4_allWetBy 20 = .ok (.iload_n 1, 1) := by decide +kernel
theorem dX4_allWetBy_21 : decode cX4_allWetBy 21 = .ok (.iload_n 2, 1) := by decide +kernel
theorem dX4_allWetBy_22 : decode cX4_allWetBy 22 = .ok (.invokevirtual 73, 3) := by decide +kernel
theorem dX4_allWetBy_25 : decode cX4_allWetBy 25 = .ok (.iadd, 1) := by decide +kernel
theorem dX4_allWetBy_26 : decode cX4_allWetBy 26 = .ok (.istore_n 3, 1) := by decide +kernel
theorem dX4_allWetBy_27 : decode cX4_allWetBy 27 = .ok (.iinc 4 1, 3) := by decide +kernel
theorem dX4_allWetBy_30 : decode cX4_allWetBy 30 = .ok (.goto (-25), 3) := by decide +kernel
theorem dX4_allWetBy_33 : decode cX4_allWetBy 33 = .ok (.iload_n 3, 1) := by decide +kernel
theorem dX4_allWetBy_34 : decode cX4_allWetBy 34 = .ok (.ireturn, 1) := by decide +kernel
set_option maxRecDepth 20000 in
theorem ggX4_bestSwap_X4_isGust : GoodIn wsX4_bestSwap wsX4_isGust := goodIn_r _ [5, 6, 7, 4, 8] (by decide +kernel) (by decide +kernel)
set_option maxRecDepth 20000 in
theorem gX4_bestSwap_X4_isGust : GoodIn wsX4_bestSwap (va_wsS RX4 114 yX4_isGust wsX4_isGust) := goodIn_app (goodIn_of _ (by decide +kernel)) ggX4_bestSwap_X4_isGust
set_option maxRecDepth 20000 in
theorem ggX4_bestSwap_X4_allWetBy : GoodIn wsX4_bestSwap wsX4_allWetBy := goodIn_r _ [12, 1, 13, 14, 15, 4, 16, 17, 18, 19, 20, 21, 22, 23, 24, 25, 26, 27, 28, 29, 30, 31, 32, 33, 34, 35, 36, 37, 38, 39, 40, 41, 42, 43, 6, 7, 8, 44, 45, 46, 47, 56, 57, 58, 59, 60, 61, 62, 63, 64, 65, 66, 67, 68, 69, 70, 71] (by decide +kernel) (by decide +kernel)
set_option maxRecDepth 20000 in
theorem gX4_bestSwap_X4_allWetBy : GoodIn wsX4_bestSwap (wsV RX4 174 RX4 yX4_allWetBy wsX4_allWetBy) := goodIn_app (goodIn_of _ (by decide +kernel)) ggX4_bestSwap_X4_allWetBy
set_option maxRecDepth 20000 in
theorem ggX4_bestSwap_X4_why : GoodIn wsX4_bestSwap wsX4_why := goodIn_r _ [51, 17, 18, 19, 4, 20, 1, 21, 22, 23, 56, 57, 58, 59, 60, 61, 62, 63, 64, 65, 66, 67, 68, 69, 70, 71] (by decide +kernel) (by decide +kernel)
set_option maxRecDepth 20000 in
theorem gX4_bestSwap_X4_why : GoodIn wsX4_bestSwap (wsV RX4 98 RX4 yX4_why wsX4_why) := goodIn_app (goodIn_of _ (by decide +kernel)) ggX4_bestSwap_X4_why
set_option maxRecDepth 20000 in
theorem ggX4_bestSwap_X4_exchange : GoodIn wsX4_bestSwap wsX4_exchange := goodIn_r _ [55, 1, 17, 18, 19, 4, 20, 21, 22, 23, 56, 57, 58, 59, 60, 61, 62, 63, 64, 65, 66, 67, 68, 69, 70, 71] (by decide +kernel) (by decide +kernel)
set_option maxRecDepth 20000 in
theorem gX4_bestSwap_X4_exchange : GoodIn wsX4_bestSwap (wsV RX4 101 RX4 yX4_exchange wsX4_exchange) := goodIn_app (goodIn_of _ (by decide +kernel)) ggX4_bestSwap_X4_exchange
theorem dX4_bestSwap_0 : decode cX4_bestSwap 0 = .ok (.iload_n 1, 1) := by decide +kernel
theorem dX4_bestSwap_1 : decode cX4_bestSwap 1 = .ok (.iload_n 2, 1) := by decide +kernel
theorem dX4_bestSwap_2 : decode cX4_bestSwap 2 = .ok (.invokestatic 114, 3) := by decide +kernel
theorem dX4_bestSwap_5 : decode cX4_bestSwap 5 = .ok (.ifCond .ne 6, 3) := by decide +kernel
theorem dX4_bestSwap_8 : decode cX4_bestSwap 8 = .ok (.bipush (-2), 2) := by decide +kernel
theorem dX4_bestSwap_10 : decode cX4_bestSwap 10 = .ok (.ireturn, 1) := by decide +kernel
theorem dX4_bestSwap_11 : decode cX4_bestSwap 11 = .ok (.bipush (-5), 2) := by decide +kernel
theorem dX4_bestSwap_13 : decode cX4_bestSwap 13 = .ok (.istore_n 3, 1) := by decide +kernel
theorem dX4_bestSwap_14 : decode cX4_bestSwap 14 = .ok (.aload_n 0, 1) := by decide +kernel
theorem dX4_bestSwap_15 : decode cX4_bestSwap 15 = .ok (.iload_n 1, 1) := by decide +kernel
theorem dX4_bestSwap_16 : decode cX4_bestSwap 16 = .ok (.iload_n 2, 1) := by decide +kernel
theorem dX4_bestSwap_17 : decode cX4_bestSwap 17 = .ok (.invokevirtual 174, 3) := by decide +kernel
theorem dX4_bestSwap_20 : decode cX4_bestSwap 20 = .ok (.istore 4, 2) := by decide +kernel
theorem dX4_bestSwap_22 : decode cX4_bestSwap 22 = .ok (.iconst 0, 1) := by decide +kernel
theorem dX4_bestSwap_23 : decode cX4_bestSwap 23 = .ok (.istore 5, 2) := by decide +kernel
theorem dX4_bestSwap_25 : decode cX4_bestSwap 25 = .ok (.iload 5, 2) := by decide +kernel
theorem dX4_bestSwap_27 : decode cX4_bestSwap 27 = .ok (.iconst 1, 1) := by decide +kernel
theorem dX4_bestSwap_28 : decode cX4_bestSwap 28 = .ok (.iadd, 1) := by decide +kernel
theorem dX4_bestSwap_29 : decode cX4_bestSwap 29 = .ok (.aload_n 0, 1) := by decide +kernel
theorem dX4_bestSwap_30 : decode cX4_bestSwap 30 = .ok (.getfield 7, 3) := by decide +kernel
theorem dX4_bestSwap_33 : decode cX4_bestSwap 33 = .ok (.iconst 0, 1) := by decide +kernel
theorem dX4_bestSwap_34 : decode cX4_bestSwap 34 = .ok (.iaload, 1) := by decide +kernel
theorem dX4_bestSwap_35 : decode cX4_bestSwap 35 = .ok (.if_icmp .ge 70, 3) := by decide +kernel
theorem dX4_bestSwap_38 : decode cX4_bestSwap 38 = .ok (.aload_n 0, 1) := by decide +kernel
theorem dX4_bestSwap_39 : decode cX4_bestSwap 39 = .ok (.iload 5, 2) := by decide +kernel
theorem dX4_bestSwap_41 : decode cX4_bestSwap 41 = .ok (.invokevirtual 98, 3) := by decide +kernel
theorem dX4_bestSwap_44 : decode cX4_bestSwap 44 = .ok (.ifCond .ne 55, 3) := by decide +kernel
theorem dX4_bestSwap_47 : decode cX4_bestSwap 47 = .ok (.aload_n 0, 1) := by decide +kernel
theorem dX4_bestSwap_48 : decode cX4_bestSwap 48 = .ok (.iload 5, 2) := by decide +kernel
theorem dX4_bestSwap_50 : decode cX4_bestSwap 50 = .ok (.iconst 4, 1) := by decide +kernel
theorem dX4_bestSwap_51 : decode cX4_bestSwap 51 = .ok (.invokevirtual 101, 3) := by decide +kernel
theorem dX4_bestSwap_54 : decode cX4_bestSwap 54 = .ok (.aload_n 0, 1) := by decide +kernel
theorem dX4_bestSwap_55 : decode cX4_bestSwap 55 = .ok (.iload_n 1, 1) := by decide +kernel
theorem dX4_bestSwap_56 : decode cX4_bestSwap 56 = .ok (.iload_n 2, 1) := by decide +kernel
theorem dX4_bestSwap_57 : decode cX4_bestSwap 57 = .ok (.invokevirtual 174, 3) := by decide +kernel
theorem dX4_bestSwap_60 : decode cX4_bestSwap 60 = .ok (.istore 6, 2) := by decide +kernel
theorem dX4_bestSwap_62 : decode cX4_bestSwap 62 = .ok (.aload_n 0, 1) := by decide +kernel
theorem dX4_bestSwap_63 : decode cX4_bestSwap 63 = .ok (.iload 5, 2) := by decide +kernel
theorem dX4_bestSwap_65 : decode cX4_bestSwap 65 = .ok (.iconst 4, 1) := by decide +kernel
theorem dX4_bestSwap_66 : decode cX4_bestSwap 66 = .ok (.invokevirtual 101, 3) := by decide +kernel
theorem dX4_bestSwap_69 : decode cX4_bestSwap 69 = .ok (.iload 6, 2) := by decide +kernel
theorem dX4_bestSwap_71 : decode cX4_bestSwap 71 = .ok (.iload 4, 2) := by decide +kernel
theorem dX4_bestSwap_73 : decode cX4_bestSwap 73 = .ok (.if_icmp .ge 8, 3) := by decide +kernel
theorem dX4_bestSwap_76 : decode cX4_bestSwap 76 = .ok (.iload 5, 2) := by decide +kernel
theorem dX4_bestSwap_78 : decode cX4_bestSwap 78 = .ok (.goto 4, 3) := by decide +kernel
theorem dX4_bestSwap_81 : decode cX4_bestSwap 81 = .ok (.iload_n 3, 1) := by decide +kernel
theorem dX4_bestSwap_82 : decode cX4_bestSwap 82 = .ok (.istore_n 3, 1) := by decide +kernel
theorem dX4_bestSwap_83 : decode cX4_bestSwap 83 = .ok (.iload 6, 2) := by decide +kernel
theorem dX4_bestSwap_85 : decode cX4_bestSwap 85 = .ok (.iload 4, 2) := by decide +kernel
theorem dX4_bestSwap_87 : decode cX4_bestSwap 87 = .ok (.if_icmp .ge 8, 3) := by decide +kernel
theorem dX4_bestSwap_90 : decode cX4_bestSwap 90 = .ok (.iload 6, 2) := by decide +kernel
theorem dX4_bestSwap_92 : decode cX4_bestSwap 92 = .ok (.goto 5, 3) := by decide +kernel
theorem dX4_bestSwap_95 : decode cX4_bestSwap 95 = .ok (.iload 4, 2) := by decide +kernel
theorem dX4_bestSwap_97 : decode cX4_bestSwap 97 = .ok (.istore 4, 2) := by decide +kernel
theorem dX4_bestSwap_99 : decode cX4_bestSwap 99 = .ok (.iinc 5 1, 3) := by decide +kernel
theorem dX4_bestSwap_102 : decode cX4_bestSwap 102 = .ok (.goto (-77), 3) := by decide +kernel
theorem dX4_bestSwap_105 : decode cX4_bestSwap 105 = .ok (.iload_n 3, 1) := by decide +kernel
theorem dX4_bestSwap_106 : decode cX4_bestSwap 106 = .ok (.ireturn, 1) := by decide +kernel
set_option maxRecDepth 20000 in
theorem ggX4_payer_X4_in : GoodIn wsX4_payer wsX4_in := goodIn_r _ [5] (by decide +kernel) (by decide +kernel)
set_option maxRecDepth 20000 in
theorem gX4_payer_X4_in : GoodIn wsX4_payer (va_wsS RX4 32 yX4_in wsX4_in) := goodIn_app (goodIn_of _ (by decide +kernel)) ggX4_payer_X4_in
set_option maxRecDepth 20000 in
theorem ggX4_payer_X4_driest : GoodIn wsX4_payer wsX4_driest := goodIn_r _ [9, 10, 11, 12, 4, 13, 1, 14, 15, 16, 17, 18, 19, 20, 25, 26, 27, 28, 29, 30, 31, 32, 33, 34, 35, 36, 37, 38, 39, 40] (by decide +kernel) (by decide +kernel)
set_option maxRecDepth 20000 in
theorem gX4_payer_X4_driest : GoodIn wsX4_payer (wsV RX4 85 RX4 yX4_driest wsX4_driest) := goodIn_app (goodIn_of _ (by decide +kernel)) ggX4_payer_X4_driest
set_option maxRecDepth 20000 in
theorem ggX4_payer_X4_coinsPaid : GoodIn wsX4_payer wsX4_coinsPaid := goodIn_r _ [24, 1, 10, 11, 12, 4, 13, 6, 7, 8, 9, 14, 15, 16, 17, 18, 19, 20, 25, 26, 27, 28, 29, 30, 31, 32, 33, 34, 35, 36, 37, 38, 39, 40] (by decide +kernel) (by decide +kernel)
set_option maxRecDepth 20000 in
theorem gX4_payer_X4_coinsPaid : GoodIn wsX4_payer (wsV RX4 88 RX4 yX4_coinsPaid wsX4_coinsPaid) := goodIn_app (goodIn_of _ (by decide +kernel)) ggX4_payer_X4_coinsPaid
theorem dX4_payer_0 : decode cX4_payer 0 = .ok (.iload_n 1, 1) := by decide +kernel
theorem dX4_payer_1 : decode cX4_payer 1 = .ok (.iconst 0, 1) := by decide +kernel
theorem dX4_payer_2 : decode cX4_payer 2 = .ok (.iconst 1, 1) := by decide +kernel
theorem dX4_payer_3 : decode cX4_payer 3 = .ok (.invokestatic 32, 3) := by decide +kernel
theorem dX4_payer_6 : decode cX4_payer 6 = .ok (.ifCond .ne 6, 3) := by decide +kernel
theorem dX4_payer_9 : decode cX4_payer 9 = .ok (.bipush (-2), 2) := by decide +kernel
theorem dX4_payer_11 : decode cX4_payer 11 = .ok (.ireturn, 1) := by decide +kernel
theorem dX4_payer_12 : decode cX4_payer 12 = .ok (.aload_n 0, 1) := by decide +kernel
theorem dX4_payer_13 : decode cX4_payer 13 = .ok (.getfield 7, 3) := by decide +kernel
theorem dX4_payer_16 : decode cX4_payer 16 = .ok (.iconst 0, 1) := by decide +kernel
theorem dX4_payer_17 : decode cX4_payer 17 = .ok (.iaload, 1) := by decide +kernel
theorem dX4_payer_18 : decode cX4_payer 18 = .ok (.ifCond .ne 8, 3) := by decide +kernel
theorem dX4_payer_21 : decode cX4_payer 21 = .ok (.bipush (-5), 2) := by decide +kernel
theorem dX4_payer_23 : decode cX4_payer 23 = .ok (.goto 18, 3) := by decide +kernel
theorem dX4_payer_26 : decode cX4_payer 26 = .ok (.iload_n 1, 1) := by decide +kernel
theorem dX4_payer_27 : decode cX4_payer 27 = .ok (.ifCond .ne 10, 3) := by decide +kernel
theorem dX4_payer_30 : decode cX4_payer 30 = .ok (.aload_n 0, 1) := by decide +kernel
theorem dX4_payer_31 : decode cX4_payer 31 = .ok (.invokevirtual 85, 3) := by decide +kernel
theorem dX4_payer_34 : decode cX4_payer 34 = .ok (.goto 7, 3) := by decide +kernel
theorem dX4_payer_37 : decode cX4_payer 37 = .ok (.aload_n 0, 1) := by decide +kernel
theorem dX4_payer_38 : decode cX4_payer 38 = .ok (.invokevirtual 88, 3) := by decide +kernel
theorem dX4_payer_41 : decode cX4_payer 41 = .ok (.ireturn, 1) := by decide +kernel
set_option maxRecDepth 20000 in
theorem ggX4_bears_X4_isPlace : GoodIn wsX4_bears wsX4_isPlace := goodIn_r _ [5, 6, 7, 8, 4, 9, 41, 42, 43, 44, 45, 46, 47, 48, 49, 50, 51, 52, 53, 54, 55, 56] (by decide +kernel) (by decide +kernel)
set_option maxRecDepth 20000 in
theorem gX4_bears_X4_isPlace : GoodIn wsX4_bears (wsV RX4 91 RX4 yX4_isPlace wsX4_isPlace) := goodIn_app (goodIn_of _ (by decide +kernel)) ggX4_bears_X4_isPlace
set_option maxRecDepth 20000 in
theorem ggX4_bears_X4_in : GoodIn wsX4_bears wsX4_in := goodIn_r _ [9] (by decide +kernel) (by decide +kernel)
set_option maxRecDepth 20000 in
theorem gX4_bears_X4_in : GoodIn wsX4_bears (va_wsS RX4 32 yX4_in wsX4_in) := goodIn_app (goodIn_of _ (by decide +kernel)) ggX4_bears_X4_in
set_option maxRecDepth 20000 in
theorem ggX4_bears_X4_wetter : GoodIn wsX4_bears wsX4_wetter := goodIn_r _ [13, 14, 15, 16, 4, 17, 18, 19, 20, 21, 6, 22, 23, 24, 25, 26, 27, 28, 29, 30, 31, 32, 33, 34, 35, 36, 7, 8, 9, 37, 38, 39, 40, 41, 42, 43, 44, 45, 46, 47, 48, 49, 50, 51, 52, 53, 54, 55, 56] (by decide +kernel) (by decide +kernel)
set_option maxRecDepth 20000 in
theorem gX4_bears_X4_wetter : GoodIn wsX4_bears (wsV RX4 69 RX4 yX4_wetter wsX4_wetter) := goodIn_app (goodIn_of _ (by decide +kernel)) ggX4_bears_X4_wetter
set_option maxRecDepth 20000 in
theorem ggX4_bears_X4_of : GoodIn wsX4_bears wsX4_of := goodIn_r _ [25, 6, 26, 27, 4, 28, 41, 42, 43, 44, 45, 46, 47, 48, 49, 50, 51, 52, 53, 54, 55, 56] (by decide +kernel) (by decide +kernel)
set_option maxRecDepth 20000 in
theorem gX4_bears_X4_of : GoodIn wsX4_bears (wsV RX4 49 RX4 yX4_of wsX4_of) := goodIn_app (goodIn_of _ (by decide +kernel)) ggX4_bears_X4_of
theorem dX4_bears_0 : decode cX4_bears 0 = .ok (.aload_n 0, 1) := by decide +kernel
theorem dX4_bears_1 : decode cX4_bears 1 = .ok (.iload_n 1, 1) := by decide +kernel
theorem dX4_bears_2 : decode cX4_bears 2 = .ok (.invokevirtual 91, 3) := by decide +kernel
theorem dX4_bears_5 : decode cX4_bears 5 = .ok (.ifCond .ne 5, 3) := by decide +kernel
theorem dX4_bears_8 : decode cX4_bears 8 = .ok (.iconst (-1), 1) := by decide +kernel
theorem dX4_bears_9 : decode cX4_bears 9 = .ok (.ireturn, 1) := by decide +kernel
theorem dX4_bears_10 : decode cX4_bears 10 = .ok (.iload_n 2, 1) := by decide +kernel
theorem dX4_bears_11 : decode cX4_bears 11 = .ok (.iconst 1, 1) := by decide +kernel
theorem dX4_bears_12 : decode cX4_bears 12 = .ok (.bipush 99, 2) := by decide +kernel
theorem dX4_bears_14 : decode cX4_bears 14 = .ok (.invokestatic 32, 3) := by decide +kernel
theorem dX4_bears_17 : decode cX4_bears 17 = .ok (.ifCond .ne 6, 3) := by decide +kernel
theorem dX4_bears_20 : decode cX4_bears 20 = .ok (.bipush (-2), 2) := by decide +kernel
theorem dX4_bears_22 : decode cX4_bears 22 = .ok (.ireturn, 1) := by decide +kernel
theorem dX4_bears_23 : decode cX4_bears 23 = .ok (.aload_n 0, 1) := by decide +kernel
theorem dX4_bears_24 : decode cX4_bears 24 = .ok (.iload_n 1, 1) := by decide +kernel
theorem dX4_bears_25 : decode cX4_bears 25 = .ok (.iload_n 2, 1) := by decide +kernel
theorem dX4_bears_26 : decode cX4_bears 26 = .ok (.iconst 0, 1) := by decide +kernel
theorem dX4_bears_27 : decode cX4_bears 27 = .ok (.invokevirtual 69, 3) := by decide +kernel
theorem dX4_bears_30 : decode cX4_bears 30 = .ok (.istore_n 3, 1) := by decide +kernel
theorem dX4_bears_31 : decode cX4_bears 31 = .ok (.iload_n 3, 1) := by decide +kernel
theorem dX4_bears_32 : decode cX4_bears 32 = .ok (.ifCond .eq 15, 3) := by decide +kernel
theorem dX4_bears_35 : decode cX4_bears 35 = .ok (.aload_n 0, 1) := by decide +kernel
theorem dX4_bears_36 : decode cX4_bears 36 = .ok (.iload_n 1, 1) := by decide +kernel
theorem dX4_bears_37 : decode cX4_bears 37 = .ok (.iconst 2, 1) := by decide +kernel
theorem dX4_bears_38 : decode cX4_bears 38 = .ok (.invokevirtual 49, 3) := by decide +kernel
theorem dX4_bears_41 : decode cX4_bears 41 = .ok (.sipush 999, 3) := by decide +kernel
theorem dX4_bears_44 : decode cX4_bears 44 = .ok (.if_icmp .ne 6, 3) := by decide +kernel
theorem dX4_bears_47 : decode cX4_bears 47 = .ok (.bipush (-5), 2) := by decide +kernel
theorem dX4_bears_49 : decode cX4_bears 49 = .ok (.ireturn, 1) := by decide +kernel
theorem dX4_bears_50 : decode cX4_bears 50 = .ok (.aload_n 0, 1) := by decide +kernel
theorem dX4_bears_51 : decode cX4_bears 51 = .ok (.iload_n 1, 1) := by decide +kernel
theorem dX4_bears_52 : decode cX4_bears 52 = .ok (.iconst 2, 1) := by decide +kernel
theorem dX4_bears_53 : decode cX4_bears 53 = .ok (.invokevirtual 49, 3) := by decide +kernel
theorem dX4_bears_56 : decode cX4_bears 56 = .ok (.aload_n 0, 1) := by decide +kernel
theorem dX4_bears_57 : decode cX4_bears 57 = .ok (.iload_n 1, 1) := by decide +kernel
theorem dX4_bears_58 : decode cX4_bears 58 = .ok (.iconst 1, 1) := by decide +kernel
theorem dX4_bears_59 : decode cX4_bears 59 = .ok (.invokevirtual 49, 3) := by decide +kernel
theorem dX4_bears_62 : decode cX4_bears 62 = .ok (.isub, 1) := by decide +kernel
theorem dX4_bears_63 : decode cX4_bears 63 = .ok (.iload_n 3, 1) := by decide +kernel
theorem dX4_bears_64 : decode cX4_bears 64 = .ok (.idiv, 1) := by decide +kernel
theorem dX4_bears_65 : decode cX4_bears 65 = .ok (.ireturn, 1) := by decide +kernel
set_option maxRecDepth 20000 in
theorem ggX4_sumWet_X4_of : GoodIn wsX4_sumWet wsX4_of := goodIn_r _ [6, 1, 7, 8, 5, 9, 10, 11, 12, 13, 14, 15, 16, 17, 18, 19, 20, 21, 22, 23, 24, 25] (by decide +kernel) (by decide +kernel)
set_option maxRecDepth 20000 in
theorem gX4_sumWet_X4_of : GoodIn wsX4_sumWet (wsV RX4 49 RX4 yX4_of wsX4_of) := goodIn_app (goodIn_of _ (by decide +kernel)) ggX4_sumWet_X4_of
theorem dX4_sumWet_0 : decode cX4_sumWet 0 = .ok (.iconst 0, 1) := by decide +kernel
theorem dX4_sumWet_1 : decode cX4_sumWet 1 = .ok (.istore_n 1, 1) := by decide +kernel
theorem dX4_sumWet_2 : decode cX4_sumWet 2 = .ok (.iconst 0, 1) := by decide +kernel
theorem dX4_sumWet_3 : decode cX4_sumWet 3 = .ok (.istore_n 2, 1) := by decide +kernel
theorem dX4_sumWet_4 : decode cX4_sumWet 4 = .ok (.iload_n 2, 1) := by decide +kernel
theorem dX4_sumWet_5 : decode cX4_sumWet 5 = .ok (.aload_n 0, 1) := by decide +kernel
theorem dX4_sumWet_6 : decode cX4_sumWet 6 = .ok (.getfield 7, 3) := by decide +kernel
theorem dX4_sumWet_9 : decode cX4_sumWet 9 = .ok (.iconst 0, 1) := by decide +kernel
theorem dX4_sumWet_10 : decode cX4_sumWet 10 = .ok (.iaload, 1) := by decide +kernel
theorem dX4_sumWet_11 : decode cX4_sumWet 11 = .ok (.if_icmp .ge 18, 3) := by decide +kernel
theorem dX4_sumWet_14 : decode cX4_sumWet 14 = .ok (.iload_n 1, 1) := by decide +kernel
theorem dX4_sumWet_15 : decode cX4_sumWet 15 = .ok (.aload_n 0, 1) := by decide +kernel
theorem dX4_sumWet_16 : decode cX4_sumWet 16 = .ok (.iload_n 2, 1) := by decide +kernel
theorem dX4_sumWet_17 : decode cX4_sumWet 17 = .ok (.iconst 1, 1) := by decide +kernel
theorem dX4_sumWet_18 : decode cX4_sumWet 18 = .ok (.invokevirtual 49, 3) := by decide +kernel
theorem dX4_sumWet_21 : decode cX4_sumWet 21 = .ok (.iadd, 1) := by decide +kernel
theorem dX4_sumWet_22 : decode cX4_sumWet 22 = .ok (.istore_n 1, 1) := by decide +kernel
theorem dX4_sumWet_23 : decode cX4_sumWet 23 = .ok (.iinc 2 1, 3) := by decide +kernel
theorem dX4_sumWet_26 : decode cX4_sumWet 26 = .ok (.goto (-22), 3) := by decide +kernel
theorem dX4_sumWet_29 : decode cX4_sumWet 29 = .ok (.iload_n 1, 1) := by decide +kernel
theorem dX4_sumWet_30 : decode cX4_sumWet 30 = .ok (.ireturn, 1) := by decide +kernel
set_option maxRecDepth 20000 in
theorem ggX4_wettest_X4_of : GoodIn wsX4_wettest wsX4_of := goodIn_r _ [6, 1, 7, 8, 5, 9, 10, 11, 12, 13, 14, 15, 16, 17, 18, 19, 20, 21, 22, 23, 24, 25] (by decide +kernel) (by decide +kernel)
set_option maxRecDepth 20000 in
theorem gX4_wettest_X4_of : GoodIn wsX4_wettest (wsV RX4 49 RX4 yX4_of wsX4_of) := goodIn_app (goodIn_of _ (by decide +kernel)) ggX4_wettest_X4_of
theorem dX4_wettest_0 : decode cX4_wettest 0 = .ok (.aload_n 0, 1) := by decide +kernel
theorem dX4_wettest_1 : decode cX4_wettest 1 = .ok (.getfield 7, 3) := by decide +kernel
theorem dX4_wettest_4 : decode cX4_wettest 4 = .ok (.iconst 0, 1) := by decide +kernel
theorem dX4_wettest_5 : decode cX4_wettest 5 = .ok (.iaload, 1) := by decide +kernel
theorem dX4_wettest_6 : decode cX4_wettest 6 = .ok (.ifCond .ne 8, 3) := by decide +kernel
theorem dX4_wettest_9 : decode cX4_wettest 9 = .ok (.bipush (-5), 2) := by decide +kernel
theorem dX4_wettest_11 : decode cX4_wettest 11 = .ok (.goto 4, 3) := by decide +kernel
theorem dX4_wettest_14 : decode cX4_wettest 14 = .ok (.iconst 0, 1) := by decide +kernel
theorem dX4_wettest_15 : decode cX4_wettest 15 = .ok (.istore_n 1, 1) := by decide +kernel
theorem dX4_wettest_16 : decode cX4_wettest 16 = .ok (.iconst 1, 1) := by decide +kernel
theorem dX4_wettest_17 : decode cX4_wettest 17 = .ok (.istore_n 2, 1) := by decide +kernel
theorem dX4_wettest_18 : decode cX4_wettest 18 = .ok (.iload_n 2, 1) := by decide +kernel
theorem dX4_wettest_19 : decode cX4_wettest 19 = .ok (.aload_n 0, 1) := by decide +kernel
theorem dX4_wettest_20 : decode cX4_wettest 20 = .ok (.getfield 7, 3) := by decide +kernel
theorem dX4_wettest_23 : decode cX4_wettest 23 = .ok (.iconst 0, 1) := by decide +kernel
theorem dX4_wettest_24 : decode cX4_wettest 24 = .ok (.iaload, 1) := by decide +kernel
theorem dX4_wettest_25 : decode cX4_wettest 25 = .ok (.if_icmp .ge 30, 3) := by decide +kernel
theorem dX4_wettest_28 : decode cX4_wettest 28 = .ok (.aload_n 0, 1) := by decide +kernel
theorem dX4_wettest_29 : decode cX4_wettest 29 = .ok (.iload_n 2, 1) := by decide +kernel
theorem dX4_wettest_30 : decode cX4_wettest 30 = .ok (.iconst 1, 1) := by decide +kernel
theorem dX4_wettest_31 : decode cX4_wettest 31 = .ok (.invokevirtual 49, 3) := by decide +kernel
theorem dX4_wettest_34 : decode cX4_wettest 34 = .ok (.aload_n 0, 1) := by decide +kernel
theorem dX4_wettest_35 : decode cX4_wettest 35 = .ok (.iload_n 1, 1) := by decide +kernel
theorem dX4_wettest_36 : decode cX4_wettest 36 = .ok (.iconst 1, 1) := by decide +kernel
theorem dX4_wettest_37 : decode cX4_wettest 37 = .ok (.invokevirtual 49, 3) := by decide +kernel
theorem dX4_wettest_40 : decode cX4_wettest 40 = .ok (.if_icmp .le 7, 3) := by decide +kernel
theorem dX4_wettest_43 : decode cX4_wettest 43 = .ok (.iload_n 2, 1) := by decide +kernel
theorem dX4_wettest_44 : decode cX4_wettest 44 = .ok (.goto 4, 3) := by decide +kernel
theorem dX4_wettest_47 : decode cX4_wettest 47 = .ok (.iload_n 1, 1) := by decide +kernel
theorem dX4_wettest_48 : decode cX4_wettest 48 = .ok (.istore_n 1, 1) := by decide +kernel
theorem dX4_wettest_49 : decode cX4_wettest 49 = .ok (.iinc 2 1, 3) := by decide +kernel
theorem dX4_wettest_52 : decode cX4_wettest 52 = .ok (.goto (-34), 3) := by decide +kernel
theorem dX4_wettest_55 : decode cX4_wettest 55 = .ok (.iload_n 1, 1) := by decide +kernel
theorem dX4_wettest_56 : decode cX4_wettest 56 = .ok (.ireturn, 1) := by decide +kernel
set_option maxRecDepth 20000 in
theorem ggX4_unreached_X4_reaching : GoodIn wsX4_unreached wsX4_reaching := goodIn_r _ [6, 1, 7, 8, 9, 5, 10, 11, 12, 13, 14, 15, 16, 17, 18, 19, 20, 21, 22, 23, 24, 25, 26, 27, 28, 29, 30, 31, 32, 33, 34, 35, 36, 37, 38, 39, 40] (by decide +kernel) (by decide +kernel)
set_option maxRecDepth 20000 in
theorem gX4_unreached_X4_reaching : GoodIn wsX4_unreached (wsV RX4 59 RX4 yX4_reaching wsX4_reaching) := goodIn_app (goodIn_of _ (by decide +kernel)) ggX4_unreached_X4_reaching
theorem dX4_unreached_0 : decode cX4_unreached 0 = .ok (.iconst 0, 1) := by decide +kernel
theorem dX4_unreached_1 : decode cX4_unreached 1 = .ok (.istore_n 1, 1) := by decide +kernel
theorem dX4_unreached_2 : decode cX4_unreached 2 = .ok (.iconst 0, 1) := by decide +kernel
theorem dX4_unreached_3 : decode cX4_unreached 3 = .ok (.istore_n 2, 1) := by decide +kernel
theorem dX4_unreached_4 : decode cX4_unreached 4 = .ok (.iload_n 2, 1) := by decide +kernel
theorem dX4_unreached_5 : decode cX4_unreached 5 = .ok (.aload_n 0, 1) := by decide +kernel
theorem dX4_unreached_6 : decode cX4_unreached 6 = .ok (.getfield 7, 3) := by decide +kernel
theorem dX4_unreached_9 : decode cX4_unreached 9 = .ok (.iconst 0, 1) := by decide +kernel
theorem dX4_unreached_10 : decode cX4_unreached 10 = .ok (.iaload, 1) := by decide +kernel
theorem dX4_unreached_11 : decode cX4_unreached 11 = .ok (.if_icmp .ge 25, 3) := by decide +kernel
theorem dX4_unreached_14 : decode cX4_unreached 14 = .ok (.iload_n 1, 1) := by decide +kernel
theorem dX4_unreached_15 : decode cX4_unreached 15 = .ok (.aload_n 0, 1) := by decide +kernel
theorem dX4_unreached_16 : decode cX4_unreached 16 = .ok (.iload_n 2, 1) := by decide +kernel
theorem dX4_unreached_17 : decode cX4_unreached 17 = .ok (.invokevirtual 59, 3) := by decide +kernel
theorem dX4_unreached_20 : decode cX4_unreached 20 = .ok (.ifCond .ne 7, 3) := by decide +kernel
theorem dX4_unreached_23 : decode cX4_unreached 23 = .ok (.iconst 1, 1) := by decide +kernel
theorem dX4_unreached_24 : decode cX4_unreached 24 = .ok (.goto 4, 3) := by decide +kernel
theorem dX4_unreached_27 : decode cX4_unreached 27 = .ok (.iconst 0, 1) := by decide +kernel
theorem dX4_unreached_28 : decode cX4_unreached 28 = .ok (.iadd, 1) := by decide +kernel
theorem dX4_unreached_29 : decode cX4_unreached 29 = .ok (.istore_n 1, 1) := by decide +kernel
theorem dX4_unreached_30 : decode cX4_unreached 30 = .ok (.iinc 2 1, 3) := by decide +kernel
theorem dX4_unreached_33 : decode cX4_unreached 33 = .ok (.goto (-29), 3) := by decide +kernel
theorem dX4_unreached_36 : decode cX4_unreached 36 = .ok (.iload_n 1, 1) := by decide +kernel
theorem dX4_unreached_37 : decode cX4_unreached 37 = .ok (.ireturn, 1) := by decide +kernel
set_option maxRecDepth 20000 in
theorem ggX4_count_X4_in : GoodIn wsX4_count wsX4_in := goodIn_r _ [7] (by decide +kernel) (by decide +kernel)
set_option maxRecDepth 20000 in
theorem gX4_count_X4_in : GoodIn wsX4_count (va_wsS RX4 32 yX4_in wsX4_in) := goodIn_app (goodIn_of _ (by decide +kernel)) ggX4_count_X4_in
set_option maxRecDepth 20000 in
theorem ggX4_count_X4_sumWet : GoodIn wsX4_count wsX4_sumWet := goodIn_r _ [11, 1, 12, 13, 14, 6, 15, 16, 17, 18, 39, 40, 41, 42, 43, 44, 45, 46, 47, 48, 49, 50, 51, 52, 53, 54] (by decide +kernel) (by decide +kernel)
set_option maxRecDepth 20000 in
theorem gX4_count_X4_sumWet : GoodIn wsX4_count (wsV RX4 177 RX4 yX4_sumWet wsX4_sumWet) := goodIn_app (goodIn_of _ (by decide +kernel)) ggX4_count_X4_sumWet
set_option maxRecDepth 20000 in
theorem ggX4_count_X4_wettest : GoodIn wsX4_count wsX4_wettest := goodIn_r _ [22, 1, 12, 13, 14, 6, 15, 16, 17, 18, 39, 40, 41, 42, 43, 44, 45, 46, 47, 48, 49, 50, 51, 52, 53, 54] (by decide +kernel) (by decide +kernel)
set_option maxRecDepth 20000 in
theorem gX4_count_X4_wettest : GoodIn wsX4_count (wsV RX4 180 RX4 yX4_wettest wsX4_wettest) := goodIn_app (goodIn_of _ (by decide +kernel)) ggX4_count_X4_wettest
set_option maxRecDepth 20000 in
theorem ggX4_count_X4_unreached : GoodIn wsX4_count wsX4_unreached := goodIn_r _ [26, 1, 27, 28, 29, 6, 30, 12, 13, 14, 15, 16, 17, 18, 31, 32, 33, 34, 35, 36, 37, 38, 4, 5, 7, 39, 40, 41, 42, 43, 44, 45, 46, 47, 48, 49, 50, 51, 52, 53, 54] (by decide +kernel) (by decide +kernel)
set_option maxRecDepth 20000 in
theorem gX4_count_X4_unreached : GoodIn wsX4_count (wsV RX4 183 RX4 yX4_unreached wsX4_unreached) := goodIn_app (goodIn_of _ (by decide +kernel)) ggX4_count_X4_unreached
theorem dX4_count_0 : decode cX4_count 0 = .ok (.iload_n 1, 1) := by decide +kernel
theorem dX4_count_1 : decode cX4_count 1 = .ok (.iconst 0, 1) := by decide +kernel
theorem dX4_count_2 : decode cX4_count 2 = .ok (.bipush 9, 2) := by decide +kernel
theorem dX4_count_4 : decode cX4_count 4 = .ok (.invokestatic 32, 3) := by decide +kernel
theorem dX4_count_7 : decode cX4_count 7 = .ok (.ifCond .eq 10, 3) := by decide +kernel
theorem dX4_count_10 : decode cX4_count 10 = .ok (.aload_n 0, 1) := by decide +kernel
theorem dX4_count_11 : decode cX4_count 11 = .ok (.getfield 7, 3) := by decide +kernel
theorem dX4_count_14 : decode cX4_count 14 = .ok (.iload_n 1, 1) := by decide +kernel
theorem dX4_count_15 : decode cX4_count 15 = .ok (.iaload, 1) := by decide +kernel
theorem dX4_count_16 : decode cX4_count 16 = .ok (.ireturn, 1) := by decide +kernel
theorem dX4_count_17 : decode cX4_count 17 = .ok (.iload_n 1, 1) := by decide +kernel
theorem dX4_count_18 : decode cX4_count 18 = .ok (.tableswitch 84 10 17 #[46, 51, 56, 61, 61, 61, 74, 79], 46) := by decide +kernel
theorem dX4_count_64 : decode cX4_count 64 = .ok (.aload_n 0, 1) := by decide +kernel
theorem dX4_count_65 : decode cX4_count 65 = .ok (.invokevirtual 177, 3) := by decide +kernel
theorem dX4_count_68 : decode cX4_count 68 = .ok (.ireturn, 1) := by decide +kernel
theorem dX4_count_69 : decode cX4_count 69 = .ok (.aload_n 0, 1) := by decide +kernel
theorem dX4_count_70 : decode cX4_count 70 = .ok (.invokevirtual 180, 3) := by decide +kernel
theorem dX4_count_73 : decode cX4_count 73 = .ok (.ireturn, 1) := by decide +kernel
theorem dX4_count_74 : decode cX4_count 74 = .ok (.aload_n 0, 1) := by decide +kernel
theorem dX4_count_75 : decode cX4_count 75 = .ok (.invokevirtual 183, 3) := by decide +kernel
theorem dX4_count_78 : decode cX4_count 78 = .ok (.ireturn, 1) := by decide +kernel
theorem dX4_count_79 : decode cX4_count 79 = .ok (.aload_n 0, 1) := by decide +kernel
theorem dX4_count_80 : decode cX4_count 80 = .ok (.getfield 7, 3) := by decide +kernel
theorem dX4_count_83 : decode cX4_count 83 = .ok (.bipush 10, 2) := by decide +kernel
theorem dX4_count_85 : decode cX4_count 85 = .ok (.iload_n 1, 1) := by decide +kernel
theorem dX4_count_86 : decode cX4_count 86 = .ok (.iadd, 1) := by decide +kernel
theorem dX4_count_87 : decode cX4_count 87 = .ok (.bipush 13, 2) := by decide +kernel
theorem dX4_count_89 : decode cX4_count 89 = .ok (.isub, 1) := by decide +kernel
theorem dX4_count_90 : decode cX4_count 90 = .ok (.iaload, 1) := by decide +kernel
theorem dX4_count_91 : decode cX4_count 91 = .ok (.ireturn, 1) := by decide +kernel
theorem dX4_count_92 : decode cX4_count 92 = .ok (.aload_n 0, 1) := by decide +kernel
theorem dX4_count_93 : decode cX4_count 93 = .ok (.getfield 40, 3) := by decide +kernel
theorem dX4_count_96 : decode cX4_count 96 = .ok (.ireturn, 1) := by decide +kernel
theorem dX4_count_97 : decode cX4_count 97 = .ok (.aload_n 0, 1) := by decide +kernel
theorem dX4_count_98 : decode cX4_count 98 = .ok (.getfield 126, 3) := by decide +kernel
theorem dX4_count_101 : decode cX4_count 101 = .ok (.ireturn, 1) := by decide +kernel
theorem dX4_count_102 : decode cX4_count 102 = .ok (.bipush (-2), 2) := by decide +kernel
theorem dX4_count_104 : decode cX4_count 104 = .ok (.ireturn, 1) := by decide +kernel
end
section
theorem dJ9_max_7cf53_0 : decode cJ9_max_7cf53 0 = .ok (.iload_n 0, 1) := by decide +kernel
theorem dJ9_max_7cf53_1 : decode cJ9_max_7cf53 1 = .ok (.iload_n 1, 1) := by decide +kernel
theorem dJ9_max_7cf53_2 : decode cJ9_max_7cf53 2 = .ok (.if_icmp .lt 7, 3) := by decide +kernel
theorem dJ9_max_7cf53_5 : decode cJ9_max_7cf53 5 = .ok (.iload_n 0, 1) := by decide +kernel
theorem dJ9_max_7cf53_6 : decode cJ9_max_7cf53 6 = .ok (.goto 4, 3) := by decide +kernel
theorem dJ9_max_7cf53_9 : decode cJ9_max_7cf53 9 = .ok (.iload_n 1, 1) := by decide +kernel
theorem dJ9_max_7cf53_10 : decode cJ9_max_7cf53 10 = .ok (.ireturn, 1) := by decide +kernel
theorem dJ9_min_7cf53_0 : decode cJ9_min_7cf53 0 = .ok (.iload_n 0, 1) := by decide +kernel
theorem dJ9_min_7cf53_1 : decode cJ9_min_7cf53 1 = .ok (.iload_n 1, 1) := by decide +kernel
theorem dJ9_min_7cf53_2 : decode cJ9_min_7cf53 2 = .ok (.if_icmp .gt 7, 3) := by decide +kernel
theorem dJ9_min_7cf53_5 : decode cJ9_min_7cf53 5 = .ok (.iload_n 0, 1) := by decide +kernel
theorem dJ9_min_7cf53_6 : decode cJ9_min_7cf53 6 = .ok (.goto 4, 3) := by decide +kernel
theorem dJ9_min_7cf53_9 : decode cJ9_min_7cf53 9 = .ok (.iload_n 1, 1) := by decide +kernel
theorem dJ9_min_7cf53_10 : decode cJ9_min_7cf53 10 = .ok (.ireturn, 1) := by decide +kernel
set_option maxRecDepth 20000 in
theorem ggL_law_X3_init : GoodIn wsL_law wsX3_init := goodIn_r _ [8, 9, 10, 11, 12, 13, 14, 15, 16, 17, 18, 19, 20, 21, 22, 23, 24, 25, 26, 27, 28, 29, 30, 31, 32, 33, 34, 35, 36, 37, 38, 39, 40, 41, 42, 43, 44, 45, 46, 47, 48, 49, 50, 51, 687, 688, 689, 690, 691, 692, 693, 694, 695, 696, 697, 698, 699, 700, 701, 702, 703, 664, 665, 666, 667, 668, 669, 670, 704, 705, 706, 707, 708, 709, 710, 711, 712] (by decide +kernel) (by decide +kernel)
set_option maxRecDepth 20000 in
theorem gL_law_X3_init : GoodIn wsL_law (wsX3_init) := ggL_law_X3_init
set_option maxRecDepth 20000 in
theorem ggL_law_X4_init : GoodIn wsL_law wsX4_init := goodIn_r _ [54, 55, 10, 11, 30, 56, 57, 58, 59, 60, 61, 62, 671, 672, 673, 674, 675, 676, 677, 678, 679, 680, 681, 682, 683, 684, 685, 686] (by decide +kernel) (by decide +kernel)
set_option maxRecDepth 20000 in
theorem gL_law_X4_init : GoodIn wsL_law (wsX4_init) := ggL_law_X4_init
set_option maxRecDepth 20000 in
theorem ggL_law_X3_come : GoodIn wsL_law wsX3_come := goodIn_r _ [66, 20, 15, 67, 68, 69, 19, 70, 71, 72, 73, 74, 43, 75, 76, 77, 78, 14, 79, 31, 80, 81, 82, 83, 32, 33, 34, 35, 36, 37, 84, 85, 86, 87, 88, 89, 90, 91, 92, 93, 94, 95, 96, 97, 98, 2, 99, 100, 101, 102, 103, 104, 105, 106, 107, 664, 665, 666, 667, 668, 669, 670, 704, 705, 687, 688, 689, 690, 691, 692, 693, 694, 695, 696, 697, 698, 699, 700, 701, 702, 703] (by decide +kernel) (by decide +kernel)
set_option maxRecDepth 20000 in
theorem gL_law_X3_come : GoodIn wsL_law (wsV RL 13 RX3 yX3_come wsX3_come) := goodIn_app (goodIn_of _ (by decide +kernel)) ggL_law_X3_come
set_option maxRecDepth 20000 in
theorem ggL_law_X4_come : GoodIn wsL_law wsX4_come := goodIn_r _ [111, 56, 112, 113, 5, 114, 115, 116, 117, 118, 119, 120, 121, 122, 57, 123, 124, 125, 126, 127, 59, 128, 129, 130, 671, 672, 673, 674, 675, 676, 677, 678, 679, 680, 681, 682, 683, 684, 685, 686] (by decide +kernel) (by decide +kernel)
set_option maxRecDepth 20000 in
theorem gL_law_X4_come : GoodIn wsL_law (wsV RL 17 RX4 yX4_come wsX4_come) := goodIn_app (goodIn_of _ (by decide +kernel)) ggL_law_X4_come
set_option maxRecDepth 20000 in
theorem ggL_law_X3_leave : GoodIn wsL_law wsX3_leave := goodIn_r _ [134, 20, 15, 67, 68, 69, 19, 70, 71, 72, 73, 74, 43, 75, 76, 77, 78, 14, 79, 31, 80, 81, 82, 83, 32, 33, 34, 35, 36, 37, 84, 85, 86, 87, 88, 89, 90, 91, 92, 93, 135, 136, 137, 138, 139, 140, 141, 142, 143, 144, 145, 146, 147, 148, 149, 100, 101, 102, 2, 103, 104, 105, 106, 107, 664, 665, 666, 667, 668, 669, 670, 704, 705, 687, 688, 689, 690, 691, 692, 693, 694, 695, 696, 697, 698, 699, 700, 701, 702, 703] (by decide +kernel) (by decide +kernel)
set_option maxRecDepth 20000 in
theorem gL_law_X3_leave : GoodIn wsL_law (wsV RL 18 RX3 yX3_leave wsX3_leave) := goodIn_app (goodIn_of _ (by decide +kernel)) ggL_law_X3_leave
set_option maxRecDepth 20000 in
theorem ggL_law_X4_leave : GoodIn wsL_law wsX4_leave := goodIn_r _ [153, 56, 154, 155, 156, 5, 157, 112, 113, 114, 115, 116, 117, 118, 119, 120, 121, 122, 57, 123, 124, 125, 126, 127, 59, 158, 159, 160, 161, 128, 129, 130, 162, 163, 164, 165, 671, 672, 673, 674, 675, 676, 677, 678, 679, 680, 681, 682, 683, 684, 685, 686] (by decide +kernel) (by decide +kernel)
set_option maxRecDepth 20000 in
theorem gL_law_X4_leave : GoodIn wsL_law (wsV RL 22 RX4 yX4_leave wsX4_leave) := goodIn_app (goodIn_of _ (by decide +kernel)) ggL_law_X4_leave
set_option maxRecDepth 20000 in
theorem ggL_law_X3_letAhead : GoodIn wsL_law wsX3_letAhead := goodIn_r _ [169, 20, 15, 67, 68, 69, 19, 70, 71, 72, 73, 74, 43, 75, 76, 77, 78, 14, 79, 31, 80, 81, 82, 83, 32, 33, 34, 35, 36, 37, 84, 85, 86, 87, 88, 89, 90, 91, 92, 93, 170, 171, 172, 173, 174, 175, 176, 177, 178, 179, 180, 100, 101, 102, 2, 103, 104, 105, 106, 107, 664, 665, 666, 667, 668, 669, 670, 704, 705, 687, 688, 689, 690, 691, 692, 693, 694, 695, 696, 697, 698, 699, 700, 701, 702, 703] (by decide +kernel) (by decide +kernel)
set_option maxRecDepth 20000 in
theorem gL_law_X3_letAhead : GoodIn wsL_law (wsV RL 23 RX3 yX3_letAhead wsX3_letAhead) := goodIn_app (goodIn_of _ (by decide +kernel)) ggL_law_X3_letAhead
set_option maxRecDepth 20000 in
theorem ggL_law_X4_letAhead : GoodIn wsL_law wsX4_letAhead := goodIn_r _ [184, 185, 186, 187, 5, 188, 154, 155, 156, 157, 56, 112, 113, 114, 115, 116, 117, 118, 119, 120, 121, 122, 57, 123, 124, 125, 126, 127, 59, 189, 190, 191, 192, 158, 159, 160, 161, 128, 129, 130, 671, 672, 673, 674, 675, 676, 677, 678, 679, 680, 681, 682, 683, 684, 685, 686] (by decide +kernel) (by decide +kernel)
set_option maxRecDepth 20000 in
theorem gL_law_X4_letAhead : GoodIn wsL_law (wsV RL 26 RX4 yX4_letAhead wsX4_letAhead) := goodIn_app (goodIn_of _ (by decide +kernel)) ggL_law_X4_letAhead
set_option maxRecDepth 20000 in
theorem ggL_law_X3_swap : GoodIn wsL_law wsX3_swap := goodIn_r _ [196, 20, 15, 67, 68, 69, 19, 70, 71, 72, 73, 74, 43, 75, 76, 77, 78, 14, 79, 31, 80, 81, 82, 83, 32, 33, 34, 35, 36, 37, 84, 85, 86, 87, 88, 89, 90, 91, 92, 93, 197, 198, 199, 200, 174, 175, 176, 177, 201, 202, 203, 204, 178, 179, 180, 100, 101, 102, 2, 103, 104, 105, 106, 107, 664, 665, 666, 667, 668, 669, 670, 704, 705, 687, 688, 689, 690, 691, 692, 693, 694, 695, 696, 697, 698, 699, 700, 701, 702, 703] (by decide +kernel) (by decide +kernel)
set_option maxRecDepth 20000 in
theorem gL_law_X3_swap : GoodIn wsL_law (wsV RL 27 RX3 yX3_swap wsX3_swap) := goodIn_app (goodIn_of _ (by decide +kernel)) ggL_law_X3_swap
set_option maxRecDepth 20000 in
theorem ggL_law_X4_swap : GoodIn wsL_law wsX4_swap := goodIn_r _ [208, 119, 120, 121, 5, 122, 57, 56, 209, 210, 211, 212, 185, 186, 187, 188, 154, 155, 156, 157, 112, 113, 114, 213, 214, 215, 216, 158, 159, 160, 161, 128, 129, 130, 189, 190, 191, 192, 217, 218, 219, 220, 123, 124, 125, 126, 127, 59, 671, 672, 673, 674, 675, 676, 677, 678, 679, 680, 681, 682, 683, 684, 685, 686] (by decide +kernel) (by decide +kernel)
set_option maxRecDepth 20000 in
theorem gL_law_X4_swap : GoodIn wsL_law (wsV RL 30 RX4 yX4_swap wsX4_swap) := goodIn_app (goodIn_of _ (by decide +kernel)) ggL_law_X4_swap
set_option maxRecDepth 20000 in
theorem ggL_law_X3_set : GoodIn wsL_law wsX3_set := goodIn_r _ [224, 20, 15, 67, 68, 69, 19, 70, 71, 72, 73, 74, 43, 75, 76, 77, 78, 14, 79, 31, 80, 81, 82, 83, 32, 33, 34, 35, 36, 37, 84, 85, 86, 87, 88, 89, 90, 91, 92, 93, 225, 226, 227, 228, 98, 2, 99, 100, 101, 102, 103, 104, 105, 106, 107, 664, 665, 666, 667, 668, 669, 670, 704, 705, 687, 688, 689, 690, 691, 692, 693, 694, 695, 696, 697, 698, 699, 700, 701, 702, 703] (by decide +kernel) (by decide +kernel)
set_option maxRecDepth 20000 in
theorem gL_law_X3_set : GoodIn wsL_law (wsV RL 31 RX3 yX3_set wsX3_set) := goodIn_app (goodIn_of _ (by decide +kernel)) ggL_law_X3_set
set_option maxRecDepth 20000 in
theorem ggL_law_X4_set : GoodIn wsL_law wsX4_set := goodIn_r _ [232, 56, 112, 113, 5, 114, 115, 116, 117, 118, 119, 120, 121, 122, 57, 123, 124, 125, 126, 127, 59, 671, 672, 673, 674, 675, 676, 677, 678, 679, 680, 681, 682, 683, 684, 685, 686] (by decide +kernel) (by decide +kernel)
set_option maxRecDepth 20000 in
theorem gL_law_X4_set : GoodIn wsL_law (wsV RL 35 RX4 yX4_set wsX4_set) := goodIn_app (goodIn_of _ (by decide +kernel)) ggL_law_X4_set
set_option maxRecDepth 20000 in
theorem ggL_law_X3_gust : GoodIn wsL_law wsX3_gust := goodIn_r _ [236, 20, 15, 67, 68, 69, 19, 70, 71, 72, 73, 74, 43, 75, 76, 77, 78, 14, 79, 31, 80, 81, 82, 83, 32, 33, 34, 35, 36, 37, 84, 85, 86, 87, 88, 89, 90, 91, 92, 93, 237, 238, 239, 240, 241, 2, 242, 243, 98, 99, 244, 245, 246, 247, 248, 249, 250, 251, 252, 253, 254, 255, 256, 257, 258, 259, 260, 261, 262, 263, 264, 265, 266, 267, 268, 269, 270, 271, 272, 273, 274, 275, 276, 277, 278, 143, 144, 145, 146, 147, 148, 149, 100, 101, 102, 103, 104, 105, 106, 107, 664, 665, 666, 667, 668, 669, 670, 704, 705, 687, 688, 689, 690, 691, 692, 693, 694, 695, 696, 697, 698, 699, 700, 701, 702, 703] (by decide +kernel) (by decide +kernel)
set_option maxRecDepth 20000 in
theorem gL_law_X3_gust : GoodIn wsL_law (wsV RL 36 RX3 yX3_gust wsX3_gust) := goodIn_app (goodIn_of _ (by decide +kernel)) ggL_law_X3_gust
set_option maxRecDepth 20000 in
theorem ggL_law_X4_gust : GoodIn wsL_law wsX4_gust := goodIn_r _ [282, 119, 120, 121, 5, 122, 57, 56, 283, 284, 285, 112, 113, 114, 286, 287, 288, 289, 128, 129, 130, 290, 291, 292, 293, 158, 159, 160, 161, 294, 295, 296, 297, 298, 299, 300, 301, 302, 303, 304, 305, 306, 307, 308, 309, 310, 311, 312, 313, 314, 315, 316, 317, 162, 163, 164, 165, 217, 218, 219, 220, 123, 124, 125, 126, 127, 59, 671, 672, 673, 674, 675, 676, 677, 678, 679, 680, 681, 682, 683, 684, 685, 686] (by decide +kernel) (by decide +kernel)
set_option maxRecDepth 20000 in
theorem gL_law_X4_gust : GoodIn wsL_law (wsV RL 39 RX4 yX4_gust wsX4_gust) := goodIn_app (goodIn_of _ (by decide +kernel)) ggL_law_X4_gust
set_option maxRecDepth 20000 in
theorem ggL_law_X3_pass : GoodIn wsL_law wsX3_pass := goodIn_r _ [321, 20, 15, 67, 68, 69, 19, 70, 71, 72, 73, 74, 43, 75, 76, 77, 78, 14, 79, 31, 80, 81, 82, 83, 32, 33, 34, 35, 36, 37, 84, 85, 86, 87, 88, 89, 90, 91, 92, 93, 322, 323, 324, 325, 326, 264, 265, 250, 266, 98, 2, 99, 100, 101, 102, 103, 104, 105, 106, 107, 664, 665, 666, 667, 668, 669, 670, 704, 705, 687, 688, 689, 690, 691, 692, 693, 694, 695, 696, 697, 698, 699, 700, 701, 702, 703] (by decide +kernel) (by decide +kernel)
set_option maxRecDepth 20000 in
theorem gL_law_X3_pass : GoodIn wsL_law (wsV RL 40 RX3 yX3_pass wsX3_pass) := goodIn_app (goodIn_of _ (by decide +kernel)) ggL_law_X3_pass
set_option maxRecDepth 20000 in
theorem ggL_law_X4_pass : GoodIn wsL_law wsX4_pass := goodIn_r _ [330, 119, 120, 121, 5, 122, 57, 56, 112, 113, 114, 331, 332, 333, 334, 335, 158, 159, 160, 161, 128, 129, 130, 217, 218, 219, 220, 123, 124, 125, 126, 127, 59, 671, 672, 673, 674, 675, 676, 677, 678, 679, 680, 681, 682, 683, 684, 685, 686] (by decide +kernel) (by decide +kernel)
set_option maxRecDepth 20000 in
theorem gL_law_X4_pass : GoodIn wsL_law (wsV RL 43 RX4 yX4_pass wsX4_pass) := goodIn_app (goodIn_of _ (by decide +kernel)) ggL_law_X4_pass
set_option maxRecDepth 20000 in
theorem ggL_law_X3_serve : GoodIn wsL_law wsX3_serve := goodIn_r _ [339, 20, 15, 67, 68, 69, 19, 70, 71, 72, 73, 74, 43, 75, 76, 77, 78, 14, 79, 31, 80, 81, 82, 83, 32, 33, 34, 35, 36, 37, 84, 85, 86, 87, 88, 89, 90, 91, 92, 93, 340, 341, 342, 343, 344, 345, 346, 347, 248, 249, 250, 251, 348, 349, 350, 351, 352, 353, 354, 355, 356, 357, 358, 359, 143, 144, 145, 146, 147, 148, 149, 100, 101, 102, 2, 103, 104, 105, 106, 107, 664, 665, 666, 667, 668, 669, 670, 704, 705, 687, 688, 689, 690, 691, 692, 693, 694, 695, 696, 697, 698, 699, 700, 701, 702, 703] (by decide +kernel) (by decide +kernel)
set_option maxRecDepth 20000 in
theorem gL_law_X3_serve : GoodIn wsL_law (wsV RL 44 RX3 yX3_serve wsX3_serve) := goodIn_app (goodIn_of _ (by decide +kernel)) ggL_law_X3_serve
set_option maxRecDepth 20000 in
theorem ggL_law_X4_serve : GoodIn wsL_law wsX4_serve := goodIn_r _ [363, 119, 120, 121, 5, 122, 57, 56, 364, 365, 366, 367, 368, 369, 370, 371, 372, 373, 374, 375, 376, 377, 378, 379, 158, 159, 160, 161, 128, 129, 130, 162, 163, 164, 165, 217, 218, 219, 220, 123, 124, 125, 126, 127, 59, 671, 672, 673, 674, 675, 676, 677, 678, 679, 680, 681, 682, 683, 684, 685, 686] (by decide +kernel) (by decide +kernel)
set_option maxRecDepth 20000 in
theorem gL_law_X4_serve : GoodIn wsL_law (wsV RL 48 RX4 yX4_serve wsX4_serve) := goodIn_app (goodIn_of _ (by decide +kernel)) ggL_law_X4_serve
set_option maxRecDepth 20000 in
theorem ggL_law_X3_type : GoodIn wsL_law wsX3_type := goodIn_r _ [383, 24, 384, 385, 386, 23, 387, 388, 48, 664, 665, 666, 667, 668, 669, 670, 706, 707, 708, 709, 710, 711, 712] (by decide +kernel) (by decide +kernel)
set_option maxRecDepth 20000 in
theorem gL_law_X3_type : GoodIn wsL_law (wsV RL 49 RX3 yX3_type wsX3_type) := goodIn_app (goodIn_of _ (by decide +kernel)) ggL_law_X3_type
set_option maxRecDepth 20000 in
theorem ggL_law_X4_type : GoodIn wsL_law wsX4_type := goodIn_r _ [392, 393, 60, 671, 672, 673, 674, 675, 676, 677, 678, 679, 680, 681, 682, 683, 684, 685, 686] (by decide +kernel) (by decide +kernel)
set_option maxRecDepth 20000 in
theorem gL_law_X4_type : GoodIn wsL_law (wsV RL 53 RX4 yX4_type wsX4_type) := goodIn_app (goodIn_of _ (by decide +kernel)) ggL_law_X4_type
set_option maxRecDepth 20000 in
theorem ggL_law_X3_clearText : GoodIn wsL_law wsX3_clearText := goodIn_r _ [397, 24, 398, 399, 400, 23, 401, 388, 664, 665, 666, 667, 668, 669, 670, 706, 707, 708, 709, 710, 711, 712] (by decide +kernel) (by decide +kernel)
set_option maxRecDepth 20000 in
theorem gL_law_X3_clearText : GoodIn wsL_law (wsV RL 54 RX3 yX3_clearText wsX3_clearText) := goodIn_app (goodIn_of _ (by decide +kernel)) ggL_law_X3_clearText
set_option maxRecDepth 20000 in
theorem ggL_law_X4_clearText : GoodIn wsL_law wsX4_clearText := goodIn_r _ [405, 393, 671, 672, 673, 674, 675, 676, 677, 678, 679, 680, 681, 682, 683, 684, 685, 686] (by decide +kernel) (by decide +kernel)
set_option maxRecDepth 20000 in
theorem gL_law_X4_clearText : GoodIn wsL_law (wsV RL 57 RX4 yX4_clearText wsX4_clearText) := goodIn_app (goodIn_of _ (by decide +kernel)) ggL_law_X4_clearText
set_option maxRecDepth 20000 in
theorem ggL_law_X3_perform : GoodIn wsL_law wsX3_perform := goodIn_r _ [409, 24, 20, 15, 410, 411, 412, 413, 25, 26, 414, 415, 416, 23, 417, 418, 419, 388, 420, 421, 422, 423, 49, 50, 51, 424, 425, 426, 427, 48, 428, 429, 430, 431, 432, 433, 434, 435, 98, 2, 99, 436, 437, 438, 439, 67, 68, 69, 19, 70, 71, 72, 73, 74, 43, 75, 76, 77, 78, 14, 79, 31, 80, 81, 82, 83, 32, 33, 34, 35, 36, 37, 84, 85, 86, 87, 88, 89, 90, 91, 92, 93, 440, 441, 442, 443, 237, 238, 239, 240, 241, 242, 243, 244, 245, 246, 247, 248, 249, 250, 251, 252, 253, 254, 255, 256, 257, 258, 259, 260, 261, 262, 263, 264, 265, 266, 267, 268, 269, 270, 271, 272, 273, 274, 275, 276, 277, 278, 143, 144, 145, 146, 147, 148, 149, 322, 323, 324, 325, 326, 340, 341, 342, 343, 344, 345, 346, 347, 348, 349, 350, 351, 352, 353, 354, 355, 356, 357, 358, 359, 197, 198, 199, 200, 174, 175, 176, 177, 201, 202, 203, 204, 178, 179, 180, 444, 445, 446, 447, 448, 100, 101, 102, 103, 104, 105, 106, 107, 664, 665, 666, 667, 668, 669, 670, 706, 707, 708, 709, 710, 711, 712, 704, 705, 687, 688, 689, 690, 691, 692, 693, 694, 695, 696, 697, 698, 699, 700, 701, 702, 703] (by decide +kernel) (by decide +kernel)
set_option maxRecDepth 20000 in
theorem gL_law_X3_perform : GoodIn wsL_law (wsV RL 58 RX3 yX3_perform wsX3_perform) := goodIn_app (goodIn_of _ (by decide +kernel)) ggL_law_X3_perform
set_option maxRecDepth 20000 in
theorem ggL_law_X4_perform : GoodIn wsL_law wsX4_perform := goodIn_r _ [452, 453, 454, 455, 61, 62, 56, 57, 456, 457, 458, 5, 459, 393, 460, 461, 462, 463, 60, 464, 465, 466, 467, 468, 469, 470, 471, 472, 473, 474, 112, 113, 114, 475, 476, 477, 478, 479, 480, 481, 482, 286, 287, 288, 289, 128, 129, 130, 290, 291, 292, 293, 158, 159, 160, 161, 294, 295, 296, 297, 298, 299, 300, 301, 302, 303, 304, 305, 306, 307, 308, 309, 310, 311, 312, 313, 314, 315, 316, 317, 162, 163, 164, 165, 331, 332, 333, 334, 335, 364, 365, 366, 367, 368, 369, 370, 371, 372, 373, 374, 375, 376, 377, 378, 379, 209, 210, 211, 212, 185, 186, 187, 188, 154, 155, 156, 157, 213, 214, 215, 216, 189, 190, 191, 192, 119, 120, 121, 122, 123, 124, 125, 126, 127, 59, 671, 672, 673, 674, 675, 676, 677, 678, 679, 680, 681, 682, 683, 684, 685, 686] (by decide +kernel) (by decide +kernel)
set_option maxRecDepth 20000 in
theorem gL_law_X4_perform : GoodIn wsL_law (wsV RL 61 RX4 yX4_perform wsX4_perform) := goodIn_app (goodIn_of _ (by decide +kernel)) ggL_law_X4_perform
set_option maxRecDepth 20000 in
theorem ggL_law_X3_stopped : GoodIn wsL_law wsX3_stopped := goodIn_r _ [486, 25, 26, 664, 665, 666, 667, 668, 669, 670] (by decide +kernel) (by decide +kernel)
set_option maxRecDepth 20000 in
theorem gL_law_X3_stopped : GoodIn wsL_law (wsV RL 62 RX3 yX3_stopped wsX3_stopped) := goodIn_app (goodIn_of _ (by decide +kernel)) ggL_law_X3_stopped
set_option maxRecDepth 20000 in
theorem ggL_law_X4_stopped : GoodIn wsL_law wsX4_stopped := goodIn_r _ [490, 61, 62, 671, 672, 673, 674, 675, 676, 677, 678, 679, 680, 681, 682, 683, 684, 685, 686] (by decide +kernel) (by decide +kernel)
set_option maxRecDepth 20000 in
theorem gL_law_X4_stopped : GoodIn wsL_law (wsV RL 65 RX4 yX4_stopped wsX4_stopped) := goodIn_app (goodIn_of _ (by decide +kernel)) ggL_law_X4_stopped
set_option maxRecDepth 20000 in
theorem ggL_law_X3_undo : GoodIn wsL_law wsX3_undo := goodIn_r _ [494, 20, 495, 15, 496, 497, 498, 19, 499, 75, 43, 448, 77, 78, 14, 79, 31, 80, 81, 82, 83, 32, 33, 34, 35, 36, 37, 84, 85, 86, 87, 88, 89, 90, 91, 92, 93, 664, 665, 666, 667, 668, 669, 670, 704, 705, 687, 688, 689, 690, 691, 692, 693, 694, 695, 696, 697, 698, 699, 700, 701, 702, 703] (by decide +kernel) (by decide +kernel)
set_option maxRecDepth 20000 in
theorem gL_law_X3_undo : GoodIn wsL_law (wsV RL 66 RX3 yX3_undo wsX3_undo) := goodIn_app (goodIn_of _ (by decide +kernel)) ggL_law_X3_undo
set_option maxRecDepth 20000 in
theorem ggL_law_X4_undo : GoodIn wsL_law wsX4_undo := goodIn_r _ [503, 127, 56, 59, 671, 672, 673, 674, 675, 676, 677, 678, 679, 680, 681, 682, 683, 684, 685, 686] (by decide +kernel) (by decide +kernel)
set_option maxRecDepth 20000 in
theorem gL_law_X4_undo : GoodIn wsL_law (wsV RL 69 RX4 yX4_undo wsX4_undo) := goodIn_app (goodIn_of _ (by decide +kernel)) ggL_law_X4_undo
set_option maxRecDepth 20000 in
theorem ggL_law_X3_keep : GoodIn wsL_law wsX3_keep := goodIn_r _ [507, 16, 15, 508, 509, 448, 77, 78, 14, 79, 31, 80, 81, 82, 83, 32, 33, 34, 35, 36, 37, 84, 85, 86, 87, 88, 89, 90, 91, 92, 93, 664, 665, 666, 667, 668, 669, 670, 687, 688, 689, 690, 691, 692, 693, 694, 695, 696, 697, 698, 699, 700, 701, 702, 703] (by decide +kernel) (by decide +kernel)
set_option maxRecDepth 20000 in
theorem gL_law_X3_keep : GoodIn wsL_law (wsV RL 70 RX3 yX3_keep wsX3_keep) := goodIn_app (goodIn_of _ (by decide +kernel)) ggL_law_X3_keep
set_option maxRecDepth 20000 in
theorem ggL_law_X4_keep : GoodIn wsL_law wsX4_keep := goodIn_r _ [513, 58, 56, 514, 671, 672, 673, 674, 675, 676, 677, 678, 679, 680, 681, 682, 683, 684, 685, 686] (by decide +kernel) (by decide +kernel)
set_option maxRecDepth 20000 in
theorem gL_law_X4_keep : GoodIn wsL_law (wsV RL 73 RX4 yX4_keep wsX4_keep) := goodIn_app (goodIn_of _ (by decide +kernel)) ggL_law_X4_keep
set_option maxRecDepth 20000 in
theorem ggL_law_X3_restore : GoodIn wsL_law wsX3_restore := goodIn_r _ [518, 508, 20, 15, 16, 509, 67, 68, 69, 19, 70, 71, 72, 73, 74, 43, 75, 76, 77, 78, 14, 79, 31, 80, 81, 82, 83, 32, 33, 34, 35, 36, 37, 84, 85, 86, 87, 88, 89, 90, 91, 92, 93, 448, 100, 101, 102, 2, 103, 104, 105, 106, 107, 664, 665, 666, 667, 668, 669, 670, 687, 688, 689, 690, 691, 692, 693, 694, 695, 696, 697, 698, 699, 700, 701, 702, 703, 704, 705] (by decide +kernel) (by decide +kernel)
set_option maxRecDepth 20000 in
theorem gL_law_X3_restore : GoodIn wsL_law (wsV RL 74 RX3 yX3_restore wsX3_restore) := goodIn_app (goodIn_of _ (by decide +kernel)) ggL_law_X3_restore
set_option maxRecDepth 20000 in
theorem ggL_law_X4_restore : GoodIn wsL_law wsX4_restore := goodIn_r _ [522, 514, 56, 58, 115, 116, 117, 5, 118, 119, 120, 121, 122, 57, 123, 124, 125, 126, 127, 59, 671, 672, 673, 674, 675, 676, 677, 678, 679, 680, 681, 682, 683, 684, 685, 686] (by decide +kernel) (by decide +kernel)
set_option maxRecDepth 20000 in
theorem gL_law_X4_restore : GoodIn wsL_law (wsV RL 77 RX4 yX4_restore wsX4_restore) := goodIn_app (goodIn_of _ (by decide +kernel)) ggL_law_X4_restore
set_option maxRecDepth 20000 in
theorem ggL_law_X3_person : GoodIn wsL_law wsX3_person := goodIn_r _ [526, 15, 527, 528, 529, 530, 531, 532, 533, 140, 141, 14, 142, 84, 534, 261, 262, 263, 35, 264, 265, 250, 266, 535, 268, 269, 270, 248, 249, 251, 536, 537, 538, 539, 260, 267, 98, 2, 99, 664, 665, 666, 667, 668, 669, 670, 687, 688, 689, 690, 691, 692, 693, 694, 695, 696, 697, 698, 699, 700, 701, 702, 703] (by decide +kernel) (by decide +kernel)
set_option maxRecDepth 20000 in
theorem gL_law_X3_person : GoodIn wsL_law (wsV RL 78 RX3 yX3_person wsX3_person) := goodIn_app (goodIn_of _ (by decide +kernel)) ggL_law_X3_person
set_option maxRecDepth 20000 in
theorem ggL_law_X4_person : GoodIn wsL_law wsX4_person := goodIn_r _ [543, 154, 155, 156, 5, 157, 56, 112, 113, 114, 158, 159, 160, 161, 128, 129, 130, 306, 307, 308, 309, 310, 311, 312, 313, 302, 303, 304, 305, 671, 672, 673, 674, 675, 676, 677, 678, 679, 680, 681, 682, 683, 684, 685, 686] (by decide +kernel) (by decide +kernel)
set_option maxRecDepth 20000 in
theorem gL_law_X4_person : GoodIn wsL_law (wsV RL 81 RX4 yX4_person wsX4_person) := goodIn_app (goodIn_of _ (by decide +kernel)) ggL_law_X4_person
set_option maxRecDepth 20000 in
theorem ggL_law_X3_placeOf : GoodIn wsL_law wsX3_placeOf := goodIn_r _ [547, 15, 509, 527, 243, 98, 2, 99, 664, 665, 666, 667, 668, 669, 670, 687, 688, 689, 690, 691, 692, 693, 694, 695, 696, 697, 698, 699, 700, 701, 702, 703] (by decide +kernel) (by decide +kernel)
set_option maxRecDepth 20000 in
theorem gL_law_X3_placeOf : GoodIn wsL_law (wsV RL 82 RX3 yX3_placeOf wsX3_placeOf) := goodIn_app (goodIn_of _ (by decide +kernel)) ggL_law_X3_placeOf
set_option maxRecDepth 20000 in
theorem ggL_law_X4_placeOf : GoodIn wsL_law wsX4_placeOf := goodIn_r _ [551, 56, 112, 113, 5, 114, 158, 159, 160, 161, 128, 129, 130, 671, 672, 673, 674, 675, 676, 677, 678, 679, 680, 681, 682, 683, 684, 685, 686] (by decide +kernel) (by decide +kernel)
set_option maxRecDepth 20000 in
theorem gL_law_X4_placeOf : GoodIn wsL_law (wsV RL 85 RX4 yX4_placeOf wsX4_placeOf) := goodIn_app (goodIn_of _ (by decide +kernel)) ggL_law_X4_placeOf
set_option maxRecDepth 20000 in
theorem ggL_law_X3_ifGust : GoodIn wsL_law wsX3_ifGust := goodIn_r _ [555, 15, 529, 533, 140, 141, 14, 142, 84, 556, 241, 2, 242, 243, 98, 99, 557, 272, 273, 274, 35, 260, 261, 262, 263, 264, 265, 250, 266, 267, 268, 269, 270, 248, 249, 251, 558, 257, 258, 259, 559, 245, 246, 247, 32, 252, 253, 254, 255, 256, 271, 664, 665, 666, 667, 668, 669, 670, 687, 688, 689, 690, 691, 692, 693, 694, 695, 696, 697, 698, 699, 700, 701, 702, 703] (by decide +kernel) (by decide +kernel)
set_option maxRecDepth 20000 in
theorem gL_law_X3_ifGust : GoodIn wsL_law (wsV RL 86 RX3 yX3_ifGust wsX3_ifGust) := goodIn_app (goodIn_of _ (by decide +kernel)) ggL_law_X3_ifGust
set_option maxRecDepth 20000 in
theorem ggL_law_X4_ifGust : GoodIn wsL_law wsX4_ifGust := goodIn_r _ [563, 154, 155, 156, 5, 157, 56, 112, 113, 114, 283, 284, 285, 564, 565, 566, 567, 298, 299, 300, 301, 302, 303, 304, 305, 158, 159, 160, 161, 128, 129, 130, 306, 307, 308, 309, 310, 311, 312, 313, 314, 315, 316, 317, 290, 291, 292, 293, 294, 295, 296, 297, 671, 672, 673, 674, 675, 676, 677, 678, 679, 680, 681, 682, 683, 684, 685, 686] (by decide +kernel) (by decide +kernel)
set_option maxRecDepth 20000 in
theorem gL_law_X4_ifGust : GoodIn wsL_law (wsV RL 90 RX4 yX4_ifGust wsX4_ifGust) := goodIn_app (goodIn_of _ (by decide +kernel)) ggL_law_X4_ifGust
set_option maxRecDepth 20000 in
theorem ggL_law_X3_reason : GoodIn wsL_law wsX3_reason := goodIn_r _ [571, 15, 572, 175, 176, 14, 177, 84, 573, 202, 203, 204, 35, 32, 664, 665, 666, 667, 668, 669, 670, 687, 688, 689, 690, 691, 692, 693, 694, 695, 696, 697, 698, 699, 700, 701, 702, 703] (by decide +kernel) (by decide +kernel)
set_option maxRecDepth 20000 in
theorem gL_law_X3_reason : GoodIn wsL_law (wsV RL 91 RX3 yX3_reason wsX3_reason) := goodIn_app (goodIn_of _ (by decide +kernel)) ggL_law_X3_reason
set_option maxRecDepth 20000 in
theorem ggL_law_X4_reason : GoodIn wsL_law wsX4_reason := goodIn_r _ [577, 185, 186, 187, 5, 188, 154, 155, 156, 157, 56, 112, 113, 114, 213, 214, 215, 216, 158, 159, 160, 161, 128, 129, 130, 671, 672, 673, 674, 675, 676, 677, 678, 679, 680, 681, 682, 683, 684, 685, 686] (by decide +kernel) (by decide +kernel)
set_option maxRecDepth 20000 in
theorem gL_law_X4_reason : GoodIn wsL_law (wsV RL 94 RX4 yX4_reason wsX4_reason) := goodIn_app (goodIn_of _ (by decide +kernel)) ggL_law_X4_reason
set_option maxRecDepth 20000 in
theorem ggL_law_X3_bestSwap : GoodIn wsL_law wsX3_bestSwap := goodIn_r _ [581, 15, 556, 241, 2, 242, 243, 98, 99, 582, 583, 584, 14, 585, 84, 35, 586, 587, 588, 589, 244, 245, 246, 247, 32, 248, 249, 250, 251, 252, 253, 254, 255, 256, 257, 258, 259, 260, 261, 262, 263, 264, 265, 266, 267, 268, 269, 270, 271, 272, 273, 274, 201, 202, 203, 204, 178, 179, 180, 664, 665, 666, 667, 668, 669, 670, 687, 688, 689, 690, 691, 692, 693, 694, 695, 696, 697, 698, 699, 700, 701, 702, 703] (by decide +kernel) (by decide +kernel)
set_option maxRecDepth 20000 in
theorem gL_law_X3_bestSwap : GoodIn wsL_law (wsV RL 95 RX3 yX3_bestSwap wsX3_bestSwap) := goodIn_app (goodIn_of _ (by decide +kernel)) ggL_law_X3_bestSwap
set_option maxRecDepth 20000 in
theorem ggL_law_X4_bestSwap : GoodIn wsL_law wsX4_bestSwap := goodIn_r _ [593, 56, 283, 284, 5, 285, 112, 113, 114, 594, 595, 596, 597, 290, 291, 292, 293, 158, 159, 160, 161, 128, 129, 130, 294, 295, 296, 297, 298, 299, 300, 301, 302, 303, 304, 305, 306, 307, 308, 309, 310, 311, 312, 313, 314, 315, 316, 317, 213, 214, 215, 216, 189, 190, 191, 192, 671, 672, 673, 674, 675, 676, 677, 678, 679, 680, 681, 682, 683, 684, 685, 686] (by decide +kernel) (by decide +kernel)
set_option maxRecDepth 20000 in
theorem gL_law_X4_bestSwap : GoodIn wsL_law (wsV RL 98 RX4 yX4_bestSwap wsX4_bestSwap) := goodIn_app (goodIn_of _ (by decide +kernel)) ggL_law_X4_bestSwap
set_option maxRecDepth 20000 in
theorem ggL_law_X3_payer : GoodIn wsL_law wsX3_payer := goodIn_r _ [601, 15, 509, 243, 98, 2, 99, 602, 349, 350, 14, 351, 32, 344, 345, 346, 347, 84, 37, 248, 249, 250, 251, 603, 353, 354, 355, 34, 356, 357, 358, 359, 664, 665, 666, 667, 668, 669, 670, 687, 688, 689, 690, 691, 692, 693, 694, 695, 696, 697, 698, 699, 700, 701, 702, 703] (by decide +kernel) (by decide +kernel)
set_option maxRecDepth 20000 in
theorem gL_law_X3_payer : GoodIn wsL_law (wsV RL 99 RX3 yX3_payer wsX3_payer) := goodIn_app (goodIn_of _ (by decide +kernel)) ggL_law_X3_payer
set_option maxRecDepth 20000 in
theorem ggL_law_X4_payer : GoodIn wsL_law wsX4_payer := goodIn_r _ [607, 56, 112, 113, 5, 114, 376, 377, 378, 379, 368, 369, 370, 371, 158, 159, 160, 161, 128, 129, 130, 372, 373, 374, 375, 671, 672, 673, 674, 675, 676, 677, 678, 679, 680, 681, 682, 683, 684, 685, 686] (by decide +kernel) (by decide +kernel)
set_option maxRecDepth 20000 in
theorem gL_law_X4_payer : GoodIn wsL_law (wsV RL 102 RX4 yX4_payer wsX4_payer) := goodIn_app (goodIn_of _ (by decide +kernel)) ggL_law_X4_payer
set_option maxRecDepth 20000 in
theorem ggL_law_X3_bears : GoodIn wsL_law wsX3_bears := goodIn_r _ [611, 15, 533, 140, 141, 14, 142, 84, 243, 98, 2, 99, 612, 613, 614, 615, 33, 32, 252, 253, 254, 255, 256, 257, 258, 259, 35, 260, 261, 262, 263, 264, 265, 250, 266, 267, 268, 269, 270, 248, 249, 251, 271, 272, 273, 274, 664, 665, 666, 667, 668, 669, 670, 687, 688, 689, 690, 691, 692, 693, 694, 695, 696, 697, 698, 699, 700, 701, 702, 703] (by decide +kernel) (by decide +kernel)
set_option maxRecDepth 20000 in
theorem gL_law_X3_bears : GoodIn wsL_law (wsV RL 103 RX3 yX3_bears wsX3_bears) := goodIn_app (goodIn_of _ (by decide +kernel)) ggL_law_X3_bears
set_option maxRecDepth 20000 in
theorem ggL_law_X4_bears : GoodIn wsL_law wsX4_bears := goodIn_r _ [619, 154, 155, 156, 5, 157, 56, 112, 113, 114, 294, 295, 296, 297, 298, 299, 300, 301, 302, 303, 304, 305, 158, 159, 160, 161, 128, 129, 130, 306, 307, 308, 309, 310, 311, 312, 313, 314, 315, 316, 317, 671, 672, 673, 674, 675, 676, 677, 678, 679, 680, 681, 682, 683, 684, 685, 686] (by decide +kernel) (by decide +kernel)
set_option maxRecDepth 20000 in
theorem gL_law_X4_bears : GoodIn wsL_law (wsV RL 106 RX4 yX4_bears wsX4_bears) := goodIn_app (goodIn_of _ (by decide +kernel)) ggL_law_X4_bears
set_option maxRecDepth 20000 in
theorem ggL_law_X3_count : GoodIn wsL_law wsX3_count := goodIn_r _ [623, 15, 509, 624, 625, 626, 627, 628, 629, 630, 631, 632, 633, 20, 495, 24, 634, 635, 636, 637, 14, 638, 84, 32, 639, 640, 641, 642, 643, 644, 645, 646, 647, 537, 538, 539, 35, 260, 261, 262, 263, 264, 265, 250, 266, 267, 268, 269, 270, 248, 249, 251, 98, 2, 99, 664, 665, 666, 667, 668, 669, 670, 687, 688, 689, 690, 691, 692, 693, 694, 695, 696, 697, 698, 699, 700, 701, 702, 703, 704, 705, 706, 707, 708, 709, 710, 711, 712] (by decide +kernel) (by decide +kernel)
set_option maxRecDepth 20000 in
theorem gL_law_X3_count : GoodIn wsL_law (wsV RL 107 RX3 yX3_count wsX3_count) := goodIn_app (goodIn_of _ (by decide +kernel)) ggL_law_X3_count
set_option maxRecDepth 20000 in
theorem ggL_law_X4_count : GoodIn wsL_law wsX4_count := goodIn_r _ [651, 56, 127, 393, 112, 113, 5, 114, 652, 653, 654, 655, 158, 159, 160, 161, 128, 129, 130, 656, 657, 658, 659, 660, 661, 662, 663, 302, 303, 304, 305, 306, 307, 308, 309, 310, 311, 312, 313, 671, 672, 673, 674, 675, 676, 677, 678, 679, 680, 681, 682, 683, 684, 685, 686] (by decide +kernel) (by decide +kernel)
set_option maxRecDepth 20000 in
theorem gL_law_X4_count : GoodIn wsL_law (wsV RL 110 RX4 yX4_count wsX4_count) := goodIn_app (goodIn_of _ (by decide +kernel)) ggL_law_X4_count
theorem dL_law_0 : decode cL_law 0 = .ok (.new 7, 3) := by decide +kernel
theorem dL_law_3 : decode cL_law 3 = .ok (.dup, 1) := by decide +kernel
theorem dL_law_4 : decode cL_law 4 = .ok (.invokespecial 9, 3) := by decide +kernel
theorem dL_law_7 : decode cL_law 7 = .ok (.astore_n 1, 1) := by decide +kernel
theorem dL_law_8 : decode cL_law 8 = .ok (.new 10, 3) := by decide +kernel
theorem dL_law_11 : decode cL_law 11 = .ok (.dup, 1) := by decide +kernel
theorem dL_law_12 : decode cL_law 12 = .ok (.invokespecial 12, 3) := by decide +kernel
theorem dL_law_15 : decode cL_law 15 = .ok (.astore_n 2, 1) := by decide +kernel
theorem dL_law_16 : decode cL_law 16 = .ok (.iconst 0, 1) := by decide +kernel
theorem dL_law_17 : decode cL_law 17 = .ok (.istore_n 3, 1) := by decide +kernel
theorem dL_law_18 : decode cL_law 18 = .ok (.iload_n 3, 1) := by decide +kernel
theorem dL_law_19 : decode cL_law 19 = .ok (.aload_n 0, 1) := by decide +kernel
theorem dL_law_20 : decode cL_law 20 = .ok (.arraylength, 1) := by decide +kernel
theorem dL_law_21 : decode cL_law 21 = .ok (.iconst 5, 1) := by decide +kernel
theorem dL_law_22 : decode cL_law 22 = .ok (.isub, 1) := by decide +kernel
theorem dL_law_23 : decode cL_law 23 = .ok (.if_icmp .gt 694, 3) := by decide +kernel
theorem dL_law_26 : decode cL_law 26 = .ok (.aload_n 0, 1) := by decide +kernel
theorem dL_law_27 : decode cL_law 27 = .ok (.iload_n 3, 1) := by decide +kernel
theorem dL_law_28 : decode cL_law 28 = .ok (.iaload, 1) := by decide +kernel
theorem dL_law_29 : decode cL_law 29 = .ok (.bipush 31, 2) := by decide +kernel
theorem dL_law_31 : decode cL_law 31 = .ok (.iand, 1) := by decide +kernel
theorem dL_law_32 : decode cL_law 32 = .ok (.tableswitch 679 0 22 #[108, 151, 174, 197, 220, 253, 286, 309, 322, 347, 360, 373, 396, 409, 422, 435, 468, 491, 544, 567, 600, 623, 656], 108) := by decide +kernel
theorem dL_law_140 : decode cL_law 140 = .ok (.aload_n 1, 1) := by decide +kernel
theorem dL_law_141 : decode cL_law 141 = .ok (.aload_n 0, 1) := by decide +kernel
theorem dL_law_142 : decode cL_law 142 = .ok (.iload_n 3, 1) := by decide +kernel
theorem dL_law_143 : decode cL_law 143 = .ok (.iconst 1, 1) := by decide +kernel
theorem dL_law_144 : decode cL_law 144 = .ok (.iadd, 1) := by decide +kernel
theorem dL_law_145 : decode cL_law 145 = .ok (.iaload, 1) := by decide +kernel
theorem dL_law_146 : decode cL_law 146 = .ok (.aload_n 0, 1) := by decide +kernel
theorem dL_law_147 : decode cL_law 147 = .ok (.iload_n 3, 1) := by decide +kernel
theorem dL_law_148 : decode cL_law 148 = .ok (.iconst 2, 1) := by decide +kernel
theorem dL_law_149 : decode cL_law 149 = .ok (.iadd, 1) := by decide +kernel
theorem dL_law_150 : decode cL_law 150 = .ok (.iaload, 1) := by decide +kernel
theorem dL_law_151 : decode cL_law 151 = .ok (.aload_n 0, 1) := by decide +kernel
theorem dL_law_152 : decode cL_law 152 = .ok (.iload_n 3, 1) := by decide +kernel
theorem dL_law_153 : decode cL_law 153 = .ok (.iconst 3, 1) := by decide +kernel
theorem dL_law_154 : decode cL_law 154 = .ok (.iadd, 1) := by decide +kernel
theorem dL_law_155 : decode cL_law 155 = .ok (.iaload, 1) := by decide +kernel
theorem dL_law_156 : decode cL_law 156 = .ok (.invokevirtual 13, 3) := by decide +kernel
theorem dL_law_159 : decode cL_law 159 = .ok (.aload_n 2, 1) := by decide +kernel
theorem dL_law_160 : decode cL_law 160 = .ok (.aload_n 0, 1) := by decide +kernel
theorem dL_law_161 : decode cL_law 161 = .ok (.iload_n 3, 1) := by decide +kernel
theorem dL_law_162 : decode cL_law 162 = .ok (.iconst 1, 1) := by decide +kernel
theorem dL_law_163 : decode cL_law 163 = .ok (.iadd, 1) := by decide +kernel
theorem dL_law_164 : decode cL_law 164 = .ok (.iaload, 1) := by decide +kernel
theorem dL_law_165 : decode cL_law 165 = .ok (.aload_n 0, 1) := by decide +kernel
theorem dL_law_166 : decode cL_law 166 = .ok (.iload_n 3, 1) := by decide +kernel
theorem dL_law_167 : decode cL_law 167 = .ok (.iconst 2, 1) := by decide +kernel
theorem dL_law_168 : decode cL_law 168 = .ok (.iadd, 1) := by decide +kernel
theorem dL_law_169 : decode cL_law 169 = .ok (.iaload, 1) := by decide +kernel
theorem dL_law_170 : decode cL_law 170 = .ok (.aload_n 0, 1) := by decide +kernel
theorem dL_law_171 : decode cL_law 171 = .ok (.iload_n 3, 1) := by decide +kernel
theorem dL_law_172 : decode cL_law 172 = .ok (.iconst 3, 1) := by decide +kernel
theorem dL_law_173 : decode cL_law 173 = .ok (.iadd, 1) := by decide +kernel
theorem dL_law_174 : decode cL_law 174 = .ok (.iaload, 1) := by decide +kernel
theorem dL_law_175 : decode cL_law 175 = .ok (.invokevirtual 17, 3) := by decide +kernel
theorem dL_law_178 : decode cL_law 178 = .ok (.if_icmp .eq 533, 3) := by decide +kernel
theorem dL_law_181 : decode cL_law 181 = .ok (.iconst 0, 1) := by decide +kernel
theorem dL_law_182 : decode cL_law 182 = .ok (.ireturn, 1) := by decide +kernel
theorem dL_law_183 : decode cL_law 183 = .ok (.aload_n 1, 1) := by decide +kernel
theorem dL_law_184 : decode cL_law 184 = .ok (.aload_n 0, 1) := by decide +kernel
theorem dL_law_185 : decode cL_law 185 = .ok (.iload_n 3, 1) := by decide +kernel
theorem dL_law_186 : decode cL_law 186 = .ok (.iconst 1, 1) := by decide +kernel
theorem dL_law_187 : decode cL_law 187 = .ok (.iadd, 1) := by decide +kernel
theorem dL_law_188 : decode cL_law 188 = .ok (.iaload, 1) := by decide +kernel
theorem dL_law_189 : decode cL_law 189 = .ok (.invokevirtual 18, 3) := by decide +kernel
theorem dL_law_192 : decode cL_law 192 = .ok (.aload_n 2, 1) := by decide +kernel
theorem dL_law_193 : decode cL_law 193 = .ok (.aload_n 0, 1) := by decide +kernel
theorem dL_law_194 : decode cL_law 194 = .ok (.iload_n 3, 1) := by decide +kernel
theorem dL_law_195 : decode cL_law 195 = .ok (.iconst 1, 1) := by decide +kernel
theorem dL_law_196 : decode cL_law 196 = .ok (.iadd, 1) := by decide +kernel
theorem dL_law_197 : decode cL_law 197 = .ok (.iaload, 1) := by decide +kernel
theorem dL_law_198 : decode cL_law 198 = .ok (.invokevirtual 22, 3) := by decide +kernel
theorem dL_law_201 : decode cL_law 201 = .ok (.if_icmp .eq 510, 3) := by decide +kernel
theorem dL_law_204 : decode cL_law 204 = .ok (.iconst 0, 1) := by decide +kernel
theorem dL_law_205 : decode cL_law 205 = .ok (.ireturn, 1) := by decide +kernel
theorem dL_law_206 : decode cL_law 206 = .ok (.aload_n 1, 1) := by decide +kernel
theorem dL_law_207 : decode cL_law 207 = .ok (.aload_n 0, 1) := by decide +kernel
theorem dL_law_208 : decode cL_law 208 = .ok (.iload_n 3, 1) := by decide +kernel
theorem dL_law_209 : decode cL_law 209 = .ok (.iconst 1, 1) := by decide +kernel
theorem dL_law_210 : decode cL_law 210 = .ok (.iadd, 1) := by decide +kernel
theorem dL_law_211 : decode cL_law 211 = .ok (.iaload, 1) := by decide +kernel
theorem dL_law_212 : decode cL_law 212 = .ok (.invokevirtual 23, 3) := by decide +kernel
theorem dL_law_215 : decode cL_law 215 = .ok (.aload_n 2, 1) := by decide +kernel
theorem dL_law_216 : decode cL_law 216 = .ok (.aload_n 0, 1) := by decide +kernel
theorem dL_law_217 : decode cL_law 217 = .ok (.iload_n 3, 1) := by decide +kernel
theorem dL_law_218 : decode cL_law 218 = .ok (.iconst 1, 1) := by decide +kernel
theorem dL_law_219 : decode cL_law 219 = .ok (.iadd, 1) := by decide +kernel
theorem dL_law_220 : decode cL_law 220 = .ok (.iaload, 1) := by decide +kernel
theorem dL_law_221 : decode cL_law 221 = .ok (.invokevirtual 26, 3) := by decide +kernel
theorem dL_law_224 : decode cL_law 224 = .ok (.if_icmp .eq 487, 3) := by decide +kernel
theorem dL_law_227 : decode cL_law 227 = .ok (.iconst 0, 1) := by decide +kernel
theorem dL_law_228 : decode cL_law 228 = .ok (.ireturn, 1) := by decide +kernel
theorem dL_law_229 : decode cL_law 229 = .ok (.aload_n 1, 1) := by decide +kernel
theorem dL_law_230 : decode cL_law 230 = .ok (.aload_n 0, 1) := by decide +kernel
theorem dL_law_231 : decode cL_law 231 = .ok (.iload_n 3, 1) := by decide +kernel
theorem dL_law_232 : decode cL_law 232 = .ok (.iconst 1, 1) := by decide +kernel
theorem dL_law_233 : decode cL_law 233 = .ok (.iadd, 1) := by decide +kernel
theorem dL_law_234 : decode cL_law 234 = .ok (.iaload, 1) := by decide +kernel
theorem dL_law_235 : decode cL_law 235 = .ok (.invokevirtual 27, 3) := by decide +kernel
theorem dL_law_238 : decode cL_law 238 = .ok (.aload_n 2, 1) := by decide +kernel
theorem dL_law_239 : decode cL_law 239 = .ok (.aload_n 0, 1) := by decide +kernel
theorem dL_law_240 : decode cL_law 240 = .ok (.iload_n 3, 1) := by decide +kernel
theorem dL_law_241 : decode cL_law 241 = .ok (.iconst 1, 1) := by decide +kernel
theorem dL_law_242 : decode cL_law 242 = .ok (.iadd, 1) := by decide +kernel
theorem dL_law_243 : decode cL_law 243 = .ok (.iaload, 1) := by decide +kernel
theorem dL_law_244 : decode cL_law 244 = .ok (.invokevirtual 30, 3) := by decide +kernel
theorem dL_law_247 : decode cL_law 247 = .ok (.if_icmp .eq 464, 3) := by decide +kernel
theorem dL_law_250 : decode cL_law 250 = .ok (.iconst 0, 1) := by decide +kernel
theorem dL_law_251 : decode cL_law 251 = .ok (.ireturn, 1) := by decide +kernel
theorem dL_law_252 : decode cL_law 252 = .ok (.aload_n 1, 1) := by decide +kernel
theorem dL_law_253 : decode cL_law 253 = .ok (.aload_n 0, 1) := by decide +kernel
theorem dL_law_254 : decode cL_law 254 = .ok (.iload_n 3, 1) := by decide +kernel
theorem dL_law_255 : decode cL_law 255 = .ok (.iconst 1, 1) := by decide +kernel
theorem dL_law_256 : decode cL_law 256 = .ok (.iadd, 1) := by decide +kernel
theorem dL_law_257 : decode cL_law 257 = .ok (.iaload, 1) := by decide +kernel
theorem dL_law_258 : decode cL_law 258 = .ok (.aload_n 0, 1) := by decide +kernel
theorem dL_law_259 : decode cL_law 259 = .ok (.iload_n 3, 1) := by decide +kernel
theorem dL_law_260 : decode cL_law 260 = .ok (.iconst 2, 1) := by decide +kernel
theorem dL_law_261 : decode cL_law 261 = .ok (.iadd, 1) := by decide +kernel
theorem dL_law_262 : decode cL_law 262 = .ok (.iaload, 1) := by decide +kernel
theorem dL_law_263 : decode cL_law 263 = .ok (.invokevirtual 31, 3) := by decide +kernel
theorem dL_law_266 : decode cL_law 266 = .ok (.aload_n 2, 1) := by decide +kernel
theorem dL_law_267 : decode cL_law 267 = .ok (.aload_n 0, 1) := by decide +kernel
theorem dL_law_268 : decode cL_law 268 = .ok (.iload_n 3, 1) := by decide +kernel
theorem dL_law_269 : decode cL_law 269 = .ok (.iconst 1, 1) := by decide +kernel
theorem dL_law_270 : decode cL_law 270 = .ok (.iadd, 1) := by decide +kernel
theorem dL_law_271 : decode cL_law 271 = .ok (.iaload, 1) := by decide +kernel
theorem dL_law_272 : decode cL_law 272 = .ok (.aload_n 0, 1) := by decide +kernel
theorem dL_law_273 : decode cL_law 273 = .ok (.iload_n 3, 1) := by decide +kernel
theorem dL_law_274 : decode cL_law 274 = .ok (.iconst 2, 1) := by decide +kernel
theorem dL_law_275 : decode cL_law 275 = .ok (.iadd, 1) := by decide +kernel
theorem dL_law_276 : decode cL_law 276 = .ok (.iaload, 1) := by decide +kernel
theorem dL_law_277 : decode cL_law 277 = .ok (.invokevirtual 35, 3) := by decide +kernel
theorem dL_law_280 : decode cL_law 280 = .ok (.if_icmp .eq 431, 3) := by decide +kernel
theorem dL_law_283 : decode cL_law 283 = .ok (.iconst 0, 1) := by decide +kernel
theorem dL_law_284 : decode cL_law 284 = .ok (.ireturn, 1) := by decide +kernel
theorem dL_law_285 : decode cL_law 285 = .ok (.aload_n 1, 1) := by decide +kernel
theorem dL_law_286 : decode cL_law 286 = .ok (.aload_n 0, 1) := by decide +kernel
theorem dL_law_287 : decode cL_law 287 = .ok (.iload_n 3, 1) := by decide +kernel
theorem dL_law_288 : decode cL_law 288 = .ok (.iconst 1, 1) := by decide +kernel
theorem dL_law_289 : decode cL_law 289 = .ok (.iadd, 1) := by decide +kernel
theorem dL_law_290 : decode cL_law 290 = .ok (.iaload, 1) := by decide +kernel
theorem dL_law_291 : decode cL_law 291 = .ok (.aload_n 0, 1) := by decide +kernel
theorem dL_law_292 : decode cL_law 292 = .ok (.iload_n 3, 1) := by decide +kernel
theorem dL_law_293 : decode cL_law 293 = .ok (.iconst 2, 1) := by decide +kernel
theorem dL_law_294 : decode cL_law 294 = .ok (.iadd, 1) := by decide +kernel
theorem dL_law_295 : decode cL_law 295 = .ok (.iaload, 1) := by decide +kernel
theorem dL_law_296 : decode cL_law 296 = .ok (.invokevirtual 36, 3) := by decide +kernel
theorem dL_law_299 : decode cL_law 299 = .ok (.aload_n 2, 1) := by decide +kernel
theorem dL_law_300 : decode cL_law 300 = .ok (.aload_n 0, 1) := by decide +kernel
theorem dL_law_301 : decode cL_law 301 = .ok (.iload_n 3, 1) := by decide +kernel
theorem dL_law_302 : decode cL_law 302 = .ok (.iconst 1, 1) := by decide +kernel
theorem dL_law_303 : decode cL_law 303 = .ok (.iadd, 1) := by decide +kernel
theorem dL_law_304 : decode cL_law 304 = .ok (.iaload, 1) := by decide +kernel
theorem dL_law_305 : decode cL_law 305 = .ok (.aload_n 0, 1) := by decide +kernel
theorem dL_law_306 : decode cL_law 306 = .ok (.iload_n 3, 1) := by decide +kernel
theorem dL_law_307 : decode cL_law 307 = .ok (.iconst 2, 1) := by decide +kernel
theorem dL_law_308 : decode cL_law 308 = .ok (.iadd, 1) := by decide +kernel
theorem dL_law_309 : decode cL_law 309 = .ok (.iaload, 1) := by decide +kernel
theorem dL_law_310 : decode cL_law 310 = .ok (.invokevirtual 39, 3) := by decide +kernel
theorem dL_law_313 : decode cL_law 313 = .ok (.if_icmp .eq 398, 3) := by decide +kernel
theorem dL_law_316 : decode cL_law 316 = .ok (.iconst 0, 1) := by decide +kernel
theorem dL_law_317 : decode cL_law 317 = .ok (.ireturn, 1) := by decide +kernel
theorem dL_law_318 : decode cL_law 318 = .ok (.aload_n 1, 1) := by decide +kernel
theorem dL_law_319 : decode cL_law 319 = .ok (.aload_n 0, 1) := by decide +kernel
theorem dL_law_320 : decode cL_law 320 = .ok (.iload_n 3, 1) := by decide +kernel
theorem dL_law_321 : decode cL_law 321 = .ok (.iconst 1, 1) := by decide +kernel
theorem dL_law_322 : decode cL_law 322 = .ok (.iadd, 1) := by decide +kernel
theorem dL_law_323 : decode cL_law 323 = .ok (.iaload, 1) := by decide +kernel
theorem dL_law_324 : decode cL_law 324 = .ok (.invokevirtual 40, 3) := by decide +kernel
theorem dL_law_327 : decode cL_law 327 = .ok (.aload_n 2, 1) := by decide +kernel
theorem dL_law_328 : decode cL_law 328 = .ok (.aload_n 0, 1) := by decide +kernel
theorem dL_law_329 : decode cL_law 329 = .ok (.iload_n 3, 1) := by decide +kernel
theorem dL_law_330 : decode cL_law 330 = .ok (.iconst 1, 1) := by decide +kernel
theorem dL_law_331 : decode cL_law 331 = .ok (.iadd, 1) := by decide +kernel
theorem dL_law_332 : decode cL_law 332 = .ok (.iaload, 1) := by decide +kernel
theorem dL_law_333 : decode cL_law 333 = .ok (.invokevirtual 43, 3) := by decide +kernel
theorem dL_law_336 : decode cL_law 336 = .ok (.if_icmp .eq 375, 3) := by decide +kernel
theorem dL_law_339 : decode cL_law 339 = .ok (.iconst 0, 1) := by decide +kernel
theorem dL_law_340 : decode cL_law 340 = .ok (.ireturn, 1) := by decide +kernel
theorem dL_law_341 : decode cL_law 341 = .ok (.aload_n 1, 1) := by decide +kernel
theorem dL_law_342 : decode cL_law 342 = .ok (.invokevirtual 44, 3) := by decide +kernel
theorem dL_law_345 : decode cL_law 345 = .ok (.aload_n 2, 1) := by decide +kernel
theorem dL_law_346 : decode cL_law 346 = .ok (.invokevirtual 48, 3) := by decide +kernel
theorem dL_law_349 : decode cL_law 349 = .ok (.if_icmp .eq 362, 3) := by decide +kernel
theorem dL_law_352 : decode cL_law 352 = .ok (.iconst 0, 1) := by decide +kernel
theorem dL_law_353 : decode cL_law 353 = .ok (.ireturn, 1) := by decide +kernel
theorem dL_law_354 : decode cL_law 354 = .ok (.aload_n 1, 1) := by decide +kernel
theorem dL_law_355 : decode cL_law 355 = .ok (.aload_n 0, 1) := by decide +kernel
theorem dL_law_356 : decode cL_law 356 = .ok (.iload_n 3, 1) := by decide +kernel
theorem dL_law_357 : decode cL_law 357 = .ok (.iconst 1, 1) := by decide +kernel
theorem dL_law_358 : decode cL_law 358 = .ok (.iadd, 1) := by decide +kernel
theorem dL_law_359 : decode cL_law 359 = .ok (.iaload, 1) := by decide +kernel
theorem dL_law_360 : decode cL_law 360 = .ok (.i2c, 1) := by decide +kernel
theorem dL_law_361 : decode cL_law 361 = .ok (.invokevirtual 49, 3) := by decide +kernel
theorem dL_law_364 : decode cL_law 364 = .ok (.aload_n 2, 1) := by decide +kernel
theorem dL_law_365 : decode cL_law 365 = .ok (.aload_n 0, 1) := by decide +kernel
theorem dL_law_366 : decode cL_law 366 = .ok (.iload_n 3, 1) := by decide +kernel
theorem dL_law_367 : decode cL_law 367 = .ok (.iconst 1, 1) := by decide +kernel
theorem dL_law_368 : decode cL_law 368 = .ok (.iadd, 1) := by decide +kernel
theorem dL_law_369 : decode cL_law 369 = .ok (.iaload, 1) := by decide +kernel
theorem dL_law_370 : decode cL_law 370 = .ok (.i2c, 1) := by decide +kernel
theorem dL_law_371 : decode cL_law 371 = .ok (.invokevirtual 53, 3) := by decide +kernel
theorem dL_law_374 : decode cL_law 374 = .ok (.if_icmp .eq 337, 3) := by decide +kernel
theorem dL_law_377 : decode cL_law 377 = .ok (.iconst 0, 1) := by decide +kernel
theorem dL_law_378 : decode cL_law 378 = .ok (.ireturn, 1) := by decide +kernel
theorem dL_law_379 : decode cL_law 379 = .ok (.aload_n 1, 1) := by decide +kernel
theorem dL_law_380 : decode cL_law 380 = .ok (.invokevirtual 54, 3) := by decide +kernel
theorem dL_law_383 : decode cL_law 383 = .ok (.aload_n 2, 1) := by decide +kernel
theorem dL_law_384 : decode cL_law 384 = .ok (.invokevirtual 57, 3) := by decide +kernel
theorem dL_law_387 : decode cL_law 387 = .ok (.if_icmp .eq 324, 3) := by decide +kernel
theorem dL_law_390 : decode cL_law 390 = .ok (.iconst 0, 1) := by decide +kernel
theorem dL_law_391 : decode cL_law 391 = .ok (.ireturn, 1) := by decide +kernel
theorem dL_law_392 : decode cL_law 392 = .ok (.aload_n 1, 1) := by decide +kernel
theorem dL_law_393 : decode cL_law 393 = .ok (.invokevirtual 58, 3) := by decide +kernel
theorem dL_law_396 : decode cL_law 396 = .ok (.aload_n 2, 1) := by decide +kernel
theorem dL_law_397 : decode cL_law 397 = .ok (.invokevirtual 61, 3) := by decide +kernel
theorem dL_law_400 : decode cL_law 400 = .ok (.if_icmp .eq 311, 3) := by decide +kernel
theorem dL_law_403 : decode cL_law 403 = .ok (.iconst 0, 1) := by decide +kernel
theorem dL_law_404 : decode cL_law 404 = .ok (.ireturn, 1) := by decide +kernel
theorem dL_law_405 : decode cL_law 405 = .ok (.aload_n 1, 1) := by decide +kernel
theorem dL_law_406 : decode cL_law 406 = .ok (.aload_n 0, 1) := by decide +kernel
theorem dL_law_407 : decode cL_law 407 = .ok (.iload_n 3, 1) := by decide +kernel
theorem dL_law_408 : decode cL_law 408 = .ok (.iconst 1, 1) := by decide +kernel
theorem dL_law_409 : decode cL_law 409 = .ok (.iadd, 1) := by decide +kernel
theorem dL_law_410 : decode cL_law 410 = .ok (.iaload, 1) := by decide +kernel
theorem dL_law_411 : decode cL_law 411 = .ok (.invokevirtual 62, 3) := by decide +kernel
theorem dL_law_414 : decode cL_law 414 = .ok (.aload_n 2, 1) := by decide +kernel
theorem dL_law_415 : decode cL_law 415 = .ok (.aload_n 0, 1) := by decide +kernel
theorem dL_law_416 : decode cL_law 416 = .ok (.iload_n 3, 1) := by decide +kernel
theorem dL_law_417 : decode cL_law 417 = .ok (.iconst 1, 1) := by decide +kernel
theorem dL_law_418 : decode cL_law 418 = .ok (.iadd, 1) := by decide +kernel
theorem dL_law_419 : decode cL_law 419 = .ok (.iaload, 1) := by decide +kernel
theorem dL_law_420 : decode cL_law 420 = .ok (.invokevirtual 65, 3) := by decide +kernel
theorem dL_law_423 : decode cL_law 423 = .ok (.if_icmp .eq 288, 3) := by decide +kernel
theorem dL_law_426 : decode cL_law 426 = .ok (.iconst 0, 1) := by decide +kernel
theorem dL_law_427 : decode cL_law 427 = .ok (.ireturn, 1) := by decide +kernel
theorem dL_law_428 : decode cL_law 428 = .ok (.aload_n 1, 1) := by decide +kernel
theorem dL_law_429 : decode cL_law 429 = .ok (.invokevirtual 66, 3) := by decide +kernel
theorem dL_law_432 : decode cL_law 432 = .ok (.aload_n 2, 1) := by decide +kernel
theorem dL_law_433 : decode cL_law 433 = .ok (.invokevirtual 69, 3) := by decide +kernel
theorem dL_law_436 : decode cL_law 436 = .ok (.if_icmp .eq 275, 3) := by decide +kernel
theorem dL_law_439 : decode cL_law 439 = .ok (.iconst 0, 1) := by decide +kernel
theorem dL_law_440 : decode cL_law 440 = .ok (.ireturn, 1) := by decide +kernel
theorem dL_law_441 : decode cL_law 441 = .ok (.aload_n 1, 1) := by decide +kernel
theorem dL_law_442 : decode cL_law 442 = .ok (.invokevirtual 70, 3) := by decide +kernel
theorem dL_law_445 : decode cL_law 445 = .ok (.aload_n 2, 1) := by decide +kernel
theorem dL_law_446 : decode cL_law 446 = .ok (.invokevirtual 73, 3) := by decide +kernel
theorem dL_law_449 : decode cL_law 449 = .ok (.if_icmp .eq 262, 3) := by decide +kernel
theorem dL_law_452 : decode cL_law 452 = .ok (.iconst 0, 1) := by decide +kernel
theorem dL_law_453 : decode cL_law 453 = .ok (.ireturn, 1) := by decide +kernel
theorem dL_law_454 : decode cL_law 454 = .ok (.aload_n 1, 1) := by decide +kernel
theorem dL_law_455 : decode cL_law 455 = .ok (.invokevirtual 74, 3) := by decide +kernel
theorem dL_law_458 : decode cL_law 458 = .ok (.aload_n 2, 1) := by decide +kernel
theorem dL_law_459 : decode cL_law 459 = .ok (.invokevirtual 77, 3) := by decide +kernel
theorem dL_law_462 : decode cL_law 462 = .ok (.if_icmp .eq 249, 3) := by decide +kernel
theorem dL_law_465 : decode cL_law 465 = .ok (.iconst 0, 1) := by decide +kernel
theorem dL_law_466 : decode cL_law 466 = .ok (.ireturn, 1) := by decide +kernel
theorem dL_law_467 : decode cL_law 467 = .ok (.aload_n 1, 1) := by decide +kernel
theorem dL_law_468 : decode cL_law 468 = .ok (.aload_n 0, 1) := by decide +kernel
theorem dL_law_469 : decode cL_law 469 = .ok (.iload_n 3, 1) := by decide +kernel
theorem dL_law_470 : decode cL_law 470 = .ok (.iconst 1, 1) := by decide +kernel
theorem dL_law_471 : decode cL_law 471 = .ok (.iadd, 1) := by decide +kernel
theorem dL_law_472 : decode cL_law 472 = .ok (.iaload, 1) := by decide +kernel
theorem dL_law_473 : decode cL_law 473 = .ok (.aload_n 0, 1) := by decide +kernel
theorem dL_law_474 : decode cL_law 474 = .ok (.iload_n 3, 1) := by decide +kernel
theorem dL_law_475 : decode cL_law 475 = .ok (.iconst 2, 1) := by decide +kernel
theorem dL_law_476 : decode cL_law 476 = .ok (.iadd, 1) := by decide +kernel
theorem dL_law_477 : decode cL_law 477 = .ok (.iaload, 1) := by decide +kernel
theorem dL_law_478 : decode cL_law 478 = .ok (.invokevirtual 78, 3) := by decide +kernel
theorem dL_law_481 : decode cL_law 481 = .ok (.aload_n 2, 1) := by decide +kernel
theorem dL_law_482 : decode cL_law 482 = .ok (.aload_n 0, 1) := by decide +kernel
theorem dL_law_483 : decode cL_law 483 = .ok (.iload_n 3, 1) := by decide +kernel
theorem dL_law_484 : decode cL_law 484 = .ok (.iconst 1, 1) := by decide +kernel
theorem dL_law_485 : decode cL_law 485 = .ok (.iadd, 1) := by decide +kernel
theorem dL_law_486 : decode cL_law 486 = .ok (.iaload, 1) := by decide +kernel
theorem dL_law_487 : decode cL_law 487 = .ok (.aload_n 0, 1) := by decide +kernel
theorem dL_law_488 : decode cL_law 488 = .ok (.iload_n 3, 1) := by decide +kernel
theorem dL_law_489 : decode cL_law 489 = .ok (.iconst 2, 1) := by decide +kernel
theorem dL_law_490 : decode cL_law 490 = .ok (.iadd, 1) := by decide +kernel
theorem dL_law_491 : decode cL_law 491 = .ok (.iaload, 1) := by decide +kernel
theorem dL_law_492 : decode cL_law 492 = .ok (.invokevirtual 81, 3) := by decide +kernel
theorem dL_law_495 : decode cL_law 495 = .ok (.if_icmp .eq 216, 3) := by decide +kernel
theorem dL_law_498 : decode cL_law 498 = .ok (.iconst 0, 1) := by decide +kernel
theorem dL_law_499 : decode cL_law 499 = .ok (.ireturn, 1) := by decide +kernel
theorem dL_law_500 : decode cL_law 500 = .ok (.aload_n 1, 1) := by decide +kernel
theorem dL_law_501 : decode cL_law 501 = .ok (.aload_n 0, 1) := by decide +kernel
theorem dL_law_502 : decode cL_law 502 = .ok (.iload_n 3, 1) := by decide +kernel
theorem dL_law_503 : decode cL_law 503 = .ok (.iconst 1, 1) := by decide +kernel
theorem dL_law_504 : decode cL_law 504 = .ok (.iadd, 1) := by decide +kernel
theorem dL_law_505 : decode cL_law 505 = .ok (.iaload, 1) := by decide +kernel
theorem dL_law_506 : decode cL_law 506 = .ok (.invokevirtual 82, 3) := by decide +kernel
theorem dL_law_509 : decode cL_law 509 = .ok (.aload_n 2, 1) := by decide +kernel
theorem dL_law_510 : decode cL_law 510 = .ok (.aload_n 0, 1) := by decide +kernel
theorem dL_law_511 : decode cL_law 511 = .ok (.iload_n 3, 1) := by decide +kernel
theorem dL_law_512 : decode cL_law 512 = .ok (.iconst 1, 1) := by decide +kernel
theorem dL_law_513 : decode cL_law 513 = .ok (.iadd, 1) := by decide +kernel
theorem dL_law_514 : decode cL_law 514 = .ok (.iaload, 1) := by decide +kernel
theorem dL_law_515 : decode cL_law 515 = .ok (.invokevirtual 85, 3) := by decide +kernel
theorem dL_law_518 : decode cL_law 518 = .ok (.if_icmp .eq 193, 3) := by decide +kernel
theorem dL_law_521 : decode cL_law 521 = .ok (.iconst 0, 1) := by decide +kernel
theorem dL_law_522 : decode cL_law 522 = .ok (.ireturn, 1) := by decide +kernel
theorem dL_law_523 : decode cL_law 523 = .ok (.aload_n 1, 1) := by decide +kernel
theorem dL_law_524 : decode cL_law 524 = .ok (.aload_n 0, 1) := by decide +kernel
theorem dL_law_525 : decode cL_law 525 = .ok (.iload_n 3, 1) := by decide +kernel
theorem dL_law_526 : decode cL_law 526 = .ok (.iconst 1, 1) := by decide +kernel
theorem dL_law_527 : decode cL_law 527 = .ok (.iadd, 1) := by decide +kernel
theorem dL_law_528 : decode cL_law 528 = .ok (.iaload, 1) := by decide +kernel
theorem dL_law_529 : decode cL_law 529 = .ok (.aload_n 0, 1) := by decide +kernel
theorem dL_law_530 : decode cL_law 530 = .ok (.iload_n 3, 1) := by decide +kernel
theorem dL_law_531 : decode cL_law 531 = .ok (.iconst 2, 1) := by decide +kernel
theorem dL_law_532 : decode cL_law 532 = .ok (.iadd, 1) := by decide +kernel
theorem dL_law_533 : decode cL_law 533 = .ok (.iaload, 1) := by decide +kernel
theorem dL_law_534 : decode cL_law 534 = .ok (.aload_n 0, 1) := by decide +kernel
theorem dL_law_535 : decode cL_law 535 = .ok (.iload_n 3, 1) := by decide +kernel
theorem dL_law_536 : decode cL_law 536 = .ok (.iconst 3, 1) := by decide +kernel
theorem dL_law_537 : decode cL_law 537 = .ok (.iadd, 1) := by decide +kernel
theorem dL_law_538 : decode cL_law 538 = .ok (.iaload, 1) := by decide +kernel
theorem dL_law_539 : decode cL_law 539 = .ok (.aload_n 0, 1) := by decide +kernel
theorem dL_law_540 : decode cL_law 540 = .ok (.iload_n 3, 1) := by decide +kernel
theorem dL_law_541 : decode cL_law 541 = .ok (.iconst 4, 1) := by decide +kernel
theorem dL_law_542 : decode cL_law 542 = .ok (.iadd, 1) := by decide +kernel
theorem dL_law_543 : decode cL_law 543 = .ok (.iaload, 1) := by decide +kernel
theorem dL_law_544 : decode cL_law 544 = .ok (.invokevirtual 86, 3) := by decide +kernel
theorem dL_law_547 : decode cL_law 547 = .ok (.aload_n 2, 1) := by decide +kernel
theorem dL_law_548 : decode cL_law 548 = .ok (.aload_n 0, 1) := by decide +kernel
theorem dL_law_549 : decode cL_law 549 = .ok (.iload_n 3, 1) := by decide +kernel
theorem dL_law_550 : decode cL_law 550 = .ok (.iconst 1, 1) := by decide +kernel
theorem dL_law_551 : decode cL_law 551 = .ok (.iadd, 1) := by decide +kernel
theorem dL_law_552 : decode cL_law 552 = .ok (.iaload, 1) := by decide +kernel
theorem dL_law_553 : decode cL_law 553 = .ok (.aload_n 0, 1) := by decide +kernel
theorem dL_law_554 : decode cL_law 554 = .ok (.iload_n 3, 1) := by decide +kernel
theorem dL_law_555 : decode cL_law 555 = .ok (.iconst 2, 1) := by decide +kernel
theorem dL_law_556 : decode cL_law 556 = .ok (.iadd, 1) := by decide +kernel
theorem dL_law_557 : decode cL_law 557 = .ok (.iaload, 1) := by decide +kernel
theorem dL_law_558 : decode cL_law 558 = .ok (.aload_n 0, 1) := by decide +kernel
theorem dL_law_559 : decode cL_law 559 = .ok (.iload_n 3, 1) := by decide +kernel
theorem dL_law_560 : decode cL_law 560 = .ok (.iconst 3, 1) := by decide +kernel
theorem dL_law_561 : decode cL_law 561 = .ok (.iadd, 1) := by decide +kernel
theorem dL_law_562 : decode cL_law 562 = .ok (.iaload, 1) := by decide +kernel
theorem dL_law_563 : decode cL_law 563 = .ok (.aload_n 0, 1) := by decide +kernel
theorem dL_law_564 : decode cL_law 564 = .ok (.iload_n 3, 1) := by decide +kernel
theorem dL_law_565 : decode cL_law 565 = .ok (.iconst 4, 1) := by decide +kernel
theorem dL_law_566 : decode cL_law 566 = .ok (.iadd, 1) := by decide +kernel
theorem dL_law_567 : decode cL_law 567 = .ok (.iaload, 1) := by decide +kernel
theorem dL_law_568 : decode cL_law 568 = .ok (.invokevirtual 90, 3) := by decide +kernel
theorem dL_law_571 : decode cL_law 571 = .ok (.if_icmp .eq 140, 3) := by decide +kernel
theorem dL_law_574 : decode cL_law 574 = .ok (.iconst 0, 1) := by decide +kernel
theorem dL_law_575 : decode cL_law 575 = .ok (.ireturn, 1) := by decide +kernel
theorem dL_law_576 : decode cL_law 576 = .ok (.aload_n 1, 1) := by decide +kernel
theorem dL_law_577 : decode cL_law 577 = .ok (.aload_n 0, 1) := by decide +kernel
theorem dL_law_578 : decode cL_law 578 = .ok (.iload_n 3, 1) := by decide +kernel
theorem dL_law_579 : decode cL_law 579 = .ok (.iconst 1, 1) := by decide +kernel
theorem dL_law_580 : decode cL_law 580 = .ok (.iadd, 1) := by decide +kernel
theorem dL_law_581 : decode cL_law 581 = .ok (.iaload, 1) := by decide +kernel
theorem dL_law_582 : decode cL_law 582 = .ok (.invokevirtual 91, 3) := by decide +kernel
theorem dL_law_585 : decode cL_law 585 = .ok (.aload_n 2, 1) := by decide +kernel
theorem dL_law_586 : decode cL_law 586 = .ok (.aload_n 0, 1) := by decide +kernel
theorem dL_law_587 : decode cL_law 587 = .ok (.iload_n 3, 1) := by decide +kernel
theorem dL_law_588 : decode cL_law 588 = .ok (.iconst 1, 1) := by decide +kernel
theorem dL_law_589 : decode cL_law 589 = .ok (.iadd, 1) := by decide +kernel
theorem dL_law_590 : decode cL_law 590 = .ok (.iaload, 1) := by decide +kernel
theorem dL_law_591 : decode cL_law 591 = .ok (.invokevirtual 94, 3) := by decide +kernel
theorem dL_law_594 : decode cL_law 594 = .ok (.if_icmp .eq 117, 3) := by decide +kernel
theorem dL_law_597 : decode cL_law 597 = .ok (.iconst 0, 1) := by decide +kernel
theorem dL_law_598 : decode cL_law 598 = .ok (.ireturn, 1) := by decide +kernel
theorem dL_law_599 : decode cL_law 599 = .ok (.aload_n 1, 1) := by decide +kernel
theorem dL_law_600 : decode cL_law 600 = .ok (.aload_n 0, 1) := by decide +kernel
theorem dL_law_601 : decode cL_law 601 = .ok (.iload_n 3, 1) := by decide +kernel
theorem dL_law_602 : decode cL_law 602 = .ok (.iconst 1, 1) := by decide +kernel
theorem dL_law_603 : decode cL_law 603 = .ok (.iadd, 1) := by decide +kernel
theorem dL_law_604 : decode cL_law 604 = .ok (.iaload, 1) := by decide +kernel
theorem dL_law_605 : decode cL_law 605 = .ok (.aload_n 0, 1) := by decide +kernel
theorem dL_law_606 : decode cL_law 606 = .ok (.iload_n 3, 1) := by decide +kernel
theorem dL_law_607 : decode cL_law 607 = .ok (.iconst 2, 1) := by decide +kernel
theorem dL_law_608 : decode cL_law 608 = .ok (.iadd, 1) := by decide +kernel
theorem dL_law_609 : decode cL_law 609 = .ok (.iaload, 1) := by decide +kernel
theorem dL_law_610 : decode cL_law 610 = .ok (.invokevirtual 95, 3) := by decide +kernel
theorem dL_law_613 : decode cL_law 613 = .ok (.aload_n 2, 1) := by decide +kernel
theorem dL_law_614 : decode cL_law 614 = .ok (.aload_n 0, 1) := by decide +kernel
theorem dL_law_615 : decode cL_law 615 = .ok (.iload_n 3, 1) := by decide +kernel
theorem dL_law_616 : decode cL_law 616 = .ok (.iconst 1, 1) := by decide +kernel
theorem dL_law_617 : decode cL_law 617 = .ok (.iadd, 1) := by decide +kernel
theorem dL_law_618 : decode cL_law 618 = .ok (.iaload, 1) := by decide +kernel
theorem dL_law_619 : decode cL_law 619 = .ok (.aload_n 0, 1) := by decide +kernel
theorem dL_law_620 : decode cL_law 620 = .ok (.iload_n 3, 1) := by decide +kernel
theorem dL_law_621 : decode cL_law 621 = .ok (.iconst 2, 1) := by decide +kernel
theorem dL_law_622 : decode cL_law 622 = .ok (.iadd, 1) := by decide +kernel
theorem dL_law_623 : decode cL_law 623 = .ok (.iaload, 1) := by decide +kernel
theorem dL_law_624 : decode cL_law 624 = .ok (.invokevirtual 98, 3) := by decide +kernel
theorem dL_law_627 : decode cL_law 627 = .ok (.if_icmp .eq 84, 3) := by decide +kernel
theorem dL_law_630 : decode cL_law 630 = .ok (.iconst 0, 1) := by decide +kernel
theorem dL_law_631 : decode cL_law 631 = .ok (.ireturn, 1) := by decide +kernel
theorem dL_law_632 : decode cL_law 632 = .ok (.aload_n 1, 1) := by decide +kernel
theorem dL_law_633 : decode cL_law 633 = .ok (.aload_n 0, 1) := by decide +kernel
theorem dL_law_634 : decode cL_law 634 = .ok (.iload_n 3, 1) := by decide +kernel
theorem dL_law_635 : decode cL_law 635 = .ok (.iconst 1, 1) := by decide +kernel
theorem dL_law_636 : decode cL_law 636 = .ok (.iadd, 1) := by decide +kernel
theorem dL_law_637 : decode cL_law 637 = .ok (.iaload, 1) := by decide +kernel
theorem dL_law_638 : decode cL_law 638 = .ok (.invokevirtual 99, 3) := by decide +kernel
theorem dL_law_641 : decode cL_law 641 = .ok (.aload_n 2, 1) := by decide +kernel
theorem dL_law_642 : decode cL_law 642 = .ok (.aload_n 0, 1) := by decide +kernel
theorem dL_law_643 : decode cL_law 643 = .ok (.iload_n 3, 1) := by decide +kernel
theorem dL_law_644 : decode cL_law 644 = .ok (.iconst 1, 1) := by decide +kernel
theorem dL_law_645 : decode cL_law 645 = .ok (.iadd, 1) := by decide +kernel
theorem dL_law_646 : decode cL_law 646 = .ok (.iaload, 1) := by decide +kernel
theorem dL_law_647 : decode cL_law 647 = .ok (.invokevirtual 102, 3) := by decide +kernel
theorem dL_law_650 : decode cL_law 650 = .ok (.if_icmp .eq 61, 3) := by decide +kernel
theorem dL_law_653 : decode cL_law 653 = .ok (.iconst 0, 1) := by decide +kernel
theorem dL_law_654 : decode cL_law 654 = .ok (.ireturn, 1) := by decide +kernel
theorem dL_law_655 : decode cL_law 655 = .ok (.aload_n 1, 1) := by decide +kernel
theorem dL_law_656 : decode cL_law 656 = .ok (.aload_n 0, 1) := by decide +kernel
theorem dL_law_657 : decode cL_law 657 = .ok (.iload_n 3, 1) := by decide +kernel
theorem dL_law_658 : decode cL_law 658 = .ok (.iconst 1, 1) := by decide +kernel
theorem dL_law_659 : decode cL_law 659 = .ok (.iadd, 1) := by decide +kernel
theorem dL_law_660 : decode cL_law 660 = .ok (.iaload, 1) := by decide +kernel
theorem dL_law_661 : decode cL_law 661 = .ok (.aload_n 0, 1) := by decide +kernel
theorem dL_law_662 : decode cL_law 662 = .ok (.iload_n 3, 1) := by decide +kernel
theorem dL_law_663 : decode cL_law 663 = .ok (.iconst 2, 1) := by decide +kernel
theorem dL_law_664 : decode cL_law 664 = .ok (.iadd, 1) := by decide +kernel
theorem dL_law_665 : decode cL_law 665 = .ok (.iaload, 1) := by decide +kernel
theorem dL_law_666 : decode cL_law 666 = .ok (.invokevirtual 103, 3) := by decide +kernel
theorem dL_law_669 : decode cL_law 669 = .ok (.aload_n 2, 1) := by decide +kernel
theorem dL_law_670 : decode cL_law 670 = .ok (.aload_n 0, 1) := by decide +kernel
theorem dL_law_671 : decode cL_law 671 = .ok (.iload_n 3, 1) := by decide +kernel
theorem dL_law_672 : decode cL_law 672 = .ok (.iconst 1, 1) := by decide +kernel
theorem dL_law_673 : decode cL_law 673 = .ok (.iadd, 1) := by decide +kernel
theorem dL_law_674 : decode cL_law 674 = .ok (.iaload, 1) := by decide +kernel
theorem dL_law_675 : decode cL_law 675 = .ok (.aload_n 0, 1) := by decide +kernel
theorem dL_law_676 : decode cL_law 676 = .ok (.iload_n 3, 1) := by decide +kernel
theorem dL_law_677 : decode cL_law 677 = .ok (.iconst 2, 1) := by decide +kernel
theorem dL_law_678 : decode cL_law 678 = .ok (.iadd, 1) := by decide +kernel
theorem dL_law_679 : decode cL_law 679 = .ok (.iaload, 1) := by decide +kernel
theorem dL_law_680 : decode cL_law 680 = .ok (.invokevirtual 106, 3) := by decide +kernel
theorem dL_law_683 : decode cL_law 683 = .ok (.if_icmp .eq 28, 3) := by decide +kernel
theorem dL_law_686 : decode cL_law 686 = .ok (.iconst 0, 1) := by decide +kernel
theorem dL_law_687 : decode cL_law 687 = .ok (.ireturn, 1) := by decide +kernel
theorem dL_law_688 : decode cL_law 688 = .ok (.aload_n 1, 1) := by decide +kernel
theorem dL_law_689 : decode cL_law 689 = .ok (.aload_n 0, 1) := by decide +kernel
theorem dL_law_690 : decode cL_law 690 = .ok (.iload_n 3, 1) := by decide +kernel
theorem dL_law_691 : decode cL_law 691 = .ok (.iconst 1, 1) := by decide +kernel
theorem dL_law_692 : decode cL_law 692 = .ok (.iadd, 1) := by decide +kernel
theorem dL_law_693 : decode cL_law 693 = .ok (.iaload, 1) := by decide +kernel
theorem dL_law_694 : decode cL_law 694 = .ok (.invokevirtual 107, 3) := by decide +kernel
theorem dL_law_697 : decode cL_law 697 = .ok (.aload_n 2, 1) := by decide +kernel
theorem dL_law_698 : decode cL_law 698 = .ok (.aload_n 0, 1) := by decide +kernel
theorem dL_law_699 : decode cL_law 699 = .ok (.iload_n 3, 1) := by decide +kernel
theorem dL_law_700 : decode cL_law 700 = .ok (.iconst 1, 1) := by decide +kernel
theorem dL_law_701 : decode cL_law 701 = .ok (.iadd, 1) := by decide +kernel
theorem dL_law_702 : decode cL_law 702 = .ok (.iaload, 1) := by decide +kernel
theorem dL_law_703 : decode cL_law 703 = .ok (.invokevirtual 110, 3) := by decide +kernel
theorem dL_law_706 : decode cL_law 706 = .ok (.if_icmp .eq 5, 3) := by decide +kernel
theorem dL_law_709 : decode cL_law 709 = .ok (.iconst 0, 1) := by decide +kernel
theorem dL_law_710 : decode cL_law 710 = .ok (.ireturn, 1) := by decide +kernel
theorem dL_law_711 : decode cL_law 711 = .ok (.iinc 3 5, 3) := by decide +kernel
theorem dL_law_714 : decode cL_law 714 = .ok (.goto (-696), 3) := by decide +kernel
theorem dL_law_717 : decode cL_law 717 = .ok (.iconst 1, 1) := by decide +kernel
theorem dL_law_718 : decode cL_law 718 = .ok (.ireturn, 1) := by decide +kernel
end
section
/-! The words of this proof: ints as jj of an Int, arrays as ac of a function, the world (Wd), what holds in a walk (Cx), and one row an instruction over them. -/
def jj (z : Int) : Int32 := Int32.ofInt z
theorem jj_of (x : Int32) : jj x.toInt = x := Int32.ofInt_toInt x
theorem jj_toInt {z : Int} (h1 : -2147483648 ≤ z) (h2 : z ≤ 2147483647) : (jj z).toInt = z := by
  unfold jj
  exact Int32.toInt_ofInt_of_le (by omega) (by omega)
theorem jj_lo (x : Int32) : -2147483648 ≤ x.toInt := by
  have := Int32.le_toInt x; omega
theorem jj_hi (x : Int32) : x.toInt ≤ 2147483647 := by
  have := Int32.toInt_lt x; omega
theorem jj_add (a b : Int) : jj a + jj b = jj (a + b) := (Int32.ofInt_add a b).symm
theorem jj_sub (a b : Int) : jj a - jj b = jj (a - b) := (Int32.ofInt_sub a b).symm
theorem jj_mul (a b : Int) : jj a * jj b = jj (a * b) := (Int32.ofInt_mul a b).symm
theorem jj_neg (a : Int) : -jj a = jj (-a) := (Int32.ofInt_neg a).symm
theorem jj_div {a b : Int} (ha : 0 ≤ a) (ha2 : a ≤ 2147483647) (hb : 0 < b) (hb2 : b ≤ 2147483647) : jj a / jj b = jj (a / b) := by
  have h0 : 0 ≤ a / b := Int.ediv_nonneg ha (by omega)
  have h1 : a / b ≤ a := Int.ediv_le_self b ha
  apply Int32.toInt_inj.mp
  rw [lg_idiv_nonneg (by rw [jj_toInt (by omega) ha2]; omega) (by rw [jj_toInt (by omega) hb2]; omega), jj_toInt (by omega) ha2, jj_toInt (by omega) hb2, jj_toInt (by omega) (by omega)]
theorem jj_inj {a b : Int} (h1 : -2147483648 ≤ a) (h2 : a ≤ 2147483647) (h3 : -2147483648 ≤ b) (h4 : b ≤ 2147483647) : jj a = jj b ↔ a = b := by
  rw [← Int32.toInt_inj, jj_toInt h1 h2, jj_toInt h3 h4]
theorem jj_le {a b : Int} (h1 : -2147483648 ≤ a) (h2 : a ≤ 2147483647) (h3 : -2147483648 ≤ b) (h4 : b ≤ 2147483647) : jj a ≤ jj b ↔ a ≤ b := by
  rw [Int32.le_iff_toInt_le, jj_toInt h1 h2, jj_toInt h3 h4]
theorem jj_lt {a b : Int} (h1 : -2147483648 ≤ a) (h2 : a ≤ 2147483647) (h3 : -2147483648 ≤ b) (h4 : b ≤ 2147483647) : jj a < jj b ↔ a < b := by
  rw [Int32.lt_iff_toInt_lt, jj_toInt h1 h2, jj_toInt h3 h4]
theorem jj_cl {i : Int} (h0 : 0 ≤ i) (h1 : i ≤ 2147483647) : ((jj i).toNatClampNeg : Int) = i := by
  have := jj_toInt (z := i) (by omega) h1
  have h2 : (jj i).toNatClampNeg = (jj i).toInt.toNat := rfl
  rw [h2, this]; omega
theorem jj_in {i : Int} {n : Nat} (h0 : 0 ≤ i) (h1 : i < n) (h2 : i ≤ 2147483647) : vp_in (jj i) n := by
  rw [vp_in_iff, jj_toInt (by omega) h2]; omega
/-- a truth value as an int -/
def bI (P : Prop) [Decidable P] : Int := if P then 1 else 0
theorem bI_t {P : Prop} [Decidable P] (h : P) : bI P = 1 := if_pos h
theorem bI_f {P : Prop} [Decidable P] (h : ¬ P) : bI P = 0 := if_neg h
theorem bI_lo (P : Prop) [Decidable P] : 0 ≤ bI P := by unfold bI; split <;> omega
theorem bI_hi (P : Prop) [Decidable P] : bI P ≤ 1 := by unfold bI; split <;> omega
theorem bI_0 {P : Prop} [Decidable P] : jj (bI P) = 0 ↔ ¬ P := by
  by_cases h : P
  · rw [bI_t h]; exact ⟨fun q => absurd q (by decide), fun q => absurd h q⟩
  · rw [bI_f h]; exact ⟨fun _ => h, fun _ => by decide⟩
def up (f : Int → Int) (i v : Int) : Int → Int := fun j => if j = i then v else f j
theorem up_s (f : Int → Int) (i v : Int) : up f i v i = v := if_pos rfl
theorem up_n (f : Int → Int) {i j : Int} (v : Int) (h : j ≠ i) : up f i v j = f j := if_neg h
theorem up_same (f : Int → Int) (i : Int) : up f i (f i) = f := by
  funext j; unfold up; split
  · next h => rw [h]
  · rfl
/-- an array's cells -/
def ac (f : Int → Int) : Nat → Int32 := fun k => jj (f (k : Int))
theorem ac_ld (f : Int → Int) {i : Int} (h0 : 0 ≤ i) (h1 : i ≤ 2147483647) : ac f (jj i).toNatClampNeg = jj (f i) := by
  unfold ac; rw [jj_cl h0 h1]
theorem ac_st (f : Int → Int) {i : Int} (v : Int) (h0 : 0 ≤ i) (h1 : i ≤ 2147483647) : upd (ac f) (jj i).toNatClampNeg (jj v) = ac (up f i v) := by
  funext k
  unfold upd ac up
  have := jj_cl h0 h1
  by_cases h : k = (jj i).toNatClampNeg
  · rw [if_pos h, if_pos (by omega)]
  · rw [if_neg h, if_neg (by omega)]
/-! iteration -/
def itN {α : Type} (f : Int → α → α) (a : α) : Nat → α
  | 0 => a
  | k + 1 => f (k : Int) (itN f a k)
def it {α : Type} (f : Int → α → α) (a : α) (i : Int) : α := itN f a i.toNat
theorem it_0 {α : Type} (f : Int → α → α) (a : α) : it f a 0 = a := rfl
theorem it_z {α : Type} (f : Int → α → α) (a : α) {i : Int} (h : i ≤ 0) : it f a i = a := by
  unfold it; rw [show i.toNat = 0 by omega]; rfl
theorem it_s {α : Type} (f : Int → α → α) (a : α) {i : Int} (h : 0 ≤ i) : it f a (i + 1) = f i (it f a i) := by
  unfold it
  rw [show (i + 1).toNat = i.toNat + 1 by omega]
  show f ((i.toNat : Nat) : Int) _ = _
  rw [show ((i.toNat : Nat) : Int) = i by omega]
/-- what holds of each step holds of the whole -/
theorem it_ind {α : Type} (f : Int → α → α) (a : α) (P : Int → α → Prop) (n : Int) (h0 : P 0 a) (hs : ∀ i x, 0 ≤ i → i < n → P i x → P (i + 1) (f i x)) : ∀ i, 0 ≤ i → i ≤ n → P i (it f a i) := by
  intro i hi hn
  have key : ∀ k : Nat, (k : Int) ≤ n → P k (itN f a k) := by
    intro k
    induction k with
    | zero => intro _; exact h0
    | succ k ih =>
      intro hk
      have := hs k (itN f a k) (by omega) (by omega) (ih (by omega))
      exact this
  have := key i.toNat (by omega)
  unfold it
  rw [show ((i.toNat : Nat) : Int) = i by omega] at this
  exact this
theorem it_cong {α : Type} (f g : Int → α → α) (a : α) (n : Int) (h : ∀ i x, 0 ≤ i → i < n → f i x = g i x) : it f a n = it g a n := by
  rcases Int.le_total n 0 with h0 | h0
  · rw [it_z _ _ h0, it_z _ _ h0]
  · have := it_ind f a (fun i x => x = it g a i) n rfl (fun i x h1 h2 hx => by rw [h i x h1 h2, hx, it_s g a h1]) n h0 (Int.le_refl n)
    exact this
end
section
/-! What holds in a walk; the world; calls. -/
/-- the words of the calls between nest mates -/
def NW (U : State) : Prop :=
  va_Nw (.methodLinkNest RX3 28 yX2_init RX3) U ∧ va_Nw (.methodLinkNest RX3 9 yX1_init RX3) U ∧ va_Nw (.methodLinkNest RX0 15 yX1_init RX3) U ∧
  va_Nw (.methodLinkNest RX1 70 yX3_isWithin RX3) U ∧ va_Nw (.methodLinkNest RX1 99 yX3_isGust RX3) U ∧ va_Nw (.methodLinkNest RX2 53 yX3_isWithin RX3) U
theorem NW.warm {s U : State} (hW : s.WarmedH U.vm) (h : NW s) : NW U :=
  ⟨va_Nw.warmM hW h.1, va_Nw.warmM hW h.2.1, va_Nw.warmM hW h.2.2.1, va_Nw.warmM hW h.2.2.2.1, va_Nw.warmM hW h.2.2.2.2.1, va_Nw.warmM hW h.2.2.2.2.2⟩
theorem NW.vm {s U : State} (hv : s.vm = U.vm) (h : NW s) : NW U :=
  ⟨va_tabs rfl hv h.1, va_tabs rfl hv h.2.1, va_tabs rfl hv h.2.2.1, va_tabs rfl hv h.2.2.2.1, va_tabs rfl hv h.2.2.2.2.1, va_tabs rfl hv h.2.2.2.2.2⟩
/-- the class's two static rows -/
def slj (j : Nat) : Int := if j = 1 then 1 else 0
def shj (j : Nat) : Int := if j = 0 then 50 else if j = 1 then 4 else 99
def SF (A : Nat → Prop) (U : State) (H : Heap) : Prop :=
  (∃ t : Nat, va_Z RX3 "LEAST_SETTING" "[I" (.ref t) A U H ∧ va_T .int t 3 (fun j => .int (jj (slj j))) A U H) ∧
  (∃ t : Nat, va_Z RX3 "MOST_SETTING" "[I" (.ref t) A U H ∧ va_T .int t 3 (fun j => .int (jj (shj j))) A U H) ∧
  va_Nw (.fieldLinkNest RX1 93 RX3 "LEAST_SETTING" "[I" RX3) U ∧ va_Nw (.fieldLinkNest RX1 96 RX3 "MOST_SETTING" "[I" RX3) U
theorem SF.warm {A : Nat → Prop} {s U : State} {H : Heap} (hW : s.WarmedH U.vm) (h : SF A s H) : SF A U H := by
  obtain ⟨⟨t, h1, h2⟩, ⟨t', h3, h4⟩, h5, h6⟩ := h
  exact ⟨⟨t, h1.moved hW.alike, h2.moved hW.alike⟩, ⟨t', h3.moved hW.alike, h4.moved hW.alike⟩, va_Nw.warmF hW h5, va_Nw.warmF hW h6⟩
theorem SF.vm {A : Nat → Prop} {s U : State} {H : Heap} (hv : s.vm = U.vm) (h : SF A s H) : SF A U H := by
  obtain ⟨⟨t, h1, h2⟩, ⟨t', h3, h4⟩, h5, h6⟩ := h
  have ha : s.vm.Alike U.vm := hv ▸ Vm.Alike.refl s.vm
  exact ⟨⟨t, h1.moved ha, h2.moved ha⟩, ⟨t', h3.moved ha, h4.moved ha⟩, va_tabs rfl hv h5, va_tabs rfl hv h6⟩
theorem SF.kept {A : Nat → Prop} {s : State} {H H1 : Heap} (h : SF A s H) (hq : ∀ a : Nat, a < H.size → ¬ A a → H1[a]? = H[a]?) : SF A s H1 := by
  obtain ⟨⟨t, h1, h2⟩, ⟨t', h3, h4⟩, h5, h6⟩ := h
  exact ⟨⟨t, h1.kept hq, h2.kept hq⟩, ⟨t', h3.kept hq, h4.kept hq⟩, h5, h6⟩
theorem SF.narrow {A B : Nat → Prop} {s : State} {H : Heap} (h : SF A s H) (hAB : ∀ q, B q → A q) : SF B s H := by
  obtain ⟨⟨t, h1, h2⟩, ⟨t', h3, h4⟩, h5, h6⟩ := h
  exact ⟨⟨t, h1.narrow hAB, h2.narrow hAB⟩, ⟨t', h3.narrow hAB, h4.narrow hAB⟩, h5, h6⟩
def Cx (p : Program) (s : State) (m : MethodId) (args : Array Value) (meth : Method) (c : Code) (cc : ByteArray) (nL : Nat) (own : String) (Ts : List Cond) (D : va_G) (tys : List (ClassId × FieldType)) (A : Nat → Prop) (ret : Option FieldType) : Prop :=
  p.tables.exec = Jvm.exec ∧ c.code = cc ∧ c.maxLocals = nL ∧ s.vm.findClass own = some m.cls ∧ (∀ w ∈ Ts, w.before args s = true) ∧ va_K D vwCl tys s ∧ (∀ q, s.heap.size ≤ q → A q) ∧ meth.sig.returnType = ret ∧ meth.locks = false ∧ NW s ∧ SF A s s.heap
def Wd (D : va_G) (A : Nat → Prop) (s : State) (ws : va_W) (H : Heap) (locs : List Loc) : Prop := va_P D vwCl ws H ∧ va_D A ws ∧ va_S A s.heap H locs
def pW (D : va_G) (tys : List (ClassId × FieldType)) (sz : Nat) (ws : va_W) (U : State) : Prop := U.heap.size = sz ∧ va_P D vwCl ws U.heap ∧ va_K D vwCl tys U ∧ va_D (fun _ => True) ws ∧ NW U ∧ SF (va_A ws sz) U U.heap
def bW (D : va_G) (tys : List (ClassId × FieldType)) (A : Nat → Prop) (ws : va_W) (t : State) : Prop := va_P D vwCl ws t.heap ∧ va_K D vwCl tys t ∧ va_D A ws
def Qi (D : va_G) (tys : List (ClassId × FieldType)) (ev : Int) (w1 : va_W) (A : Nat → Prop) : Array Value → State → Outcome → State → Prop :=
  va_Qi (fun (r : Int32) (_ : Unit) => r = jj ev) (fun _ t => bW D tys A w1 t) A
def Qv (D : va_G) (tys : List (ClassId × FieldType)) (w1 : va_W) (A : Nat → Prop) : Array Value → State → Outcome → State → Prop :=
  va_Qv (fun (_ : Unit) => True) (fun _ t => bW D tys A w1 t) A
def Qr (D : va_G) (tys : List (ClassId × FieldType)) (ra : Nat) (w1 : va_W) (A : Nat → Prop) : Array Value → State → Outcome → State → Prop :=
  va_Qr (fun (_ : Unit) => True) (fun _ a t => a = ra ∧ bW D tys A w1 t) A
/-- a method's contract: it answers ev, the world w0 becomes w1 -/
def Ki (l : Launch) (y : MethodName) (ws : List Cond) (rm : Room) (D : va_G) (tys : List (ClassId × FieldType)) (av : List Value) (w0 : va_W) (ev : Int) (w1 : va_W) : Prop :=
  ∀ sz : Nat, Met l y ws rm (va_Pc av (pW D tys sz w0)) (Qi D tys ev w1 (va_A w0 sz)) 0 0 (va_A w0 sz)
def Kv (l : Launch) (y : MethodName) (ws : List Cond) (rm : Room) (D : va_G) (tys : List (ClassId × FieldType)) (av : List Value) (w0 : va_W) (w1 : va_W) : Prop :=
  ∀ sz : Nat, Met l y ws rm (va_Pc av (pW D tys sz w0)) (Qv D tys w1 (va_A w0 sz)) 0 0 (va_A w0 sz)
def Kr (l : Launch) (y : MethodName) (ws : List Cond) (rm : Room) (D : va_G) (tys : List (ClassId × FieldType)) (av : List Value) (w0 : va_W) (ra : Nat) (w1 : va_W) : Prop :=
  ∀ sz : Nat, Met l y ws rm (va_Pc av (pW D tys sz w0)) (Qr D tys ra w1 (va_A w0 sz)) 0 0 (va_A w0 sz)
/-- what is known of a method's code -/
def Fc (y : MethodName) (ws : List Cond) (rm : Room) (bytes : ByteArray) (nL : Nat) (ret : Option FieldType) (n : Nat) : Prop :=
  (∃ ws', ws = Cond.code y bytes nL ret :: ws') ∧ rm.cells = 0 ∧ rm.slots = 0 ∧ y.cls ≠ "java/lang/invoke/MethodHandle" ∧ y.cls ≠ "java/lang/invoke/VarHandle" ∧ (parseMethodDescriptor y.desc).map (fun d => d.parameters.length) = some n
theorem q_entry {l : Launch} {y : MethodName} {cc : ByteArray} {nL : Nat} {ret : Option FieldType} {ws : List Cond} {rm : Room} {av : List Value} {D : va_G} {tys : List (ClassId × FieldType)} {w0 : va_W} {Qf : (Nat → Prop) → Array Value → State → Outcome → State → Prop} {mc ms : Nat}
    (hy : plainName y.cls = true) (hw : ∃ ws', ws = Cond.code y cc nL ret :: ws') (hlen : (lg_sl av).length ≤ nL)
    (body : ∀ (A : Nat → Prop) (p : Program) (e : Env) (s : State) (m : MethodId) (args : Array Value) (below : List Frame) (meth : Method) (c : Code), Cx p s m args meth c cc nL y.cls ws D tys A ret → (y.name = "<init>" → meth.name = "<init>") → Wd D A s w0 s.heap [] → ∀ ls : Array Slot, lv_has ls nL (lv_args 0 av) →
      W p l e rm s m args below meth c s.heap [] 0 0 (MQ below (Qf A) args s mc ms A) (F0 m 0 ls [])) (sz : Nat) :
    Met l y ws rm (va_Pc av (pW D tys sz w0)) (Qf (va_A w0 sz)) mc ms (va_A w0 sz) := by
  obtain ⟨ws', hw⟩ := hw
  refine Met.ofW (cc := cc) (maxL := nL) (ret := ret) hy hw ?_
  intro p e s m args below meth c s₁ B hml hv
  obtain ⟨rfl, hsz, hP, hK, hD0, hN, hF⟩ := hv
  subst hsz
  rw [lg_entry_eq]
  refine body (va_A w0 s.heap.size) p e s m _ below meth c ⟨B.exec, B.bytes, hml, findClass_of_methodNamed B.named, atoms_spec (ws := ws) B.pre, hK, fun q h => Or.inr h, B.returns, B.notSynchronized, hN, hF⟩ (fun h => ?_) ⟨hP, hD0.self, va_S.rf⟩ _ (lv_entry av hlen)
  rw [← h]
  exact (name_of_methodNamed B.named B.method).1
/-! the world, by its members -/
theorem vP_iff {D : va_G} {cl : List vw_C} {ws : va_W} {H : Heap} : va_P D cl ws H ↔ ∀ q ∈ ws, va_at D cl q H :=
  ⟨fun h q hq => by obtain ⟨i, hi⟩ := List.getElem?_of_mem hq; exact h i q hi, fun h k q hk => h q (List.mem_of_getElem? hk)⟩
theorem vD_iff {A : Nat → Prop} {ws : va_W} : va_D A ws ↔ ws.Pairwise (fun a b => a.1 ≠ b.1) ∧ ∀ q ∈ ws, A q.1 := by
  constructor
  · intro h
    refine ⟨List.pairwise_iff_getElem.mpr (fun i j hi hj hij e => ?_), fun q hq => ?_⟩
    · have := h.1 i j _ _ (List.getElem?_eq_getElem hi) (List.getElem?_eq_getElem hj) e
      omega
    · obtain ⟨i, hi⟩ := List.getElem?_of_mem hq
      exact h.2 i q hi
  · rintro ⟨h1, h2⟩
    refine ⟨fun i j p q hp hq e => ?_, fun k q hk => h2 q (List.mem_of_getElem? hk)⟩
    obtain ⟨hi, rfl⟩ := List.getElem?_eq_some_iff.mp hp
    obtain ⟨hj, rfl⟩ := List.getElem?_eq_some_iff.mp hq
    rw [List.pairwise_iff_getElem] at h1
    rcases Nat.lt_trichotomy i j with h | h | h
    · exact absurd e (h1 i j hi hj h)
    · exact h
    · exact absurd e.symm (h1 j i hj hi h)
theorem vP_perm {D : va_G} {cl : List vw_C} {ws ws' : va_W} {H : Heap} (hp : ws.Perm ws') (h : va_P D cl ws H) : va_P D cl ws' H :=
  vP_iff.mpr (fun q hq => vP_iff.mp h q (hp.mem_iff.mpr hq))
theorem vD_perm {A : Nat → Prop} {ws ws' : va_W} (hp : ws.Perm ws') (h : va_D A ws) : va_D A ws' := by
  rw [vD_iff] at h ⊢
  exact ⟨(hp.pairwise_iff (fun hab => Ne.symm hab)).mp h.1, fun q hq => h.2 q (hp.mem_iff.mpr hq)⟩
/-- the part wc of ws becomes w1: ws becomes ws' -/
def Fr (ws wc w1 ws' : va_W) : Prop := ∃ v : va_W, ws.Perm (wc ++ v) ∧ (w1 ++ v).Perm ws'
theorem fr_all {wc w1 : va_W} : Fr wc wc w1 w1 := ⟨[], by rw [List.append_nil], by rw [List.append_nil]⟩
theorem fr_hd {wc w1 v : va_W} : Fr (wc ++ v) wc w1 (w1 ++ v) := ⟨v, List.Perm.refl _, List.Perm.refl _⟩
theorem fr_mid {u wc w1 v : va_W} : Fr (u ++ (wc ++ v)) wc w1 (u ++ (w1 ++ v)) :=
  ⟨u ++ v, List.perm_append_comm_assoc u wc v, (List.perm_append_comm_assoc u w1 v).symm⟩
theorem fr_P {D : va_G} {cl : List vw_C} {ws wc w1 ws' : va_W} {H : Heap} (fr : Fr ws wc w1 ws') (h : va_P D cl ws H) : va_P D cl wc H := by
  obtain ⟨v, h1, -⟩ := fr
  exact vP_iff.mpr (fun q hq => vP_iff.mp h q (h1.mem_iff.mpr (List.mem_append_left _ hq)))
theorem fr_D {A : Nat → Prop} {ws wc w1 ws' : va_W} (fr : Fr ws wc w1 ws') (h : va_D A ws) : va_D A wc := by
  obtain ⟨v, h1, -⟩ := fr
  have h2 := vD_iff.mp (vD_perm h1 h)
  exact vD_iff.mpr ⟨(List.pairwise_append.mp h2.1).1, fun q hq => h2.2 q (List.mem_append_left _ hq)⟩
theorem fr_F {A : Nat → Prop} {s : State} {ws wc w1 ws' : va_W} {H : Heap} {locs : List Loc} (fr : Fr ws wc w1 ws') (hD : va_D A ws) (hS : va_S A s.heap H locs) (hA : ∀ q, s.heap.size ≤ q → A q) : ∀ q, va_A wc H.size q → A q := by
  intro q hq
  rcases hq with ⟨k, e, hk⟩ | h
  · exact (fr_D fr hD).2 k _ hk
  · exact hA q (Nat.le_trans hS.1 h)
theorem wd_frame {D : va_G} {A : Nat → Prop} {s : State} {ws wc w1 ws' : va_W} {H H1 : Heap} {locs locs1 : List Loc} (fr : Fr ws wc w1 ws') (w : Wd D A s ws H locs) (hA : ∀ q, s.heap.size ≤ q → A q)
    (hk : ∀ q : Nat, q < H.size → ¬ va_A wc H.size q → H1[q]? = H[q]?) (hP1 : va_P D vwCl w1 H1) (hD1 : va_D (va_A wc H.size) w1) (hS1 : va_S A s.heap H1 locs1) : Wd D A s ws' H1 locs1 := by
  have hF := fr_F fr w.2.1 w.2.2 hA
  obtain ⟨v, h1, h2⟩ := fr
  have hP := vP_iff.mp (vP_perm h1 w.1)
  have hD := vD_iff.mp (vD_perm h1 w.2.1)
  obtain ⟨hd1, hd2, hd3⟩ := List.pairwise_append.mp hD.1
  have hD1' := vD_iff.mp hD1
  have hout : ∀ b ∈ v, ¬ va_A wc H.size b.1 := by
    intro b hb hq
    rcases hq with ⟨k, e, hk⟩ | h
    · exact hd3 _ (List.mem_of_getElem? hk) b hb rfl
    · exact absurd (hP b (List.mem_append_right _ hb)).lt (Nat.not_lt.mpr h)
  refine ⟨vP_perm h2 (vP_iff.mpr (fun q hq => ?_)), vD_perm h2 (vD_iff.mpr ⟨List.pairwise_append.mpr ⟨hD1'.1, hd2, fun a ha b hb e => ?_⟩, fun q hq => ?_⟩), hS1⟩
  · rcases List.mem_append.mp hq with h | h
    · exact vP_iff.mp hP1 q h
    · have hq2 := hP q (List.mem_append_right _ h)
      exact hq2.kept (hk q.1 hq2.lt (hout q h))
  · exact hout b hb (e ▸ hD1'.2 a ha)
  · rcases List.mem_append.mp hq with h | h
    · exact hF _ (hD1'.2 q h)
    · exact hD.2 q (List.mem_append_right _ h)
theorem wd_perm {D : va_G} {A : Nat → Prop} {s : State} {ws ws' : va_W} {H : Heap} {locs : List Loc} (hp : ws.Perm ws') (w : Wd D A s ws H locs) : Wd D A s ws' H locs := ⟨vP_perm hp w.1, vD_perm hp w.2.1, w.2.2⟩
/-- a row of cells counts below its length alone -/
theorem at_ac {D : va_G} {cl : List vw_C} {a n : Nat} {cA : ClassId} {f g : Int → Int} {H : Heap} (hfg : ∀ k : Int, 0 ≤ k → k < n → f k = g k) (h : va_at D cl (a, .inl (cA, n, .inl (ac f))) H) : va_at D cl (a, .inl (cA, n, .inl (ac g))) H := by
  have e : vp_cell cA (n, .inl (ac f)) = vp_cell cA (n, .inl (ac g)) := by
    show arrV cA n (fun j => .int (ac f j)) = arrV cA n (fun j => .int (ac g j))
    unfold arrV ac
    congr 1
    apply Array.ext
    · simp
    · intro i h1 h2
      have hi : i < n := by simpa using h1
      simp only [Array.getElem_ofFn]
      rw [hfg (i : Int) (by omega) (by omega)]
  show H[a]? = some (vp_cell cA (n, .inl (ac g)))
  rw [← e]; exact h
section QQ
variable {p : Program} {l : Launch} {e : Env} {R : Room} {s : State} {m : MethodId} {args : Array Value} {below : List Frame} {meth : Method} {c : Code} {H : Heap} {locs : List Loc} {cells slots : Nat} {Q : State → Prop}
variable {cc : ByteArray} {nL : Nat} {own : String} {Ts : List Cond} {D : va_G} {tys : List (ClassId × FieldType)} {A : Nat → Prop} {ret : Option FieldType} {pc : Nat} {ls : Array Slot} {rest : List Value} {ws wc w1 ws' : va_W}
theorem Cx.fix (C : Cx p s m args meth c cc nL own Ts D tys A ret) : CallFix p m c cc nL s args Ts own := ⟨C.1, C.2.1, C.2.2.1, C.2.2.2.1, C.2.2.2.2.1⟩
theorem Cx.K (C : Cx p s m args meth c cc nL own Ts D tys A ret) : va_K D vwCl tys s := C.2.2.2.2.2.1
theorem Cx.hA (C : Cx p s m args meth c cc nL own Ts D tys A ret) : ∀ q, s.heap.size ≤ q → A q := C.2.2.2.2.2.2.1
theorem Cx.ho (C : Cx p s m args meth c cc nL own Ts D tys A ret) : s.vm.findClass own = some m.cls := C.2.2.2.1
theorem Cx.ts (C : Cx p s m args meth c cc nL own Ts D tys A ret) : ∀ w ∈ Ts, w.before args s = true := C.2.2.2.2.1
theorem Cx.hr (C : Cx p s m args meth c cc nL own Ts D tys A ret) : meth.sig.returnType = ret := C.2.2.2.2.2.2.2.1
theorem Cx.locks (C : Cx p s m args meth c cc nL own Ts D tys A ret) : meth.locks = false := C.2.2.2.2.2.2.2.2.1
theorem Cx.N (C : Cx p s m args meth c cc nL own Ts D tys A ret) : NW s := C.2.2.2.2.2.2.2.2.2.1
theorem Cx.F (C : Cx p s m args meth c cc nL own Ts D tys A ret) : SF A s s.heap := C.2.2.2.2.2.2.2.2.2.2
theorem pre_blind {D : va_G} {tys : List (ClassId × FieldType)} {sz : Nat} {w0 : va_W} {av : List Value} : FrameBlind (va_Pc av (pW D tys sz w0)) := fun a U g mk q => by
  obtain ⟨q0, q1, qP, qK, qD, qN, qF⟩ := q
  exact ⟨q0, q1, qP, va_K.moved (u := U) (U := U.calling g mk a) (Vm.Alike.refl U.vm) qK, qD, NW.vm (s := U) (U := U.calling g mk a) rfl qN, SF.vm (s := U) (U := U.calling g mk a) rfl qF⟩
theorem pre_here (C : Cx p s m args meth c cc nL own Ts D tys A ret) (w : Wd D A s ws H locs) (fr : Fr ws wc w1 ws') {av : List Value} : ∀ U : State, U.heap = H → s.WarmedH U.vm → va_Pc av (pW D tys H.size wc) av.toArray U := fun U hU hW =>
  ⟨rfl, by rw [hU], by rw [hU]; exact fr_P fr w.1, va_K.moved hW.alike C.K, (fr_D fr w.2.1).weaken (fun _ _ _ _ => trivial), NW.warm hW C.N, SF.warm hW (by rw [hU]; exact (C.F.kept w.2.2.2.1).narrow (fr_F fr w.2.1 w.2.2 C.hA))⟩
theorem q_runi {ev : Int} {st0 : List Value} {a : Array Value} (C : Cx p s m args meth c cc nL own Ts D tys A ret) (w : Wd D A s ws H locs) (fr : Fr ws wc w1 ws')
    (hr : va_Run p l e R s m args below meth c H locs cells slots 0 0 (F0 m pc ls st0) rest (Qi D tys ev w1 (va_A wc H.size) a) (va_A wc H.size))
    (kk : ∀ (H1 : Heap) (locs1 : List Loc), Wd D A s ws' H1 locs1 → W p l e R s m args below meth c H1 locs1 cells slots Q (F0 m (pc + 3) ls (.int (jj ev) :: rest))) : W p l e R s m args below meth c H locs cells slots Q (F0 m pc ls st0) := by
  have hF := fr_F fr w.2.1 w.2.2 C.hA
  refine va_calli hr w.2.2 (fun q _ h => hF q h) hF (fun r u t H1 locs1 ht hvm hpost hB hz hk hS => ?_)
  subst hpost
  obtain ⟨hP1, -, hD1⟩ := hB
  rw [ht] at hP1
  exact kk H1 locs1 (wd_frame fr w C.hA hk hP1 hD1 hS)
theorem q_runv {st0 : List Value} {a : Array Value} (C : Cx p s m args meth c cc nL own Ts D tys A ret) (w : Wd D A s ws H locs) (fr : Fr ws wc w1 ws')
    (hr : va_Run p l e R s m args below meth c H locs cells slots 0 0 (F0 m pc ls st0) rest (Qv D tys w1 (va_A wc H.size) a) (va_A wc H.size))
    (kk : ∀ (H1 : Heap) (locs1 : List Loc), Wd D A s ws' H1 locs1 → W p l e R s m args below meth c H1 locs1 cells slots Q (F0 m (pc + 3) ls rest)) : W p l e R s m args below meth c H locs cells slots Q (F0 m pc ls st0) := by
  have hF := fr_F fr w.2.1 w.2.2 C.hA
  refine va_callv hr w.2.2 (fun q _ h => hF q h) hF (fun u t H1 locs1 ht hvm hpost hB hz hk hS => ?_)
  obtain ⟨hP1, -, hD1⟩ := hB
  rw [ht] at hP1
  exact kk H1 locs1 (wd_frame fr w C.hA hk hP1 hD1 hS)
theorem q_runr {ra : Nat} {st0 : List Value} {a : Array Value} (C : Cx p s m args meth c cc nL own Ts D tys A ret) (w : Wd D A s ws H locs) (fr : Fr ws wc w1 ws')
    (hr : va_Run p l e R s m args below meth c H locs cells slots 0 0 (F0 m pc ls st0) rest (Qr D tys ra w1 (va_A wc H.size) a) (va_A wc H.size))
    (kk : ∀ (H1 : Heap) (locs1 : List Loc), Wd D A s ws' H1 locs1 → W p l e R s m args below meth c H1 locs1 cells slots Q (F0 m (pc + 3) ls (.ref ra :: rest))) : W p l e R s m args below meth c H locs cells slots Q (F0 m pc ls st0) := by
  have hF := fr_F fr w.2.1 w.2.2 C.hA
  refine va_callr hr w.2.2 (fun q _ h => hF q h) hF (fun u ra' t H1 locs1 ht hvm hpost hB hz hk hS => ?_)
  obtain ⟨rfl, hP1, -, hD1⟩ := hB
  rw [ht] at hP1
  exact kk H1 locs1 (wd_frame fr w C.hA hk hP1 hD1 hS)
/-- a virtual call's run -/
theorem q_V {y : MethodName} {wy : List Cond} {rm : Room} {bytes : ByteArray} {maxL n index b : Nat} {retY : Option FieldType} {Cn : String} {As : List Value} {Qc : Array Value → State → Outcome → State → Prop} {fr1 : Nat → Prop} {ci q0 : Nat} {fs : List Value} {T : u_T} {N : Nat}
    (C : Cx p s m args meth c cc nL own Ts D tys A ret) (w : Wd D A s ws H locs) (fr : Fr ws wc wc ws) (F : Fc y wy rm bytes maxL retY n) (hG : GoodIn Ts (wsV own index Cn y wy)) (hC : y.cls = Cn)
    (hR : rm.frames + 1 ≤ R.frames ∧ 8 + (maxL + 11) + rm.locals ≤ R.locals) (hM : Met l y wy rm (va_Pc (.ref b :: As) (pW D tys H.size wc)) Qc 0 0 fr1)
    (he : wc[q0]? = some (b, .inr (ci, fs))) (hci : vwCl[ci]? = some (Cn, T, N)) (hn : As.length = n) {st : List Value} (hst : st = As.reverse ++ .ref b :: rest) {lv : List (Nat × Value)} (hl : lv_has ls nL lv) (hcat : (rest.map fun v => v.category).sum ≤ 8) (hdg : decode cc pc = .ok (.invokevirtual index, 3)) (hcs : cells ≤ R.cells ∧ slots ≤ R.slots) :
    va_Run p l e R s m args below meth c H locs cells slots 0 0 (F0 m pc ls st) rest (Qc (Value.ref b :: As).toArray) fr1 := by
  obtain ⟨⟨wy', hwy⟩, hrc, hrs, hd⟩ := F
  exact va_runV (As := As) (rest := rest) C.fix hM (cwV n C.ts hG hwy hrc hrs ⟨hC, hd⟩ hR) ⟨pre_blind, va_recv C.K (fr_P fr w.1) hci he, pre_here C w fr⟩ rfl hn hl.1 hst (lv_room hcat) hdg hcs
theorem q_S {y : MethodName} {wy : List Cond} {rm : Room} {bytes : ByteArray} {maxL n index : Nat} {retY : Option FieldType} {As : List Value} {Qc : Array Value → State → Outcome → State → Prop} {fr1 : Nat → Prop}
    (C : Cx p s m args meth c cc nL own Ts D tys A ret) (w : Wd D A s ws H locs) (fr : Fr ws wc wc ws) (F : Fc y wy rm bytes maxL retY n) (hG : GoodIn Ts (va_wsS own index y wy))
    (hR : rm.frames + 1 ≤ R.frames ∧ 8 + (maxL + 11) + rm.locals ≤ R.locals) (hM : Met l y wy rm (va_Pc As (pW D tys H.size wc)) Qc 0 0 fr1)
    (hn : As.length = n) {st : List Value} (hst : st = As.reverse ++ rest) {lv : List (Nat × Value)} (hl : lv_has ls nL lv) (hcat : (rest.map fun v => v.category).sum ≤ 8) (hdg : decode cc pc = .ok (.invokestatic index, 3)) (hcs : cells ≤ R.cells ∧ slots ≤ R.slots) :
    va_Run p l e R s m args below meth c H locs cells slots 0 0 (F0 m pc ls st) rest (Qc As.toArray) fr1 := by
  obtain ⟨⟨wy', hwy⟩, hrc, hrs, hd⟩ := F
  exact va_runS (As := As) (rest := rest) C.fix hM (va_cwS n C.ts hG hwy hrc hrs hd hR) ⟨pre_blind, pre_here C w fr⟩ rfl hn hl.1 hst (lv_room hcat) hdg hcs
theorem q_SN {y : MethodName} {wy : List Cond} {rm : Room} {bytes : ByteArray} {maxL n index : Nat} {retY : Option FieldType} {host : String} {As : List Value} {Qc : Array Value → State → Outcome → State → Prop} {fr1 : Nat → Prop}
    (C : Cx p s m args meth c cc nL own Ts D tys A ret) (w : Wd D A s ws H locs) (fr : Fr ws wc wc ws) (F : Fc y wy rm bytes maxL retY n) (hG : GoodIn Ts wy) (hnest : va_Nw (.methodLinkNest own index y host) s) (hini : Cond.initialized y.cls ∈ Ts) (hstat : Cond.static y ∈ Ts)
    (hR : rm.frames + 1 ≤ R.frames ∧ 8 + (maxL + 11) + rm.locals ≤ R.locals) (hM : Met l y wy rm (va_Pc As (pW D tys H.size wc)) Qc 0 0 fr1)
    (hn : As.length = n) {st : List Value} (hst : st = As.reverse ++ rest) {lv : List (Nat × Value)} (hl : lv_has ls nL lv) (hcat : (rest.map fun v => v.category).sum ≤ 8) (hdg : decode cc pc = .ok (.invokestatic index, 3)) (hcs : cells ≤ R.cells ∧ slots ≤ R.slots) :
    va_Run p l e R s m args below meth c H locs cells slots 0 0 (F0 m pc ls st) rest (Qc As.toArray) fr1 := by
  obtain ⟨⟨wy', hwy⟩, hrc, hrs, hd⟩ := F
  exact va_runSN (As := As) (rest := rest) C.fix hM ⟨va_cnB n C.ts hG hwy hrc hrs hnest (C.ts _ hini) hd hR, C.ts _ hstat, trivial⟩ ⟨pre_blind, pre_here C w fr⟩ rfl hn hl.1 hst (lv_room hcat) hdg hcs
/-! ends -/
theorem end_w (C : Cx p s m args meth c cc nL own Ts D tys A ret) (w : Wd D A s ws H locs) : ∀ t : State, t.heap = H → s.WarmedH t.vm → bW D tys A ws t ∧ va_F A s t := fun t ht hW =>
  ⟨⟨by rw [ht]; exact w.1, va_K.moved hW.alike C.K, w.2.1⟩, w.2.2.F ht⟩
theorem q_iret {ev v : Int} (C : Cx p s m args meth c cc nL own Ts D tys A (some .int)) (w : Wd D A s ws H locs) (hdg : decode cc pc = .ok (.ireturn, 1)) (hv : v = ev) (hw : ws = w1) :
    W p l e R s m args below meth c H locs 0 0 (MQ below (Qi D tys ev w1 A) args s 0 0 A) (F0 m pc ls [.int (jj v)]) := by
  subst hv; subst hw
  have hlocks := C.locks
  exact W.iret (v := jj v) C.1 C.2.1 C.hr (fun t ht hW => ⟨⟨jj v, (), rfl, rfl, (end_w C w t ht hW).1⟩, (end_w C w t ht hW).2⟩) w.2.2.2.2 hdg
theorem q_zret {P : Prop} [Decidable P] {v : Int} (C : Cx p s m args meth c cc nL own Ts D tys A (some .boolean)) (w : Wd D A s ws H locs) (hdg : decode cc pc = .ok (.ireturn, 1)) (hv : v = bI P) (hw : ws = w1) :
    W p l e R s m args below meth c H locs 0 0 (MQ below (Qi D tys (bI P) w1 A) args s 0 0 A) (F0 m pc ls [.int (jj v)]) := by
  subst hv; subst hw
  have hlocks := C.locks
  refine W.zret (v := jj (bI P)) C.1 C.2.1 C.hr ?_ (fun t ht hW => ⟨⟨jj (bI P), (), rfl, rfl, (end_w C w t ht hW).1⟩, (end_w C w t ht hW).2⟩) w.2.2.2.2 hdg
  by_cases h : P
  · rw [bI_t h]; rfl
  · rw [bI_f h]; rfl
theorem q_vret (C : Cx p s m args meth c cc nL own Ts D tys A none) (w : Wd D A s ws H locs) (hdg : decode cc pc = .ok (.return_, 1)) (hw : ws = w1) :
    W p l e R s m args below meth c H locs 0 0 (MQ below (Qv D tys w1 A) args s 0 0 A) (F0 m pc ls []) := by
  subst hw
  have hlocks := C.locks
  exact W.vret C.1 C.2.1 C.hr (fun t ht hW => ⟨⟨(), rfl, trivial, (end_w C w t ht hW).1⟩, (end_w C w t ht hW).2⟩) w.2.2.2.2 hdg
theorem q_aret {n : String} {ra a : Nat} (C : Cx p s m args meth c cc nL own Ts D tys A (some (.object n))) (w : Wd D A s ws H locs) (hdg : decode cc pc = .ok (.areturn, 1)) (ha : a = ra) (hw : ws = w1) :
    W p l e R s m args below meth c H locs 0 0 (MQ below (Qr D tys ra w1 A) args s 0 0 A) (F0 m pc ls [.ref a]) := by
  subst ha; subst hw
  have hlocks := C.locks
  exact W.aret (v := .ref a) C.1 C.2.1 C.hr (Or.inl ⟨_, rfl⟩) (Or.inr ⟨_, rfl⟩) (fun t ht hW => ⟨⟨(), a, rfl, trivial, rfl, (end_w C w t ht hW).1⟩, (end_w C w t ht hW).2⟩) w.2.2.2.2 hdg
/-! one row an instruction -/
theorem q_iadd {a b : Int} (C : Cx p s m args meth c cc nL own Ts D tys A ret) (hdg : decode cc pc = .ok (.iadd, 1)) (kk : W p l e R s m args below meth c H locs cells slots Q (F0 m (pc + 1) ls (.int (jj (a + b)) :: rest))) : W p l e R s m args below meth c H locs cells slots Q (F0 m pc ls (.int (jj b) :: .int (jj a) :: rest)) :=
  lv_iadd C.1 C.2.1 hdg (by rw [jj_add]; exact kk)
theorem q_isub {a b : Int} (C : Cx p s m args meth c cc nL own Ts D tys A ret) (hdg : decode cc pc = .ok (.isub, 1)) (kk : W p l e R s m args below meth c H locs cells slots Q (F0 m (pc + 1) ls (.int (jj (a - b)) :: rest))) : W p l e R s m args below meth c H locs cells slots Q (F0 m pc ls (.int (jj b) :: .int (jj a) :: rest)) :=
  lv_isub C.1 C.2.1 hdg (by rw [jj_sub]; exact kk)
theorem q_imul {a b : Int} (C : Cx p s m args meth c cc nL own Ts D tys A ret) (hdg : decode cc pc = .ok (.imul, 1)) (kk : W p l e R s m args below meth c H locs cells slots Q (F0 m (pc + 1) ls (.int (jj (a * b)) :: rest))) : W p l e R s m args below meth c H locs cells slots Q (F0 m pc ls (.int (jj b) :: .int (jj a) :: rest)) :=
  lv_imul C.1 C.2.1 hdg (by rw [jj_mul]; exact kk)
theorem q_ineg {a : Int} (C : Cx p s m args meth c cc nL own Ts D tys A ret) (hdg : decode cc pc = .ok (.ineg, 1)) (kk : W p l e R s m args below meth c H locs cells slots Q (F0 m (pc + 1) ls (.int (jj (-a)) :: rest))) : W p l e R s m args below meth c H locs cells slots Q (F0 m pc ls (.int (jj a) :: rest)) :=
  lv_ineg C.1 C.2.1 hdg (by rw [jj_neg]; exact kk)
theorem q_idiv {a b : Int} (C : Cx p s m args meth c cc nL own Ts D tys A ret) (hdg : decode cc pc = .ok (.idiv, 1)) (ha : 0 ≤ a ∧ a ≤ 2147483647) (hb : 0 < b ∧ b ≤ 2147483647) (kk : W p l e R s m args below meth c H locs cells slots Q (F0 m (pc + 1) ls (.int (jj (a / b)) :: rest))) : W p l e R s m args below meth c H locs cells slots Q (F0 m pc ls (.int (jj b) :: .int (jj a) :: rest)) :=
  lv_idiv C.1 C.2.1 hdg (fun h => by
    have h2 : jj b = jj 0 := h
    rw [jj_inj (by omega) (by omega) (by omega) (by omega)] at h2
    omega) (by rw [jj_div ha.1 ha.2 hb.1 hb.2]; exact kk)
theorem q_iconst {n : Int} (C : Cx p s m args meth c cc nL own Ts D tys A ret) (hdg : decode cc pc = .ok (.iconst n, 1)) (kk : W p l e R s m args below meth c H locs cells slots Q (F0 m (pc + 1) ls (.int (jj n) :: rest))) : W p l e R s m args below meth c H locs cells slots Q (F0 m pc ls rest) :=
  lv_iconst (v := jj n) C.1 C.2.1 hdg rfl kk
theorem q_bipush {n : Int} (C : Cx p s m args meth c cc nL own Ts D tys A ret) (hdg : decode cc pc = .ok (.bipush n, 2)) (hv : (Int8.ofInt n).toInt32 = jj n) (kk : W p l e R s m args below meth c H locs cells slots Q (F0 m (pc + 2) ls (.int (jj n) :: rest))) : W p l e R s m args below meth c H locs cells slots Q (F0 m pc ls rest) :=
  lv_bipush (v := jj n) C.1 C.2.1 hdg hv kk
theorem q_sipush {n : Int} (C : Cx p s m args meth c cc nL own Ts D tys A ret) (hdg : decode cc pc = .ok (.sipush n, 3)) (hv : (Int16.ofInt n).toInt32 = jj n) (kk : W p l e R s m args below meth c H locs cells slots Q (F0 m (pc + 3) ls (.int (jj n) :: rest))) : W p l e R s m args below meth c H locs cells slots Q (F0 m pc ls rest) :=
  lv_sipush (v := jj n) C.1 C.2.1 hdg hv kk
theorem q_iload_n {k : Fin 4} {i : Nat} {x : Int32} {lv : List (Nat × Value)} (C : Cx p s m args meth c cc nL own Ts D tys A ret) (hl : lv_has ls nL lv) (hdg : decode cc pc = .ok (.iload_n k, 1)) (hi : (k : Nat) = i) (j : Nat) (hj : lv[j]? = some (i, .int x)) (kk : W p l e R s m args below meth c H locs cells slots Q (F0 m (pc + 1) ls (.int x :: rest))) : W p l e R s m args below meth c H locs cells slots Q (F0 m pc ls rest) :=
  lv_iload_n C.1 C.2.1 hdg hi (lv_at hl j hj) kk
theorem q_iload {i : Nat} {x : Int32} {lv : List (Nat × Value)} (C : Cx p s m args meth c cc nL own Ts D tys A ret) (hl : lv_has ls nL lv) (hdg : decode cc pc = .ok (.iload i, 2)) (j : Nat) (hj : lv[j]? = some (i, .int x)) (kk : W p l e R s m args below meth c H locs cells slots Q (F0 m (pc + 2) ls (.int x :: rest))) : W p l e R s m args below meth c H locs cells slots Q (F0 m pc ls rest) :=
  lv_iload C.1 C.2.1 hdg (lv_at hl j hj) kk
theorem q_aload_n {k : Fin 4} {i : Nat} {x : Nat} {lv : List (Nat × Value)} (C : Cx p s m args meth c cc nL own Ts D tys A ret) (hl : lv_has ls nL lv) (hdg : decode cc pc = .ok (.aload_n k, 1)) (hi : (k : Nat) = i) (j : Nat) (hj : lv[j]? = some (i, .ref x)) (kk : W p l e R s m args below meth c H locs cells slots Q (F0 m (pc + 1) ls (.ref x :: rest))) : W p l e R s m args below meth c H locs cells slots Q (F0 m pc ls rest) :=
  lv_aload_n C.1 C.2.1 hdg hi (lv_at hl j hj) kk
theorem q_istore_n {k : Fin 4} {i : Nat} {x : Int32} {lv lv' : List (Nat × Value)} (C : Cx p s m args meth c cc nL own Ts D tys A ret) (hl : lv_has ls nL lv) (hdg : decode cc pc = .ok (.istore_n k, 1)) (hi : (k : Nat) = i) (hn : i < nL) (h' : (i, Value.int x) :: lv.filter (fun q => !(q.1 == i) && !(q.1 + 1 == i && q.2.category == 2)) = lv') (kk : ∀ ls' : Array Slot, lv_has ls' nL lv' → W p l e R s m args below meth c H locs cells slots Q (F0 m (pc + 1) ls' rest)) : W p l e R s m args below meth c H locs cells slots Q (F0 m pc ls (.int x :: rest)) :=
  lv_istore_n C.1 C.2.1 hdg hi hl hn h' kk
theorem q_istore {i : Nat} {x : Int32} {lv lv' : List (Nat × Value)} (C : Cx p s m args meth c cc nL own Ts D tys A ret) (hl : lv_has ls nL lv) (hdg : decode cc pc = .ok (.istore i, 2)) (hn : i < nL) (h' : (i, Value.int x) :: lv.filter (fun q => !(q.1 == i) && !(q.1 + 1 == i && q.2.category == 2)) = lv') (kk : ∀ ls' : Array Slot, lv_has ls' nL lv' → W p l e R s m args below meth c H locs cells slots Q (F0 m (pc + 2) ls' rest)) : W p l e R s m args below meth c H locs cells slots Q (F0 m pc ls (.int x :: rest)) :=
  lv_istore C.1 C.2.1 hdg hl hn h' kk
theorem q_iinc {i : Nat} {n x : Int} {lv lv' : List (Nat × Value)} (C : Cx p s m args meth c cc nL own Ts D tys A ret) (hl : lv_has ls nL lv) (hdg : decode cc pc = .ok (.iinc i n, 3)) (j : Nat) (hj : lv[j]? = some (i, .int (jj x))) (hn : i < nL) (h' : (i, Value.int (jj (x + n))) :: lv.filter (fun q => !(q.1 == i) && !(q.1 + 1 == i && q.2.category == 2)) = lv') (kk : ∀ ls' : Array Slot, lv_has ls' nL lv' → W p l e R s m args below meth c H locs cells slots Q (F0 m (pc + 3) ls' rest)) : W p l e R s m args below meth c H locs cells slots Q (F0 m pc ls rest) :=
  lv_iinc C.1 C.2.1 hdg hl hj (jj_add x n) hn h' kk
theorem q_goto {off : Int} {tgt : Nat} (C : Cx p s m args meth c cc nL own Ts D tys A ret) (hdg : decode cc pc = .ok (.goto off, 3)) (ht : (pc : Int) + off = (tgt : Int)) (kk : W p l e R s m args below meth c H locs cells slots Q (F0 m tgt ls rest)) : W p l e R s m args below meth c H locs cells slots Q (F0 m pc ls rest) :=
  lv_goto C.1 C.2.1 hdg ht kk
theorem q_dup {v : Value} (C : Cx p s m args meth c cc nL own Ts D tys A ret) (hdg : decode cc pc = .ok (.dup, 1)) (hv : v.category = 1) (kk : W p l e R s m args below meth c H locs cells slots Q (F0 m (pc + 1) ls (v :: v :: rest))) : W p l e R s m args below meth c H locs cells slots Q (F0 m pc ls (v :: rest)) :=
  lv_dup C.1 C.2.1 hdg hv kk
theorem q_dup2 {va vb : Value} (C : Cx p s m args meth c cc nL own Ts D tys A ret) (hdg : decode cc pc = .ok (.dup2, 1)) (hva : va.category = 1) (hvb : vb.category = 1) (kk : W p l e R s m args below meth c H locs cells slots Q (F0 m (pc + 1) ls (va :: vb :: va :: vb :: rest))) : W p l e R s m args below meth c H locs cells slots Q (F0 m pc ls (va :: vb :: rest)) :=
  lv_dup2_11 C.1 C.2.1 hdg hva hvb kk
/-! branches: 'Bd x': x is an int -/
def Bd (x : Int) : Prop := -2147483648 ≤ x ∧ x ≤ 2147483647
theorem q_icmp_ge {x y : Int} {off : Int} {tgt : Nat} (C : Cx p s m args meth c cc nL own Ts D tys A ret) (hdg : decode cc pc = .ok (.if_icmp .ge off, 3)) (ht : (pc : Int) + off = (tgt : Int)) (hx : Bd x) (hy : Bd y)
    (kt : y ≤ x → W p l e R s m args below meth c H locs cells slots Q (F0 m tgt ls rest)) (kf : x < y → W p l e R s m args below meth c H locs cells slots Q (F0 m (pc + 3) ls rest)) : W p l e R s m args below meth c H locs cells slots Q (F0 m pc ls (.int (jj y) :: .int (jj x) :: rest)) :=
  lv_icmp_ge C.1 C.2.1 hdg ht (fun h => kt ((jj_le hy.1 hy.2 hx.1 hx.2).mp h)) (fun h => kf (by have := mt (jj_le hy.1 hy.2 hx.1 hx.2).mpr h; omega))
theorem q_icmp_lt {x y : Int} {off : Int} {tgt : Nat} (C : Cx p s m args meth c cc nL own Ts D tys A ret) (hdg : decode cc pc = .ok (.if_icmp .lt off, 3)) (ht : (pc : Int) + off = (tgt : Int)) (hx : Bd x) (hy : Bd y)
    (kt : x < y → W p l e R s m args below meth c H locs cells slots Q (F0 m tgt ls rest)) (kf : y ≤ x → W p l e R s m args below meth c H locs cells slots Q (F0 m (pc + 3) ls rest)) : W p l e R s m args below meth c H locs cells slots Q (F0 m pc ls (.int (jj y) :: .int (jj x) :: rest)) :=
  lv_icmp_lt C.1 C.2.1 hdg ht (fun h => kt ((jj_lt hx.1 hx.2 hy.1 hy.2).mp h)) (fun h => kf (by have := mt (jj_lt hx.1 hx.2 hy.1 hy.2).mpr h; omega))
theorem q_icmp_le {x y : Int} {off : Int} {tgt : Nat} (C : Cx p s m args meth c cc nL own Ts D tys A ret) (hdg : decode cc pc = .ok (.if_icmp .le off, 3)) (ht : (pc : Int) + off = (tgt : Int)) (hx : Bd x) (hy : Bd y)
    (kt : x ≤ y → W p l e R s m args below meth c H locs cells slots Q (F0 m tgt ls rest)) (kf : y < x → W p l e R s m args below meth c H locs cells slots Q (F0 m (pc + 3) ls rest)) : W p l e R s m args below meth c H locs cells slots Q (F0 m pc ls (.int (jj y) :: .int (jj x) :: rest)) :=
  lv_icmp_le C.1 C.2.1 hdg ht (fun h => kt ((jj_le hx.1 hx.2 hy.1 hy.2).mp h)) (fun h => kf (by have := mt (jj_le hx.1 hx.2 hy.1 hy.2).mpr h; omega))
theorem q_icmp_gt {x y : Int} {off : Int} {tgt : Nat} (C : Cx p s m args meth c cc nL own Ts D tys A ret) (hdg : decode cc pc = .ok (.if_icmp .gt off, 3)) (ht : (pc : Int) + off = (tgt : Int)) (hx : Bd x) (hy : Bd y)
    (kt : y < x → W p l e R s m args below meth c H locs cells slots Q (F0 m tgt ls rest)) (kf : x ≤ y → W p l e R s m args below meth c H locs cells slots Q (F0 m (pc + 3) ls rest)) : W p l e R s m args below meth c H locs cells slots Q (F0 m pc ls (.int (jj y) :: .int (jj x) :: rest)) :=
  lv_icmp_gt C.1 C.2.1 hdg ht (fun h => kt ((jj_lt hy.1 hy.2 hx.1 hx.2).mp h)) (fun h => kf (by have := mt (jj_lt hy.1 hy.2 hx.1 hx.2).mpr h; omega))
theorem q_icmp_eq {x y : Int} {off : Int} {tgt : Nat} (C : Cx p s m args meth c cc nL own Ts D tys A ret) (hdg : decode cc pc = .ok (.if_icmp .eq off, 3)) (ht : (pc : Int) + off = (tgt : Int)) (hx : Bd x) (hy : Bd y)
    (kt : x = y → W p l e R s m args below meth c H locs cells slots Q (F0 m tgt ls rest)) (kf : x ≠ y → W p l e R s m args below meth c H locs cells slots Q (F0 m (pc + 3) ls rest)) : W p l e R s m args below meth c H locs cells slots Q (F0 m pc ls (.int (jj y) :: .int (jj x) :: rest)) :=
  lv_icmp_eq C.1 C.2.1 hdg ht (fun h => kt ((jj_inj hx.1 hx.2 hy.1 hy.2).mp h)) (fun h => kf (mt (jj_inj hx.1 hx.2 hy.1 hy.2).mpr h))
theorem q_icmp_ne {x y : Int} {off : Int} {tgt : Nat} (C : Cx p s m args meth c cc nL own Ts D tys A ret) (hdg : decode cc pc = .ok (.if_icmp .ne off, 3)) (ht : (pc : Int) + off = (tgt : Int)) (hx : Bd x) (hy : Bd y)
    (kt : x ≠ y → W p l e R s m args below meth c H locs cells slots Q (F0 m tgt ls rest)) (kf : x = y → W p l e R s m args below meth c H locs cells slots Q (F0 m (pc + 3) ls rest)) : W p l e R s m args below meth c H locs cells slots Q (F0 m pc ls (.int (jj y) :: .int (jj x) :: rest)) :=
  lv_icmp_ne C.1 C.2.1 hdg ht (fun h => kt (mt (jj_inj hx.1 hx.2 hy.1 hy.2).mpr h)) (fun h => kf ((jj_inj hx.1 hx.2 hy.1 hy.2).mp (by first | exact h | exact Classical.not_not.mp h)))
theorem jj_0 : (0 : Int32) = jj 0 := rfl
theorem q_if_eq {x : Int} {off : Int} {tgt : Nat} (C : Cx p s m args meth c cc nL own Ts D tys A ret) (hdg : decode cc pc = .ok (.ifCond .eq off, 3)) (ht : (pc : Int) + off = (tgt : Int)) (hx : Bd x)
    (kt : x = 0 → W p l e R s m args below meth c H locs cells slots Q (F0 m tgt ls rest)) (kf : x ≠ 0 → W p l e R s m args below meth c H locs cells slots Q (F0 m (pc + 3) ls rest)) : W p l e R s m args below meth c H locs cells slots Q (F0 m pc ls (.int (jj x) :: rest)) :=
  lv_if_eq C.1 C.2.1 hdg ht (fun h => kt ((jj_inj hx.1 hx.2 (by omega) (by omega)).mp h)) (fun h => kf (mt (jj_inj hx.1 hx.2 (by omega) (by omega)).mpr h))
theorem q_if_ne {x : Int} {off : Int} {tgt : Nat} (C : Cx p s m args meth c cc nL own Ts D tys A ret) (hdg : decode cc pc = .ok (.ifCond .ne off, 3)) (ht : (pc : Int) + off = (tgt : Int)) (hx : Bd x)
    (kt : x ≠ 0 → W p l e R s m args below meth c H locs cells slots Q (F0 m tgt ls rest)) (kf : x = 0 → W p l e R s m args below meth c H locs cells slots Q (F0 m (pc + 3) ls rest)) : W p l e R s m args below meth c H locs cells slots Q (F0 m pc ls (.int (jj x) :: rest)) :=
  lv_if_ne C.1 C.2.1 hdg ht (fun h => kt (mt (jj_inj hx.1 hx.2 (by omega) (by omega)).mpr h)) (fun h => kf ((jj_inj hx.1 hx.2 (by omega) (by omega)).mp h))
theorem q_ifz_eq {P : Prop} [Decidable P] {off : Int} {tgt : Nat} (C : Cx p s m args meth c cc nL own Ts D tys A ret) (hdg : decode cc pc = .ok (.ifCond .eq off, 3)) (ht : (pc : Int) + off = (tgt : Int))
    (kt : ¬ P → W p l e R s m args below meth c H locs cells slots Q (F0 m tgt ls rest)) (kf : P → W p l e R s m args below meth c H locs cells slots Q (F0 m (pc + 3) ls rest)) : W p l e R s m args below meth c H locs cells slots Q (F0 m pc ls (.int (jj (bI P)) :: rest)) :=
  lv_if_eq C.1 C.2.1 hdg ht (fun h => kt (bI_0.mp h)) (fun h => kf (Classical.not_not.mp (mt bI_0.mpr h)))
theorem q_ifz_ne {P : Prop} [Decidable P] {off : Int} {tgt : Nat} (C : Cx p s m args meth c cc nL own Ts D tys A ret) (hdg : decode cc pc = .ok (.ifCond .ne off, 3)) (ht : (pc : Int) + off = (tgt : Int))
    (kt : P → W p l e R s m args below meth c H locs cells slots Q (F0 m tgt ls rest)) (kf : ¬ P → W p l e R s m args below meth c H locs cells slots Q (F0 m (pc + 3) ls rest)) : W p l e R s m args below meth c H locs cells slots Q (F0 m pc ls (.int (jj (bI P)) :: rest)) :=
  lv_if_ne C.1 C.2.1 hdg ht (fun h => kt (Classical.not_not.mp (mt bI_0.mpr h))) (fun h => kf (bI_0.mp h))
theorem q_if_lt {x : Int} {off : Int} {tgt : Nat} (C : Cx p s m args meth c cc nL own Ts D tys A ret) (hdg : decode cc pc = .ok (.ifCond .lt off, 3)) (ht : (pc : Int) + off = (tgt : Int)) (hx : Bd x)
    (kt : x < 0 → W p l e R s m args below meth c H locs cells slots Q (F0 m tgt ls rest)) (kf : 0 ≤ x → W p l e R s m args below meth c H locs cells slots Q (F0 m (pc + 3) ls rest)) : W p l e R s m args below meth c H locs cells slots Q (F0 m pc ls (.int (jj x) :: rest)) :=
  lv_if_lt C.1 C.2.1 hdg ht (fun h => kt ((jj_lt hx.1 hx.2 (by omega) (by omega)).mp h)) (fun h => kf (by have := mt (jj_lt (b := 0) hx.1 hx.2 (by omega) (by omega)).mpr h; omega))
theorem q_if_ge {x : Int} {off : Int} {tgt : Nat} (C : Cx p s m args meth c cc nL own Ts D tys A ret) (hdg : decode cc pc = .ok (.ifCond .ge off, 3)) (ht : (pc : Int) + off = (tgt : Int)) (hx : Bd x)
    (kt : 0 ≤ x → W p l e R s m args below meth c H locs cells slots Q (F0 m tgt ls rest)) (kf : x < 0 → W p l e R s m args below meth c H locs cells slots Q (F0 m (pc + 3) ls rest)) : W p l e R s m args below meth c H locs cells slots Q (F0 m pc ls (.int (jj x) :: rest)) :=
  lv_if_ge C.1 C.2.1 hdg ht (fun h => kt ((jj_le (a := 0) (by omega) (by omega) hx.1 hx.2).mp h)) (fun h => kf (by have := mt (jj_le (a := 0) (by omega) (by omega) hx.1 hx.2).mpr h; omega))
theorem q_if_gt {x : Int} {off : Int} {tgt : Nat} (C : Cx p s m args meth c cc nL own Ts D tys A ret) (hdg : decode cc pc = .ok (.ifCond .gt off, 3)) (ht : (pc : Int) + off = (tgt : Int)) (hx : Bd x)
    (kt : 0 < x → W p l e R s m args below meth c H locs cells slots Q (F0 m tgt ls rest)) (kf : x ≤ 0 → W p l e R s m args below meth c H locs cells slots Q (F0 m (pc + 3) ls rest)) : W p l e R s m args below meth c H locs cells slots Q (F0 m pc ls (.int (jj x) :: rest)) :=
  lv_if_gt C.1 C.2.1 hdg ht (fun h => kt ((jj_lt (a := 0) (by omega) (by omega) hx.1 hx.2).mp h)) (fun h => kf (by have := mt (jj_lt (a := 0) (by omega) (by omega) hx.1 hx.2).mpr h; omega))
theorem q_if_le {x : Int} {off : Int} {tgt : Nat} (C : Cx p s m args meth c cc nL own Ts D tys A ret) (hdg : decode cc pc = .ok (.ifCond .le off, 3)) (ht : (pc : Int) + off = (tgt : Int)) (hx : Bd x)
    (kt : x ≤ 0 → W p l e R s m args below meth c H locs cells slots Q (F0 m tgt ls rest)) (kf : 0 < x → W p l e R s m args below meth c H locs cells slots Q (F0 m (pc + 3) ls rest)) : W p l e R s m args below meth c H locs cells slots Q (F0 m pc ls (.int (jj x) :: rest)) :=
  lv_if_le C.1 C.2.1 hdg ht (fun h => kt ((jj_le (b := 0) hx.1 hx.2 (by omega) (by omega)).mp h)) (fun h => kf (by have := mt (jj_le (b := 0) hx.1 hx.2 (by omega) (by omega)).mpr h; omega))
/-! fields and arrays -/
theorem q_get {Cn : String} {T : u_T} {N ci index a : Nat} {fs : List Value} {v : Value} (C : Cx p s m args meth c cc nL own Ts D tys A ret) (hP : va_P D vwCl ws H) (hin : ∀ w ∈ u_ws Cn T N, w ∈ Ts) (q0 : Nat) (he : ws[q0]? = some (a, .inr (ci, fs))) (hc : vwCl[ci]? = some (Cn, T, N)) (k : Nat) (hk : k < N) (hlink : Cond.fieldLink own index (T k).1 (T k).2.1 (T k).2.2.1 ∈ Ts) (hv : fs[k]? = some v) (hdg : decode cc pc = .ok (.getfield index, 3))
    (kk : W p l e R s m args below meth c H locs cells slots Q (F0 m (pc + 3) ls (v :: rest))) : W p l e R s m args below meth c H locs cells slots Q (F0 m pc ls (.ref a :: rest)) :=
  va_get C.1 C.2.1 C.ts hin C.ho C.K hP q0 he hc k hk (C.ts _ hlink) (fun _ h => h) hv hdg kk
theorem q_put {Cn : String} {T : u_T} {N ci index a : Nat} {fs : List Value} {v : Value} {ty : FieldType} (C : Cx p s m args meth c cc nL own Ts D tys A ret) (w : Wd D A s ws H locs) (hin : ∀ w ∈ u_ws Cn T N, w ∈ Ts) (ty0 : Nat → FieldType) (hty : ∀ k, k < N → parseFieldDescriptor (T k).2.2.1 = some (ty0 k)) (hnm : ∀ a, a < N → ∀ b, b < N → a ≠ b → (T a).2.1 ≠ (T b).2.1)
    (q0 : Nat) (he : ws[q0]? = some (a, .inr (ci, fs))) (hc : vwCl[ci]? = some (Cn, T, N)) (k : Nat) (hk : k < N) (hlink : Cond.fieldLink own index (T k).1 (T k).2.1 (T k).2.2.1 ∈ Ts) (hfin : (T k).2.2.2 = false) (hd : parseFieldDescriptor (T k).2.2.1 = some ty) (hn : narrow ty v = v) (hfit : fits ty v = true) (hl : k < fs.length) (hdg : decode cc pc = .ok (.putfield index, 3))
    (hw : ws.set q0 (a, .inr (ci, fs.set k v)) = ws')
    (kk : ∀ (H1 : Heap) (locs1 : List Loc), Wd D A s ws' H1 locs1 → W p l e R s m args below meth c H1 locs1 cells slots Q (F0 m (pc + 3) ls rest)) : W p l e R s m args below meth c H locs cells slots Q (F0 m pc ls (v :: .ref a :: rest)) :=
  va_put C.1 C.2.1 C.ts hin ty0 hty hnm C.ho C.K w.1 w.2.1 w.2.2 q0 he hc k hk (C.ts _ hlink) (fun _ h => h) hfin hd hn hfit hl hdg (fun H1 locs1 hP hD hS => by subst hw; exact kk H1 locs1 ⟨hP, hD, hS⟩)
theorem q_iald {a n : Nat} {cA : ClassId} {f : Int → Int} {i : Int} (C : Cx p s m args meth c cc nL own Ts D tys A ret) (hP : va_P D vwCl ws H) (q0 t0 : Nat) (ha : ws[q0]? = some (a, .inl (cA, n, .inl (ac f)))) (ht : tys[t0]? = some (cA, .int)) (hi : 0 ≤ i ∧ i < n ∧ i ≤ 2147483647) (hdg : decode cc pc = .ok (.iaload, 1))
    (kk : W p l e R s m args below meth c H locs cells slots Q (F0 m (pc + 1) ls (.int (jj (f i)) :: rest))) : W p l e R s m args below meth c H locs cells slots Q (F0 m pc ls (.int (jj i) :: .ref a :: rest)) :=
  va_iald C.1 C.2.1 C.K hP q0 t0 ha ht (jj_in hi.1 hi.2.1 hi.2.2) hdg (by rw [ac_ld f hi.1 hi.2.2]; exact kk)
theorem q_cald {a n : Nat} {cA : ClassId} {f : Int → Int} {i : Int} (C : Cx p s m args meth c cc nL own Ts D tys A ret) (hP : va_P D vwCl ws H) (q0 t0 : Nat) (ha : ws[q0]? = some (a, .inl (cA, n, .inl (ac f)))) (ht : tys[t0]? = some (cA, .char)) (hi : 0 ≤ i ∧ i < n ∧ i ≤ 2147483647) (hdg : decode cc pc = .ok (.caload, 1))
    (kk : W p l e R s m args below meth c H locs cells slots Q (F0 m (pc + 1) ls (.int (jj (f i)) :: rest))) : W p l e R s m args below meth c H locs cells slots Q (F0 m pc ls (.int (jj i) :: .ref a :: rest)) :=
  va_cald C.1 C.2.1 C.K hP q0 t0 ha ht (jj_in hi.1 hi.2.1 hi.2.2) hdg (by rw [ac_ld f hi.1 hi.2.2]; exact kk)
theorem q_iast {a n : Nat} {cA : ClassId} {f : Int → Int} {i x : Int} (C : Cx p s m args meth c cc nL own Ts D tys A ret) (w : Wd D A s ws H locs) (q0 t0 : Nat) (ha : ws[q0]? = some (a, .inl (cA, n, .inl (ac f)))) (ht : tys[t0]? = some (cA, .int)) (hi : 0 ≤ i ∧ i < n ∧ i ≤ 2147483647) (hdg : decode cc pc = .ok (.iastore, 1))
    (hw : ws.set q0 (a, .inl (cA, n, .inl (ac (up f i x)))) = ws')
    (kk : ∀ (H1 : Heap) (locs1 : List Loc), Wd D A s ws' H1 locs1 → W p l e R s m args below meth c H1 locs1 cells slots Q (F0 m (pc + 1) ls rest)) : W p l e R s m args below meth c H locs cells slots Q (F0 m pc ls (.int (jj x) :: .int (jj i) :: .ref a :: rest)) :=
  va_iast C.1 C.2.1 C.K w.1 w.2.1 w.2.2 q0 t0 ha ht (jj_in hi.1 hi.2.1 hi.2.2) hdg (fun H1 locs1 hP hD hS => by rw [ac_st f x hi.1 hi.2.2] at hP hD; subst hw; exact kk H1 locs1 ⟨hP, hD, hS⟩)
theorem q_mmax {x y : Int} {index : Nat} {lv : List (Nat × Value)} (C : Cx p s m args meth c cc nL own Ts D tys A ret) (hl : lv_has ls nL lv) (hlink : Cond.methodLink own index Lib.Math.max.name ∈ Ts) (hstat : Cond.static Lib.Math.max.name ∈ Ts) (hini : Cond.initialized "java/lang/Math" ∈ Ts) (hcode : Cond.code Lib.Math.max.name Lib.Math.max.code 2 (some .int) ∈ Ts) (hx : Bd x) (hy : Bd y)
    (hframes : 1 ≤ R.frames) (hlocals : (rest.map fun v => v.category).sum + 13 ≤ R.locals) (hc : cells ≤ R.cells) (hs : slots ≤ R.slots) (hdg : decode cc pc = .ok (.invokestatic index, 3))
    (kk : W p l e R s m args below meth c H locs cells slots Q (F0 m (pc + 3) ls (.int (jj (max x y)) :: rest))) : W p l e R s m args below meth c H locs cells slots Q (F0 m pc ls (.int (jj y) :: .int (jj x) :: rest)) := by
  refine va_mmax C.1 C.2.1 (C.2.2.1.trans hl.1.symm) C.ho (C.ts _ hlink) (C.ts _ hstat) (C.ts _ hini) (C.ts _ hcode) hframes hlocals hc hs hdg ?_
  have e : (if jj x < jj y then jj y else jj x) = jj (max x y) := by
    have := jj_lt hx.1 hx.2 hy.1 hy.2
    by_cases h : x < y
    · rw [if_pos (this.mpr h), show max x y = y by omega]
    · rw [if_neg (mt this.mp h), show max x y = x by omega]
  rw [e]; exact kk
theorem q_mmin {x y : Int} {index : Nat} {lv : List (Nat × Value)} (C : Cx p s m args meth c cc nL own Ts D tys A ret) (hl : lv_has ls nL lv) (hlink : Cond.methodLink own index Lib.Math.min.name ∈ Ts) (hstat : Cond.static Lib.Math.min.name ∈ Ts) (hini : Cond.initialized "java/lang/Math" ∈ Ts) (hcode : Cond.code Lib.Math.min.name Lib.Math.min.code 2 (some .int) ∈ Ts) (hx : Bd x) (hy : Bd y)
    (hframes : 1 ≤ R.frames) (hlocals : (rest.map fun v => v.category).sum + 13 ≤ R.locals) (hc : cells ≤ R.cells) (hs : slots ≤ R.slots) (hdg : decode cc pc = .ok (.invokestatic index, 3))
    (kk : W p l e R s m args below meth c H locs cells slots Q (F0 m (pc + 3) ls (.int (jj (min x y)) :: rest))) : W p l e R s m args below meth c H locs cells slots Q (F0 m pc ls (.int (jj y) :: .int (jj x) :: rest)) := by
  refine va_mmin C.1 C.2.1 (C.2.2.1.trans hl.1.symm) C.ho (C.ts _ hlink) (C.ts _ hstat) (C.ts _ hini) (C.ts _ hcode) hframes hlocals hc hs hdg ?_
  have e : (if jj y < jj x then jj y else jj x) = jj (min x y) := by
    have := jj_lt hy.1 hy.2 hx.1 hx.2
    by_cases h : y < x
    · rw [if_pos (this.mpr h), show min x y = y by omega]
    · rw [if_neg (mt this.mp h), show min x y = x by omega]
  rw [e]; exact kk
end QQ
end
section
/-! The cells of a model and of a State, and their rows. -/
abbrev tz (cI cC cS : ClassId) : List (ClassId × FieldType) := [(cI, .int), (cC, .char), (cS, .object RX1)]
/-- the model's object -/
def mFs (ad : Nat → Nat) (q : Int → Int) : List Value := [.ref (ad 0), .ref (ad 1), .ref (ad 2), .int (jj (q 3)), .ref (ad 4), .int (jj (q 5)), .ref (ad 6), .int (jj (q 7)), .int (jj (q 8)), .int (jj (q 9)), .int (jj (q 10)), .int (jj (q 11)), .int (jj (q 12)), .int (jj (q 13)), .int (jj (q 14)), .int (jj (q 15))]
def mW (cI : ClassId) (h : Nat) (ad : Nat → Nat) (σ α ς β τ q : Int → Int) : va_W := [(h, .inr (4, mFs ad q)), (ad 0, .inl (cI, 109, .inl (ac σ))), (ad 1, .inl (cI, 109, .inl (ac α))), (ad 2, .inl (cI, 109, .inl (ac ς))), (ad 4, .inl (cI, 436, .inl (ac β))), (ad 6, .inl (cI, 60, .inl (ac τ)))]
/-- a State: its rows, by σ: 0 to 9 the counts, 10 to 12 the settings, 13 + 6 p + k what k tells of the place p -/
def sg (σ : Int → Int) (i : Int) : Int := if 0 ≤ i ∧ i < 3 then σ (10 + i) else 0
def rr (σ : Int → Int) (k : Int) : Int → Int := fun i => σ (13 + 6 * i + k)
def sFs (ad : Nat → Nat) (σ : Int → Int) : List Value := [.ref (ad 0), .ref (ad 1), .ref (ad 2), .ref (ad 3), .ref (ad 4), .ref (ad 5), .ref (ad 6), .int (jj (σ 0)), .int (jj (σ 1)), .int (jj (σ 2)), .int (jj (σ 3)), .int (jj (σ 4)), .int (jj (σ 5)), .int (jj (σ 6)), .int (jj (σ 7)), .int (jj (σ 8)), .int (jj (σ 9))]
def cSt (cI : ClassId) (h : Nat) (ad : Nat → Nat) (σ : Int → Int) : va_W := [(h, .inr (1, sFs ad σ)), (ad 0, .inl (cI, 16, .inl (ac (rr σ 0)))), (ad 1, .inl (cI, 16, .inl (ac (rr σ 1)))), (ad 2, .inl (cI, 16, .inl (ac (rr σ 2)))), (ad 3, .inl (cI, 16, .inl (ac (rr σ 3)))), (ad 4, .inl (cI, 16, .inl (ac (rr σ 4)))), (ad 5, .inl (cI, 16, .inl (ac (rr σ 5)))), (ad 6, .inl (cI, 3, .inl (ac (sg σ))))]
/-! changes of a model's object -/
theorem mP3 (cI : ClassId) (h : Nat) (ad : Nat → Nat) (σ α ς β τ q : Int → Int) (v : Int) : (mW cI h ad σ α ς β τ q).set 0 (h, .inr (4, (mFs ad q).set 3 (.int (jj v)))) = mW cI h ad σ α ς β τ (up q 3 v) := by simp [mW, mFs, up]
theorem mP5 (cI : ClassId) (h : Nat) (ad : Nat → Nat) (σ α ς β τ q : Int → Int) (v : Int) : (mW cI h ad σ α ς β τ q).set 0 (h, .inr (4, (mFs ad q).set 5 (.int (jj v)))) = mW cI h ad σ α ς β τ (up q 5 v) := by simp [mW, mFs, up]
theorem mP7 (cI : ClassId) (h : Nat) (ad : Nat → Nat) (σ α ς β τ q : Int → Int) (v : Int) : (mW cI h ad σ α ς β τ q).set 0 (h, .inr (4, (mFs ad q).set 7 (.int (jj v)))) = mW cI h ad σ α ς β τ (up q 7 v) := by simp [mW, mFs, up]
theorem mP8 (cI : ClassId) (h : Nat) (ad : Nat → Nat) (σ α ς β τ q : Int → Int) (v : Int) : (mW cI h ad σ α ς β τ q).set 0 (h, .inr (4, (mFs ad q).set 8 (.int (jj v)))) = mW cI h ad σ α ς β τ (up q 8 v) := by simp [mW, mFs, up]
theorem mP9 (cI : ClassId) (h : Nat) (ad : Nat → Nat) (σ α ς β τ q : Int → Int) (v : Int) : (mW cI h ad σ α ς β τ q).set 0 (h, .inr (4, (mFs ad q).set 9 (.int (jj v)))) = mW cI h ad σ α ς β τ (up q 9 v) := by simp [mW, mFs, up]
theorem mP10 (cI : ClassId) (h : Nat) (ad : Nat → Nat) (σ α ς β τ q : Int → Int) (v : Int) : (mW cI h ad σ α ς β τ q).set 0 (h, .inr (4, (mFs ad q).set 10 (.int (jj v)))) = mW cI h ad σ α ς β τ (up q 10 v) := by simp [mW, mFs, up]
theorem mP11 (cI : ClassId) (h : Nat) (ad : Nat → Nat) (σ α ς β τ q : Int → Int) (v : Int) : (mW cI h ad σ α ς β τ q).set 0 (h, .inr (4, (mFs ad q).set 11 (.int (jj v)))) = mW cI h ad σ α ς β τ (up q 11 v) := by simp [mW, mFs, up]
theorem mP12 (cI : ClassId) (h : Nat) (ad : Nat → Nat) (σ α ς β τ q : Int → Int) (v : Int) : (mW cI h ad σ α ς β τ q).set 0 (h, .inr (4, (mFs ad q).set 12 (.int (jj v)))) = mW cI h ad σ α ς β τ (up q 12 v) := by simp [mW, mFs, up]
theorem mP13 (cI : ClassId) (h : Nat) (ad : Nat → Nat) (σ α ς β τ q : Int → Int) (v : Int) : (mW cI h ad σ α ς β τ q).set 0 (h, .inr (4, (mFs ad q).set 13 (.int (jj v)))) = mW cI h ad σ α ς β τ (up q 13 v) := by simp [mW, mFs, up]
theorem mP14 (cI : ClassId) (h : Nat) (ad : Nat → Nat) (σ α ς β τ q : Int → Int) (v : Int) : (mW cI h ad σ α ς β τ q).set 0 (h, .inr (4, (mFs ad q).set 14 (.int (jj v)))) = mW cI h ad σ α ς β τ (up q 14 v) := by simp [mW, mFs, up]
theorem mP15 (cI : ClassId) (h : Nat) (ad : Nat → Nat) (σ α ς β τ q : Int → Int) (v : Int) : (mW cI h ad σ α ς β τ q).set 0 (h, .inr (4, (mFs ad q).set 15 (.int (jj v)))) = mW cI h ad σ α ς β τ (up q 15 v) := by simp [mW, mFs, up]
/-! changes of a State -/
theorem rr_lo (σ : Int → Int) (k : Int) {i : Int} (v : Int) (hk : 0 ≤ k) (h : i < 13) : ac (rr (up σ i v) k) = ac (rr σ k) := by
  funext j; unfold ac rr; rw [up_n]; omega
theorem sg_lo (σ : Int → Int) {i : Int} (v : Int) (h : i < 10) : sg (up σ i v) = sg σ := by
  funext j; unfold sg; split
  · rw [up_n]; omega
  · rfl
theorem sg_hi (σ : Int → Int) {i : Int} (v : Int) (h : 13 ≤ i) : sg (up σ i v) = sg σ := by
  funext j; unfold sg; split
  · rw [up_n]; omega
  · rfl
theorem sg_up (σ : Int → Int) {i : Int} (v : Int) (h0 : 0 ≤ i) (h : i < 3) : sg (up σ (10 + i) v) = up (sg σ) i v := by
  funext j; show (if 0 ≤ j ∧ j < 3 then up σ (10 + i) v (10 + j) else 0) = if j = i then v else (if 0 ≤ j ∧ j < 3 then σ (10 + j) else 0)
  unfold up
  by_cases e : j = i
  · rw [if_pos (by omega), if_pos (by omega), if_pos e]
  · rw [if_neg (show ¬ (10 + j = 10 + i) by omega), if_neg e]
theorem rr_ne (σ : Int → Int) {k k' : Int} (p v : Int) (h0 : 0 ≤ k) (h1 : k < 6) (h2 : 0 ≤ k') (h3 : k' < 6) (hne : k ≠ k') : rr (up σ (13 + 6 * p + k) v) k' = rr σ k' := by
  funext j; unfold rr; rw [up_n]; omega
theorem rr_eq (σ : Int → Int) (k p v : Int) : rr (up σ (13 + 6 * p + k) v) k = up (rr σ k) p v := by
  funext j; unfold rr up
  by_cases e : j = p
  · rw [if_pos (by omega), if_pos e]
  · rw [if_neg (by omega), if_neg e]
theorem sFs_hi (ad : Nat → Nat) (σ : Int → Int) {i : Int} (v : Int) (h : 10 ≤ i) : sFs ad (up σ i v) = sFs ad σ := by
  unfold sFs
  rw [up_n σ v (show (0:Int) ≠ i by omega), up_n σ v (show (1:Int) ≠ i by omega), up_n σ v (show (2:Int) ≠ i by omega), up_n σ v (show (3:Int) ≠ i by omega), up_n σ v (show (4:Int) ≠ i by omega), up_n σ v (show (5:Int) ≠ i by omega), up_n σ v (show (6:Int) ≠ i by omega), up_n σ v (show (7:Int) ≠ i by omega), up_n σ v (show (8:Int) ≠ i by omega), up_n σ v (show (9:Int) ≠ i by omega)]
theorem sR0 (cI : ClassId) (h : Nat) (ad : Nat → Nat) (σ : Int → Int) (p v : Int) (hp : 0 ≤ p) : (cSt cI h ad σ).set 1 (ad 0, .inl (cI, 16, .inl (ac (up (rr σ 0) p v)))) = cSt cI h ad (up σ (13 + 6 * p + 0) v) := by
  unfold cSt
  rw [sFs_hi ad σ v (by omega), sg_hi σ v (by omega), rr_eq, rr_ne σ p v (by omega) (by omega) (k' := 1) (by omega) (by omega) (by omega), rr_ne σ p v (by omega) (by omega) (k' := 2) (by omega) (by omega) (by omega), rr_ne σ p v (by omega) (by omega) (k' := 3) (by omega) (by omega) (by omega), rr_ne σ p v (by omega) (by omega) (k' := 4) (by omega) (by omega) (by omega), rr_ne σ p v (by omega) (by omega) (k' := 5) (by omega) (by omega) (by omega)]
  rfl
theorem sR1 (cI : ClassId) (h : Nat) (ad : Nat → Nat) (σ : Int → Int) (p v : Int) (hp : 0 ≤ p) : (cSt cI h ad σ).set 2 (ad 1, .inl (cI, 16, .inl (ac (up (rr σ 1) p v)))) = cSt cI h ad (up σ (13 + 6 * p + 1) v) := by
  unfold cSt
  rw [sFs_hi ad σ v (by omega), sg_hi σ v (by omega), rr_eq, rr_ne σ p v (by omega) (by omega) (k' := 0) (by omega) (by omega) (by omega), rr_ne σ p v (by omega) (by omega) (k' := 2) (by omega) (by omega) (by omega), rr_ne σ p v (by omega) (by omega) (k' := 3) (by omega) (by omega) (by omega), rr_ne σ p v (by omega) (by omega) (k' := 4) (by omega) (by omega) (by omega), rr_ne σ p v (by omega) (by omega) (k' := 5) (by omega) (by omega) (by omega)]
  rfl
theorem sR2 (cI : ClassId) (h : Nat) (ad : Nat → Nat) (σ : Int → Int) (p v : Int) (hp : 0 ≤ p) : (cSt cI h ad σ).set 3 (ad 2, .inl (cI, 16, .inl (ac (up (rr σ 2) p v)))) = cSt cI h ad (up σ (13 + 6 * p + 2) v) := by
  unfold cSt
  rw [sFs_hi ad σ v (by omega), sg_hi σ v (by omega), rr_eq, rr_ne σ p v (by omega) (by omega) (k' := 0) (by omega) (by omega) (by omega), rr_ne σ p v (by omega) (by omega) (k' := 1) (by omega) (by omega) (by omega), rr_ne σ p v (by omega) (by omega) (k' := 3) (by omega) (by omega) (by omega), rr_ne σ p v (by omega) (by omega) (k' := 4) (by omega) (by omega) (by omega), rr_ne σ p v (by omega) (by omega) (k' := 5) (by omega) (by omega) (by omega)]
  rfl
theorem sR3 (cI : ClassId) (h : Nat) (ad : Nat → Nat) (σ : Int → Int) (p v : Int) (hp : 0 ≤ p) : (cSt cI h ad σ).set 4 (ad 3, .inl (cI, 16, .inl (ac (up (rr σ 3) p v)))) = cSt cI h ad (up σ (13 + 6 * p + 3) v) := by
  unfold cSt
  rw [sFs_hi ad σ v (by omega), sg_hi σ v (by omega), rr_eq, rr_ne σ p v (by omega) (by omega) (k' := 0) (by omega) (by omega) (by omega), rr_ne σ p v (by omega) (by omega) (k' := 1) (by omega) (by omega) (by omega), rr_ne σ p v (by omega) (by omega) (k' := 2) (by omega) (by omega) (by omega), rr_ne σ p v (by omega) (by omega) (k' := 4) (by omega) (by omega) (by omega), rr_ne σ p v (by omega) (by omega) (k' := 5) (by omega) (by omega) (by omega)]
  rfl
theorem sR4 (cI : ClassId) (h : Nat) (ad : Nat → Nat) (σ : Int → Int) (p v : Int) (hp : 0 ≤ p) : (cSt cI h ad σ).set 5 (ad 4, .inl (cI, 16, .inl (ac (up (rr σ 4) p v)))) = cSt cI h ad (up σ (13 + 6 * p + 4) v) := by
  unfold cSt
  rw [sFs_hi ad σ v (by omega), sg_hi σ v (by omega), rr_eq, rr_ne σ p v (by omega) (by omega) (k' := 0) (by omega) (by omega) (by omega), rr_ne σ p v (by omega) (by omega) (k' := 1) (by omega) (by omega) (by omega), rr_ne σ p v (by omega) (by omega) (k' := 2) (by omega) (by omega) (by omega), rr_ne σ p v (by omega) (by omega) (k' := 3) (by omega) (by omega) (by omega), rr_ne σ p v (by omega) (by omega) (k' := 5) (by omega) (by omega) (by omega)]
  rfl
theorem sR5 (cI : ClassId) (h : Nat) (ad : Nat → Nat) (σ : Int → Int) (p v : Int) (hp : 0 ≤ p) : (cSt cI h ad σ).set 6 (ad 5, .inl (cI, 16, .inl (ac (up (rr σ 5) p v)))) = cSt cI h ad (up σ (13 + 6 * p + 5) v) := by
  unfold cSt
  rw [sFs_hi ad σ v (by omega), sg_hi σ v (by omega), rr_eq, rr_ne σ p v (by omega) (by omega) (k' := 0) (by omega) (by omega) (by omega), rr_ne σ p v (by omega) (by omega) (k' := 1) (by omega) (by omega) (by omega), rr_ne σ p v (by omega) (by omega) (k' := 2) (by omega) (by omega) (by omega), rr_ne σ p v (by omega) (by omega) (k' := 3) (by omega) (by omega) (by omega), rr_ne σ p v (by omega) (by omega) (k' := 4) (by omega) (by omega) (by omega)]
  rfl
theorem sR6 (cI : ClassId) (h : Nat) (ad : Nat → Nat) (σ : Int → Int) (i v : Int) (h0 : 0 ≤ i) (h3 : i < 3) : (cSt cI h ad σ).set 7 (ad 6, .inl (cI, 3, .inl (ac (up (sg σ) i v)))) = cSt cI h ad (up σ (10 + i) v) := by
  unfold cSt
  rw [sFs_hi ad σ v (by omega), sg_up σ v h0 h3, rr_lo σ 0 v (by omega) (by omega), rr_lo σ 1 v (by omega) (by omega), rr_lo σ 2 v (by omega) (by omega), rr_lo σ 3 v (by omega) (by omega), rr_lo σ 4 v (by omega) (by omega), rr_lo σ 5 v (by omega) (by omega)]
  rfl
/-- a count's change: the field 7 + i -/
theorem sPut (cI : ClassId) (h : Nat) (ad : Nat → Nat) (σ : Int → Int) (i : Nat) (v : Int) (hi : i < 10) : (cSt cI h ad σ).set 0 (h, .inr (1, (sFs ad σ).set (7 + i) (.int (jj v)))) = cSt cI h ad (up σ (i : Int) v) := by
  have e : (sFs ad σ).set (7 + i) (.int (jj v)) = sFs ad (up σ (i : Int) v) := by
    match i, hi with
    | 0, _ => simp [sFs, up]
    | 1, _ => simp [sFs, up]
    | 2, _ => simp [sFs, up]
    | 3, _ => simp [sFs, up]
    | 4, _ => simp [sFs, up]
    | 5, _ => simp [sFs, up]
    | 6, _ => simp [sFs, up]
    | 7, _ => simp [sFs, up]
    | 8, _ => simp [sFs, up]
    | 9, _ => simp [sFs, up]
  rw [e]
  unfold cSt
  rw [sg_lo σ v (by omega), rr_lo σ 0 v (by omega) (by omega), rr_lo σ 1 v (by omega) (by omega), rr_lo σ 2 v (by omega) (by omega), rr_lo σ 3 v (by omega) (by omega), rr_lo σ 4 v (by omega) (by omega), rr_lo σ 5 v (by omega) (by omega)]
  rfl
/-- a State is what its 109 numbers are -/
theorem cSt_cong {D : va_G} {cI : ClassId} {h : Nat} {ad : Nat → Nat} {σ σ' : Int → Int} {H : Heap} (e : ∀ k : Int, 0 ≤ k → k < 109 → σ k = σ' k) (hP : va_P D vwCl (cSt cI h ad σ) H) : va_P D vwCl (cSt cI h ad σ') H := by
  have P := vP_iff.mp hP
  have hf : sFs ad σ' = sFs ad σ := by
    unfold sFs
    rw [e 0 (by omega) (by omega), e 1 (by omega) (by omega), e 2 (by omega) (by omega), e 3 (by omega) (by omega), e 4 (by omega) (by omega), e 5 (by omega) (by omega), e 6 (by omega) (by omega), e 7 (by omega) (by omega), e 8 (by omega) (by omega), e 9 (by omega) (by omega)]
  refine vP_iff.mpr (fun q hq => ?_)
  simp only [cSt, List.mem_cons, List.not_mem_nil, or_false] at hq
  have hr : ∀ k : Int, 0 ≤ k → k < 6 → ∀ i : Int, 0 ≤ i → i < ((16 : Nat) : Int) → rr σ k i = rr σ' k i := fun k h0 h6 i hi hi2 => by unfold rr; exact e _ (by omega) (by omega)
  rcases hq with rfl | rfl | rfl | rfl | rfl | rfl | rfl | rfl
  · rw [hf]; exact P _ (by simp [cSt])
  · exact at_ac (hr 0 (by omega) (by omega)) (P _ (by simp [cSt]))
  · exact at_ac (hr 1 (by omega) (by omega)) (P _ (by simp [cSt]))
  · exact at_ac (hr 2 (by omega) (by omega)) (P _ (by simp [cSt]))
  · exact at_ac (hr 3 (by omega) (by omega)) (P _ (by simp [cSt]))
  · exact at_ac (hr 4 (by omega) (by omega)) (P _ (by simp [cSt]))
  · exact at_ac (hr 5 (by omega) (by omega)) (P _ (by simp [cSt]))
  · exact at_ac (f := sg σ) (g := sg σ') (fun i hi hi2 => by unfold sg; rw [if_pos (by omega), if_pos (by omega)]; exact e _ (by omega) (by omega)) (P _ (by simp [cSt]))
theorem cSt_D {A : Nat → Prop} {cI : ClassId} {h : Nat} {ad : Nat → Nat} {σ σ' : Int → Int} (hD : va_D A (cSt cI h ad σ)) : va_D A (cSt cI h ad σ') := by
  rw [vD_iff] at hD ⊢
  simp only [cSt, List.pairwise_cons, List.mem_cons, List.not_mem_nil, or_false, forall_eq_or_imp, forall_eq] at hD ⊢
  exact hD
section QW
variable {p : Program} {l : Launch} {e : Env} {R : Room} {s : State} {m : MethodId} {args : Array Value} {below : List Frame} {meth : Method} {c : Code} {H : Heap} {locs : List Loc} {cells slots : Nat} {Q : State → Prop}
variable {cc : ByteArray} {nL : Nat} {own : String} {Ts : List Cond} {D : va_G} {tys : List (ClassId × FieldType)} {A : Nat → Prop} {ret : Option FieldType} {pc : Nat} {ls : Array Slot} {rest : List Value} {ws ws' : va_W}
variable {cI cC cS : ClassId} {h : Nat} {ad : Nat → Nat} {σ α ς β τ q : Int → Int}
theorem q_getM {index : Nat} {v : Value} (C : Cx p s m args meth c cc nL own Ts D tys A ret) (hP : va_P D vwCl (mW cI h ad σ α ς β τ q) H) (hin : ∀ w ∈ wsX40, w ∈ Ts) (k : Nat) (hk : k < 16) (hlink : Cond.fieldLink own index (TX4 k).1 (TX4 k).2.1 (TX4 k).2.2.1 ∈ Ts) (hv : (mFs ad q)[k]? = some v) (hdg : decode cc pc = .ok (.getfield index, 3))
    (kk : W p l e R s m args below meth c H locs cells slots Q (F0 m (pc + 3) ls (v :: rest))) : W p l e R s m args below meth c H locs cells slots Q (F0 m pc ls (.ref h :: rest)) :=
  q_get (Cn := RX4) (T := TX4) (N := 16) (ci := 4) C hP hin 0 rfl rfl k hk hlink hv hdg kk
theorem q_getS {index : Nat} {v : Value} (C : Cx p s m args meth c cc nL own Ts D tys A ret) (hP : va_P D vwCl (cSt cI h ad σ) H) (hin : ∀ w ∈ wsX10, w ∈ Ts) (k : Nat) (hk : k < 17) (hlink : Cond.fieldLink own index (TX1 k).1 (TX1 k).2.1 (TX1 k).2.2.1 ∈ Ts) (hv : (sFs ad σ)[k]? = some v) (hdg : decode cc pc = .ok (.getfield index, 3))
    (kk : W p l e R s m args below meth c H locs cells slots Q (F0 m (pc + 3) ls (v :: rest))) : W p l e R s m args below meth c H locs cells slots Q (F0 m pc ls (.ref h :: rest)) :=
  q_get (Cn := RX1) (T := TX1) (N := 17) (ci := 1) C hP hin 0 rfl rfl k hk hlink hv hdg kk
theorem q_putM {index : Nat} {v : Int} {ty : FieldType} (C : Cx p s m args meth c cc nL own Ts D tys A ret) (w : Wd D A s (mW cI h ad σ α ς β τ q) H locs) (hin : ∀ w ∈ wsX40, w ∈ Ts) (k : Nat) (hk : k < 16) (hlink : Cond.fieldLink own index (TX4 k).1 (TX4 k).2.1 (TX4 k).2.2.1 ∈ Ts) (hfin : (TX4 k).2.2.2 = false) (hd : parseFieldDescriptor (TX4 k).2.2.1 = some ty) (hn : narrow ty (.int (jj v)) = .int (jj v)) (hfit : fits ty (.int (jj v)) = true) (hdg : decode cc pc = .ok (.putfield index, 3))
    (hw : (mW cI h ad σ α ς β τ q).set 0 (h, .inr (4, (mFs ad q).set k (.int (jj v)))) = ws')
    (kk : ∀ (H1 : Heap) (locs1 : List Loc), Wd D A s ws' H1 locs1 → W p l e R s m args below meth c H1 locs1 cells slots Q (F0 m (pc + 3) ls rest)) : W p l e R s m args below meth c H locs cells slots Q (F0 m pc ls (.int (jj v) :: .ref h :: rest)) :=
  q_put (Cn := RX4) (T := TX4) (N := 16) (ci := 4) (fs := mFs ad q) C w hin tyX4 tyX4_ok nmX4 0 rfl rfl k hk hlink hfin hd hn hfit (by show k < 16; exact hk) hdg hw kk
theorem q_putS {index : Nat} {v : Int} (C : Cx p s m args meth c cc nL own Ts D tys A ret) (w : Wd D A s (cSt cI h ad σ) H locs) (hin : ∀ w ∈ wsX10, w ∈ Ts) (i : Nat) (hi : i < 10) (hlink : Cond.fieldLink own index (TX1 (7 + i)).1 (TX1 (7 + i)).2.1 (TX1 (7 + i)).2.2.1 ∈ Ts) (hfin : (TX1 (7 + i)).2.2.2 = false) (hd : parseFieldDescriptor (TX1 (7 + i)).2.2.1 = some .int) (hdg : decode cc pc = .ok (.putfield index, 3))
    (kk : ∀ (H1 : Heap) (locs1 : List Loc), Wd D A s (cSt cI h ad (up σ (i : Int) v)) H1 locs1 → W p l e R s m args below meth c H1 locs1 cells slots Q (F0 m (pc + 3) ls rest)) : W p l e R s m args below meth c H locs cells slots Q (F0 m pc ls (.int (jj v) :: .ref h :: rest)) :=
  q_put (Cn := RX1) (T := TX1) (N := 17) (ci := 1) (fs := sFs ad σ) C w hin tyX1 tyX1_ok nmX1 0 rfl rfl (7 + i) (by omega) hlink hfin hd rfl rfl (by show 7 + i < 17; omega) hdg (sPut cI h ad σ i v hi) kk
/-- a boolean's value as a field takes it -/
theorem nar_b {v : Int} (h : v = 0 ∨ v = 1) : narrow .boolean (.int (jj v)) = .int (jj v) := by
  rcases h with rfl | rfl <;> rfl
theorem nar_bI (P : Prop) [Decidable P] : narrow .boolean (.int (jj (bI P))) = .int (jj (bI P)) := nar_b (by unfold bI; split <;> omega)
/-- the model's array s, read and written -/
theorem q_Mld {i : Int} (C : Cx p s m args meth c cc nL own Ts D (tz cI cC cS) A ret) (hP : va_P D vwCl (mW cI h ad σ α ς β τ q) H) (hi : 0 ≤ i ∧ i < 109) (hdg : decode cc pc = .ok (.iaload, 1))
    (kk : W p l e R s m args below meth c H locs cells slots Q (F0 m (pc + 1) ls (.int (jj (σ i)) :: rest))) : W p l e R s m args below meth c H locs cells slots Q (F0 m pc ls (.int (jj i) :: .ref (ad 0) :: rest)) :=
  q_iald (n := 109) (f := σ) C hP 1 0 rfl rfl ⟨hi.1, hi.2, by omega⟩ hdg kk
theorem q_Mst {i x : Int} (C : Cx p s m args meth c cc nL own Ts D (tz cI cC cS) A ret) (w : Wd D A s (mW cI h ad σ α ς β τ q) H locs) (hi : 0 ≤ i ∧ i < 109) (hdg : decode cc pc = .ok (.iastore, 1))
    (kk : ∀ (H1 : Heap) (locs1 : List Loc), Wd D A s (mW cI h ad (up σ i x) α ς β τ q) H1 locs1 → W p l e R s m args below meth c H1 locs1 cells slots Q (F0 m (pc + 1) ls rest)) : W p l e R s m args below meth c H locs cells slots Q (F0 m pc ls (.int (jj x) :: .int (jj i) :: .ref (ad 0) :: rest)) :=
  q_iast (n := 109) (f := σ) C w 1 0 rfl rfl ⟨hi.1, hi.2, by omega⟩ hdg rfl kk
/-- a State's rows -/
theorem q_Sld {p0 : Int} (C : Cx p s m args meth c cc nL own Ts D (tz cI cC cS) A ret) (hP : va_P D vwCl (cSt cI h ad σ) H) (q0 : Nat) {a : Nat} (k : Int) (ha : (cSt cI h ad σ)[q0]? = some (a, .inl (cI, 16, .inl (ac (rr σ k))))) (hi : 0 ≤ p0 ∧ p0 < 16) (hdg : decode cc pc = .ok (.iaload, 1))
    (kk : W p l e R s m args below meth c H locs cells slots Q (F0 m (pc + 1) ls (.int (jj (σ (13 + 6 * p0 + k))) :: rest))) : W p l e R s m args below meth c H locs cells slots Q (F0 m pc ls (.int (jj p0) :: .ref a :: rest)) :=
  q_iald (n := 16) (f := rr σ k) C hP q0 0 ha rfl ⟨hi.1, hi.2, by omega⟩ hdg kk
theorem q_Sst {p0 x : Int} (C : Cx p s m args meth c cc nL own Ts D (tz cI cC cS) A ret) (w : Wd D A s (cSt cI h ad σ) H locs) (q0 : Nat) {a : Nat} (k : Int) (ha : (cSt cI h ad σ)[q0]? = some (a, .inl (cI, 16, .inl (ac (rr σ k))))) (hi : 0 ≤ p0 ∧ p0 < 16) (hdg : decode cc pc = .ok (.iastore, 1))
    (hw : (cSt cI h ad σ).set q0 (a, .inl (cI, 16, .inl (ac (up (rr σ k) p0 x)))) = ws')
    (kk : ∀ (H1 : Heap) (locs1 : List Loc), Wd D A s ws' H1 locs1 → W p l e R s m args below meth c H1 locs1 cells slots Q (F0 m (pc + 1) ls rest)) : W p l e R s m args below meth c H locs cells slots Q (F0 m pc ls (.int (jj x) :: .int (jj p0) :: .ref a :: rest)) :=
  q_iast (n := 16) (f := rr σ k) C w q0 0 ha rfl ⟨hi.1, hi.2, by omega⟩ hdg hw kk
theorem q_Stld {i v : Int} (C : Cx p s m args meth c cc nL own Ts D (tz cI cC cS) A ret) (hP : va_P D vwCl (cSt cI h ad σ) H) (hi : 0 ≤ i ∧ i < 3) (hv : σ (10 + i) = v) (hdg : decode cc pc = .ok (.iaload, 1))
    (kk : W p l e R s m args below meth c H locs cells slots Q (F0 m (pc + 1) ls (.int (jj v) :: rest))) : W p l e R s m args below meth c H locs cells slots Q (F0 m pc ls (.int (jj i) :: .ref (ad 6) :: rest)) :=
  q_iald (n := 3) (f := sg σ) C hP 7 0 rfl rfl ⟨hi.1, hi.2, by omega⟩ hdg (by rw [show sg σ i = v by rw [← hv]; exact if_pos hi]; exact kk)
theorem q_Stst {i x : Int} (C : Cx p s m args meth c cc nL own Ts D (tz cI cC cS) A ret) (w : Wd D A s (cSt cI h ad σ) H locs) (hi : 0 ≤ i ∧ i < 3) (hdg : decode cc pc = .ok (.iastore, 1))
    (kk : ∀ (H1 : Heap) (locs1 : List Loc), Wd D A s (cSt cI h ad (up σ (10 + i) x)) H1 locs1 → W p l e R s m args below meth c H1 locs1 cells slots Q (F0 m (pc + 1) ls rest)) : W p l e R s m args below meth c H locs cells slots Q (F0 m pc ls (.int (jj x) :: .int (jj i) :: .ref (ad 6) :: rest)) :=
  q_iast (n := 3) (f := sg σ) C w 7 0 rfl rfl ⟨hi.1, hi.2, by omega⟩ hdg (sR6 cI h ad σ i x hi.1 hi.2) kk
end QW
end
section
theorem fr_nil {ws : va_W} : Fr ws [] [] ws := ⟨ws, List.Perm.refl _, List.Perm.refl _⟩
section QX
variable {p : Program} {l : Launch} {e : Env} {R : Room} {s : State} {m : MethodId} {args : Array Value} {below : List Frame} {meth : Method} {c : Code} {H : Heap} {locs : List Loc} {cells slots : Nat} {Q : State → Prop}
variable {cc : ByteArray} {nL : Nat} {own : String} {Ts : List Cond} {D : va_G} {tys : List (ClassId × FieldType)} {A : Nat → Prop} {ret : Option FieldType} {pc : Nat} {ls : Array Slot} {rest : List Value} {ws ws' : va_W}
theorem q_tabIn {dflt lo hi : Int} {offs : Array Int} {len : Nat} {x v : Int} {off : Int} {tgt : Nat} (C : Cx p s m args meth c cc nL own Ts D tys A ret) (hdg : decode cc pc = .ok (.tableswitch dflt lo hi offs, len)) (hx : x = v) (hb : -2147483648 ≤ x ∧ x ≤ 2147483647) (h1 : ¬ v < lo) (h2 : ¬ hi < v) (ho : offs[(v - lo).toNat]? = some off) (ht : (pc : Int) + off = (tgt : Int))
    (kk : W p l e R s m args below meth c H locs cells slots Q (F0 m tgt ls rest)) : W p l e R s m args below meth c H locs cells slots Q (F0 m pc ls (.int (jj x) :: rest)) :=
  lv_tableIn C.1 C.2.1 hdg (by rw [jj_toInt hb.1 hb.2, hx]; exact h1) (by rw [jj_toInt hb.1 hb.2, hx]; exact h2) (by rw [jj_toInt hb.1 hb.2, hx]; exact ho) ht kk
theorem q_tabOut {dflt lo hi : Int} {offs : Array Int} {len : Nat} {x : Int} {tgt : Nat} (C : Cx p s m args meth c cc nL own Ts D tys A ret) (hdg : decode cc pc = .ok (.tableswitch dflt lo hi offs, len)) (hb : -2147483648 ≤ x ∧ x ≤ 2147483647) (h : x < lo ∨ hi < x) (ht : (pc : Int) + dflt = (tgt : Int))
    (kk : W p l e R s m args below meth c H locs cells slots Q (F0 m tgt ls rest)) : W p l e R s m args below meth c H locs cells slots Q (F0 m pc ls (.int (jj x) :: rest)) :=
  lv_tableOut C.1 C.2.1 hdg (by rw [jj_toInt hb.1 hb.2]; exact h) ht kk
theorem q_lookIn {dflt : Int} {ps : Array (Int × Int)} {len : Nat} {x v : Int} {off : Int} {tgt : Nat} (C : Cx p s m args meth c cc nL own Ts D tys A ret) (hdg : decode cc pc = .ok (.lookupswitch dflt ps, len)) (hx : x = v) (hb : -2147483648 ≤ x ∧ x ≤ 2147483647) (hp : (ps.toList.zip (ps.toList.drop 1)).all (fun (a, next) => a.1 < next.1) = true) (ho : Op.lookupswitch.offset ps.toList dflt v = off) (ht : (pc : Int) + off = (tgt : Int))
    (kk : W p l e R s m args below meth c H locs cells slots Q (F0 m tgt ls rest)) : W p l e R s m args below meth c H locs cells slots Q (F0 m pc ls (.int (jj x) :: rest)) :=
  lv_lookup C.1 C.2.1 hdg hp (by rw [jj_toInt hb.1 hb.2, hx]; exact ho) ht kk
theorem jj_char (x : Int) : ((jj x).toUInt32 % 65536).toInt32 = jj (x % 65536) := by
  have e1 : (jj x).toBitVec = BitVec.ofInt 32 x := by unfold jj; rfl
  rw [pk_char, e1]
  show Int32.ofNat _ = Int32.ofInt _
  rw [← Int32.ofInt_eq_ofNat]
  have h1 : (BitVec.ofInt 32 x).toNat = (x % 4294967296).toNat := by simp [BitVec.toNat_ofInt]
  rw [h1]
  congr 1
  have h2 : 0 ≤ x % 4294967296 := Int.emod_nonneg _ (by decide)
  have h3 : (((x % 4294967296).toNat % 65536 : Nat) : Int) = (x % 4294967296) % 65536 := by omega
  rw [h3]; omega
theorem q_i2c {x : Int} (C : Cx p s m args meth c cc nL own Ts D tys A ret) (hdg : decode cc pc = .ok (.i2c, 1)) (kk : W p l e R s m args below meth c H locs cells slots Q (F0 m (pc + 1) ls (.int (jj (x % 65536)) :: rest))) : W p l e R s m args below meth c H locs cells slots Q (F0 m pc ls (.int (jj x) :: rest)) :=
  lv_i2c C.1 C.2.1 hdg (jj_char x) kk
end QX
end
