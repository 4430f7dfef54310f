section
-- ===== PART A: goes FIRST, ahead of the names: the tables' words, and 'selects' of the private methods out of them =====
/-- a private method of a class that the tables say can be made, by its rows of tables_1 -/
def lw_okq (q : MethodName × Nat) : Prop := (q.1.cls ≠ "java/lang/invoke/MethodHandle" ∧ q.1.cls ≠ "java/lang/invoke/VarHandle") ∧ Cond.instantiable q.1.cls q.2 ∈ tables_1 ∧ Cond.privateMethod q.1 ∈ tables_1 ∧ Cond.instanceMethod q.1 ∈ tables_1
theorem lw_p0 : lw_okq (⟨"WantedTypes", "found", "(I)I"⟩, 11) := ⟨⟨by decide +kernel, by decide +kernel⟩, List.mem_of_getElem? (i := 15) (by decide +kernel), List.mem_of_getElem? (i := 321) (by decide +kernel), List.mem_of_getElem? (i := 322) (by decide +kernel)⟩
theorem lw_p1 : lw_okq (⟨"WantedTypes$Rows", "make", "(III)V"⟩, 3) := ⟨⟨by decide +kernel, by decide +kernel⟩, List.mem_of_getElem? (i := 108) (by decide +kernel), List.mem_of_getElem? (i := 326) (by decide +kernel), List.mem_of_getElem? (i := 327) (by decide +kernel)⟩
theorem lw_p2 : lw_okq (⟨"WantedTypes", "unfound", "(I)I"⟩, 11) := ⟨⟨by decide +kernel, by decide +kernel⟩, List.mem_of_getElem? (i := 15) (by decide +kernel), List.mem_of_getElem? (i := 330) (by decide +kernel), List.mem_of_getElem? (i := 331) (by decide +kernel)⟩
theorem lw_p3 : lw_okq (⟨"WantedTypes$Rows", "isMissing", "(I)Z"⟩, 3) := ⟨⟨by decide +kernel, by decide +kernel⟩, List.mem_of_getElem? (i := 108) (by decide +kernel), List.mem_of_getElem? (i := 338) (by decide +kernel), List.mem_of_getElem? (i := 339) (by decide +kernel)⟩
theorem lw_p4 : lw_okq (⟨"WantedTypes$Rows", "hasPlaces", "(III)Z"⟩, 3) := ⟨⟨by decide +kernel, by decide +kernel⟩, List.mem_of_getElem? (i := 108) (by decide +kernel), List.mem_of_getElem? (i := 342) (by decide +kernel), List.mem_of_getElem? (i := 343) (by decide +kernel)⟩
theorem lw_p5 : lw_okq (⟨"WantedTypes$Rows", "put", "(III)I"⟩, 3) := ⟨⟨by decide +kernel, by decide +kernel⟩, List.mem_of_getElem? (i := 108) (by decide +kernel), List.mem_of_getElem? (i := 346) (by decide +kernel), List.mem_of_getElem? (i := 347) (by decide +kernel)⟩
theorem lw_p6 : lw_okq (⟨"WantedTypes$Rows", "lose", "(I)I"⟩, 3) := ⟨⟨by decide +kernel, by decide +kernel⟩, List.mem_of_getElem? (i := 108) (by decide +kernel), List.mem_of_getElem? (i := 361) (by decide +kernel), List.mem_of_getElem? (i := 362) (by decide +kernel)⟩
theorem lw_p7 : lw_okq (⟨"WantedTypes$Reader", "isFull", "()Z"⟩, 5) := ⟨⟨by decide +kernel, by decide +kernel⟩, List.mem_of_getElem? (i := 132) (by decide +kernel), List.mem_of_getElem? (i := 369) (by decide +kernel), List.mem_of_getElem? (i := 370) (by decide +kernel)⟩
theorem lw_p8 : lw_okq (⟨"WantedTypes$Reader", "append", "(I)I"⟩, 5) := ⟨⟨by decide +kernel, by decide +kernel⟩, List.mem_of_getElem? (i := 132) (by decide +kernel), List.mem_of_getElem? (i := 374) (by decide +kernel), List.mem_of_getElem? (i := 375) (by decide +kernel)⟩
theorem lw_p9 : lw_okq (⟨"WantedTypes$Reader", "readTape", "()Z"⟩, 5) := ⟨⟨by decide +kernel, by decide +kernel⟩, List.mem_of_getElem? (i := 132) (by decide +kernel), List.mem_of_getElem? (i := 382) (by decide +kernel), List.mem_of_getElem? (i := 383) (by decide +kernel)⟩
theorem lw_p10 : lw_okq (⟨"WantedTypes$Reader", "readLaw", "()Z"⟩, 5) := ⟨⟨by decide +kernel, by decide +kernel⟩, List.mem_of_getElem? (i := 132) (by decide +kernel), List.mem_of_getElem? (i := 386) (by decide +kernel), List.mem_of_getElem? (i := 387) (by decide +kernel)⟩
theorem lw_p11 : lw_okq (⟨"WantedTypes$Reader", "take", "(I)Z"⟩, 5) := ⟨⟨by decide +kernel, by decide +kernel⟩, List.mem_of_getElem? (i := 132) (by decide +kernel), List.mem_of_getElem? (i := 390) (by decide +kernel), List.mem_of_getElem? (i := 391) (by decide +kernel)⟩
theorem lw_p12 : lw_okq (⟨"WantedTypes$Reader", "here", "()I"⟩, 5) := ⟨⟨by decide +kernel, by decide +kernel⟩, List.mem_of_getElem? (i := 132) (by decide +kernel), List.mem_of_getElem? (i := 394) (by decide +kernel), List.mem_of_getElem? (i := 395) (by decide +kernel)⟩
theorem lw_p13 : lw_okq (⟨"WantedTypes$Reader", "byteAt", "(I)I"⟩, 5) := ⟨⟨by decide +kernel, by decide +kernel⟩, List.mem_of_getElem? (i := 132) (by decide +kernel), List.mem_of_getElem? (i := 398) (by decide +kernel), List.mem_of_getElem? (i := 399) (by decide +kernel)⟩
theorem lw_p14 : lw_okq (⟨"WantedTypes$Reader", "refuse", "(I)Z"⟩, 5) := ⟨⟨by decide +kernel, by decide +kernel⟩, List.mem_of_getElem? (i := 132) (by decide +kernel), List.mem_of_getElem? (i := 402) (by decide +kernel), List.mem_of_getElem? (i := 403) (by decide +kernel)⟩
theorem lw_p15 : lw_okq (⟨"WantedTypes$Reader", "takeNumber", "(II)I"⟩, 5) := ⟨⟨by decide +kernel, by decide +kernel⟩, List.mem_of_getElem? (i := 132) (by decide +kernel), List.mem_of_getElem? (i := 406) (by decide +kernel), List.mem_of_getElem? (i := 407) (by decide +kernel)⟩
def lw_privs_1 : List (MethodName × Nat) := [(⟨"WantedTypes", "found", "(I)I"⟩, 11), (⟨"WantedTypes$Rows", "make", "(III)V"⟩, 3), (⟨"WantedTypes", "unfound", "(I)I"⟩, 11), (⟨"WantedTypes$Rows", "isMissing", "(I)Z"⟩, 3), (⟨"WantedTypes$Rows", "hasPlaces", "(III)Z"⟩, 3), (⟨"WantedTypes$Rows", "put", "(III)I"⟩, 3), (⟨"WantedTypes$Rows", "lose", "(I)I"⟩, 3), (⟨"WantedTypes$Reader", "isFull", "()Z"⟩, 5), (⟨"WantedTypes$Reader", "append", "(I)I"⟩, 5), (⟨"WantedTypes$Reader", "readTape", "()Z"⟩, 5), (⟨"WantedTypes$Reader", "readLaw", "()Z"⟩, 5), (⟨"WantedTypes$Reader", "take", "(I)Z"⟩, 5), (⟨"WantedTypes$Reader", "here", "()I"⟩, 5), (⟨"WantedTypes$Reader", "byteAt", "(I)I"⟩, 5), (⟨"WantedTypes$Reader", "refuse", "(I)Z"⟩, 5), (⟨"WantedTypes$Reader", "takeNumber", "(II)I"⟩, 5)]
theorem lw_r1 : ∀ q ∈ lw_privs_1, lw_okq q := List.forall_mem_cons.mpr ⟨lw_p0, List.forall_mem_cons.mpr ⟨lw_p1, List.forall_mem_cons.mpr ⟨lw_p2, List.forall_mem_cons.mpr ⟨lw_p3, List.forall_mem_cons.mpr ⟨lw_p4, List.forall_mem_cons.mpr ⟨lw_p5, List.forall_mem_cons.mpr ⟨lw_p6, List.forall_mem_cons.mpr ⟨lw_p7, List.forall_mem_cons.mpr ⟨lw_p8, List.forall_mem_cons.mpr ⟨lw_p9, List.forall_mem_cons.mpr ⟨lw_p10, List.forall_mem_cons.mpr ⟨lw_p11, List.forall_mem_cons.mpr ⟨lw_p12, List.forall_mem_cons.mpr ⟨lw_p13, List.forall_mem_cons.mpr ⟨lw_p14, List.forall_mem_cons.mpr ⟨lw_p15, fun _ h => absurd h List.not_mem_nil⟩⟩⟩⟩⟩⟩⟩⟩⟩⟩⟩⟩⟩⟩⟩⟩
theorem lw_p16 : lw_okq (⟨"WantedTypes$Reader", "readTypes", "()Z"⟩, 5) := ⟨⟨by decide +kernel, by decide +kernel⟩, List.mem_of_getElem? (i := 132) (by decide +kernel), List.mem_of_getElem? (i := 416) (by decide +kernel), List.mem_of_getElem? (i := 417) (by decide +kernel)⟩
theorem lw_p17 : lw_okq (⟨"WantedTypes$World", "seeAbove", "()V"⟩, 11) := ⟨⟨by decide +kernel, by decide +kernel⟩, List.mem_of_getElem? (i := 23) (by decide +kernel), List.mem_of_getElem? (i := 420) (by decide +kernel), List.mem_of_getElem? (i := 421) (by decide +kernel)⟩
theorem lw_p18 : lw_okq (⟨"WantedTypes$Reader", "readMembers", "()Z"⟩, 5) := ⟨⟨by decide +kernel, by decide +kernel⟩, List.mem_of_getElem? (i := 132) (by decide +kernel), List.mem_of_getElem? (i := 424) (by decide +kernel), List.mem_of_getElem? (i := 425) (by decide +kernel)⟩
theorem lw_p19 : lw_okq (⟨"WantedTypes$Reader", "readMember", "(I)Z"⟩, 5) := ⟨⟨by decide +kernel, by decide +kernel⟩, List.mem_of_getElem? (i := 132) (by decide +kernel), List.mem_of_getElem? (i := 428) (by decide +kernel), List.mem_of_getElem? (i := 429) (by decide +kernel)⟩
theorem lw_p20 : lw_okq (⟨"WantedTypes$Reader", "readTaken", "(I)Z"⟩, 5) := ⟨⟨by decide +kernel, by decide +kernel⟩, List.mem_of_getElem? (i := 132) (by decide +kernel), List.mem_of_getElem? (i := 435) (by decide +kernel), List.mem_of_getElem? (i := 436) (by decide +kernel)⟩
theorem lw_p21 : lw_okq (⟨"WantedTypes$Reader", "emptyTape", "()V"⟩, 5) := ⟨⟨by decide +kernel, by decide +kernel⟩, List.mem_of_getElem? (i := 132) (by decide +kernel), List.mem_of_getElem? (i := 439) (by decide +kernel), List.mem_of_getElem? (i := 440) (by decide +kernel)⟩
theorem lw_p22 : lw_okq (⟨"WantedTypes", "standAs", "(LWantedTypes$World;)V"⟩, 11) := ⟨⟨by decide +kernel, by decide +kernel⟩, List.mem_of_getElem? (i := 15) (by decide +kernel), List.mem_of_getElem? (i := 444) (by decide +kernel), List.mem_of_getElem? (i := 445) (by decide +kernel)⟩
theorem lw_p23 : lw_okq (⟨"WantedTypes$World", "become", "(LWantedTypes$World;)V"⟩, 11) := ⟨⟨by decide +kernel, by decide +kernel⟩, List.mem_of_getElem? (i := 23) (by decide +kernel), List.mem_of_getElem? (i := 448) (by decide +kernel), List.mem_of_getElem? (i := 449) (by decide +kernel)⟩
theorem lw_p24 : lw_okq (⟨"WantedTypes$World", "hasMember", "(I)Z"⟩, 11) := ⟨⟨by decide +kernel, by decide +kernel⟩, List.mem_of_getElem? (i := 23) (by decide +kernel), List.mem_of_getElem? (i := 461) (by decide +kernel), List.mem_of_getElem? (i := 462) (by decide +kernel)⟩
theorem lw_p25 : lw_okq (⟨"WantedTypes$World", "isHidden", "(I)Z"⟩, 11) := ⟨⟨by decide +kernel, by decide +kernel⟩, List.mem_of_getElem? (i := 23) (by decide +kernel), List.mem_of_getElem? (i := 465) (by decide +kernel), List.mem_of_getElem? (i := 466) (by decide +kernel)⟩
theorem lw_p26 : lw_okq (⟨"WantedTypes$Acts", "keep", "(III)V"⟩, 4) := ⟨⟨by decide +kernel, by decide +kernel⟩, List.mem_of_getElem? (i := 160) (by decide +kernel), List.mem_of_getElem? (i := 470) (by decide +kernel), List.mem_of_getElem? (i := 471) (by decide +kernel)⟩
theorem lw_p27 : lw_okq (⟨"WantedTypes$Acts", "forgetOldest", "()V"⟩, 4) := ⟨⟨by decide +kernel, by decide +kernel⟩, List.mem_of_getElem? (i := 160) (by decide +kernel), List.mem_of_getElem? (i := 474) (by decide +kernel), List.mem_of_getElem? (i := 475) (by decide +kernel)⟩
theorem lw_p28 : lw_okq (⟨"WantedTypes", "change", "(III)V"⟩, 11) := ⟨⟨by decide +kernel, by decide +kernel⟩, List.mem_of_getElem? (i := 15) (by decide +kernel), List.mem_of_getElem? (i := 479) (by decide +kernel), List.mem_of_getElem? (i := 480) (by decide +kernel)⟩
theorem lw_p29 : lw_okq (⟨"WantedTypes$World", "putHidden", "(II)V"⟩, 11) := ⟨⟨by decide +kernel, by decide +kernel⟩, List.mem_of_getElem? (i := 23) (by decide +kernel), List.mem_of_getElem? (i := 483) (by decide +kernel), List.mem_of_getElem? (i := 484) (by decide +kernel)⟩
theorem lw_p30 : lw_okq (⟨"WantedTypes$World", "hasType", "(I)Z"⟩, 11) := ⟨⟨by decide +kernel, by decide +kernel⟩, List.mem_of_getElem? (i := 23) (by decide +kernel), List.mem_of_getElem? (i := 496) (by decide +kernel), List.mem_of_getElem? (i := 497) (by decide +kernel)⟩
theorem lw_p31 : lw_okq (⟨"WantedTypes$World", "priceOf", "(I)I"⟩, 11) := ⟨⟨by decide +kernel, by decide +kernel⟩, List.mem_of_getElem? (i := 23) (by decide +kernel), List.mem_of_getElem? (i := 508) (by decide +kernel), List.mem_of_getElem? (i := 509) (by decide +kernel)⟩
def lw_privs_2 : List (MethodName × Nat) := [(⟨"WantedTypes$Reader", "readTypes", "()Z"⟩, 5), (⟨"WantedTypes$World", "seeAbove", "()V"⟩, 11), (⟨"WantedTypes$Reader", "readMembers", "()Z"⟩, 5), (⟨"WantedTypes$Reader", "readMember", "(I)Z"⟩, 5), (⟨"WantedTypes$Reader", "readTaken", "(I)Z"⟩, 5), (⟨"WantedTypes$Reader", "emptyTape", "()V"⟩, 5), (⟨"WantedTypes", "standAs", "(LWantedTypes$World;)V"⟩, 11), (⟨"WantedTypes$World", "become", "(LWantedTypes$World;)V"⟩, 11), (⟨"WantedTypes$World", "hasMember", "(I)Z"⟩, 11), (⟨"WantedTypes$World", "isHidden", "(I)Z"⟩, 11), (⟨"WantedTypes$Acts", "keep", "(III)V"⟩, 4), (⟨"WantedTypes$Acts", "forgetOldest", "()V"⟩, 4), (⟨"WantedTypes", "change", "(III)V"⟩, 11), (⟨"WantedTypes$World", "putHidden", "(II)V"⟩, 11), (⟨"WantedTypes$World", "hasType", "(I)Z"⟩, 11), (⟨"WantedTypes$World", "priceOf", "(I)I"⟩, 11)]
theorem lw_r2 : ∀ q ∈ lw_privs_2, lw_okq q := List.forall_mem_cons.mpr ⟨lw_p16, List.forall_mem_cons.mpr ⟨lw_p17, List.forall_mem_cons.mpr ⟨lw_p18, List.forall_mem_cons.mpr ⟨lw_p19, List.forall_mem_cons.mpr ⟨lw_p20, List.forall_mem_cons.mpr ⟨lw_p21, List.forall_mem_cons.mpr ⟨lw_p22, List.forall_mem_cons.mpr ⟨lw_p23, List.forall_mem_cons.mpr ⟨lw_p24, List.forall_mem_cons.mpr ⟨lw_p25, List.forall_mem_cons.mpr ⟨lw_p26, List.forall_mem_cons.mpr ⟨lw_p27, List.forall_mem_cons.mpr ⟨lw_p28, List.forall_mem_cons.mpr ⟨lw_p29, List.forall_mem_cons.mpr ⟨lw_p30, List.forall_mem_cons.mpr ⟨lw_p31, fun _ h => absurd h List.not_mem_nil⟩⟩⟩⟩⟩⟩⟩⟩⟩⟩⟩⟩⟩⟩⟩⟩
theorem lw_p32 : lw_okq (⟨"WantedTypes$World", "typesOf", "(I)I"⟩, 11) := ⟨⟨by decide +kernel, by decide +kernel⟩, List.mem_of_getElem? (i := 23) (by decide +kernel), List.mem_of_getElem? (i := 517) (by decide +kernel), List.mem_of_getElem? (i := 518) (by decide +kernel)⟩
theorem lw_p33 : lw_okq (⟨"WantedTypes$World", "isOf", "(II)Z"⟩, 11) := ⟨⟨by decide +kernel, by decide +kernel⟩, List.mem_of_getElem? (i := 23) (by decide +kernel), List.mem_of_getElem? (i := 521) (by decide +kernel), List.mem_of_getElem? (i := 522) (by decide +kernel)⟩
theorem lw_p34 : lw_okq (⟨"WantedTypes$World", "membersOf", "(I)I"⟩, 11) := ⟨⟨by decide +kernel, by decide +kernel⟩, List.mem_of_getElem? (i := 23) (by decide +kernel), List.mem_of_getElem? (i := 525) (by decide +kernel), List.mem_of_getElem? (i := 526) (by decide +kernel)⟩
theorem lw_p35 : lw_okq (⟨"WantedTypes$World", "givesOne", "(II)Z"⟩, 11) := ⟨⟨by decide +kernel, by decide +kernel⟩, List.mem_of_getElem? (i := 23) (by decide +kernel), List.mem_of_getElem? (i := 529) (by decide +kernel), List.mem_of_getElem? (i := 530) (by decide +kernel)⟩
theorem lw_p36 : lw_okq (⟨"WantedTypes$Lists", "manyOfPrice", "(II)I"⟩, 9) := ⟨⟨by decide +kernel, by decide +kernel⟩, List.mem_of_getElem? (i := 196) (by decide +kernel), List.mem_of_getElem? (i := 537) (by decide +kernel), List.mem_of_getElem? (i := 538) (by decide +kernel)⟩
theorem lw_p37 : lw_okq (⟨"WantedTypes$Lists", "countAll", "()V"⟩, 9) := ⟨⟨by decide +kernel, by decide +kernel⟩, List.mem_of_getElem? (i := 196) (by decide +kernel), List.mem_of_getElem? (i := 541) (by decide +kernel), List.mem_of_getElem? (i := 542) (by decide +kernel)⟩
theorem lw_p38 : lw_okq (⟨"WantedTypes$Lists", "countPrice", "(I)V"⟩, 9) := ⟨⟨by decide +kernel, by decide +kernel⟩, List.mem_of_getElem? (i := 196) (by decide +kernel), List.mem_of_getElem? (i := 545) (by decide +kernel), List.mem_of_getElem? (i := 546) (by decide +kernel)⟩
theorem lw_p39 : lw_okq (⟨"WantedTypes$Lists", "manyWith", "(II)J"⟩, 9) := ⟨⟨by decide +kernel, by decide +kernel⟩, List.mem_of_getElem? (i := 196) (by decide +kernel), List.mem_of_getElem? (i := 550) (by decide +kernel), List.mem_of_getElem? (i := 551) (by decide +kernel)⟩
theorem lw_p40 : lw_okq (⟨"WantedTypes$Lists", "addTo", "(IIJ)V"⟩, 9) := ⟨⟨by decide +kernel, by decide +kernel⟩, List.mem_of_getElem? (i := 196) (by decide +kernel), List.mem_of_getElem? (i := 562) (by decide +kernel), List.mem_of_getElem? (i := 563) (by decide +kernel)⟩
theorem lw_p41 : lw_okq (⟨"WantedTypes$Reach", "leastListed", "(II)I"⟩, 2) := ⟨⟨by decide +kernel, by decide +kernel⟩, List.mem_of_getElem? (i := 183) (by decide +kernel), List.mem_of_getElem? (i := 571) (by decide +kernel), List.mem_of_getElem? (i := 572) (by decide +kernel)⟩
theorem lw_p42 : lw_okq (⟨"WantedTypes$Reach", "seek", "(I)V"⟩, 2) := ⟨⟨by decide +kernel, by decide +kernel⟩, List.mem_of_getElem? (i := 183) (by decide +kernel), List.mem_of_getElem? (i := 575) (by decide +kernel), List.mem_of_getElem? (i := 576) (by decide +kernel)⟩
theorem lw_p43 : lw_okq (⟨"WantedTypes$Reach", "leastWith", "(I)I"⟩, 2) := ⟨⟨by decide +kernel, by decide +kernel⟩, List.mem_of_getElem? (i := 183) (by decide +kernel), List.mem_of_getElem? (i := 581) (by decide +kernel), List.mem_of_getElem? (i := 582) (by decide +kernel)⟩
theorem lw_p44 : lw_okq (⟨"WantedTypes$Reach", "lower", "(II)Z"⟩, 2) := ⟨⟨by decide +kernel, by decide +kernel⟩, List.mem_of_getElem? (i := 183) (by decide +kernel), List.mem_of_getElem? (i := 586) (by decide +kernel), List.mem_of_getElem? (i := 587) (by decide +kernel)⟩
theorem lw_p45 : lw_okq (⟨"WantedTypes$Lists", "findPlace", "(II)I"⟩, 9) := ⟨⟨by decide +kernel, by decide +kernel⟩, List.mem_of_getElem? (i := 196) (by decide +kernel), List.mem_of_getElem? (i := 596) (by decide +kernel), List.mem_of_getElem? (i := 597) (by decide +kernel)⟩
theorem lw_p46 : lw_okq (⟨"WantedTypes$Lists", "spell", "(II)I"⟩, 9) := ⟨⟨by decide +kernel, by decide +kernel⟩, List.mem_of_getElem? (i := 196) (by decide +kernel), List.mem_of_getElem? (i := 601) (by decide +kernel), List.mem_of_getElem? (i := 602) (by decide +kernel)⟩
theorem lw_p47 : lw_okq (⟨"WantedTypes$Lists", "want", "(I)V"⟩, 9) := ⟨⟨by decide +kernel, by decide +kernel⟩, List.mem_of_getElem? (i := 196) (by decide +kernel), List.mem_of_getElem? (i := 605) (by decide +kernel), List.mem_of_getElem? (i := 606) (by decide +kernel)⟩
def lw_privs_3 : List (MethodName × Nat) := [(⟨"WantedTypes$World", "typesOf", "(I)I"⟩, 11), (⟨"WantedTypes$World", "isOf", "(II)Z"⟩, 11), (⟨"WantedTypes$World", "membersOf", "(I)I"⟩, 11), (⟨"WantedTypes$World", "givesOne", "(II)Z"⟩, 11), (⟨"WantedTypes$Lists", "manyOfPrice", "(II)I"⟩, 9), (⟨"WantedTypes$Lists", "countAll", "()V"⟩, 9), (⟨"WantedTypes$Lists", "countPrice", "(I)V"⟩, 9), (⟨"WantedTypes$Lists", "manyWith", "(II)J"⟩, 9), (⟨"WantedTypes$Lists", "addTo", "(IIJ)V"⟩, 9), (⟨"WantedTypes$Reach", "leastListed", "(II)I"⟩, 2), (⟨"WantedTypes$Reach", "seek", "(I)V"⟩, 2), (⟨"WantedTypes$Reach", "leastWith", "(I)I"⟩, 2), (⟨"WantedTypes$Reach", "lower", "(II)Z"⟩, 2), (⟨"WantedTypes$Lists", "findPlace", "(II)I"⟩, 9), (⟨"WantedTypes$Lists", "spell", "(II)I"⟩, 9), (⟨"WantedTypes$Lists", "want", "(I)V"⟩, 9)]
theorem lw_r3 : ∀ q ∈ lw_privs_3, lw_okq q := List.forall_mem_cons.mpr ⟨lw_p32, List.forall_mem_cons.mpr ⟨lw_p33, List.forall_mem_cons.mpr ⟨lw_p34, List.forall_mem_cons.mpr ⟨lw_p35, List.forall_mem_cons.mpr ⟨lw_p36, List.forall_mem_cons.mpr ⟨lw_p37, List.forall_mem_cons.mpr ⟨lw_p38, List.forall_mem_cons.mpr ⟨lw_p39, List.forall_mem_cons.mpr ⟨lw_p40, List.forall_mem_cons.mpr ⟨lw_p41, List.forall_mem_cons.mpr ⟨lw_p42, List.forall_mem_cons.mpr ⟨lw_p43, List.forall_mem_cons.mpr ⟨lw_p44, List.forall_mem_cons.mpr ⟨lw_p45, List.forall_mem_cons.mpr ⟨lw_p46, List.forall_mem_cons.mpr ⟨lw_p47, fun _ h => absurd h List.not_mem_nil⟩⟩⟩⟩⟩⟩⟩⟩⟩⟩⟩⟩⟩⟩⟩⟩
theorem lw_p48 : lw_okq (⟨"WantedTypes$Lists", "choose", "(II)I"⟩, 9) := ⟨⟨by decide +kernel, by decide +kernel⟩, List.mem_of_getElem? (i := 196) (by decide +kernel), List.mem_of_getElem? (i := 609) (by decide +kernel), List.mem_of_getElem? (i := 610) (by decide +kernel)⟩
theorem lw_p49 : lw_okq (⟨"WantedTypes$Lists", "waysWith", "(III)J"⟩, 9) := ⟨⟨by decide +kernel, by decide +kernel⟩, List.mem_of_getElem? (i := 196) (by decide +kernel), List.mem_of_getElem? (i := 613) (by decide +kernel), List.mem_of_getElem? (i := 614) (by decide +kernel)⟩
theorem lw_p50 : lw_okq (⟨"WantedTypes$Lists", "wantTaken", "(II)V"⟩, 9) := ⟨⟨by decide +kernel, by decide +kernel⟩, List.mem_of_getElem? (i := 196) (by decide +kernel), List.mem_of_getElem? (i := 618) (by decide +kernel), List.mem_of_getElem? (i := 619) (by decide +kernel)⟩
theorem lw_p51 : lw_okq (⟨"WantedTypes$Lists", "fillRest", "(I)V"⟩, 9) := ⟨⟨by decide +kernel, by decide +kernel⟩, List.mem_of_getElem? (i := 196) (by decide +kernel), List.mem_of_getElem? (i := 622) (by decide +kernel), List.mem_of_getElem? (i := 623) (by decide +kernel)⟩
theorem lw_p52 : lw_okq (⟨"WantedTypes$Words", "take", "(III)I"⟩, 5) := ⟨⟨by decide +kernel, by decide +kernel⟩, List.mem_of_getElem? (i := 235) (by decide +kernel), List.mem_of_getElem? (i := 633) (by decide +kernel), List.mem_of_getElem? (i := 634) (by decide +kernel)⟩
theorem lw_p53 : lw_okq (⟨"WantedTypes$Words", "isWhole", "()Z"⟩, 5) := ⟨⟨by decide +kernel, by decide +kernel⟩, List.mem_of_getElem? (i := 235) (by decide +kernel), List.mem_of_getElem? (i := 640) (by decide +kernel), List.mem_of_getElem? (i := 641) (by decide +kernel)⟩
theorem lw_p54 : lw_okq (⟨"WantedTypes$Words", "fits", "(II)Z"⟩, 5) := ⟨⟨by decide +kernel, by decide +kernel⟩, List.mem_of_getElem? (i := 235) (by decide +kernel), List.mem_of_getElem? (i := 644) (by decide +kernel), List.mem_of_getElem? (i := 645) (by decide +kernel)⟩
theorem lw_p55 : lw_okq (⟨"WantedTypes$Words", "wantTaken", "(II)I"⟩, 5) := ⟨⟨by decide +kernel, by decide +kernel⟩, List.mem_of_getElem? (i := 235) (by decide +kernel), List.mem_of_getElem? (i := 652) (by decide +kernel), List.mem_of_getElem? (i := 653) (by decide +kernel)⟩
theorem lw_p56 : lw_okq (⟨"WantedTypes$Words", "given", "()I"⟩, 5) := ⟨⟨by decide +kernel, by decide +kernel⟩, List.mem_of_getElem? (i := 235) (by decide +kernel), List.mem_of_getElem? (i := 656) (by decide +kernel), List.mem_of_getElem? (i := 657) (by decide +kernel)⟩
theorem lw_p57 : lw_okq (⟨"WantedTypes$Words", "priceTogether", "()I"⟩, 5) := ⟨⟨by decide +kernel, by decide +kernel⟩, List.mem_of_getElem? (i := 235) (by decide +kernel), List.mem_of_getElem? (i := 660) (by decide +kernel), List.mem_of_getElem? (i := 661) (by decide +kernel)⟩
theorem lw_p58 : lw_okq (⟨"WantedTypes$Lists", "placeOf", "(I[III)I"⟩, 9) := ⟨⟨by decide +kernel, by decide +kernel⟩, List.mem_of_getElem? (i := 196) (by decide +kernel), List.mem_of_getElem? (i := 670) (by decide +kernel), List.mem_of_getElem? (i := 671) (by decide +kernel)⟩
theorem lw_p59 : lw_okq (⟨"WantedTypes$Lists", "manyBelow", "(II)J"⟩, 9) := ⟨⟨by decide +kernel, by decide +kernel⟩, List.mem_of_getElem? (i := 196) (by decide +kernel), List.mem_of_getElem? (i := 674) (by decide +kernel), List.mem_of_getElem? (i := 675) (by decide +kernel)⟩
theorem lw_p60 : lw_okq (⟨"WantedTypes$Reach", "typesHad", "(I)I"⟩, 2) := ⟨⟨by decide +kernel, by decide +kernel⟩, List.mem_of_getElem? (i := 183) (by decide +kernel), List.mem_of_getElem? (i := 682) (by decide +kernel), List.mem_of_getElem? (i := 683) (by decide +kernel)⟩
theorem lw_p61 : lw_okq (⟨"WantedTypes$Reach", "membersNeeded", "(I)I"⟩, 2) := ⟨⟨by decide +kernel, by decide +kernel⟩, List.mem_of_getElem? (i := 183) (by decide +kernel), List.mem_of_getElem? (i := 690) (by decide +kernel), List.mem_of_getElem? (i := 691) (by decide +kernel)⟩
theorem lw_p62 : lw_okq (⟨"WantedTypes$World", "shareOf", "(II)I"⟩, 11) := ⟨⟨by decide +kernel, by decide +kernel⟩, List.mem_of_getElem? (i := 23) (by decide +kernel), List.mem_of_getElem? (i := 703) (by decide +kernel), List.mem_of_getElem? (i := 704) (by decide +kernel)⟩
theorem lw_p63 : lw_okq (⟨"WantedTypes$World", "pricesShown", "()I"⟩, 11) := ⟨⟨by decide +kernel, by decide +kernel⟩, List.mem_of_getElem? (i := 23) (by decide +kernel), List.mem_of_getElem? (i := 707) (by decide +kernel), List.mem_of_getElem? (i := 708) (by decide +kernel)⟩
def lw_privs_4 : List (MethodName × Nat) := [(⟨"WantedTypes$Lists", "choose", "(II)I"⟩, 9), (⟨"WantedTypes$Lists", "waysWith", "(III)J"⟩, 9), (⟨"WantedTypes$Lists", "wantTaken", "(II)V"⟩, 9), (⟨"WantedTypes$Lists", "fillRest", "(I)V"⟩, 9), (⟨"WantedTypes$Words", "take", "(III)I"⟩, 5), (⟨"WantedTypes$Words", "isWhole", "()Z"⟩, 5), (⟨"WantedTypes$Words", "fits", "(II)Z"⟩, 5), (⟨"WantedTypes$Words", "wantTaken", "(II)I"⟩, 5), (⟨"WantedTypes$Words", "given", "()I"⟩, 5), (⟨"WantedTypes$Words", "priceTogether", "()I"⟩, 5), (⟨"WantedTypes$Lists", "placeOf", "(I[III)I"⟩, 9), (⟨"WantedTypes$Lists", "manyBelow", "(II)J"⟩, 9), (⟨"WantedTypes$Reach", "typesHad", "(I)I"⟩, 2), (⟨"WantedTypes$Reach", "membersNeeded", "(I)I"⟩, 2), (⟨"WantedTypes$World", "shareOf", "(II)I"⟩, 11), (⟨"WantedTypes$World", "pricesShown", "()I"⟩, 11)]
theorem lw_r4 : ∀ q ∈ lw_privs_4, lw_okq q := List.forall_mem_cons.mpr ⟨lw_p48, List.forall_mem_cons.mpr ⟨lw_p49, List.forall_mem_cons.mpr ⟨lw_p50, List.forall_mem_cons.mpr ⟨lw_p51, List.forall_mem_cons.mpr ⟨lw_p52, List.forall_mem_cons.mpr ⟨lw_p53, List.forall_mem_cons.mpr ⟨lw_p54, List.forall_mem_cons.mpr ⟨lw_p55, List.forall_mem_cons.mpr ⟨lw_p56, List.forall_mem_cons.mpr ⟨lw_p57, List.forall_mem_cons.mpr ⟨lw_p58, List.forall_mem_cons.mpr ⟨lw_p59, List.forall_mem_cons.mpr ⟨lw_p60, List.forall_mem_cons.mpr ⟨lw_p61, List.forall_mem_cons.mpr ⟨lw_p62, List.forall_mem_cons.mpr ⟨lw_p63, fun _ h => absurd h List.not_mem_nil⟩⟩⟩⟩⟩⟩⟩⟩⟩⟩⟩⟩⟩⟩⟩⟩
theorem lw_p64 : lw_okq (⟨"WantedTypes$Lists", "size", "(I)I"⟩, 9) := ⟨⟨by decide +kernel, by decide +kernel⟩, List.mem_of_getElem? (i := 196) (by decide +kernel), List.mem_of_getElem? (i := 718) (by decide +kernel), List.mem_of_getElem? (i := 719) (by decide +kernel)⟩
theorem lw_p65 : lw_okq (⟨"WantedTypes$World", "isKind", "(II)Z"⟩, 11) := ⟨⟨by decide +kernel, by decide +kernel⟩, List.mem_of_getElem? (i := 23) (by decide +kernel), List.mem_of_getElem? (i := 740) (by decide +kernel), List.mem_of_getElem? (i := 741) (by decide +kernel)⟩
theorem lw_p66 : lw_okq (⟨"WantedTypes$Asks", "sizeOf", "(I)I"⟩, 3) := ⟨⟨by decide +kernel, by decide +kernel⟩, List.mem_of_getElem? (i := 258) (by decide +kernel), List.mem_of_getElem? (i := 748) (by decide +kernel), List.mem_of_getElem? (i := 749) (by decide +kernel)⟩
theorem lw_p67 : lw_okq (⟨"WantedTypes$Asks", "sizeOfCall", "(I)I"⟩, 3) := ⟨⟨by decide +kernel, by decide +kernel⟩, List.mem_of_getElem? (i := 258) (by decide +kernel), List.mem_of_getElem? (i := 753) (by decide +kernel), List.mem_of_getElem? (i := 754) (by decide +kernel)⟩
theorem lw_p68 : lw_okq (⟨"WantedTypes$Asks", "body14", "(I)I"⟩, 3) := ⟨⟨by decide +kernel, by decide +kernel⟩, List.mem_of_getElem? (i := 258) (by decide +kernel), List.mem_of_getElem? (i := 757) (by decide +kernel), List.mem_of_getElem? (i := 758) (by decide +kernel)⟩
theorem lw_p69 : lw_okq (⟨"WantedTypes$Asks", "begin", "(I)V"⟩, 3) := ⟨⟨by decide +kernel, by decide +kernel⟩, List.mem_of_getElem? (i := 258) (by decide +kernel), List.mem_of_getElem? (i := 761) (by decide +kernel), List.mem_of_getElem? (i := 762) (by decide +kernel)⟩
theorem lw_p70 : lw_okq (⟨"WantedTypes$Asks", "body13", "(I)I"⟩, 3) := ⟨⟨by decide +kernel, by decide +kernel⟩, List.mem_of_getElem? (i := 258) (by decide +kernel), List.mem_of_getElem? (i := 765) (by decide +kernel), List.mem_of_getElem? (i := 766) (by decide +kernel)⟩
theorem lw_p71 : lw_okq (⟨"WantedTypes$Asks", "body10", "(I)I"⟩, 3) := ⟨⟨by decide +kernel, by decide +kernel⟩, List.mem_of_getElem? (i := 258) (by decide +kernel), List.mem_of_getElem? (i := 769) (by decide +kernel), List.mem_of_getElem? (i := 770) (by decide +kernel)⟩
theorem lw_p72 : lw_okq (⟨"WantedTypes$Asks", "sizeOfLocal", "(I)I"⟩, 3) := ⟨⟨by decide +kernel, by decide +kernel⟩, List.mem_of_getElem? (i := 258) (by decide +kernel), List.mem_of_getElem? (i := 773) (by decide +kernel), List.mem_of_getElem? (i := 774) (by decide +kernel)⟩
theorem lw_p73 : lw_okq (⟨"WantedTypes$Asks", "body12", "(I)I"⟩, 3) := ⟨⟨by decide +kernel, by decide +kernel⟩, List.mem_of_getElem? (i := 258) (by decide +kernel), List.mem_of_getElem? (i := 777) (by decide +kernel), List.mem_of_getElem? (i := 778) (by decide +kernel)⟩
theorem lw_p74 : lw_okq (⟨"WantedTypes$Asks", "body11", "(I)I"⟩, 3) := ⟨⟨by decide +kernel, by decide +kernel⟩, List.mem_of_getElem? (i := 258) (by decide +kernel), List.mem_of_getElem? (i := 781) (by decide +kernel), List.mem_of_getElem? (i := 782) (by decide +kernel)⟩
theorem lw_p75 : lw_okq (⟨"WantedTypes$Asks", "markOfLocal", "(I)I"⟩, 3) := ⟨⟨by decide +kernel, by decide +kernel⟩, List.mem_of_getElem? (i := 258) (by decide +kernel), List.mem_of_getElem? (i := 785) (by decide +kernel), List.mem_of_getElem? (i := 786) (by decide +kernel)⟩
theorem lw_p76 : lw_okq (⟨"WantedTypes$Asks", "body24", "(I)I"⟩, 3) := ⟨⟨by decide +kernel, by decide +kernel⟩, List.mem_of_getElem? (i := 258) (by decide +kernel), List.mem_of_getElem? (i := 789) (by decide +kernel), List.mem_of_getElem? (i := 790) (by decide +kernel)⟩
theorem lw_p77 : lw_okq (⟨"WantedTypes$Asks", "body21", "(I)I"⟩, 3) := ⟨⟨by decide +kernel, by decide +kernel⟩, List.mem_of_getElem? (i := 258) (by decide +kernel), List.mem_of_getElem? (i := 793) (by decide +kernel), List.mem_of_getElem? (i := 794) (by decide +kernel)⟩
theorem lw_p78 : lw_okq (⟨"WantedTypes$Asks", "body20", "(I)I"⟩, 3) := ⟨⟨by decide +kernel, by decide +kernel⟩, List.mem_of_getElem? (i := 258) (by decide +kernel), List.mem_of_getElem? (i := 797) (by decide +kernel), List.mem_of_getElem? (i := 798) (by decide +kernel)⟩
theorem lw_p79 : lw_okq (⟨"WantedTypes$Asks", "body22", "(I)I"⟩, 3) := ⟨⟨by decide +kernel, by decide +kernel⟩, List.mem_of_getElem? (i := 258) (by decide +kernel), List.mem_of_getElem? (i := 801) (by decide +kernel), List.mem_of_getElem? (i := 802) (by decide +kernel)⟩
def lw_privs_5 : List (MethodName × Nat) := [(⟨"WantedTypes$Lists", "size", "(I)I"⟩, 9), (⟨"WantedTypes$World", "isKind", "(II)Z"⟩, 11), (⟨"WantedTypes$Asks", "sizeOf", "(I)I"⟩, 3), (⟨"WantedTypes$Asks", "sizeOfCall", "(I)I"⟩, 3), (⟨"WantedTypes$Asks", "body14", "(I)I"⟩, 3), (⟨"WantedTypes$Asks", "begin", "(I)V"⟩, 3), (⟨"WantedTypes$Asks", "body13", "(I)I"⟩, 3), (⟨"WantedTypes$Asks", "body10", "(I)I"⟩, 3), (⟨"WantedTypes$Asks", "sizeOfLocal", "(I)I"⟩, 3), (⟨"WantedTypes$Asks", "body12", "(I)I"⟩, 3), (⟨"WantedTypes$Asks", "body11", "(I)I"⟩, 3), (⟨"WantedTypes$Asks", "markOfLocal", "(I)I"⟩, 3), (⟨"WantedTypes$Asks", "body24", "(I)I"⟩, 3), (⟨"WantedTypes$Asks", "body21", "(I)I"⟩, 3), (⟨"WantedTypes$Asks", "body20", "(I)I"⟩, 3), (⟨"WantedTypes$Asks", "body22", "(I)I"⟩, 3)]
theorem lw_r5 : ∀ q ∈ lw_privs_5, lw_okq q := List.forall_mem_cons.mpr ⟨lw_p64, List.forall_mem_cons.mpr ⟨lw_p65, List.forall_mem_cons.mpr ⟨lw_p66, List.forall_mem_cons.mpr ⟨lw_p67, List.forall_mem_cons.mpr ⟨lw_p68, List.forall_mem_cons.mpr ⟨lw_p69, List.forall_mem_cons.mpr ⟨lw_p70, List.forall_mem_cons.mpr ⟨lw_p71, List.forall_mem_cons.mpr ⟨lw_p72, List.forall_mem_cons.mpr ⟨lw_p73, List.forall_mem_cons.mpr ⟨lw_p74, List.forall_mem_cons.mpr ⟨lw_p75, List.forall_mem_cons.mpr ⟨lw_p76, List.forall_mem_cons.mpr ⟨lw_p77, List.forall_mem_cons.mpr ⟨lw_p78, List.forall_mem_cons.mpr ⟨lw_p79, fun _ h => absurd h List.not_mem_nil⟩⟩⟩⟩⟩⟩⟩⟩⟩⟩⟩⟩⟩⟩⟩⟩
theorem lw_p80 : lw_okq (⟨"WantedTypes$Asks", "markOf", "(I)I"⟩, 3) := ⟨⟨by decide +kernel, by decide +kernel⟩, List.mem_of_getElem? (i := 258) (by decide +kernel), List.mem_of_getElem? (i := 805) (by decide +kernel), List.mem_of_getElem? (i := 806) (by decide +kernel)⟩
theorem lw_p81 : lw_okq (⟨"WantedTypes$Asks", "body23", "(I)I"⟩, 3) := ⟨⟨by decide +kernel, by decide +kernel⟩, List.mem_of_getElem? (i := 258) (by decide +kernel), List.mem_of_getElem? (i := 809) (by decide +kernel), List.mem_of_getElem? (i := 810) (by decide +kernel)⟩
theorem lw_p82 : lw_okq (⟨"WantedTypes$Rows", "present", "()I"⟩, 3) := ⟨⟨by decide +kernel, by decide +kernel⟩, List.mem_of_getElem? (i := 108) (by decide +kernel), List.mem_of_getElem? (i := 821) (by decide +kernel), List.mem_of_getElem? (i := 822) (by decide +kernel)⟩
theorem lw_p83 : lw_okq (⟨"WantedTypesModel", "finds", "(I)I"⟩, 23) := ⟨⟨by decide +kernel, by decide +kernel⟩, List.mem_of_getElem? (i := 830) (by decide +kernel), List.mem_of_getElem? (i := 920) (by decide +kernel), List.mem_of_getElem? (i := 921) (by decide +kernel)⟩
theorem lw_p84 : lw_okq (⟨"WantedTypesModel", "against", "(III)I"⟩, 23) := ⟨⟨by decide +kernel, by decide +kernel⟩, List.mem_of_getElem? (i := 830) (by decide +kernel), List.mem_of_getElem? (i := 929) (by decide +kernel), List.mem_of_getElem? (i := 930) (by decide +kernel)⟩
theorem lw_p85 : lw_okq (⟨"WantedTypesModel", "takesAll", "()Z"⟩, 23) := ⟨⟨by decide +kernel, by decide +kernel⟩, List.mem_of_getElem? (i := 830) (by decide +kernel), List.mem_of_getElem? (i := 951) (by decide +kernel), List.mem_of_getElem? (i := 952) (by decide +kernel)⟩
theorem lw_p86 : lw_okq (⟨"WantedTypesModel", "takesLaw", "()Z"⟩, 23) := ⟨⟨by decide +kernel, by decide +kernel⟩, List.mem_of_getElem? (i := 830) (by decide +kernel), List.mem_of_getElem? (i := 955) (by decide +kernel), List.mem_of_getElem? (i := 956) (by decide +kernel)⟩
theorem lw_p87 : lw_okq (⟨"WantedTypesModel", "takes", "(I)Z"⟩, 23) := ⟨⟨by decide +kernel, by decide +kernel⟩, List.mem_of_getElem? (i := 830) (by decide +kernel), List.mem_of_getElem? (i := 959) (by decide +kernel), List.mem_of_getElem? (i := 960) (by decide +kernel)⟩
theorem lw_p88 : lw_okq (⟨"WantedTypesModel", "here", "()I"⟩, 23) := ⟨⟨by decide +kernel, by decide +kernel⟩, List.mem_of_getElem? (i := 830) (by decide +kernel), List.mem_of_getElem? (i := 963) (by decide +kernel), List.mem_of_getElem? (i := 964) (by decide +kernel)⟩
theorem lw_p89 : lw_okq (⟨"WantedTypesModel", "fails", "(II)Z"⟩, 23) := ⟨⟨by decide +kernel, by decide +kernel⟩, List.mem_of_getElem? (i := 830) (by decide +kernel), List.mem_of_getElem? (i := 967) (by decide +kernel), List.mem_of_getElem? (i := 968) (by decide +kernel)⟩
theorem lw_p90 : lw_okq (⟨"WantedTypesModel", "takesNumber", "(II)Z"⟩, 23) := ⟨⟨by decide +kernel, by decide +kernel⟩, List.mem_of_getElem? (i := 830) (by decide +kernel), List.mem_of_getElem? (i := 971) (by decide +kernel), List.mem_of_getElem? (i := 972) (by decide +kernel)⟩
theorem lw_p91 : lw_okq (⟨"WantedTypesModel", "takesType", "(I)Z"⟩, 23) := ⟨⟨by decide +kernel, by decide +kernel⟩, List.mem_of_getElem? (i := 830) (by decide +kernel), List.mem_of_getElem? (i := 977) (by decide +kernel), List.mem_of_getElem? (i := 978) (by decide +kernel)⟩
theorem lw_p92 : lw_okq (⟨"WantedTypesModel", "takesMember", "()Z"⟩, 23) := ⟨⟨by decide +kernel, by decide +kernel⟩, List.mem_of_getElem? (i := 830) (by decide +kernel), List.mem_of_getElem? (i := 981) (by decide +kernel), List.mem_of_getElem? (i := 982) (by decide +kernel)⟩
theorem lw_p93 : lw_okq (⟨"WantedTypesModel", "copyOf", "(II)V"⟩, 23) := ⟨⟨by decide +kernel, by decide +kernel⟩, List.mem_of_getElem? (i := 830) (by decide +kernel), List.mem_of_getElem? (i := 989) (by decide +kernel), List.mem_of_getElem? (i := 990) (by decide +kernel)⟩
theorem lw_p94 : lw_okq (⟨"WantedTypesModel", "isMember", "(I)Z"⟩, 23) := ⟨⟨by decide +kernel, by decide +kernel⟩, List.mem_of_getElem? (i := 830) (by decide +kernel), List.mem_of_getElem? (i := 1001) (by decide +kernel), List.mem_of_getElem? (i := 1002) (by decide +kernel)⟩
theorem lw_p95 : lw_okq (⟨"WantedTypesModel", "minds", "()V"⟩, 23) := ⟨⟨by decide +kernel, by decide +kernel⟩, List.mem_of_getElem? (i := 830) (by decide +kernel), List.mem_of_getElem? (i := 1006) (by decide +kernel), List.mem_of_getElem? (i := 1007) (by decide +kernel)⟩
def lw_privs_6 : List (MethodName × Nat) := [(⟨"WantedTypes$Asks", "markOf", "(I)I"⟩, 3), (⟨"WantedTypes$Asks", "body23", "(I)I"⟩, 3), (⟨"WantedTypes$Rows", "present", "()I"⟩, 3), (⟨"WantedTypesModel", "finds", "(I)I"⟩, 23), (⟨"WantedTypesModel", "against", "(III)I"⟩, 23), (⟨"WantedTypesModel", "takesAll", "()Z"⟩, 23), (⟨"WantedTypesModel", "takesLaw", "()Z"⟩, 23), (⟨"WantedTypesModel", "takes", "(I)Z"⟩, 23), (⟨"WantedTypesModel", "here", "()I"⟩, 23), (⟨"WantedTypesModel", "fails", "(II)Z"⟩, 23), (⟨"WantedTypesModel", "takesNumber", "(II)Z"⟩, 23), (⟨"WantedTypesModel", "takesType", "(I)Z"⟩, 23), (⟨"WantedTypesModel", "takesMember", "()Z"⟩, 23), (⟨"WantedTypesModel", "copyOf", "(II)V"⟩, 23), (⟨"WantedTypesModel", "isMember", "(I)Z"⟩, 23), (⟨"WantedTypesModel", "minds", "()V"⟩, 23)]
theorem lw_r6 : ∀ q ∈ lw_privs_6, lw_okq q := List.forall_mem_cons.mpr ⟨lw_p80, List.forall_mem_cons.mpr ⟨lw_p81, List.forall_mem_cons.mpr ⟨lw_p82, List.forall_mem_cons.mpr ⟨lw_p83, List.forall_mem_cons.mpr ⟨lw_p84, List.forall_mem_cons.mpr ⟨lw_p85, List.forall_mem_cons.mpr ⟨lw_p86, List.forall_mem_cons.mpr ⟨lw_p87, List.forall_mem_cons.mpr ⟨lw_p88, List.forall_mem_cons.mpr ⟨lw_p89, List.forall_mem_cons.mpr ⟨lw_p90, List.forall_mem_cons.mpr ⟨lw_p91, List.forall_mem_cons.mpr ⟨lw_p92, List.forall_mem_cons.mpr ⟨lw_p93, List.forall_mem_cons.mpr ⟨lw_p94, List.forall_mem_cons.mpr ⟨lw_p95, fun _ h => absurd h List.not_mem_nil⟩⟩⟩⟩⟩⟩⟩⟩⟩⟩⟩⟩⟩⟩⟩⟩
theorem lw_p96 : lw_okq (⟨"WantedTypesModel", "isType", "(I)Z"⟩, 23) := ⟨⟨by decide +kernel, by decide +kernel⟩, List.mem_of_getElem? (i := 830) (by decide +kernel), List.mem_of_getElem? (i := 1019) (by decide +kernel), List.mem_of_getElem? (i := 1020) (by decide +kernel)⟩
theorem lw_p97 : lw_okq (⟨"WantedTypesModel", "priceOf", "(I)I"⟩, 23) := ⟨⟨by decide +kernel, by decide +kernel⟩, List.mem_of_getElem? (i := 830) (by decide +kernel), List.mem_of_getElem? (i := 1031) (by decide +kernel), List.mem_of_getElem? (i := 1032) (by decide +kernel)⟩
theorem lw_p98 : lw_okq (⟨"WantedTypesModel", "typesOf", "(IZ)I"⟩, 23) := ⟨⟨by decide +kernel, by decide +kernel⟩, List.mem_of_getElem? (i := 830) (by decide +kernel), List.mem_of_getElem? (i := 1040) (by decide +kernel), List.mem_of_getElem? (i := 1041) (by decide +kernel)⟩
theorem lw_p99 : lw_okq (⟨"WantedTypesModel", "isOf", "(II)Z"⟩, 23) := ⟨⟨by decide +kernel, by decide +kernel⟩, List.mem_of_getElem? (i := 830) (by decide +kernel), List.mem_of_getElem? (i := 1044) (by decide +kernel), List.mem_of_getElem? (i := 1045) (by decide +kernel)⟩
theorem lw_p100 : lw_okq (⟨"WantedTypesModel", "givers", "(I)I"⟩, 23) := ⟨⟨by decide +kernel, by decide +kernel⟩, List.mem_of_getElem? (i := 830) (by decide +kernel), List.mem_of_getElem? (i := 1048) (by decide +kernel), List.mem_of_getElem? (i := 1049) (by decide +kernel)⟩
theorem lw_p101 : lw_okq (⟨"WantedTypesModel", "layWays", "(I)V"⟩, 23) := ⟨⟨by decide +kernel, by decide +kernel⟩, List.mem_of_getElem? (i := 830) (by decide +kernel), List.mem_of_getElem? (i := 1057) (by decide +kernel), List.mem_of_getElem? (i := 1058) (by decide +kernel)⟩
theorem lw_p102 : lw_okq (⟨"WantedTypesModel", "headed", "(II)J"⟩, 23) := ⟨⟨by decide +kernel, by decide +kernel⟩, List.mem_of_getElem? (i := 830) (by decide +kernel), List.mem_of_getElem? (i := 1064) (by decide +kernel), List.mem_of_getElem? (i := 1065) (by decide +kernel)⟩
theorem lw_p103 : lw_okq (⟨"WantedTypesModel", "toldOf", "(J)I"⟩, 23) := ⟨⟨by decide +kernel, by decide +kernel⟩, List.mem_of_getElem? (i := 830) (by decide +kernel), List.mem_of_getElem? (i := 1072) (by decide +kernel), List.mem_of_getElem? (i := 1073) (by decide +kernel)⟩
theorem lw_p104 : lw_okq (⟨"WantedTypesModel", "cheapestOf", "(I)I"⟩, 23) := ⟨⟨by decide +kernel, by decide +kernel⟩, List.mem_of_getElem? (i := 830) (by decide +kernel), List.mem_of_getElem? (i := 1082) (by decide +kernel), List.mem_of_getElem? (i := 1083) (by decide +kernel)⟩
theorem lw_p105 : lw_okq (⟨"WantedTypesModel", "laysCode", "(II)Z"⟩, 23) := ⟨⟨by decide +kernel, by decide +kernel⟩, List.mem_of_getElem? (i := 830) (by decide +kernel), List.mem_of_getElem? (i := 1091) (by decide +kernel), List.mem_of_getElem? (i := 1092) (by decide +kernel)⟩
theorem lw_p106 : lw_okq (⟨"WantedTypesModel", "awaitsFirst", "(I)V"⟩, 23) := ⟨⟨by decide +kernel, by decide +kernel⟩, List.mem_of_getElem? (i := 830) (by decide +kernel), List.mem_of_getElem? (i := 1095) (by decide +kernel), List.mem_of_getElem? (i := 1096) (by decide +kernel)⟩
theorem lw_p107 : lw_okq (⟨"WantedTypesModel", "await0", "(I)V"⟩, 23) := ⟨⟨by decide +kernel, by decide +kernel⟩, List.mem_of_getElem? (i := 830) (by decide +kernel), List.mem_of_getElem? (i := 1099) (by decide +kernel), List.mem_of_getElem? (i := 1100) (by decide +kernel)⟩
theorem lw_p108 : lw_okq (⟨"WantedTypesModel", "goesOn", "(II)J"⟩, 23) := ⟨⟨by decide +kernel, by decide +kernel⟩, List.mem_of_getElem? (i := 830) (by decide +kernel), List.mem_of_getElem? (i := 1103) (by decide +kernel), List.mem_of_getElem? (i := 1104) (by decide +kernel)⟩
theorem lw_p109 : lw_okq (⟨"WantedTypesModel", "gives", "(I)V"⟩, 23) := ⟨⟨by decide +kernel, by decide +kernel⟩, List.mem_of_getElem? (i := 830) (by decide +kernel), List.mem_of_getElem? (i := 1107) (by decide +kernel), List.mem_of_getElem? (i := 1108) (by decide +kernel)⟩
theorem lw_p110 : lw_okq (⟨"WantedTypesModel", "isWorld", "()Z"⟩, 23) := ⟨⟨by decide +kernel, by decide +kernel⟩, List.mem_of_getElem? (i := 830) (by decide +kernel), List.mem_of_getElem? (i := 1115) (by decide +kernel), List.mem_of_getElem? (i := 1116) (by decide +kernel)⟩
theorem lw_p111 : lw_okq (⟨"WantedTypesModel", "isWhole", "(II)Z"⟩, 23) := ⟨⟨by decide +kernel, by decide +kernel⟩, List.mem_of_getElem? (i := 830) (by decide +kernel), List.mem_of_getElem? (i := 1119) (by decide +kernel), List.mem_of_getElem? (i := 1120) (by decide +kernel)⟩
def lw_privs_7 : List (MethodName × Nat) := [(⟨"WantedTypesModel", "isType", "(I)Z"⟩, 23), (⟨"WantedTypesModel", "priceOf", "(I)I"⟩, 23), (⟨"WantedTypesModel", "typesOf", "(IZ)I"⟩, 23), (⟨"WantedTypesModel", "isOf", "(II)Z"⟩, 23), (⟨"WantedTypesModel", "givers", "(I)I"⟩, 23), (⟨"WantedTypesModel", "layWays", "(I)V"⟩, 23), (⟨"WantedTypesModel", "headed", "(II)J"⟩, 23), (⟨"WantedTypesModel", "toldOf", "(J)I"⟩, 23), (⟨"WantedTypesModel", "cheapestOf", "(I)I"⟩, 23), (⟨"WantedTypesModel", "laysCode", "(II)Z"⟩, 23), (⟨"WantedTypesModel", "awaitsFirst", "(I)V"⟩, 23), (⟨"WantedTypesModel", "await0", "(I)V"⟩, 23), (⟨"WantedTypesModel", "goesOn", "(II)J"⟩, 23), (⟨"WantedTypesModel", "gives", "(I)V"⟩, 23), (⟨"WantedTypesModel", "isWorld", "()Z"⟩, 23), (⟨"WantedTypesModel", "isWhole", "(II)Z"⟩, 23)]
theorem lw_r7 : ∀ q ∈ lw_privs_7, lw_okq q := List.forall_mem_cons.mpr ⟨lw_p96, List.forall_mem_cons.mpr ⟨lw_p97, List.forall_mem_cons.mpr ⟨lw_p98, List.forall_mem_cons.mpr ⟨lw_p99, List.forall_mem_cons.mpr ⟨lw_p100, List.forall_mem_cons.mpr ⟨lw_p101, List.forall_mem_cons.mpr ⟨lw_p102, List.forall_mem_cons.mpr ⟨lw_p103, List.forall_mem_cons.mpr ⟨lw_p104, List.forall_mem_cons.mpr ⟨lw_p105, List.forall_mem_cons.mpr ⟨lw_p106, List.forall_mem_cons.mpr ⟨lw_p107, List.forall_mem_cons.mpr ⟨lw_p108, List.forall_mem_cons.mpr ⟨lw_p109, List.forall_mem_cons.mpr ⟨lw_p110, List.forall_mem_cons.mpr ⟨lw_p111, fun _ h => absurd h List.not_mem_nil⟩⟩⟩⟩⟩⟩⟩⟩⟩⟩⟩⟩⟩⟩⟩⟩
theorem lw_p112 : lw_okq (⟨"WantedTypesModel", "placeOf", "(III)J"⟩, 23) := ⟨⟨by decide +kernel, by decide +kernel⟩, List.mem_of_getElem? (i := 830) (by decide +kernel), List.mem_of_getElem? (i := 1127) (by decide +kernel), List.mem_of_getElem? (i := 1128) (by decide +kernel)⟩
theorem lw_p113 : lw_okq (⟨"WantedTypesModel", "hadBy", "(I)I"⟩, 23) := ⟨⟨by decide +kernel, by decide +kernel⟩, List.mem_of_getElem? (i := 830) (by decide +kernel), List.mem_of_getElem? (i := 1135) (by decide +kernel), List.mem_of_getElem? (i := 1136) (by decide +kernel)⟩
theorem lw_p114 : lw_okq (⟨"WantedTypesModel", "sizeOf", "(I)I"⟩, 23) := ⟨⟨by decide +kernel, by decide +kernel⟩, List.mem_of_getElem? (i := 830) (by decide +kernel), List.mem_of_getElem? (i := 1184) (by decide +kernel), List.mem_of_getElem? (i := 1185) (by decide +kernel)⟩
theorem lw_p115 : lw_okq (⟨"WantedTypesModel", "traces", "(I)V"⟩, 23) := ⟨⟨by decide +kernel, by decide +kernel⟩, List.mem_of_getElem? (i := 830) (by decide +kernel), List.mem_of_getElem? (i := 1188) (by decide +kernel), List.mem_of_getElem? (i := 1189) (by decide +kernel)⟩
theorem lw_p116 : lw_okq (⟨"WantedTypesModel", "size11", "(I)I"⟩, 23) := ⟨⟨by decide +kernel, by decide +kernel⟩, List.mem_of_getElem? (i := 830) (by decide +kernel), List.mem_of_getElem? (i := 1192) (by decide +kernel), List.mem_of_getElem? (i := 1193) (by decide +kernel)⟩
theorem lw_p117 : lw_okq (⟨"WantedTypesModel", "size10", "(I)I"⟩, 23) := ⟨⟨by decide +kernel, by decide +kernel⟩, List.mem_of_getElem? (i := 830) (by decide +kernel), List.mem_of_getElem? (i := 1196) (by decide +kernel), List.mem_of_getElem? (i := 1197) (by decide +kernel)⟩
theorem lw_p118 : lw_okq (⟨"WantedTypesModel", "markOf", "(I)I"⟩, 23) := ⟨⟨by decide +kernel, by decide +kernel⟩, List.mem_of_getElem? (i := 830) (by decide +kernel), List.mem_of_getElem? (i := 1200) (by decide +kernel), List.mem_of_getElem? (i := 1201) (by decide +kernel)⟩
theorem lw_p119 : lw_okq (⟨"WantedTypesModel", "mark21", "(I)I"⟩, 23) := ⟨⟨by decide +kernel, by decide +kernel⟩, List.mem_of_getElem? (i := 830) (by decide +kernel), List.mem_of_getElem? (i := 1204) (by decide +kernel), List.mem_of_getElem? (i := 1205) (by decide +kernel)⟩
theorem lw_p120 : lw_okq (⟨"WantedTypesModel", "mark20", "(I)I"⟩, 23) := ⟨⟨by decide +kernel, by decide +kernel⟩, List.mem_of_getElem? (i := 830) (by decide +kernel), List.mem_of_getElem? (i := 1208) (by decide +kernel), List.mem_of_getElem? (i := 1209) (by decide +kernel)⟩
theorem lw_p121 : lw_okq (⟨"WantedTypesModel", "size13", "(I)I"⟩, 23) := ⟨⟨by decide +kernel, by decide +kernel⟩, List.mem_of_getElem? (i := 830) (by decide +kernel), List.mem_of_getElem? (i := 1212) (by decide +kernel), List.mem_of_getElem? (i := 1213) (by decide +kernel)⟩
theorem lw_p122 : lw_okq (⟨"WantedTypesModel", "mark23", "(I)I"⟩, 23) := ⟨⟨by decide +kernel, by decide +kernel⟩, List.mem_of_getElem? (i := 830) (by decide +kernel), List.mem_of_getElem? (i := 1216) (by decide +kernel), List.mem_of_getElem? (i := 1217) (by decide +kernel)⟩
theorem lw_p123 : lw_okq (⟨"WantedTypesModel", "rowsThere", "()I"⟩, 23) := ⟨⟨by decide +kernel, by decide +kernel⟩, List.mem_of_getElem? (i := 830) (by decide +kernel), List.mem_of_getElem? (i := 1228) (by decide +kernel), List.mem_of_getElem? (i := 1229) (by decide +kernel)⟩
def lw_privs_8 : List (MethodName × Nat) := [(⟨"WantedTypesModel", "placeOf", "(III)J"⟩, 23), (⟨"WantedTypesModel", "hadBy", "(I)I"⟩, 23), (⟨"WantedTypesModel", "sizeOf", "(I)I"⟩, 23), (⟨"WantedTypesModel", "traces", "(I)V"⟩, 23), (⟨"WantedTypesModel", "size11", "(I)I"⟩, 23), (⟨"WantedTypesModel", "size10", "(I)I"⟩, 23), (⟨"WantedTypesModel", "markOf", "(I)I"⟩, 23), (⟨"WantedTypesModel", "mark21", "(I)I"⟩, 23), (⟨"WantedTypesModel", "mark20", "(I)I"⟩, 23), (⟨"WantedTypesModel", "size13", "(I)I"⟩, 23), (⟨"WantedTypesModel", "mark23", "(I)I"⟩, 23), (⟨"WantedTypesModel", "rowsThere", "()I"⟩, 23)]
theorem lw_r8 : ∀ q ∈ lw_privs_8, lw_okq q := List.forall_mem_cons.mpr ⟨lw_p112, List.forall_mem_cons.mpr ⟨lw_p113, List.forall_mem_cons.mpr ⟨lw_p114, List.forall_mem_cons.mpr ⟨lw_p115, List.forall_mem_cons.mpr ⟨lw_p116, List.forall_mem_cons.mpr ⟨lw_p117, List.forall_mem_cons.mpr ⟨lw_p118, List.forall_mem_cons.mpr ⟨lw_p119, List.forall_mem_cons.mpr ⟨lw_p120, List.forall_mem_cons.mpr ⟨lw_p121, List.forall_mem_cons.mpr ⟨lw_p122, List.forall_mem_cons.mpr ⟨lw_p123, fun _ h => absurd h List.not_mem_nil⟩⟩⟩⟩⟩⟩⟩⟩⟩⟩⟩⟩
def lw_privs : List (MethodName × Nat) := lw_privs_1 ++ (lw_privs_2 ++ (lw_privs_3 ++ (lw_privs_4 ++ (lw_privs_5 ++ (lw_privs_6 ++ (lw_privs_7 ++ (lw_privs_8)))))))
def lw_tbl : List Cond := k2_sels lw_privs ++ tables_1
theorem lw_privs_ok : ∀ q ∈ lw_privs, lw_okq q := by
  show ∀ q ∈ lw_privs_1 ++ (lw_privs_2 ++ (lw_privs_3 ++ (lw_privs_4 ++ (lw_privs_5 ++ (lw_privs_6 ++ (lw_privs_7 ++ (lw_privs_8))))))), lw_okq q
  exact List.forall_mem_append.mpr ⟨lw_r1, List.forall_mem_append.mpr ⟨lw_r2, List.forall_mem_append.mpr ⟨lw_r3, List.forall_mem_append.mpr ⟨lw_r4, List.forall_mem_append.mpr ⟨lw_r5, List.forall_mem_append.mpr ⟨lw_r6, List.forall_mem_append.mpr ⟨lw_r7, lw_r8⟩⟩⟩⟩⟩⟩⟩
end
section
def RX0 : String := "WantedTypes$Acts"
def TX0 : u_T := fun k => match k with
  | 0 => ("WantedTypes$Acts", "sort", "[I", true)
  | 1 => ("WantedTypes$Acts", "which", "[I", true)
  | 2 => ("WantedTypes$Acts", "was", "[I", true)
  | _ => ("WantedTypes$Acts", "kept", "I", false)
def tyX0 : Nat → FieldType := fun k => match k with
  | 0 => .array .int
  | 1 => .array .int
  | 2 => .array .int
  | _ => .int
abbrev wsX00 : List Cond := u_ws RX0 TX0 4
theorem nmX0 : ∀ a, a < 4 → ∀ b, b < 4 → a ≠ b → (TX0 a).2.1 ≠ (TX0 b).2.1 := by decide +kernel
theorem tyX0_ok : ∀ k, k < 4 → parseFieldDescriptor (TX0 k).2.2.1 = some (tyX0 k) := by decide +kernel
abbrev cX0_init : ByteArray := prog_2_method_1_code
def yX0_init : MethodName := ⟨RX0, "<init>", "()V"⟩
abbrev cX0_keep : ByteArray := prog_2_method_2_code
def yX0_keep : MethodName := ⟨RX0, "keep", "(III)V"⟩
abbrev cX0_forgetOldest : ByteArray := prog_2_method_3_code
def yX0_forgetOldest : MethodName := ⟨RX0, "forgetOldest", "()V"⟩
def RX1 : String := "WantedTypes$Asks"
def TX1 : u_T := fun k => match k with
  | 0 => ("WantedTypes$Asks", "world", "LWantedTypes$World;", true)
  | 1 => ("WantedTypes$Asks", "numbers", "[I", true)
  | _ => ("WantedTypes$Asks", "traced", "I", false)
def tyX1 : Nat → FieldType := fun k => match k with
  | 0 => .object "WantedTypes$World"
  | 1 => .array .int
  | _ => .int
abbrev wsX10 : List Cond := u_ws RX1 TX1 3
theorem nmX1 : ∀ a, a < 3 → ∀ b, b < 3 → a ≠ b → (TX1 a).2.1 ≠ (TX1 b).2.1 := by decide +kernel
theorem tyX1_ok : ∀ k, k < 3 → parseFieldDescriptor (TX1 k).2.2.1 = some (tyX1 k) := by decide +kernel
abbrev cX1_init : ByteArray := prog_3_method_1_code
def yX1_init : MethodName := ⟨RX1, "<init>", "(LWantedTypes$World;)V"⟩
abbrev cX1_sizeOf : ByteArray := prog_3_method_2_code
def yX1_sizeOf : MethodName := ⟨RX1, "sizeOf", "(I)I"⟩
abbrev cX1_markOf : ByteArray := prog_3_method_3_code
def yX1_markOf : MethodName := ⟨RX1, "markOf", "(I)I"⟩
abbrev cX1_sizeOfLocal : ByteArray := prog_3_method_4_code
def yX1_sizeOfLocal : MethodName := ⟨RX1, "sizeOfLocal", "(I)I"⟩
abbrev cX1_sizeOfCall : ByteArray := prog_3_method_5_code
def yX1_sizeOfCall : MethodName := ⟨RX1, "sizeOfCall", "(I)I"⟩
abbrev cX1_markOfLocal : ByteArray := prog_3_method_6_code
def yX1_markOfLocal : MethodName := ⟨RX1, "markOfLocal", "(I)I"⟩
abbrev cX1_body10 : ByteArray := prog_3_method_7_code
def yX1_body10 : MethodName := ⟨RX1, "body10", "(I)I"⟩
abbrev cX1_body11 : ByteArray := prog_3_method_8_code
def yX1_body11 : MethodName := ⟨RX1, "body11", "(I)I"⟩
abbrev cX1_body12 : ByteArray := prog_3_method_9_code
def yX1_body12 : MethodName := ⟨RX1, "body12", "(I)I"⟩
abbrev cX1_body13 : ByteArray := prog_3_method_10_code
def yX1_body13 : MethodName := ⟨RX1, "body13", "(I)I"⟩
abbrev cX1_body14 : ByteArray := prog_3_method_11_code
def yX1_body14 : MethodName := ⟨RX1, "body14", "(I)I"⟩
abbrev cX1_body20 : ByteArray := prog_3_method_12_code
def yX1_body20 : MethodName := ⟨RX1, "body20", "(I)I"⟩
abbrev cX1_body21 : ByteArray := prog_3_method_13_code
def yX1_body21 : MethodName := ⟨RX1, "body21", "(I)I"⟩
abbrev cX1_body22 : ByteArray := prog_3_method_14_code
def yX1_body22 : MethodName := ⟨RX1, "body22", "(I)I"⟩
abbrev cX1_body23 : ByteArray := prog_3_method_15_code
def yX1_body23 : MethodName := ⟨RX1, "body23", "(I)I"⟩
abbrev cX1_body24 : ByteArray := prog_3_method_16_code
def yX1_body24 : MethodName := ⟨RX1, "body24", "(I)I"⟩
abbrev cX1_begin : ByteArray := prog_3_method_17_code
def yX1_begin : MethodName := ⟨RX1, "begin", "(I)V"⟩
def RX2 : String := "WantedTypes$Lists"
def TX2 : u_T := fun k => match k with
  | 0 => ("WantedTypes$Lists", "world", "LWantedTypes$World;", true)
  | 1 => ("WantedTypes$Lists", "counted", "Z", false)
  | 2 => ("WantedTypes$Lists", "byMember", "[[J", true)
  | 3 => ("WantedTypes$Lists", "byType", "[[J", true)
  | 4 => ("WantedTypes$Lists", "rest", "[[J", true)
  | 5 => ("WantedTypes$Lists", "wanted", "[I", true)
  | 6 => ("WantedTypes$Lists", "open", "I", false)
  | 7 => ("WantedTypes$Lists", "code", "[I", true)
  | _ => ("WantedTypes$Lists", "within", "J", false)
def tyX2 : Nat → FieldType := fun k => match k with
  | 0 => .object "WantedTypes$World"
  | 1 => .boolean
  | 2 => .array (.array .long)
  | 3 => .array (.array .long)
  | 4 => .array (.array .long)
  | 5 => .array .int
  | 6 => .int
  | 7 => .array .int
  | _ => .long
abbrev wsX20 : List Cond := u_ws RX2 TX2 9
theorem nmX2 : ∀ a, a < 9 → ∀ b, b < 9 → a ≠ b → (TX2 a).2.1 ≠ (TX2 b).2.1 := by decide +kernel
theorem tyX2_ok : ∀ k, k < 9 → parseFieldDescriptor (TX2 k).2.2.1 = some (tyX2 k) := by decide +kernel
abbrev cX2_init : ByteArray := prog_4_method_1_code
def yX2_init : MethodName := ⟨RX2, "<init>", "(LWantedTypes$World;)V"⟩
abbrev cX2_manyOfPrice : ByteArray := prog_4_method_2_code
def yX2_manyOfPrice : MethodName := ⟨RX2, "manyOfPrice", "(II)I"⟩
abbrev cX2_size : ByteArray := prog_4_method_3_code
def yX2_size : MethodName := ⟨RX2, "size", "(I)I"⟩
abbrev cX2_manyBelow : ByteArray := prog_4_method_4_code
def yX2_manyBelow : MethodName := ⟨RX2, "manyBelow", "(II)J"⟩
abbrev cX2_findPlace : ByteArray := prog_4_method_5_code
def yX2_findPlace : MethodName := ⟨RX2, "findPlace", "(II)I"⟩
abbrev cX2_spell : ByteArray := prog_4_method_6_code
def yX2_spell : MethodName := ⟨RX2, "spell", "(II)I"⟩
abbrev cX2_choose : ByteArray := prog_4_method_7_code
def yX2_choose : MethodName := ⟨RX2, "choose", "(II)I"⟩
abbrev cX2_placeOf : ByteArray := prog_4_method_8_code
def yX2_placeOf : MethodName := ⟨RX2, "placeOf", "(I[III)I"⟩
abbrev cX2_waysWith : ByteArray := prog_4_method_9_code
def yX2_waysWith : MethodName := ⟨RX2, "waysWith", "(III)J"⟩
abbrev cX2_wantTaken : ByteArray := prog_4_method_10_code
def yX2_wantTaken : MethodName := ⟨RX2, "wantTaken", "(II)V"⟩
abbrev cX2_want : ByteArray := prog_4_method_11_code
def yX2_want : MethodName := ⟨RX2, "want", "(I)V"⟩
abbrev cX2_fillRest : ByteArray := prog_4_method_12_code
def yX2_fillRest : MethodName := ⟨RX2, "fillRest", "(I)V"⟩
abbrev cX2_countAll : ByteArray := prog_4_method_13_code
def yX2_countAll : MethodName := ⟨RX2, "countAll", "()V"⟩
abbrev cX2_countPrice : ByteArray := prog_4_method_14_code
def yX2_countPrice : MethodName := ⟨RX2, "countPrice", "(I)V"⟩
abbrev cX2_addTo : ByteArray := prog_4_method_15_code
def yX2_addTo : MethodName := ⟨RX2, "addTo", "(IIJ)V"⟩
abbrev cX2_manyWith : ByteArray := prog_4_method_16_code
def yX2_manyWith : MethodName := ⟨RX2, "manyWith", "(II)J"⟩
abbrev cX2_ways : ByteArray := prog_4_method_17_code
def yX2_ways : MethodName := ⟨RX2, "ways", "([J[JI)J"⟩
def RX3 : String := "WantedTypes$Reach"
def TX3 : u_T := fun k => match k with
  | 0 => ("WantedTypes$Reach", "world", "LWantedTypes$World;", true)
  | _ => ("WantedTypes$Reach", "least", "[I", true)
def tyX3 : Nat → FieldType := fun k => match k with
  | 0 => .object "WantedTypes$World"
  | _ => .array .int
abbrev wsX30 : List Cond := u_ws RX3 TX3 2
theorem nmX3 : ∀ a, a < 2 → ∀ b, b < 2 → a ≠ b → (TX3 a).2.1 ≠ (TX3 b).2.1 := by decide +kernel
theorem tyX3_ok : ∀ k, k < 2 → parseFieldDescriptor (TX3 k).2.2.1 = some (tyX3 k) := by decide +kernel
abbrev cX3_init : ByteArray := prog_5_method_1_code
def yX3_init : MethodName := ⟨RX3, "<init>", "(LWantedTypes$World;)V"⟩
abbrev cX3_leastListed : ByteArray := prog_5_method_2_code
def yX3_leastListed : MethodName := ⟨RX3, "leastListed", "(II)I"⟩
abbrev cX3_typesHad : ByteArray := prog_5_method_3_code
def yX3_typesHad : MethodName := ⟨RX3, "typesHad", "(I)I"⟩
abbrev cX3_membersNeeded : ByteArray := prog_5_method_4_code
def yX3_membersNeeded : MethodName := ⟨RX3, "membersNeeded", "(I)I"⟩
abbrev cX3_seek : ByteArray := prog_5_method_5_code
def yX3_seek : MethodName := ⟨RX3, "seek", "(I)V"⟩
abbrev cX3_leastWith : ByteArray := prog_5_method_6_code
def yX3_leastWith : MethodName := ⟨RX3, "leastWith", "(I)I"⟩
abbrev cX3_lower : ByteArray := prog_5_method_7_code
def yX3_lower : MethodName := ⟨RX3, "lower", "(II)Z"⟩
def RX4 : String := "WantedTypes$Reader"
def TX4 : u_T := fun k => match k with
  | 0 => ("WantedTypes$Reader", "tape", "[I", true)
  | 1 => ("WantedTypes$Reader", "bytes", "I", false)
  | 2 => ("WantedTypes$Reader", "into", "LWantedTypes$World;", true)
  | 3 => ("WantedTypes$Reader", "at", "I", false)
  | _ => ("WantedTypes$Reader", "fault", "I", false)
def tyX4 : Nat → FieldType := fun k => match k with
  | 0 => .array .int
  | 1 => .int
  | 2 => .object "WantedTypes$World"
  | 3 => .int
  | _ => .int
abbrev wsX40 : List Cond := u_ws RX4 TX4 5
theorem nmX4 : ∀ a, a < 5 → ∀ b, b < 5 → a ≠ b → (TX4 a).2.1 ≠ (TX4 b).2.1 := by decide +kernel
theorem tyX4_ok : ∀ k, k < 5 → parseFieldDescriptor (TX4 k).2.2.1 = some (tyX4 k) := by decide +kernel
abbrev cX4_init : ByteArray := prog_6_method_1_code
def yX4_init : MethodName := ⟨RX4, "<init>", "()V"⟩
abbrev cX4_isFull : ByteArray := prog_6_method_2_code
def yX4_isFull : MethodName := ⟨RX4, "isFull", "()Z"⟩
abbrev cX4_append : ByteArray := prog_6_method_3_code
def yX4_append : MethodName := ⟨RX4, "append", "(I)I"⟩
abbrev cX4_emptyTape : ByteArray := prog_6_method_4_code
def yX4_emptyTape : MethodName := ⟨RX4, "emptyTape", "()V"⟩
abbrev cX4_readTape : ByteArray := prog_6_method_5_code
def yX4_readTape : MethodName := ⟨RX4, "readTape", "()Z"⟩
abbrev cX4_readLaw : ByteArray := prog_6_method_6_code
def yX4_readLaw : MethodName := ⟨RX4, "readLaw", "()Z"⟩
abbrev cX4_readTypes : ByteArray := prog_6_method_7_code
def yX4_readTypes : MethodName := ⟨RX4, "readTypes", "()Z"⟩
abbrev cX4_readMembers : ByteArray := prog_6_method_8_code
def yX4_readMembers : MethodName := ⟨RX4, "readMembers", "()Z"⟩
abbrev cX4_readMember : ByteArray := prog_6_method_9_code
def yX4_readMember : MethodName := ⟨RX4, "readMember", "(I)Z"⟩
abbrev cX4_readTaken : ByteArray := prog_6_method_10_code
def yX4_readTaken : MethodName := ⟨RX4, "readTaken", "(I)Z"⟩
abbrev cX4_kindOf : ByteArray := prog_6_method_11_code
def yX4_kindOf : MethodName := ⟨RX4, "kindOf", "(I)I"⟩
abbrev cX4_here : ByteArray := prog_6_method_12_code
def yX4_here : MethodName := ⟨RX4, "here", "()I"⟩
abbrev cX4_byteAt : ByteArray := prog_6_method_13_code
def yX4_byteAt : MethodName := ⟨RX4, "byteAt", "(I)I"⟩
abbrev cX4_take : ByteArray := prog_6_method_14_code
def yX4_take : MethodName := ⟨RX4, "take", "(I)Z"⟩
abbrev cX4_takeNumber : ByteArray := prog_6_method_15_code
def yX4_takeNumber : MethodName := ⟨RX4, "takeNumber", "(II)I"⟩
abbrev cX4_isFigure : ByteArray := prog_6_method_16_code
def yX4_isFigure : MethodName := ⟨RX4, "isFigure", "(I)Z"⟩
abbrev cX4_refuse : ByteArray := prog_6_method_17_code
def yX4_refuse : MethodName := ⟨RX4, "refuse", "(I)Z"⟩
def RX5 : String := "WantedTypes$Rows"
def TX5 : u_T := fun k => match k with
  | 0 => ("WantedTypes$Rows", "items", "[[I", true)
  | 1 => ("WantedTypes$Rows", "lane", "[I", true)
  | _ => ("WantedTypes$Rows", "length", "[I", true)
def tyX5 : Nat → FieldType := fun k => match k with
  | 0 => .array (.array .int)
  | 1 => .array .int
  | _ => .array .int
abbrev wsX50 : List Cond := u_ws RX5 TX5 3
theorem nmX5 : ∀ a, a < 3 → ∀ b, b < 3 → a ≠ b → (TX5 a).2.1 ≠ (TX5 b).2.1 := by decide +kernel
theorem tyX5_ok : ∀ k, k < 3 → parseFieldDescriptor (TX5 k).2.2.1 = some (tyX5 k) := by decide +kernel
abbrev cX5_init : ByteArray := prog_7_method_1_code
def yX5_init : MethodName := ⟨RX5, "<init>", "()V"⟩
abbrev cX5_isRow : ByteArray := prog_7_method_2_code
def yX5_isRow : MethodName := ⟨RX5, "isRow", "(I)Z"⟩
abbrev cX5_isLane : ByteArray := prog_7_method_3_code
def yX5_isLane : MethodName := ⟨RX5, "isLane", "(I)Z"⟩
abbrev cX5_isMissing : ByteArray := prog_7_method_4_code
def yX5_isMissing : MethodName := ⟨RX5, "isMissing", "(I)Z"⟩
abbrev cX5_hasPlaces : ByteArray := prog_7_method_5_code
def yX5_hasPlaces : MethodName := ⟨RX5, "hasPlaces", "(III)Z"⟩
abbrev cX5_make : ByteArray := prog_7_method_6_code
def yX5_make : MethodName := ⟨RX5, "make", "(III)V"⟩
abbrev cX5_put : ByteArray := prog_7_method_7_code
def yX5_put : MethodName := ⟨RX5, "put", "(III)I"⟩
abbrev cX5_lose : ByteArray := prog_7_method_8_code
def yX5_lose : MethodName := ⟨RX5, "lose", "(I)I"⟩
abbrev cX5_present : ByteArray := prog_7_method_9_code
def yX5_present : MethodName := ⟨RX5, "present", "()I"⟩
def RX6 : String := "WantedTypes$Words"
def TX6 : u_T := fun k => match k with
  | 0 => ("WantedTypes$Words", "world", "LWantedTypes$World;", true)
  | 1 => ("WantedTypes$Words", "rows", "LWantedTypes$Rows;", true)
  | 2 => ("WantedTypes$Words", "code", "[I", true)
  | 3 => ("WantedTypes$Words", "length", "I", false)
  | _ => ("WantedTypes$Words", "wanted", "[I", true)
def tyX6 : Nat → FieldType := fun k => match k with
  | 0 => .object "WantedTypes$World"
  | 1 => .object "WantedTypes$Rows"
  | 2 => .array .int
  | 3 => .int
  | _ => .array .int
abbrev wsX60 : List Cond := u_ws RX6 TX6 5
theorem nmX6 : ∀ a, a < 5 → ∀ b, b < 5 → a ≠ b → (TX6 a).2.1 ≠ (TX6 b).2.1 := by decide +kernel
theorem tyX6_ok : ∀ k, k < 5 → parseFieldDescriptor (TX6 k).2.2.1 = some (tyX6 k) := by decide +kernel
abbrev cX6_init : ByteArray := prog_8_method_1_code
def yX6_init : MethodName := ⟨RX6, "<init>", "(LWantedTypes$World;LWantedTypes$Rows;)V"⟩
abbrev cX6_isLength : ByteArray := prog_8_method_2_code
def yX6_isLength : MethodName := ⟨RX6, "isLength", "(I)Z"⟩
abbrev cX6_take : ByteArray := prog_8_method_3_code
def yX6_take : MethodName := ⟨RX6, "take", "(III)I"⟩
abbrev cX6_isWhole : ByteArray := prog_8_method_4_code
def yX6_isWhole : MethodName := ⟨RX6, "isWhole", "()Z"⟩
abbrev cX6_fits : ByteArray := prog_8_method_5_code
def yX6_fits : MethodName := ⟨RX6, "fits", "(II)Z"⟩
abbrev cX6_wantTaken : ByteArray := prog_8_method_6_code
def yX6_wantTaken : MethodName := ⟨RX6, "wantTaken", "(II)I"⟩
abbrev cX6_given : ByteArray := prog_8_method_7_code
def yX6_given : MethodName := ⟨RX6, "given", "()I"⟩
abbrev cX6_priceTogether : ByteArray := prog_8_method_8_code
def yX6_priceTogether : MethodName := ⟨RX6, "priceTogether", "()I"⟩
def RX7 : String := "WantedTypes$World"
def TX7 : u_T := fun k => match k with
  | 0 => ("WantedTypes$World", "types", "I", false)
  | 1 => ("WantedTypes$World", "members", "I", false)
  | 2 => ("WantedTypes$World", "hidden", "I", false)
  | 3 => ("WantedTypes$World", "above", "[I", true)
  | 4 => ("WantedTypes$World", "of", "[I", true)
  | 5 => ("WantedTypes$World", "kind", "[I", true)
  | 6 => ("WantedTypes$World", "gives", "[I", true)
  | 7 => ("WantedTypes$World", "cost", "[I", true)
  | 8 => ("WantedTypes$World", "takes", "[I", true)
  | 9 => ("WantedTypes$World", "first", "[I", true)
  | _ => ("WantedTypes$World", "second", "[I", true)
def tyX7 : Nat → FieldType := fun k => match k with
  | 0 => .int
  | 1 => .int
  | 2 => .int
  | 3 => .array .int
  | 4 => .array .int
  | 5 => .array .int
  | 6 => .array .int
  | 7 => .array .int
  | 8 => .array .int
  | 9 => .array .int
  | _ => .array .int
abbrev wsX70 : List Cond := u_ws RX7 TX7 11
theorem nmX7 : ∀ a, a < 11 → ∀ b, b < 11 → a ≠ b → (TX7 a).2.1 ≠ (TX7 b).2.1 := by decide +kernel
theorem tyX7_ok : ∀ k, k < 11 → parseFieldDescriptor (TX7 k).2.2.1 = some (tyX7 k) := by decide +kernel
abbrev cX7_init : ByteArray := prog_9_method_1_code
def yX7_init : MethodName := ⟨RX7, "<init>", "()V"⟩
abbrev cX7_become : ByteArray := prog_9_method_2_code
def yX7_become : MethodName := ⟨RX7, "become", "(LWantedTypes$World;)V"⟩
abbrev cX7_seeAbove : ByteArray := prog_9_method_3_code
def yX7_seeAbove : MethodName := ⟨RX7, "seeAbove", "()V"⟩
abbrev cX7_hasType : ByteArray := prog_9_method_4_code
def yX7_hasType : MethodName := ⟨RX7, "hasType", "(I)Z"⟩
abbrev cX7_hasMember : ByteArray := prog_9_method_5_code
def yX7_hasMember : MethodName := ⟨RX7, "hasMember", "(I)Z"⟩
abbrev cX7_isHidden : ByteArray := prog_9_method_6_code
def yX7_isHidden : MethodName := ⟨RX7, "isHidden", "(I)Z"⟩
abbrev cX7_putHidden : ByteArray := prog_9_method_7_code
def yX7_putHidden : MethodName := ⟨RX7, "putHidden", "(II)V"⟩
abbrev cX7_isOf : ByteArray := prog_9_method_8_code
def yX7_isOf : MethodName := ⟨RX7, "isOf", "(II)Z"⟩
abbrev cX7_givesOne : ByteArray := prog_9_method_9_code
def yX7_givesOne : MethodName := ⟨RX7, "givesOne", "(II)Z"⟩
abbrev cX7_isKind : ByteArray := prog_9_method_10_code
def yX7_isKind : MethodName := ⟨RX7, "isKind", "(II)Z"⟩
abbrev cX7_priceOf : ByteArray := prog_9_method_11_code
def yX7_priceOf : MethodName := ⟨RX7, "priceOf", "(I)I"⟩
abbrev cX7_typesOf : ByteArray := prog_9_method_12_code
def yX7_typesOf : MethodName := ⟨RX7, "typesOf", "(I)I"⟩
abbrev cX7_membersOf : ByteArray := prog_9_method_13_code
def yX7_membersOf : MethodName := ⟨RX7, "membersOf", "(I)I"⟩
abbrev cX7_shareOf : ByteArray := prog_9_method_14_code
def yX7_shareOf : MethodName := ⟨RX7, "shareOf", "(II)I"⟩
abbrev cX7_pricesShown : ByteArray := prog_9_method_15_code
def yX7_pricesShown : MethodName := ⟨RX7, "pricesShown", "()I"⟩
def RX8 : String := "WantedTypes"
def TX8 : u_T := fun k => match k with
  | 0 => ("WantedTypes", "world", "LWantedTypes$World;", true)
  | 1 => ("WantedTypes", "images", "[LWantedTypes$World;", true)
  | 2 => ("WantedTypes", "rows", "LWantedTypes$Rows;", true)
  | 3 => ("WantedTypes", "reader", "LWantedTypes$Reader;", true)
  | 4 => ("WantedTypes", "acts", "LWantedTypes$Acts;", true)
  | 5 => ("WantedTypes", "reach", "LWantedTypes$Reach;", true)
  | 6 => ("WantedTypes", "lists", "LWantedTypes$Lists;", true)
  | 7 => ("WantedTypes", "words", "LWantedTypes$Words;", true)
  | 8 => ("WantedTypes", "asks", "LWantedTypes$Asks;", true)
  | 9 => ("WantedTypes", "latestFault", "I", false)
  | _ => ("WantedTypes", "latestFinding", "I", false)
def tyX8 : Nat → FieldType := fun k => match k with
  | 0 => .object "WantedTypes$World"
  | 1 => .array (.object "WantedTypes$World")
  | 2 => .object "WantedTypes$Rows"
  | 3 => .object "WantedTypes$Reader"
  | 4 => .object "WantedTypes$Acts"
  | 5 => .object "WantedTypes$Reach"
  | 6 => .object "WantedTypes$Lists"
  | 7 => .object "WantedTypes$Words"
  | 8 => .object "WantedTypes$Asks"
  | 9 => .int
  | _ => .int
abbrev wsX80 : List Cond := u_ws RX8 TX8 11
theorem nmX8 : ∀ a, a < 11 → ∀ b, b < 11 → a ≠ b → (TX8 a).2.1 ≠ (TX8 b).2.1 := by decide +kernel
theorem tyX8_ok : ∀ k, k < 11 → parseFieldDescriptor (TX8 k).2.2.1 = some (tyX8 k) := by decide +kernel
abbrev cX8_init : ByteArray := prog_1_method_1_code
def yX8_init : MethodName := ⟨RX8, "<init>", "()V"⟩
abbrev cX8_row : ByteArray := prog_1_method_2_code
def yX8_row : MethodName := ⟨RX8, "row", "(III)I"⟩
abbrev cX8_set : ByteArray := prog_1_method_3_code
def yX8_set : MethodName := ⟨RX8, "set", "(III)I"⟩
abbrev cX8_copy : ByteArray := prog_1_method_4_code
def yX8_copy : MethodName := ⟨RX8, "copy", "(IIIII)I"⟩
abbrev cX8_drop : ByteArray := prog_1_method_5_code
def yX8_drop : MethodName := ⟨RX8, "drop", "(I)I"⟩
abbrev cX8_feed : ByteArray := prog_1_method_6_code
def yX8_feed : MethodName := ⟨RX8, "feed", "(I)I"⟩
abbrev cX8_world : ByteArray := prog_1_method_7_code
def yX8_world : MethodName := ⟨RX8, "world", "()I"⟩
abbrev cX8_fault : ByteArray := prog_1_method_8_code
def yX8_fault : MethodName := ⟨RX8, "fault", "()I"⟩
abbrev cX8_hide : ByteArray := prog_1_method_9_code
def yX8_hide : MethodName := ⟨RX8, "hide", "(II)I"⟩
abbrev cX8_cost : ByteArray := prog_1_method_10_code
def yX8_cost : MethodName := ⟨RX8, "cost", "(II)I"⟩
abbrev cX8_above : ByteArray := prog_1_method_11_code
def yX8_above : MethodName := ⟨RX8, "above", "(II)I"⟩
abbrev cX8_undo : ByteArray := prog_1_method_12_code
def yX8_undo : MethodName := ⟨RX8, "undo", "()I"⟩
abbrev cX8_member : ByteArray := prog_1_method_13_code
def yX8_member : MethodName := ⟨RX8, "member", "(II)I"⟩
abbrev cX8_type : ByteArray := prog_1_method_14_code
def yX8_type : MethodName := ⟨RX8, "type", "(II)I"⟩
abbrev cX8_many : ByteArray := prog_1_method_15_code
def yX8_many : MethodName := ⟨RX8, "many", "(II)I"⟩
abbrev cX8_cheapest : ByteArray := prog_1_method_16_code
def yX8_cheapest : MethodName := ⟨RX8, "cheapest", "(I)I"⟩
abbrev cX8_listed : ByteArray := prog_1_method_17_code
def yX8_listed : MethodName := ⟨RX8, "listed", "(III)I"⟩
abbrev cX8_word : ByteArray := prog_1_method_18_code
def yX8_word : MethodName := ⟨RX8, "word", "(IIII)I"⟩
abbrev cX8_place : ByteArray := prog_1_method_19_code
def yX8_place : MethodName := ⟨RX8, "place", "(III)I"⟩
abbrev cX8_had : ByteArray := prog_1_method_20_code
def yX8_had : MethodName := ⟨RX8, "had", "()I"⟩
abbrev cX8_needed : ByteArray := prog_1_method_21_code
def yX8_needed : MethodName := ⟨RX8, "needed", "(I)I"⟩
abbrev cX8_without : ByteArray := prog_1_method_22_code
def yX8_without : MethodName := ⟨RX8, "without", "(II)I"⟩
abbrev cX8_share : ByteArray := prog_1_method_23_code
def yX8_share : MethodName := ⟨RX8, "share", "(II)I"⟩
abbrev cX8_drawn : ByteArray := prog_1_method_24_code
def yX8_drawn : MethodName := ⟨RX8, "drawn", "(IIII)I"⟩
abbrev cX8_image : ByteArray := prog_1_method_25_code
def yX8_image : MethodName := ⟨RX8, "image", "(I)I"⟩
abbrev cX8_restore : ByteArray := prog_1_method_26_code
def yX8_restore : MethodName := ⟨RX8, "restore", "(I)I"⟩
abbrev cX8_kind : ByteArray := prog_1_method_27_code
def yX8_kind : MethodName := ⟨RX8, "kind", "(I)I"⟩
abbrev cX8_as : ByteArray := prog_1_method_28_code
def yX8_as : MethodName := ⟨RX8, "as", "(II)I"⟩
abbrev cX8_ask : ByteArray := prog_1_method_29_code
def yX8_ask : MethodName := ⟨RX8, "ask", "(II)I"⟩
abbrev cX8_trace : ByteArray := prog_1_method_30_code
def yX8_trace : MethodName := ⟨RX8, "trace", "(I)I"⟩
abbrev cX8_count : ByteArray := prog_1_method_31_code
def yX8_count : MethodName := ⟨RX8, "count", "(I)I"⟩
abbrev cX8_status : ByteArray := prog_1_method_32_code
def yX8_status : MethodName := ⟨RX8, "status", "()I"⟩
abbrev cX8_found : ByteArray := prog_1_method_33_code
def yX8_found : MethodName := ⟨RX8, "found", "(I)I"⟩
abbrev cX8_unfound : ByteArray := prog_1_method_34_code
def yX8_unfound : MethodName := ⟨RX8, "unfound", "(I)I"⟩
abbrev cX8_standAs : ByteArray := prog_1_method_35_code
def yX8_standAs : MethodName := ⟨RX8, "standAs", "(LWantedTypes$World;)V"⟩
abbrev cX8_change : ByteArray := prog_1_method_36_code
def yX8_change : MethodName := ⟨RX8, "change", "(III)V"⟩
def RX9 : String := "WantedTypesModel"
def TX9 : u_T := fun k => match k with
  | 0 => ("WantedTypesModel", "w", "[I", true)
  | 1 => ("WantedTypesModel", "undoes", "I", false)
  | 2 => ("WantedTypesModel", "tape", "[I", true)
  | 3 => ("WantedTypesModel", "taped", "I", false)
  | 4 => ("WantedTypesModel", "faulty", "I", false)
  | 5 => ("WantedTypesModel", "status", "I", false)
  | 6 => ("WantedTypesModel", "many", "[I", true)
  | 7 => ("WantedTypesModel", "lane", "[I", true)
  | 8 => ("WantedTypesModel", "items", "[I", true)
  | 9 => ("WantedTypesModel", "held", "[I", true)
  | 10 => ("WantedTypesModel", "at", "I", false)
  | 11 => ("WantedTypesModel", "start", "I", false)
  | 12 => ("WantedTypesModel", "number", "I", false)
  | 13 => ("WantedTypesModel", "ways", "[J", true)
  | 14 => ("WantedTypesModel", "awaited", "[I", true)
  | 15 => ("WantedTypesModel", "waiting", "I", false)
  | 16 => ("WantedTypesModel", "fills", "[J", true)
  | 17 => ("WantedTypesModel", "code", "[I", true)
  | 18 => ("WantedTypesModel", "length", "I", false)
  | 19 => ("WantedTypesModel", "price0", "I", false)
  | 20 => ("WantedTypesModel", "isKept", "[Z", true)
  | 21 => ("WantedTypesModel", "trace", "[I", true)
  | _ => ("WantedTypesModel", "traced", "I", false)
def tyX9 : Nat → FieldType := fun k => match k with
  | 0 => .array .int
  | 1 => .int
  | 2 => .array .int
  | 3 => .int
  | 4 => .int
  | 5 => .int
  | 6 => .array .int
  | 7 => .array .int
  | 8 => .array .int
  | 9 => .array .int
  | 10 => .int
  | 11 => .int
  | 12 => .int
  | 13 => .array .long
  | 14 => .array .int
  | 15 => .int
  | 16 => .array .long
  | 17 => .array .int
  | 18 => .int
  | 19 => .int
  | 20 => .array .boolean
  | 21 => .array .int
  | _ => .int
abbrev wsX90 : List Cond := u_ws RX9 TX9 23
theorem nmX9 : ∀ a, a < 23 → ∀ b, b < 23 → a ≠ b → (TX9 a).2.1 ≠ (TX9 b).2.1 := by decide +kernel
theorem tyX9_ok : ∀ k, k < 23 → parseFieldDescriptor (TX9 k).2.2.1 = some (tyX9 k) := by decide +kernel
abbrev cX9_init : ByteArray := prog_11_method_1_code
def yX9_init : MethodName := ⟨RX9, "<init>", "()V"⟩
abbrev cX9_in : ByteArray := prog_11_method_3_code
def yX9_in : MethodName := ⟨RX9, "in", "(JJJ)Z"⟩
abbrev cX9_has : ByteArray := prog_11_method_4_code
def yX9_has : MethodName := ⟨RX9, "has", "(II)Z"⟩
abbrev cX9_copyOf : ByteArray := prog_11_method_5_code
def yX9_copyOf : MethodName := ⟨RX9, "copyOf", "(II)V"⟩
abbrev cX9_isMember : ByteArray := prog_11_method_6_code
def yX9_isMember : MethodName := ⟨RX9, "isMember", "(I)Z"⟩
abbrev cX9_isType : ByteArray := prog_11_method_7_code
def yX9_isType : MethodName := ⟨RX9, "isType", "(I)Z"⟩
abbrev cX9_isWorld : ByteArray := prog_11_method_8_code
def yX9_isWorld : MethodName := ⟨RX9, "isWorld", "()Z"⟩
abbrev cX9_isRow : ByteArray := prog_11_method_9_code
def yX9_isRow : MethodName := ⟨RX9, "isRow", "(I)Z"⟩
abbrev cX9_finds : ByteArray := prog_11_method_10_code
def yX9_finds : MethodName := ⟨RX9, "finds", "(I)I"⟩
abbrev cX9_against : ByteArray := prog_11_method_11_code
def yX9_against : MethodName := ⟨RX9, "against", "(III)I"⟩
abbrev cX9_row : ByteArray := prog_11_method_12_code
def yX9_row : MethodName := ⟨RX9, "row", "(III)I"⟩
abbrev cX9_set : ByteArray := prog_11_method_13_code
def yX9_set : MethodName := ⟨RX9, "set", "(III)I"⟩
abbrev cX9_copy : ByteArray := prog_11_method_14_code
def yX9_copy : MethodName := ⟨RX9, "copy", "(IIIII)I"⟩
abbrev cX9_drop : ByteArray := prog_11_method_15_code
def yX9_drop : MethodName := ⟨RX9, "drop", "(I)I"⟩
abbrev cX9_feed : ByteArray := prog_11_method_16_code
def yX9_feed : MethodName := ⟨RX9, "feed", "(I)I"⟩
abbrev cX9_here : ByteArray := prog_11_method_17_code
def yX9_here : MethodName := ⟨RX9, "here", "()I"⟩
abbrev cX9_fails : ByteArray := prog_11_method_18_code
def yX9_fails : MethodName := ⟨RX9, "fails", "(II)Z"⟩
abbrev cX9_takes : ByteArray := prog_11_method_19_code
def yX9_takes : MethodName := ⟨RX9, "takes", "(I)Z"⟩
abbrev cX9_takesNumber : ByteArray := prog_11_method_20_code
def yX9_takesNumber : MethodName := ⟨RX9, "takesNumber", "(II)Z"⟩
abbrev cX9_kindOf : ByteArray := prog_11_method_21_code
def yX9_kindOf : MethodName := ⟨RX9, "kindOf", "(I)I"⟩
abbrev cX9_takesLaw : ByteArray := prog_11_method_22_code
def yX9_takesLaw : MethodName := ⟨RX9, "takesLaw", "()Z"⟩
abbrev cX9_takesType : ByteArray := prog_11_method_23_code
def yX9_takesType : MethodName := ⟨RX9, "takesType", "(I)Z"⟩
abbrev cX9_takesMember : ByteArray := prog_11_method_24_code
def yX9_takesMember : MethodName := ⟨RX9, "takesMember", "()Z"⟩
abbrev cX9_takesAll : ByteArray := prog_11_method_25_code
def yX9_takesAll : MethodName := ⟨RX9, "takesAll", "()Z"⟩
abbrev cX9_world : ByteArray := prog_11_method_26_code
def yX9_world : MethodName := ⟨RX9, "world", "()I"⟩
abbrev cX9_fault : ByteArray := prog_11_method_27_code
def yX9_fault : MethodName := ⟨RX9, "fault", "()I"⟩
abbrev cX9_minds : ByteArray := prog_11_method_28_code
def yX9_minds : MethodName := ⟨RX9, "minds", "()V"⟩
abbrev cX9_hide : ByteArray := prog_11_method_29_code
def yX9_hide : MethodName := ⟨RX9, "hide", "(II)I"⟩
abbrev cX9_cost : ByteArray := prog_11_method_30_code
def yX9_cost : MethodName := ⟨RX9, "cost", "(II)I"⟩
abbrev cX9_above : ByteArray := prog_11_method_31_code
def yX9_above : MethodName := ⟨RX9, "above", "(II)I"⟩
abbrev cX9_undo : ByteArray := prog_11_method_32_code
def yX9_undo : MethodName := ⟨RX9, "undo", "()I"⟩
abbrev cX9_isOf : ByteArray := prog_11_method_33_code
def yX9_isOf : MethodName := ⟨RX9, "isOf", "(II)Z"⟩
abbrev cX9_priceOf : ByteArray := prog_11_method_34_code
def yX9_priceOf : MethodName := ⟨RX9, "priceOf", "(I)I"⟩
abbrev cX9_member : ByteArray := prog_11_method_35_code
def yX9_member : MethodName := ⟨RX9, "member", "(II)I"⟩
abbrev cX9_typesOf : ByteArray := prog_11_method_36_code
def yX9_typesOf : MethodName := ⟨RX9, "typesOf", "(IZ)I"⟩
abbrev cX9_givers : ByteArray := prog_11_method_37_code
def yX9_givers : MethodName := ⟨RX9, "givers", "(I)I"⟩
abbrev cX9_type : ByteArray := prog_11_method_38_code
def yX9_type : MethodName := ⟨RX9, "type", "(II)I"⟩
abbrev cX9_cut : ByteArray := prog_11_method_39_code
def yX9_cut : MethodName := ⟨RX9, "cut", "(J)J"⟩
abbrev cX9_headed : ByteArray := prog_11_method_40_code
def yX9_headed : MethodName := ⟨RX9, "headed", "(II)J"⟩
abbrev cX9_layWays : ByteArray := prog_11_method_41_code
def yX9_layWays : MethodName := ⟨RX9, "layWays", "(I)V"⟩
abbrev cX9_toldOf : ByteArray := prog_11_method_42_code
def yX9_toldOf : MethodName := ⟨RX9, "toldOf", "(J)I"⟩
abbrev cX9_many : ByteArray := prog_11_method_43_code
def yX9_many : MethodName := ⟨RX9, "many", "(II)I"⟩
abbrev cX9_cheapestOf : ByteArray := prog_11_method_44_code
def yX9_cheapestOf : MethodName := ⟨RX9, "cheapestOf", "(I)I"⟩
abbrev cX9_cheapest : ByteArray := prog_11_method_45_code
def yX9_cheapest : MethodName := ⟨RX9, "cheapest", "(I)I"⟩
abbrev cX9_await0 : ByteArray := prog_11_method_46_code
def yX9_await0 : MethodName := ⟨RX9, "await0", "(I)V"⟩
abbrev cX9_awaitsFirst : ByteArray := prog_11_method_47_code
def yX9_awaitsFirst : MethodName := ⟨RX9, "awaitsFirst", "(I)V"⟩
abbrev cX9_gives : ByteArray := prog_11_method_48_code
def yX9_gives : MethodName := ⟨RX9, "gives", "(I)V"⟩
abbrev cX9_goesOn : ByteArray := prog_11_method_49_code
def yX9_goesOn : MethodName := ⟨RX9, "goesOn", "(II)J"⟩
abbrev cX9_laysCode : ByteArray := prog_11_method_50_code
def yX9_laysCode : MethodName := ⟨RX9, "laysCode", "(II)Z"⟩
abbrev cX9_listed : ByteArray := prog_11_method_51_code
def yX9_listed : MethodName := ⟨RX9, "listed", "(III)I"⟩
abbrev cX9_isWhole : ByteArray := prog_11_method_52_code
def yX9_isWhole : MethodName := ⟨RX9, "isWhole", "(II)Z"⟩
abbrev cX9_word : ByteArray := prog_11_method_53_code
def yX9_word : MethodName := ⟨RX9, "word", "(IIII)I"⟩
abbrev cX9_placeOf : ByteArray := prog_11_method_54_code
def yX9_placeOf : MethodName := ⟨RX9, "placeOf", "(III)J"⟩
abbrev cX9_place : ByteArray := prog_11_method_55_code
def yX9_place : MethodName := ⟨RX9, "place", "(III)I"⟩
abbrev cX9_hadBy : ByteArray := prog_11_method_56_code
def yX9_hadBy : MethodName := ⟨RX9, "hadBy", "(I)I"⟩
abbrev cX9_had : ByteArray := prog_11_method_57_code
def yX9_had : MethodName := ⟨RX9, "had", "()I"⟩
abbrev cX9_needed : ByteArray := prog_11_method_58_code
def yX9_needed : MethodName := ⟨RX9, "needed", "(I)I"⟩
abbrev cX9_without : ByteArray := prog_11_method_59_code
def yX9_without : MethodName := ⟨RX9, "without", "(II)I"⟩
abbrev cX9_share : ByteArray := prog_11_method_60_code
def yX9_share : MethodName := ⟨RX9, "share", "(II)I"⟩
abbrev cX9_drawn : ByteArray := prog_11_method_61_code
def yX9_drawn : MethodName := ⟨RX9, "drawn", "(IIII)I"⟩
abbrev cX9_image : ByteArray := prog_11_method_62_code
def yX9_image : MethodName := ⟨RX9, "image", "(I)I"⟩
abbrev cX9_restore : ByteArray := prog_11_method_63_code
def yX9_restore : MethodName := ⟨RX9, "restore", "(I)I"⟩
abbrev cX9_kind : ByteArray := prog_11_method_64_code
def yX9_kind : MethodName := ⟨RX9, "kind", "(I)I"⟩
abbrev cX9_isA : ByteArray := prog_11_method_65_code
def yX9_isA : MethodName := ⟨RX9, "isA", "(II)Z"⟩
abbrev cX9_as : ByteArray := prog_11_method_66_code
def yX9_as : MethodName := ⟨RX9, "as", "(II)I"⟩
abbrev cX9_traces : ByteArray := prog_11_method_67_code
def yX9_traces : MethodName := ⟨RX9, "traces", "(I)V"⟩
abbrev cX9_size10 : ByteArray := prog_11_method_68_code
def yX9_size10 : MethodName := ⟨RX9, "size10", "(I)I"⟩
abbrev cX9_size11 : ByteArray := prog_11_method_69_code
def yX9_size11 : MethodName := ⟨RX9, "size11", "(I)I"⟩
abbrev cX9_size13 : ByteArray := prog_11_method_70_code
def yX9_size13 : MethodName := ⟨RX9, "size13", "(I)I"⟩
abbrev cX9_sizeOf : ByteArray := prog_11_method_71_code
def yX9_sizeOf : MethodName := ⟨RX9, "sizeOf", "(I)I"⟩
abbrev cX9_mark20 : ByteArray := prog_11_method_72_code
def yX9_mark20 : MethodName := ⟨RX9, "mark20", "(I)I"⟩
abbrev cX9_mark21 : ByteArray := prog_11_method_73_code
def yX9_mark21 : MethodName := ⟨RX9, "mark21", "(I)I"⟩
abbrev cX9_markOf : ByteArray := prog_11_method_74_code
def yX9_markOf : MethodName := ⟨RX9, "markOf", "(I)I"⟩
abbrev cX9_mark23 : ByteArray := prog_11_method_75_code
def yX9_mark23 : MethodName := ⟨RX9, "mark23", "(I)I"⟩
abbrev cX9_ask : ByteArray := prog_11_method_76_code
def yX9_ask : MethodName := ⟨RX9, "ask", "(II)I"⟩
abbrev cX9_trace : ByteArray := prog_11_method_77_code
def yX9_trace : MethodName := ⟨RX9, "trace", "(I)I"⟩
abbrev cX9_rowsThere : ByteArray := prog_11_method_78_code
def yX9_rowsThere : MethodName := ⟨RX9, "rowsThere", "()I"⟩
abbrev cX9_count : ByteArray := prog_11_method_79_code
def yX9_count : MethodName := ⟨RX9, "count", "(I)I"⟩
abbrev cX9_status : ByteArray := prog_11_method_80_code
def yX9_status : MethodName := ⟨RX9, "status", "()I"⟩
def RJ9 : String := "java/lang/Math"
def TJ9 : u_T := fun k => match k with
  | _ => ("", "", "", false)
def tyJ9 : Nat → FieldType := fun k => match k with
  | _ => .int
abbrev wsJ90 : List Cond := u_ws RJ9 TJ9 0
theorem nmJ9 : ∀ a, a < 0 → ∀ b, b < 0 → a ≠ b → (TJ9 a).2.1 ≠ (TJ9 b).2.1 := by decide +kernel
theorem tyJ9_ok : ∀ k, k < 0 → parseFieldDescriptor (TJ9 k).2.2.1 = some (tyJ9 k) := by decide +kernel
abbrev cJ9_max_7cf53 : ByteArray := prog_12_method_65_code
def yJ9_max_7cf53 : MethodName := ⟨RJ9, "max", "(II)I"⟩
abbrev cJ9_min_f86c9 : ByteArray := prog_12_method_70_code
def yJ9_min_f86c9 : MethodName := ⟨RJ9, "min", "(JJ)J"⟩
def RJ10 : String := "java/lang/System"
def TJ10 : u_T := fun k => match k with
  | _ => ("", "", "", false)
def tyJ10 : Nat → FieldType := fun k => match k with
  | _ => .int
abbrev wsJ100 : List Cond := u_ws RJ10 TJ10 0
theorem nmJ10 : ∀ a, a < 0 → ∀ b, b < 0 → a ≠ b → (TJ10 a).2.1 ≠ (TJ10 b).2.1 := by decide +kernel
theorem tyJ10_ok : ∀ k, k < 0 → parseFieldDescriptor (TJ10 k).2.2.1 = some (tyJ10 k) := by decide +kernel
def RJ7 : String := "java/util/Arrays"
def TJ7 : u_T := fun k => match k with
  | _ => ("", "", "", false)
def tyJ7 : Nat → FieldType := fun k => match k with
  | _ => .int
abbrev wsJ70 : List Cond := u_ws RJ7 TJ7 0
theorem nmJ7 : ∀ a, a < 0 → ∀ b, b < 0 → a ≠ b → (TJ7 a).2.1 ≠ (TJ7 b).2.1 := by decide +kernel
theorem tyJ7_ok : ∀ k, k < 0 → parseFieldDescriptor (TJ7 k).2.2.1 = some (tyJ7 k) := by decide +kernel
abbrev cJ7_fill_53178 : ByteArray := prog_14_method_103_code
def yJ7_fill_53178 : MethodName := ⟨RJ7, "fill", "([II)V"⟩
def RL : String := "WantedTypesLaw"
abbrev cL_law : ByteArray := code
def yL_law : MethodName := ⟨RL, "law", "([I)Z"⟩
abbrev vwCl : List vw_C := [(RX0, TX0, 4), (RX1, TX1, 3), (RX2, TX2, 9), (RX3, TX3, 2), (RX4, TX4, 5), (RX5, TX5, 3), (RX6, TX6, 5), (RX7, TX7, 11), (RX8, TX8, 11), (RX9, TX9, 23)]
end
section
theorem dX0_init_0 : decode cX0_init 0 = .ok (.aload_n 0, 1) := by decide +kernel
theorem dX0_init_1 : decode cX0_init 1 = .ok (.invokespecial 1, 3) := by decide +kernel
theorem dX0_init_4 : decode cX0_init 4 = .ok (.aload_n 0, 1) := by decide +kernel
theorem dX0_init_5 : decode cX0_init 5 = .ok (.bipush 24, 2) := by decide +kernel
theorem dX0_init_7 : decode cX0_init 7 = .ok (.newarray .int, 2) := by decide +kernel
theorem dX0_init_9 : decode cX0_init 9 = .ok (.putfield 9, 3) := by decide +kernel
theorem dX0_init_12 : decode cX0_init 12 = .ok (.aload_n 0, 1) := by decide +kernel
theorem dX0_init_13 : decode cX0_init 13 = .ok (.bipush 24, 2) := by decide +kernel
theorem dX0_init_15 : decode cX0_init 15 = .ok (.newarray .int, 2) := by decide +kernel
theorem dX0_init_17 : decode cX0_init 17 = .ok (.putfield 13, 3) := by decide +kernel
theorem dX0_init_20 : decode cX0_init 20 = .ok (.aload_n 0, 1) := by decide +kernel
theorem dX0_init_21 : decode cX0_init 21 = .ok (.bipush 24, 2) := by decide +kernel
theorem dX0_init_23 : decode cX0_init 23 = .ok (.newarray .int, 2) := by decide +kernel
theorem dX0_init_25 : decode cX0_init 25 = .ok (.putfield 16, 3) := by decide +kernel
theorem dX0_init_28 : decode cX0_init 28 = .ok (.return_, 1) := by decide +kernel
theorem dX0_keep_0 : decode cX0_keep 0 = .ok (.aload_n 0, 1) := by decide +kernel
theorem dX0_keep_1 : decode cX0_keep 1 = .ok (.getfield 19, 3) := by decide +kernel
theorem dX0_keep_4 : decode cX0_keep 4 = .ok (.bipush 24, 2) := by decide +kernel
theorem dX0_keep_6 : decode cX0_keep 6 = .ok (.if_icmp .ne 7, 3) := by decide +kernel
theorem dX0_keep_9 : decode cX0_keep 9 = .ok (.aload_n 0, 1) := by decide +kernel
theorem dX0_keep_10 : decode cX0_keep 10 = .ok (.invokevirtual 23, 3) := by decide +kernel
theorem dX0_keep_13 : decode cX0_keep 13 = .ok (.aload_n 0, 1) := by decide +kernel
theorem dX0_keep_14 : decode cX0_keep 14 = .ok (.getfield 9, 3) := by decide +kernel
theorem dX0_keep_17 : decode cX0_keep 17 = .ok (.aload_n 0, 1) := by decide +kernel
theorem dX0_keep_18 : decode cX0_keep 18 = .ok (.getfield 19, 3) := by decide +kernel
theorem dX0_keep_21 : decode cX0_keep 21 = .ok (.iload_n 1, 1) := by decide +kernel
theorem dX0_keep_22 : decode cX0_keep 22 = .ok (.iastore, 1) := by decide +kernel
theorem dX0_keep_23 : decode cX0_keep 23 = .ok (.aload_n 0, 1) := by decide +kernel
theorem dX0_keep_24 : decode cX0_keep 24 = .ok (.getfield 13, 3) := by decide +kernel
theorem dX0_keep_27 : decode cX0_keep 27 = .ok (.aload_n 0, 1) := by decide +kernel
theorem dX0_keep_28 : decode cX0_keep 28 = .ok (.getfield 19, 3) := by decide +kernel
theorem dX0_keep_31 : decode cX0_keep 31 = .ok (.iload_n 2, 1) := by decide +kernel
theorem dX0_keep_32 : decode cX0_keep 32 = .ok (.iastore, 1) := by decide +kernel
theorem dX0_keep_33 : decode cX0_keep 33 = .ok (.aload_n 0, 1) := by decide +kernel
theorem dX0_keep_34 : decode cX0_keep 34 = .ok (.getfield 16, 3) := by decide +kernel
theorem dX0_keep_37 : decode cX0_keep 37 = .ok (.aload_n 0, 1) := by decide +kernel
theorem dX0_keep_38 : decode cX0_keep 38 = .ok (.getfield 19, 3) := by decide +kernel
theorem dX0_keep_41 : decode cX0_keep 41 = .ok (.iload_n 3, 1) := by decide +kernel
theorem dX0_keep_42 : decode cX0_keep 42 = .ok (.iastore, 1) := by decide +kernel
theorem dX0_keep_43 : decode cX0_keep 43 = .ok (.aload_n 0, 1) := by decide +kernel
theorem dX0_keep_44 : decode cX0_keep 44 = .ok (.dup, 1) := by decide +kernel
theorem dX0_keep_45 : decode cX0_keep 45 = .ok (.getfield 19, 3) := by decide +kernel
theorem dX0_keep_48 : decode cX0_keep 48 = .ok (.iconst 1, 1) := by decide +kernel
theorem dX0_keep_49 : decode cX0_keep 49 = .ok (.iadd, 1) := by decide +kernel
theorem dX0_keep_50 : decode cX0_keep 50 = .ok (.putfield 19, 3) := by decide +kernel
theorem dX0_keep_53 : decode cX0_keep 53 = .ok (.return_, 1) := by decide +kernel
theorem dX0_forgetOldest_0 : decode cX0_forgetOldest 0 = .ok (.aload_n 0, 1) := by decide +kernel
theorem dX0_forgetOldest_1 : decode cX0_forgetOldest 1 = .ok (.bipush 23, 2) := by decide +kernel
theorem dX0_forgetOldest_3 : decode cX0_forgetOldest 3 = .ok (.putfield 19, 3) := by decide +kernel
theorem dX0_forgetOldest_6 : decode cX0_forgetOldest 6 = .ok (.aload_n 0, 1) := by decide +kernel
theorem dX0_forgetOldest_7 : decode cX0_forgetOldest 7 = .ok (.getfield 9, 3) := by decide +kernel
theorem dX0_forgetOldest_10 : decode cX0_forgetOldest 10 = .ok (.iconst 1, 1) := by decide +kernel
theorem dX0_forgetOldest_11 : decode cX0_forgetOldest 11 = .ok (.aload_n 0, 1) := by decide +kernel
theorem dX0_forgetOldest_12 : decode cX0_forgetOldest 12 = .ok (.getfield 9, 3) := by decide +kernel
theorem dX0_forgetOldest_15 : decode cX0_forgetOldest 15 = .ok (.iconst 0, 1) := by decide +kernel
theorem dX0_forgetOldest_16 : decode cX0_forgetOldest 16 = .ok (.aload_n 0, 1) := by decide +kernel
theorem dX0_forgetOldest_17 : decode cX0_forgetOldest 17 = .ok (.getfield 19, 3) := by decide +kernel
theorem dX0_forgetOldest_20 : decode cX0_forgetOldest 20 = .ok (.invokestatic 26, 3) := by decide +kernel
theorem dX0_forgetOldest_23 : decode cX0_forgetOldest 23 = .ok (.aload_n 0, 1) := by decide +kernel
theorem dX0_forgetOldest_24 : decode cX0_forgetOldest 24 = .ok (.getfield 13, 3) := by decide +kernel
theorem dX0_forgetOldest_27 : decode cX0_forgetOldest 27 = .ok (.iconst 1, 1) := by decide +kernel
theorem dX0_forgetOldest_28 : decode cX0_forgetOldest 28 = .ok (.aload_n 0, 1) := by decide +kernel
theorem dX0_forgetOldest_29 : decode cX0_forgetOldest 29 = .ok (.getfield 13, 3) := by decide +kernel
theorem dX0_forgetOldest_32 : decode cX0_forgetOldest 32 = .ok (.iconst 0, 1) := by decide +kernel
theorem dX0_forgetOldest_33 : decode cX0_forgetOldest 33 = .ok (.aload_n 0, 1) := by decide +kernel
theorem dX0_forgetOldest_34 : decode cX0_forgetOldest 34 = .ok (.getfield 19, 3) := by decide +kernel
theorem dX0_forgetOldest_37 : decode cX0_forgetOldest 37 = .ok (.invokestatic 26, 3) := by decide +kernel
theorem dX0_forgetOldest_40 : decode cX0_forgetOldest 40 = .ok (.aload_n 0, 1) := by decide +kernel
theorem dX0_forgetOldest_41 : decode cX0_forgetOldest 41 = .ok (.getfield 16, 3) := by decide +kernel
theorem dX0_forgetOldest_44 : decode cX0_forgetOldest 44 = .ok (.iconst 1, 1) := by decide +kernel
theorem dX0_forgetOldest_45 : decode cX0_forgetOldest 45 = .ok (.aload_n 0, 1) := by decide +kernel
theorem dX0_forgetOldest_46 : decode cX0_forgetOldest 46 = .ok (.getfield 16, 3) := by decide +kernel
theorem dX0_forgetOldest_49 : decode cX0_forgetOldest 49 = .ok (.iconst 0, 1) := by decide +kernel
theorem dX0_forgetOldest_50 : decode cX0_forgetOldest 50 = .ok (.aload_n 0, 1) := by decide +kernel
theorem dX0_forgetOldest_51 : decode cX0_forgetOldest 51 = .ok (.getfield 19, 3) := by decide +kernel
theorem dX0_forgetOldest_54 : decode cX0_forgetOldest 54 = .ok (.invokestatic 26, 3) := by decide +kernel
theorem dX0_forgetOldest_57 : decode cX0_forgetOldest 57 = .ok (.return_, 1) := by decide +kernel
theorem dX1_init_0 : decode cX1_init 0 = .ok (.aload_n 0, 1) := by decide +kernel
theorem dX1_init_1 : decode cX1_init 1 = .ok (.invokespecial 3, 3) := by decide +kernel
theorem dX1_init_4 : decode cX1_init 4 = .ok (.aload_n 0, 1) := by decide +kernel
theorem dX1_init_5 : decode cX1_init 5 = .ok (.bipush 16, 2) := by decide +kernel
theorem dX1_init_7 : decode cX1_init 7 = .ok (.newarray .int, 2) := by decide +kernel
theorem dX1_init_9 : decode cX1_init 9 = .ok (.putfield 11, 3) := by decide +kernel
theorem dX1_init_12 : decode cX1_init 12 = .ok (.aload_n 0, 1) := by decide +kernel
theorem dX1_init_13 : decode cX1_init 13 = .ok (.aload_n 1, 1) := by decide +kernel
theorem dX1_init_14 : decode cX1_init 14 = .ok (.putfield 15, 3) := by decide +kernel
theorem dX1_init_17 : decode cX1_init 17 = .ok (.return_, 1) := by decide +kernel
theorem dX1_sizeOf_0 : decode cX1_sizeOf 0 = .ok (.aload_n 0, 1) := by decide +kernel
theorem dX1_sizeOf_1 : decode cX1_sizeOf 1 = .ok (.getfield 15, 3) := by decide +kernel
theorem dX1_sizeOf_4 : decode cX1_sizeOf 4 = .ok (.iload_n 1, 1) := by decide +kernel
theorem dX1_sizeOf_5 : decode cX1_sizeOf 5 = .ok (.iconst 4, 1) := by decide +kernel
theorem dX1_sizeOf_6 : decode cX1_sizeOf 6 = .ok (.invokevirtual 19, 3) := by decide +kernel
theorem dX1_sizeOf_9 : decode cX1_sizeOf 9 = .ok (.ifCond .eq 11, 3) := by decide +kernel
theorem dX1_sizeOf_12 : decode cX1_sizeOf 12 = .ok (.aload_n 0, 1) := by decide +kernel
theorem dX1_sizeOf_13 : decode cX1_sizeOf 13 = .ok (.iload_n 1, 1) := by decide +kernel
theorem dX1_sizeOf_14 : decode cX1_sizeOf 14 = .ok (.invokevirtual 25, 3) := by decide +kernel
theorem dX1_sizeOf_17 : decode cX1_sizeOf 17 = .ok (.goto 8, 3) := by decide +kernel
theorem dX1_sizeOf_20 : decode cX1_sizeOf 20 = .ok (.aload_n 0, 1) := by decide +kernel
theorem dX1_sizeOf_21 : decode cX1_sizeOf 21 = .ok (.iload_n 1, 1) := by decide +kernel
theorem dX1_sizeOf_22 : decode cX1_sizeOf 22 = .ok (.invokevirtual 29, 3) := by decide +kernel
theorem dX1_sizeOf_25 : decode cX1_sizeOf 25 = .ok (.ireturn, 1) := by decide +kernel
theorem dX1_markOf_0 : decode cX1_markOf 0 = .ok (.aload_n 0, 1) := by decide +kernel
theorem dX1_markOf_1 : decode cX1_markOf 1 = .ok (.getfield 15, 3) := by decide +kernel
theorem dX1_markOf_4 : decode cX1_markOf 4 = .ok (.iload_n 1, 1) := by decide +kernel
theorem dX1_markOf_5 : decode cX1_markOf 5 = .ok (.iconst 4, 1) := by decide +kernel
theorem dX1_markOf_6 : decode cX1_markOf 6 = .ok (.invokevirtual 19, 3) := by decide +kernel
theorem dX1_markOf_9 : decode cX1_markOf 9 = .ok (.ifCond .eq 11, 3) := by decide +kernel
theorem dX1_markOf_12 : decode cX1_markOf 12 = .ok (.aload_n 0, 1) := by decide +kernel
theorem dX1_markOf_13 : decode cX1_markOf 13 = .ok (.iload_n 1, 1) := by decide +kernel
theorem dX1_markOf_14 : decode cX1_markOf 14 = .ok (.invokevirtual 32, 3) := by decide +kernel
theorem dX1_markOf_17 : decode cX1_markOf 17 = .ok (.goto 8, 3) := by decide +kernel
theorem dX1_markOf_20 : decode cX1_markOf 20 = .ok (.aload_n 0, 1) := by decide +kernel
theorem dX1_markOf_21 : decode cX1_markOf 21 = .ok (.iload_n 1, 1) := by decide +kernel
theorem dX1_markOf_22 : decode cX1_markOf 22 = .ok (.invokevirtual 35, 3) := by decide +kernel
theorem dX1_markOf_25 : decode cX1_markOf 25 = .ok (.ireturn, 1) := by decide +kernel
theorem dX1_sizeOfLocal_0 : decode cX1_sizeOfLocal 0 = .ok (.aload_n 0, 1) := by decide +kernel
theorem dX1_sizeOfLocal_1 : decode cX1_sizeOfLocal 1 = .ok (.getfield 15, 3) := by decide +kernel
theorem dX1_sizeOfLocal_4 : decode cX1_sizeOfLocal 4 = .ok (.iload_n 1, 1) := by decide +kernel
theorem dX1_sizeOfLocal_5 : decode cX1_sizeOfLocal 5 = .ok (.iconst 2, 1) := by decide +kernel
theorem dX1_sizeOfLocal_6 : decode cX1_sizeOfLocal 6 = .ok (.invokevirtual 19, 3) := by decide +kernel
theorem dX1_sizeOfLocal_9 : decode cX1_sizeOfLocal 9 = .ok (.ifCond .eq 11, 3) := by decide +kernel
theorem dX1_sizeOfLocal_12 : decode cX1_sizeOfLocal 12 = .ok (.aload_n 0, 1) := by decide +kernel
theorem dX1_sizeOfLocal_13 : decode cX1_sizeOfLocal 13 = .ok (.iload_n 1, 1) := by decide +kernel
theorem dX1_sizeOfLocal_14 : decode cX1_sizeOfLocal 14 = .ok (.invokevirtual 38, 3) := by decide +kernel
theorem dX1_sizeOfLocal_17 : decode cX1_sizeOfLocal 17 = .ok (.goto 8, 3) := by decide +kernel
theorem dX1_sizeOfLocal_20 : decode cX1_sizeOfLocal 20 = .ok (.aload_n 0, 1) := by decide +kernel
theorem dX1_sizeOfLocal_21 : decode cX1_sizeOfLocal 21 = .ok (.iload_n 1, 1) := by decide +kernel
theorem dX1_sizeOfLocal_22 : decode cX1_sizeOfLocal 22 = .ok (.invokevirtual 41, 3) := by decide +kernel
theorem dX1_sizeOfLocal_25 : decode cX1_sizeOfLocal 25 = .ok (.ireturn, 1) := by decide +kernel
theorem dX1_sizeOfCall_0 : decode cX1_sizeOfCall 0 = .ok (.aload_n 0, 1) := by decide +kernel
theorem dX1_sizeOfCall_1 : decode cX1_sizeOfCall 1 = .ok (.getfield 15, 3) := by decide +kernel
theorem dX1_sizeOfCall_4 : decode cX1_sizeOfCall 4 = .ok (.iload_n 1, 1) := by decide +kernel
theorem dX1_sizeOfCall_5 : decode cX1_sizeOfCall 5 = .ok (.iconst 5, 1) := by decide +kernel
theorem dX1_sizeOfCall_6 : decode cX1_sizeOfCall 6 = .ok (.invokevirtual 19, 3) := by decide +kernel
theorem dX1_sizeOfCall_9 : decode cX1_sizeOfCall 9 = .ok (.ifCond .eq 11, 3) := by decide +kernel
theorem dX1_sizeOfCall_12 : decode cX1_sizeOfCall 12 = .ok (.aload_n 0, 1) := by decide +kernel
theorem dX1_sizeOfCall_13 : decode cX1_sizeOfCall 13 = .ok (.iload_n 1, 1) := by decide +kernel
theorem dX1_sizeOfCall_14 : decode cX1_sizeOfCall 14 = .ok (.invokevirtual 44, 3) := by decide +kernel
theorem dX1_sizeOfCall_17 : decode cX1_sizeOfCall 17 = .ok (.goto 8, 3) := by decide +kernel
theorem dX1_sizeOfCall_20 : decode cX1_sizeOfCall 20 = .ok (.aload_n 0, 1) := by decide +kernel
theorem dX1_sizeOfCall_21 : decode cX1_sizeOfCall 21 = .ok (.iload_n 1, 1) := by decide +kernel
theorem dX1_sizeOfCall_22 : decode cX1_sizeOfCall 22 = .ok (.invokevirtual 47, 3) := by decide +kernel
theorem dX1_sizeOfCall_25 : decode cX1_sizeOfCall 25 = .ok (.ireturn, 1) := by decide +kernel
theorem dX1_markOfLocal_0 : decode cX1_markOfLocal 0 = .ok (.aload_n 0, 1) := by decide +kernel
theorem dX1_markOfLocal_1 : decode cX1_markOfLocal 1 = .ok (.getfield 15, 3) := by decide +kernel
theorem dX1_markOfLocal_4 : decode cX1_markOfLocal 4 = .ok (.getfield 50, 3) := by decide +kernel
theorem dX1_markOfLocal_7 : decode cX1_markOfLocal 7 = .ok (.iload_n 1, 1) := by decide +kernel
theorem dX1_markOfLocal_8 : decode cX1_markOfLocal 8 = .ok (.iaload, 1) := by decide +kernel
theorem dX1_markOfLocal_9 : decode cX1_markOfLocal 9 = .ok (.lookupswitch 39 #[(2, 27), (3, 33)], 27) := by decide +kernel
theorem dX1_markOfLocal_36 : decode cX1_markOfLocal 36 = .ok (.aload_n 0, 1) := by decide +kernel
theorem dX1_markOfLocal_37 : decode cX1_markOfLocal 37 = .ok (.iload_n 1, 1) := by decide +kernel
theorem dX1_markOfLocal_38 : decode cX1_markOfLocal 38 = .ok (.invokevirtual 53, 3) := by decide +kernel
theorem dX1_markOfLocal_41 : decode cX1_markOfLocal 41 = .ok (.ireturn, 1) := by decide +kernel
theorem dX1_markOfLocal_42 : decode cX1_markOfLocal 42 = .ok (.aload_n 0, 1) := by decide +kernel
theorem dX1_markOfLocal_43 : decode cX1_markOfLocal 43 = .ok (.iload_n 1, 1) := by decide +kernel
theorem dX1_markOfLocal_44 : decode cX1_markOfLocal 44 = .ok (.invokevirtual 56, 3) := by decide +kernel
theorem dX1_markOfLocal_47 : decode cX1_markOfLocal 47 = .ok (.ireturn, 1) := by decide +kernel
theorem dX1_markOfLocal_48 : decode cX1_markOfLocal 48 = .ok (.aload_n 0, 1) := by decide +kernel
theorem dX1_markOfLocal_49 : decode cX1_markOfLocal 49 = .ok (.iload_n 1, 1) := by decide +kernel
theorem dX1_markOfLocal_50 : decode cX1_markOfLocal 50 = .ok (.invokevirtual 59, 3) := by decide +kernel
theorem dX1_markOfLocal_53 : decode cX1_markOfLocal 53 = .ok (.ireturn, 1) := by decide +kernel
theorem dX1_body10_0 : decode cX1_body10 0 = .ok (.aload_n 0, 1) := by decide +kernel
theorem dX1_body10_1 : decode cX1_body10 1 = .ok (.bipush 10, 2) := by decide +kernel
theorem dX1_body10_3 : decode cX1_body10 3 = .ok (.invokevirtual 62, 3) := by decide +kernel
theorem dX1_body10_6 : decode cX1_body10 6 = .ok (.aload_n 0, 1) := by decide +kernel
theorem dX1_body10_7 : decode cX1_body10 7 = .ok (.getfield 15, 3) := by decide +kernel
theorem dX1_body10_10 : decode cX1_body10 10 = .ok (.getfield 66, 3) := by decide +kernel
theorem dX1_body10_13 : decode cX1_body10 13 = .ok (.iload_n 1, 1) := by decide +kernel
theorem dX1_body10_14 : decode cX1_body10 14 = .ok (.iaload, 1) := by decide +kernel
theorem dX1_body10_15 : decode cX1_body10 15 = .ok (.ireturn, 1) := by decide +kernel
theorem dX1_body11_0 : decode cX1_body11 0 = .ok (.aload_n 0, 1) := by decide +kernel
theorem dX1_body11_1 : decode cX1_body11 1 = .ok (.bipush 11, 2) := by decide +kernel
theorem dX1_body11_3 : decode cX1_body11 3 = .ok (.invokevirtual 62, 3) := by decide +kernel
theorem dX1_body11_6 : decode cX1_body11 6 = .ok (.aload_n 0, 1) := by decide +kernel
theorem dX1_body11_7 : decode cX1_body11 7 = .ok (.iload_n 1, 1) := by decide +kernel
theorem dX1_body11_8 : decode cX1_body11 8 = .ok (.invokevirtual 69, 3) := by decide +kernel
theorem dX1_body11_11 : decode cX1_body11 11 = .ok (.istore_n 2, 1) := by decide +kernel
theorem dX1_body11_12 : decode cX1_body11 12 = .ok (.iload_n 2, 1) := by decide +kernel
theorem dX1_body11_13 : decode cX1_body11 13 = .ok (.aload_n 0, 1) := by decide +kernel
theorem dX1_body11_14 : decode cX1_body11 14 = .ok (.iload_n 1, 1) := by decide +kernel
theorem dX1_body11_15 : decode cX1_body11 15 = .ok (.invokevirtual 35, 3) := by decide +kernel
theorem dX1_body11_18 : decode cX1_body11 18 = .ok (.iadd, 1) := by decide +kernel
theorem dX1_body11_19 : decode cX1_body11 19 = .ok (.ireturn, 1) := by decide +kernel
theorem dX1_body12_0 : decode cX1_body12 0 = .ok (.aload_n 0, 1) := by decide +kernel
theorem dX1_body12_1 : decode cX1_body12 1 = .ok (.bipush 12, 2) := by decide +kernel
theorem dX1_body12_3 : decode cX1_body12 3 = .ok (.invokevirtual 62, 3) := by decide +kernel
theorem dX1_body12_6 : decode cX1_body12 6 = .ok (.aload_n 0, 1) := by decide +kernel
theorem dX1_body12_7 : decode cX1_body12 7 = .ok (.iload_n 1, 1) := by decide +kernel
theorem dX1_body12_8 : decode cX1_body12 8 = .ok (.invokevirtual 41, 3) := by decide +kernel
theorem dX1_body12_11 : decode cX1_body12 11 = .ok (.ineg, 1) := by decide +kernel
theorem dX1_body12_12 : decode cX1_body12 12 = .ok (.ireturn, 1) := by decide +kernel
theorem dX1_body13_0 : decode cX1_body13 0 = .ok (.aload_n 0, 1) := by decide +kernel
theorem dX1_body13_1 : decode cX1_body13 1 = .ok (.bipush 13, 2) := by decide +kernel
theorem dX1_body13_3 : decode cX1_body13 3 = .ok (.invokevirtual 62, 3) := by decide +kernel
theorem dX1_body13_6 : decode cX1_body13 6 = .ok (.aload_n 0, 1) := by decide +kernel
theorem dX1_body13_7 : decode cX1_body13 7 = .ok (.iload_n 1, 1) := by decide +kernel
theorem dX1_body13_8 : decode cX1_body13 8 = .ok (.invokevirtual 69, 3) := by decide +kernel
theorem dX1_body13_11 : decode cX1_body13 11 = .ok (.bipush 100, 2) := by decide +kernel
theorem dX1_body13_13 : decode cX1_body13 13 = .ok (.isub, 1) := by decide +kernel
theorem dX1_body13_14 : decode cX1_body13 14 = .ok (.ireturn, 1) := by decide +kernel
theorem dX1_body14_0 : decode cX1_body14 0 = .ok (.aload_n 0, 1) := by decide +kernel
theorem dX1_body14_1 : decode cX1_body14 1 = .ok (.bipush 14, 2) := by decide +kernel
theorem dX1_body14_3 : decode cX1_body14 3 = .ok (.invokevirtual 62, 3) := by decide +kernel
theorem dX1_body14_6 : decode cX1_body14 6 = .ok (.aload_n 0, 1) := by decide +kernel
theorem dX1_body14_7 : decode cX1_body14 7 = .ok (.iload_n 1, 1) := by decide +kernel
theorem dX1_body14_8 : decode cX1_body14 8 = .ok (.invokevirtual 47, 3) := by decide +kernel
theorem dX1_body14_11 : decode cX1_body14 11 = .ok (.iconst 2, 1) := by decide +kernel
theorem dX1_body14_12 : decode cX1_body14 12 = .ok (.imul, 1) := by decide +kernel
theorem dX1_body14_13 : decode cX1_body14 13 = .ok (.ireturn, 1) := by decide +kernel
theorem dX1_body20_0 : decode cX1_body20 0 = .ok (.aload_n 0, 1) := by decide +kernel
theorem dX1_body20_1 : decode cX1_body20 1 = .ok (.bipush 20, 2) := by decide +kernel
theorem dX1_body20_3 : decode cX1_body20 3 = .ok (.invokevirtual 62, 3) := by decide +kernel
theorem dX1_body20_6 : decode cX1_body20 6 = .ok (.iload_n 1, 1) := by decide +kernel
theorem dX1_body20_7 : decode cX1_body20 7 = .ok (.ireturn, 1) := by decide +kernel
theorem dX1_body21_0 : decode cX1_body21 0 = .ok (.aload_n 0, 1) := by decide +kernel
theorem dX1_body21_1 : decode cX1_body21 1 = .ok (.bipush 21, 2) := by decide +kernel
theorem dX1_body21_3 : decode cX1_body21 3 = .ok (.invokevirtual 62, 3) := by decide +kernel
theorem dX1_body21_6 : decode cX1_body21 6 = .ok (.aload_n 0, 1) := by decide +kernel
theorem dX1_body21_7 : decode cX1_body21 7 = .ok (.iload_n 1, 1) := by decide +kernel
theorem dX1_body21_8 : decode cX1_body21 8 = .ok (.invokevirtual 72, 3) := by decide +kernel
theorem dX1_body21_11 : decode cX1_body21 11 = .ok (.aload_n 0, 1) := by decide +kernel
theorem dX1_body21_12 : decode cX1_body21 12 = .ok (.getfield 15, 3) := by decide +kernel
theorem dX1_body21_15 : decode cX1_body21 15 = .ok (.getfield 75, 3) := by decide +kernel
theorem dX1_body21_18 : decode cX1_body21 18 = .ok (.iload_n 1, 1) := by decide +kernel
theorem dX1_body21_19 : decode cX1_body21 19 = .ok (.iaload, 1) := by decide +kernel
theorem dX1_body21_20 : decode cX1_body21 20 = .ok (.iadd, 1) := by decide +kernel
theorem dX1_body21_21 : decode cX1_body21 21 = .ok (.ireturn, 1) := by decide +kernel
theorem dX1_body22_0 : decode cX1_body22 0 = .ok (.aload_n 0, 1) := by decide +kernel
theorem dX1_body22_1 : decode cX1_body22 1 = .ok (.bipush 22, 2) := by decide +kernel
theorem dX1_body22_3 : decode cX1_body22 3 = .ok (.invokevirtual 62, 3) := by decide +kernel
theorem dX1_body22_6 : decode cX1_body22 6 = .ok (.aload_n 0, 1) := by decide +kernel
theorem dX1_body22_7 : decode cX1_body22 7 = .ok (.iload_n 1, 1) := by decide +kernel
theorem dX1_body22_8 : decode cX1_body22 8 = .ok (.invokevirtual 59, 3) := by decide +kernel
theorem dX1_body22_11 : decode cX1_body22 11 = .ok (.sipush 1000, 3) := by decide +kernel
theorem dX1_body22_14 : decode cX1_body22 14 = .ok (.isub, 1) := by decide +kernel
theorem dX1_body22_15 : decode cX1_body22 15 = .ok (.ireturn, 1) := by decide +kernel
theorem dX1_body23_0 : decode cX1_body23 0 = .ok (.aload_n 0, 1) := by decide +kernel
theorem dX1_body23_1 : decode cX1_body23 1 = .ok (.bipush 23, 2) := by decide +kernel
theorem dX1_body23_3 : decode cX1_body23 3 = .ok (.invokevirtual 62, 3) := by decide +kernel
theorem dX1_body23_6 : decode cX1_body23 6 = .ok (.aload_n 0, 1) := by decide +kernel
theorem dX1_body23_7 : decode cX1_body23 7 = .ok (.iload_n 1, 1) := by decide +kernel
theorem dX1_body23_8 : decode cX1_body23 8 = .ok (.invokevirtual 72, 3) := by decide +kernel
theorem dX1_body23_11 : decode cX1_body23 11 = .ok (.istore_n 2, 1) := by decide +kernel
theorem dX1_body23_12 : decode cX1_body23 12 = .ok (.iload_n 2, 1) := by decide +kernel
theorem dX1_body23_13 : decode cX1_body23 13 = .ok (.aload_n 0, 1) := by decide +kernel
theorem dX1_body23_14 : decode cX1_body23 14 = .ok (.iload_n 1, 1) := by decide +kernel
theorem dX1_body23_15 : decode cX1_body23 15 = .ok (.invokevirtual 25, 3) := by decide +kernel
theorem dX1_body23_18 : decode cX1_body23 18 = .ok (.isub, 1) := by decide +kernel
theorem dX1_body23_19 : decode cX1_body23 19 = .ok (.ireturn, 1) := by decide +kernel
theorem dX1_body24_0 : decode cX1_body24 0 = .ok (.aload_n 0, 1) := by decide +kernel
theorem dX1_body24_1 : decode cX1_body24 1 = .ok (.bipush 24, 2) := by decide +kernel
theorem dX1_body24_3 : decode cX1_body24 3 = .ok (.invokevirtual 62, 3) := by decide +kernel
theorem dX1_body24_6 : decode cX1_body24 6 = .ok (.aload_n 0, 1) := by decide +kernel
theorem dX1_body24_7 : decode cX1_body24 7 = .ok (.iload_n 1, 1) := by decide +kernel
theorem dX1_body24_8 : decode cX1_body24 8 = .ok (.invokevirtual 59, 3) := by decide +kernel
theorem dX1_body24_11 : decode cX1_body24 11 = .ok (.iconst 2, 1) := by decide +kernel
theorem dX1_body24_12 : decode cX1_body24 12 = .ok (.imul, 1) := by decide +kernel
theorem dX1_body24_13 : decode cX1_body24 13 = .ok (.ireturn, 1) := by decide +kernel
theorem dX1_begin_0 : decode cX1_begin 0 = .ok (.aload_n 0, 1) := by decide +kernel
theorem dX1_begin_1 : decode cX1_begin 1 = .ok (.getfield 78, 3) := by decide +kernel
theorem dX1_begin_4 : decode cX1_begin 4 = .ok (.bipush 16, 2) := by decide +kernel
theorem dX1_begin_6 : decode cX1_begin 6 = .ok (.if_icmp .ge 23, 3) := by decide +kernel
theorem dX1_begin_9 : decode cX1_begin 9 = .ok (.aload_n 0, 1) := by decide +kernel
theorem dX1_begin_10 : decode cX1_begin 10 = .ok (.getfield 11, 3) := by decide +kernel
theorem dX1_begin_13 : decode cX1_begin 13 = .ok (.aload_n 0, 1) := by decide +kernel
theorem dX1_begin_14 : decode cX1_begin 14 = .ok (.getfield 78, 3) := by decide +kernel
theorem dX1_begin_17 : decode cX1_begin 17 = .ok (.iload_n 1, 1) := by decide +kernel
theorem dX1_begin_18 : decode cX1_begin 18 = .ok (.iastore, 1) := by decide +kernel
theorem dX1_begin_19 : decode cX1_begin 19 = .ok (.aload_n 0, 1) := by decide +kernel
theorem dX1_begin_20 : decode cX1_begin 20 = .ok (.dup, 1) := by decide +kernel
theorem dX1_begin_21 : decode cX1_begin 21 = .ok (.getfield 78, 3) := by decide +kernel
theorem dX1_begin_24 : decode cX1_begin 24 = .ok (.iconst 1, 1) := by decide +kernel
theorem dX1_begin_25 : decode cX1_begin 25 = .ok (.iadd, 1) := by decide +kernel
theorem dX1_begin_26 : decode cX1_begin 26 = .ok (.putfield 78, 3) := by decide +kernel
theorem dX1_begin_29 : decode cX1_begin 29 = .ok (.return_, 1) := by decide +kernel
theorem dX2_init_0 : decode cX2_init 0 = .ok (.aload_n 0, 1) := by decide +kernel
theorem dX2_init_1 : decode cX2_init 1 = .ok (.invokespecial 3, 3) := by decide +kernel
theorem dX2_init_4 : decode cX2_init 4 = .ok (.aload_n 0, 1) := by decide +kernel
theorem dX2_init_5 : decode cX2_init 5 = .ok (.bipush 12, 2) := by decide +kernel
theorem dX2_init_7 : decode cX2_init 7 = .ok (.bipush 25, 2) := by decide +kernel
theorem dX2_init_9 : decode cX2_init 9 = .ok (.multianewarray 9 2, 4) := by decide +kernel
theorem dX2_init_13 : decode cX2_init 13 = .ok (.putfield 11, 3) := by decide +kernel
theorem dX2_init_16 : decode cX2_init 16 = .ok (.aload_n 0, 1) := by decide +kernel
theorem dX2_init_17 : decode cX2_init 17 = .ok (.bipush 8, 2) := by decide +kernel
theorem dX2_init_19 : decode cX2_init 19 = .ok (.bipush 25, 2) := by decide +kernel
theorem dX2_init_21 : decode cX2_init 21 = .ok (.multianewarray 9 2, 4) := by decide +kernel
theorem dX2_init_25 : decode cX2_init 25 = .ok (.putfield 16, 3) := by decide +kernel
theorem dX2_init_28 : decode cX2_init 28 = .ok (.aload_n 0, 1) := by decide +kernel
theorem dX2_init_29 : decode cX2_init 29 = .ok (.bipush 25, 2) := by decide +kernel
theorem dX2_init_31 : decode cX2_init 31 = .ok (.bipush 25, 2) := by decide +kernel
theorem dX2_init_33 : decode cX2_init 33 = .ok (.multianewarray 9 2, 4) := by decide +kernel
theorem dX2_init_37 : decode cX2_init 37 = .ok (.putfield 19, 3) := by decide +kernel
theorem dX2_init_40 : decode cX2_init 40 = .ok (.aload_n 0, 1) := by decide +kernel
theorem dX2_init_41 : decode cX2_init 41 = .ok (.bipush 25, 2) := by decide +kernel
theorem dX2_init_43 : decode cX2_init 43 = .ok (.newarray .int, 2) := by decide +kernel
theorem dX2_init_45 : decode cX2_init 45 = .ok (.putfield 22, 3) := by decide +kernel
theorem dX2_init_48 : decode cX2_init 48 = .ok (.aload_n 0, 1) := by decide +kernel
theorem dX2_init_49 : decode cX2_init 49 = .ok (.bipush 24, 2) := by decide +kernel
theorem dX2_init_51 : decode cX2_init 51 = .ok (.newarray .int, 2) := by decide +kernel
theorem dX2_init_53 : decode cX2_init 53 = .ok (.putfield 26, 3) := by decide +kernel
theorem dX2_init_56 : decode cX2_init 56 = .ok (.aload_n 0, 1) := by decide +kernel
theorem dX2_init_57 : decode cX2_init 57 = .ok (.aload_n 1, 1) := by decide +kernel
theorem dX2_init_58 : decode cX2_init 58 = .ok (.putfield 29, 3) := by decide +kernel
theorem dX2_init_61 : decode cX2_init 61 = .ok (.aload_n 0, 1) := by decide +kernel
theorem dX2_init_62 : decode cX2_init 62 = .ok (.getfield 19, 3) := by decide +kernel
theorem dX2_init_65 : decode cX2_init 65 = .ok (.iconst 0, 1) := by decide +kernel
theorem dX2_init_66 : decode cX2_init 66 = .ok (.aaload, 1) := by decide +kernel
theorem dX2_init_67 : decode cX2_init 67 = .ok (.iconst 0, 1) := by decide +kernel
theorem dX2_init_68 : decode cX2_init 68 = .ok (.lconst 1, 1) := by decide +kernel
theorem dX2_init_69 : decode cX2_init 69 = .ok (.lastore, 1) := by decide +kernel
theorem dX2_init_70 : decode cX2_init 70 = .ok (.return_, 1) := by decide +kernel
theorem dX2_manyOfPrice_0 : decode cX2_manyOfPrice 0 = .ok (.aload_n 0, 1) := by decide +kernel
theorem dX2_manyOfPrice_1 : decode cX2_manyOfPrice 1 = .ok (.invokevirtual 33, 3) := by decide +kernel
theorem dX2_manyOfPrice_4 : decode cX2_manyOfPrice 4 = .ok (.aload_n 0, 1) := by decide +kernel
theorem dX2_manyOfPrice_5 : decode cX2_manyOfPrice 5 = .ok (.getfield 16, 3) := by decide +kernel
theorem dX2_manyOfPrice_8 : decode cX2_manyOfPrice 8 = .ok (.iload_n 1, 1) := by decide +kernel
theorem dX2_manyOfPrice_9 : decode cX2_manyOfPrice 9 = .ok (.aaload, 1) := by decide +kernel
theorem dX2_manyOfPrice_10 : decode cX2_manyOfPrice 10 = .ok (.iload_n 2, 1) := by decide +kernel
theorem dX2_manyOfPrice_11 : decode cX2_manyOfPrice 11 = .ok (.laload, 1) := by decide +kernel
theorem dX2_manyOfPrice_12 : decode cX2_manyOfPrice 12 = .ok (.ldc2_w 36, 3) := by decide +kernel
theorem dX2_manyOfPrice_15 : decode cX2_manyOfPrice 15 = .ok (.invokestatic 38, 3) := by decide +kernel
theorem dX2_manyOfPrice_18 : decode cX2_manyOfPrice 18 = .ok (.l2i, 1) := by decide +kernel
theorem dX2_manyOfPrice_19 : decode cX2_manyOfPrice 19 = .ok (.ireturn, 1) := by decide +kernel
theorem dX2_size_0 : decode cX2_size 0 = .ok (.aload_n 0, 1) := by decide +kernel
theorem dX2_size_1 : decode cX2_size 1 = .ok (.iload_n 1, 1) := by decide +kernel
theorem dX2_size_2 : decode cX2_size 2 = .ok (.bipush 25, 2) := by decide +kernel
theorem dX2_size_4 : decode cX2_size 4 = .ok (.invokevirtual 44, 3) := by decide +kernel
theorem dX2_size_7 : decode cX2_size 7 = .ok (.ldc2_w 36, 3) := by decide +kernel
theorem dX2_size_10 : decode cX2_size 10 = .ok (.invokestatic 38, 3) := by decide +kernel
theorem dX2_size_13 : decode cX2_size 13 = .ok (.l2i, 1) := by decide +kernel
theorem dX2_size_14 : decode cX2_size 14 = .ok (.ireturn, 1) := by decide +kernel
theorem dX2_manyBelow_0 : decode cX2_manyBelow 0 = .ok (.aload_n 0, 1) := by decide +kernel
theorem dX2_manyBelow_1 : decode cX2_manyBelow 1 = .ok (.invokevirtual 33, 3) := by decide +kernel
theorem dX2_manyBelow_4 : decode cX2_manyBelow 4 = .ok (.lconst 0, 1) := by decide +kernel
theorem dX2_manyBelow_5 : decode cX2_manyBelow 5 = .ok (.lstore_n 3, 1) := by decide +kernel
theorem dX2_manyBelow_6 : decode cX2_manyBelow 6 = .ok (.iconst 1, 1) := by decide +kernel
theorem dX2_manyBelow_7 : decode cX2_manyBelow 7 = .ok (.istore 5, 2) := by decide +kernel
theorem dX2_manyBelow_9 : decode cX2_manyBelow 9 = .ok (.iload 5, 2) := by decide +kernel
theorem dX2_manyBelow_11 : decode cX2_manyBelow 11 = .ok (.iload_n 2, 1) := by decide +kernel
theorem dX2_manyBelow_12 : decode cX2_manyBelow 12 = .ok (.if_icmp .ge 21, 3) := by decide +kernel
theorem dX2_manyBelow_15 : decode cX2_manyBelow 15 = .ok (.lload_n 3, 1) := by decide +kernel
theorem dX2_manyBelow_16 : decode cX2_manyBelow 16 = .ok (.aload_n 0, 1) := by decide +kernel
theorem dX2_manyBelow_17 : decode cX2_manyBelow 17 = .ok (.getfield 16, 3) := by decide +kernel
theorem dX2_manyBelow_20 : decode cX2_manyBelow 20 = .ok (.iload_n 1, 1) := by decide +kernel
theorem dX2_manyBelow_21 : decode cX2_manyBelow 21 = .ok (.aaload, 1) := by decide +kernel
theorem dX2_manyBelow_22 : decode cX2_manyBelow 22 = .ok (.iload 5, 2) := by decide +kernel
theorem dX2_manyBelow_24 : decode cX2_manyBelow 24 = .ok (.laload, 1) := by decide +kernel
theorem dX2_manyBelow_25 : decode cX2_manyBelow 25 = .ok (.ladd, 1) := by decide +kernel
theorem dX2_manyBelow_26 : decode cX2_manyBelow 26 = .ok (.lstore_n 3, 1) := by decide +kernel
theorem dX2_manyBelow_27 : decode cX2_manyBelow 27 = .ok (.iinc 5 1, 3) := by decide +kernel
theorem dX2_manyBelow_30 : decode cX2_manyBelow 30 = .ok (.goto (-21), 3) := by decide +kernel
theorem dX2_manyBelow_33 : decode cX2_manyBelow 33 = .ok (.lload_n 3, 1) := by decide +kernel
theorem dX2_manyBelow_34 : decode cX2_manyBelow 34 = .ok (.lreturn, 1) := by decide +kernel
theorem dX2_findPlace_0 : decode cX2_findPlace 0 = .ok (.aload_n 0, 1) := by decide +kernel
theorem dX2_findPlace_1 : decode cX2_findPlace 1 = .ok (.invokevirtual 33, 3) := by decide +kernel
theorem dX2_findPlace_4 : decode cX2_findPlace 4 = .ok (.aload_n 0, 1) := by decide +kernel
theorem dX2_findPlace_5 : decode cX2_findPlace 5 = .ok (.iload_n 2, 1) := by decide +kernel
theorem dX2_findPlace_6 : decode cX2_findPlace 6 = .ok (.i2l, 1) := by decide +kernel
theorem dX2_findPlace_7 : decode cX2_findPlace 7 = .ok (.putfield 48, 3) := by decide +kernel
theorem dX2_findPlace_10 : decode cX2_findPlace 10 = .ok (.iconst 1, 1) := by decide +kernel
theorem dX2_findPlace_11 : decode cX2_findPlace 11 = .ok (.istore_n 3, 1) := by decide +kernel
theorem dX2_findPlace_12 : decode cX2_findPlace 12 = .ok (.iload_n 3, 1) := by decide +kernel
theorem dX2_findPlace_13 : decode cX2_findPlace 13 = .ok (.bipush 24, 2) := by decide +kernel
theorem dX2_findPlace_15 : decode cX2_findPlace 15 = .ok (.if_icmp .gt 44, 3) := by decide +kernel
theorem dX2_findPlace_18 : decode cX2_findPlace 18 = .ok (.aload_n 0, 1) := by decide +kernel
theorem dX2_findPlace_19 : decode cX2_findPlace 19 = .ok (.getfield 48, 3) := by decide +kernel
theorem dX2_findPlace_22 : decode cX2_findPlace 22 = .ok (.aload_n 0, 1) := by decide +kernel
theorem dX2_findPlace_23 : decode cX2_findPlace 23 = .ok (.getfield 16, 3) := by decide +kernel
theorem dX2_findPlace_26 : decode cX2_findPlace 26 = .ok (.iload_n 1, 1) := by decide +kernel
theorem dX2_findPlace_27 : decode cX2_findPlace 27 = .ok (.aaload, 1) := by decide +kernel
theorem dX2_findPlace_28 : decode cX2_findPlace 28 = .ok (.iload_n 3, 1) := by decide +kernel
theorem dX2_findPlace_29 : decode cX2_findPlace 29 = .ok (.laload, 1) := by decide +kernel
theorem dX2_findPlace_30 : decode cX2_findPlace 30 = .ok (.lcmp, 1) := by decide +kernel
theorem dX2_findPlace_31 : decode cX2_findPlace 31 = .ok (.ifCond .ge 5, 3) := by decide +kernel
theorem dX2_findPlace_34 : decode cX2_findPlace 34 = .ok (.iload_n 3, 1) := by decide +kernel
theorem dX2_findPlace_35 : decode cX2_findPlace 35 = .ok (.ireturn, 1) := by decide +kernel
theorem dX2_findPlace_36 : decode cX2_findPlace 36 = .ok (.aload_n 0, 1) := by decide +kernel
theorem dX2_findPlace_37 : decode cX2_findPlace 37 = .ok (.dup, 1) := by decide +kernel
theorem dX2_findPlace_38 : decode cX2_findPlace 38 = .ok (.getfield 48, 3) := by decide +kernel
theorem dX2_findPlace_41 : decode cX2_findPlace 41 = .ok (.aload_n 0, 1) := by decide +kernel
theorem dX2_findPlace_42 : decode cX2_findPlace 42 = .ok (.getfield 16, 3) := by decide +kernel
theorem dX2_findPlace_45 : decode cX2_findPlace 45 = .ok (.iload_n 1, 1) := by decide +kernel
theorem dX2_findPlace_46 : decode cX2_findPlace 46 = .ok (.aaload, 1) := by decide +kernel
theorem dX2_findPlace_47 : decode cX2_findPlace 47 = .ok (.iload_n 3, 1) := by decide +kernel
theorem dX2_findPlace_48 : decode cX2_findPlace 48 = .ok (.laload, 1) := by decide +kernel
theorem dX2_findPlace_49 : decode cX2_findPlace 49 = .ok (.lsub, 1) := by decide +kernel
theorem dX2_findPlace_50 : decode cX2_findPlace 50 = .ok (.putfield 48, 3) := by decide +kernel
theorem dX2_findPlace_53 : decode cX2_findPlace 53 = .ok (.iinc 3 1, 3) := by decide +kernel
theorem dX2_findPlace_56 : decode cX2_findPlace 56 = .ok (.goto (-44), 3) := by decide +kernel
theorem dX2_findPlace_59 : decode cX2_findPlace 59 = .ok (.ldc 52, 2) := by decide +kernel
theorem dX2_findPlace_61 : decode cX2_findPlace 61 = .ok (.ireturn, 1) := by decide +kernel
theorem dX2_spell_0 : decode cX2_spell 0 = .ok (.iload_n 2, 1) := by decide +kernel
theorem dX2_spell_1 : decode cX2_spell 1 = .ok (.istore_n 3, 1) := by decide +kernel
theorem dX2_spell_2 : decode cX2_spell 2 = .ok (.iconst 0, 1) := by decide +kernel
theorem dX2_spell_3 : decode cX2_spell 3 = .ok (.istore 4, 2) := by decide +kernel
theorem dX2_spell_5 : decode cX2_spell 5 = .ok (.aload_n 0, 1) := by decide +kernel
theorem dX2_spell_6 : decode cX2_spell 6 = .ok (.iconst 0, 1) := by decide +kernel
theorem dX2_spell_7 : decode cX2_spell 7 = .ok (.putfield 53, 3) := by decide +kernel
theorem dX2_spell_10 : decode cX2_spell 10 = .ok (.aload_n 0, 1) := by decide +kernel
theorem dX2_spell_11 : decode cX2_spell 11 = .ok (.iload_n 1, 1) := by decide +kernel
theorem dX2_spell_12 : decode cX2_spell 12 = .ok (.invokevirtual 57, 3) := by decide +kernel
theorem dX2_spell_15 : decode cX2_spell 15 = .ok (.iconst 0, 1) := by decide +kernel
theorem dX2_spell_16 : decode cX2_spell 16 = .ok (.istore 5, 2) := by decide +kernel
theorem dX2_spell_18 : decode cX2_spell 18 = .ok (.iload 5, 2) := by decide +kernel
theorem dX2_spell_20 : decode cX2_spell 20 = .ok (.bipush 24, 2) := by decide +kernel
theorem dX2_spell_22 : decode cX2_spell 22 = .ok (.if_icmp .ge 84, 3) := by decide +kernel
theorem dX2_spell_25 : decode cX2_spell 25 = .ok (.aload_n 0, 1) := by decide +kernel
theorem dX2_spell_26 : decode cX2_spell 26 = .ok (.getfield 53, 3) := by decide +kernel
theorem dX2_spell_29 : decode cX2_spell 29 = .ok (.ifCond .le 77, 3) := by decide +kernel
theorem dX2_spell_32 : decode cX2_spell 32 = .ok (.aload_n 0, 1) := by decide +kernel
theorem dX2_spell_33 : decode cX2_spell 33 = .ok (.dup, 1) := by decide +kernel
theorem dX2_spell_34 : decode cX2_spell 34 = .ok (.getfield 53, 3) := by decide +kernel
theorem dX2_spell_37 : decode cX2_spell 37 = .ok (.iconst 1, 1) := by decide +kernel
theorem dX2_spell_38 : decode cX2_spell 38 = .ok (.isub, 1) := by decide +kernel
theorem dX2_spell_39 : decode cX2_spell 39 = .ok (.putfield 53, 3) := by decide +kernel
theorem dX2_spell_42 : decode cX2_spell 42 = .ok (.aload_n 0, 1) := by decide +kernel
theorem dX2_spell_43 : decode cX2_spell 43 = .ok (.aload_n 0, 1) := by decide +kernel
theorem dX2_spell_44 : decode cX2_spell 44 = .ok (.getfield 22, 3) := by decide +kernel
theorem dX2_spell_47 : decode cX2_spell 47 = .ok (.aload_n 0, 1) := by decide +kernel
theorem dX2_spell_48 : decode cX2_spell 48 = .ok (.getfield 53, 3) := by decide +kernel
theorem dX2_spell_51 : decode cX2_spell 51 = .ok (.iaload, 1) := by decide +kernel
theorem dX2_spell_52 : decode cX2_spell 52 = .ok (.iload_n 3, 1) := by decide +kernel
theorem dX2_spell_53 : decode cX2_spell 53 = .ok (.invokevirtual 61, 3) := by decide +kernel
theorem dX2_spell_56 : decode cX2_spell 56 = .ok (.istore 6, 2) := by decide +kernel
theorem dX2_spell_58 : decode cX2_spell 58 = .ok (.iload 6, 2) := by decide +kernel
theorem dX2_spell_60 : decode cX2_spell 60 = .ok (.ifCond .ge 6, 3) := by decide +kernel
theorem dX2_spell_63 : decode cX2_spell 63 = .ok (.iload 4, 2) := by decide +kernel
theorem dX2_spell_65 : decode cX2_spell 65 = .ok (.ireturn, 1) := by decide +kernel
theorem dX2_spell_66 : decode cX2_spell 66 = .ok (.aload_n 0, 1) := by decide +kernel
theorem dX2_spell_67 : decode cX2_spell 67 = .ok (.getfield 26, 3) := by decide +kernel
theorem dX2_spell_70 : decode cX2_spell 70 = .ok (.iload 5, 2) := by decide +kernel
theorem dX2_spell_72 : decode cX2_spell 72 = .ok (.iload 6, 2) := by decide +kernel
theorem dX2_spell_74 : decode cX2_spell 74 = .ok (.iastore, 1) := by decide +kernel
theorem dX2_spell_75 : decode cX2_spell 75 = .ok (.iload 5, 2) := by decide +kernel
theorem dX2_spell_77 : decode cX2_spell 77 = .ok (.iconst 1, 1) := by decide +kernel
theorem dX2_spell_78 : decode cX2_spell 78 = .ok (.iadd, 1) := by decide +kernel
theorem dX2_spell_79 : decode cX2_spell 79 = .ok (.istore 4, 2) := by decide +kernel
theorem dX2_spell_81 : decode cX2_spell 81 = .ok (.iload_n 3, 1) := by decide +kernel
theorem dX2_spell_82 : decode cX2_spell 82 = .ok (.aload_n 0, 1) := by decide +kernel
theorem dX2_spell_83 : decode cX2_spell 83 = .ok (.getfield 29, 3) := by decide +kernel
theorem dX2_spell_86 : decode cX2_spell 86 = .ok (.iload 6, 2) := by decide +kernel
theorem dX2_spell_88 : decode cX2_spell 88 = .ok (.invokevirtual 65, 3) := by decide +kernel
theorem dX2_spell_91 : decode cX2_spell 91 = .ok (.isub, 1) := by decide +kernel
theorem dX2_spell_92 : decode cX2_spell 92 = .ok (.istore_n 3, 1) := by decide +kernel
theorem dX2_spell_93 : decode cX2_spell 93 = .ok (.aload_n 0, 1) := by decide +kernel
theorem dX2_spell_94 : decode cX2_spell 94 = .ok (.iload 6, 2) := by decide +kernel
theorem dX2_spell_96 : decode cX2_spell 96 = .ok (.iload_n 3, 1) := by decide +kernel
theorem dX2_spell_97 : decode cX2_spell 97 = .ok (.invokevirtual 71, 3) := by decide +kernel
theorem dX2_spell_100 : decode cX2_spell 100 = .ok (.iinc 5 1, 3) := by decide +kernel
theorem dX2_spell_103 : decode cX2_spell 103 = .ok (.goto (-85), 3) := by decide +kernel
theorem dX2_spell_106 : decode cX2_spell 106 = .ok (.iload 4, 2) := by decide +kernel
theorem dX2_spell_108 : decode cX2_spell 108 = .ok (.ireturn, 1) := by decide +kernel
theorem dX2_choose_0 : decode cX2_choose 0 = .ok (.iconst 0, 1) := by decide +kernel
theorem dX2_choose_1 : decode cX2_choose 1 = .ok (.istore_n 3, 1) := by decide +kernel
theorem dX2_choose_2 : decode cX2_choose 2 = .ok (.iload_n 3, 1) := by decide +kernel
theorem dX2_choose_3 : decode cX2_choose 3 = .ok (.aload_n 0, 1) := by decide +kernel
theorem dX2_choose_4 : decode cX2_choose 4 = .ok (.getfield 29, 3) := by decide +kernel
theorem dX2_choose_7 : decode cX2_choose 7 = .ok (.getfield 75, 3) := by decide +kernel
theorem dX2_choose_10 : decode cX2_choose 10 = .ok (.if_icmp .ge 41, 3) := by decide +kernel
theorem dX2_choose_13 : decode cX2_choose 13 = .ok (.aload_n 0, 1) := by decide +kernel
theorem dX2_choose_14 : decode cX2_choose 14 = .ok (.iload_n 3, 1) := by decide +kernel
theorem dX2_choose_15 : decode cX2_choose 15 = .ok (.iload_n 1, 1) := by decide +kernel
theorem dX2_choose_16 : decode cX2_choose 16 = .ok (.iload_n 2, 1) := by decide +kernel
theorem dX2_choose_17 : decode cX2_choose 17 = .ok (.invokevirtual 78, 3) := by decide +kernel
theorem dX2_choose_20 : decode cX2_choose 20 = .ok (.lstore 4, 2) := by decide +kernel
theorem dX2_choose_22 : decode cX2_choose 22 = .ok (.aload_n 0, 1) := by decide +kernel
theorem dX2_choose_23 : decode cX2_choose 23 = .ok (.getfield 48, 3) := by decide +kernel
theorem dX2_choose_26 : decode cX2_choose 26 = .ok (.lload 4, 2) := by decide +kernel
theorem dX2_choose_28 : decode cX2_choose 28 = .ok (.lcmp, 1) := by decide +kernel
theorem dX2_choose_29 : decode cX2_choose 29 = .ok (.ifCond .ge 5, 3) := by decide +kernel
theorem dX2_choose_32 : decode cX2_choose 32 = .ok (.iload_n 3, 1) := by decide +kernel
theorem dX2_choose_33 : decode cX2_choose 33 = .ok (.ireturn, 1) := by decide +kernel
theorem dX2_choose_34 : decode cX2_choose 34 = .ok (.aload_n 0, 1) := by decide +kernel
theorem dX2_choose_35 : decode cX2_choose 35 = .ok (.dup, 1) := by decide +kernel
theorem dX2_choose_36 : decode cX2_choose 36 = .ok (.getfield 48, 3) := by decide +kernel
theorem dX2_choose_39 : decode cX2_choose 39 = .ok (.lload 4, 2) := by decide +kernel
theorem dX2_choose_41 : decode cX2_choose 41 = .ok (.lsub, 1) := by decide +kernel
theorem dX2_choose_42 : decode cX2_choose 42 = .ok (.putfield 48, 3) := by decide +kernel
theorem dX2_choose_45 : decode cX2_choose 45 = .ok (.iinc 3 1, 3) := by decide +kernel
theorem dX2_choose_48 : decode cX2_choose 48 = .ok (.goto (-46), 3) := by decide +kernel
theorem dX2_choose_51 : decode cX2_choose 51 = .ok (.iconst (-1), 1) := by decide +kernel
theorem dX2_choose_52 : decode cX2_choose 52 = .ok (.ireturn, 1) := by decide +kernel
theorem dX2_placeOf_0 : decode cX2_placeOf 0 = .ok (.aload_n 0, 1) := by decide +kernel
theorem dX2_placeOf_1 : decode cX2_placeOf 1 = .ok (.iload_n 1, 1) := by decide +kernel
theorem dX2_placeOf_2 : decode cX2_placeOf 2 = .ok (.iload 4, 2) := by decide +kernel
theorem dX2_placeOf_4 : decode cX2_placeOf 4 = .ok (.invokevirtual 44, 3) := by decide +kernel
theorem dX2_placeOf_7 : decode cX2_placeOf 7 = .ok (.lstore 5, 2) := by decide +kernel
theorem dX2_placeOf_9 : decode cX2_placeOf 9 = .ok (.iload 4, 2) := by decide +kernel
theorem dX2_placeOf_11 : decode cX2_placeOf 11 = .ok (.istore 7, 2) := by decide +kernel
theorem dX2_placeOf_13 : decode cX2_placeOf 13 = .ok (.aload_n 0, 1) := by decide +kernel
theorem dX2_placeOf_14 : decode cX2_placeOf 14 = .ok (.iconst 0, 1) := by decide +kernel
theorem dX2_placeOf_15 : decode cX2_placeOf 15 = .ok (.putfield 53, 3) := by decide +kernel
theorem dX2_placeOf_18 : decode cX2_placeOf 18 = .ok (.aload_n 0, 1) := by decide +kernel
theorem dX2_placeOf_19 : decode cX2_placeOf 19 = .ok (.iload_n 1, 1) := by decide +kernel
theorem dX2_placeOf_20 : decode cX2_placeOf 20 = .ok (.invokevirtual 57, 3) := by decide +kernel
theorem dX2_placeOf_23 : decode cX2_placeOf 23 = .ok (.iconst 0, 1) := by decide +kernel
theorem dX2_placeOf_24 : decode cX2_placeOf 24 = .ok (.istore 8, 2) := by decide +kernel
theorem dX2_placeOf_26 : decode cX2_placeOf 26 = .ok (.iload 8, 2) := by decide +kernel
theorem dX2_placeOf_28 : decode cX2_placeOf 28 = .ok (.iload_n 3, 1) := by decide +kernel
theorem dX2_placeOf_29 : decode cX2_placeOf 29 = .ok (.if_icmp .ge 92, 3) := by decide +kernel
theorem dX2_placeOf_32 : decode cX2_placeOf 32 = .ok (.aload_n 0, 1) := by decide +kernel
theorem dX2_placeOf_33 : decode cX2_placeOf 33 = .ok (.getfield 53, 3) := by decide +kernel
theorem dX2_placeOf_36 : decode cX2_placeOf 36 = .ok (.ifCond .le 85, 3) := by decide +kernel
theorem dX2_placeOf_39 : decode cX2_placeOf 39 = .ok (.aload_n 0, 1) := by decide +kernel
theorem dX2_placeOf_40 : decode cX2_placeOf 40 = .ok (.dup, 1) := by decide +kernel
theorem dX2_placeOf_41 : decode cX2_placeOf 41 = .ok (.getfield 53, 3) := by decide +kernel
theorem dX2_placeOf_44 : decode cX2_placeOf 44 = .ok (.iconst 1, 1) := by decide +kernel
theorem dX2_placeOf_45 : decode cX2_placeOf 45 = .ok (.isub, 1) := by decide +kernel
theorem dX2_placeOf_46 : decode cX2_placeOf 46 = .ok (.putfield 53, 3) := by decide +kernel
theorem dX2_placeOf_49 : decode cX2_placeOf 49 = .ok (.iconst 0, 1) := by decide +kernel
theorem dX2_placeOf_50 : decode cX2_placeOf 50 = .ok (.istore 9, 2) := by decide +kernel
theorem dX2_placeOf_52 : decode cX2_placeOf 52 = .ok (.iload 9, 2) := by decide +kernel
theorem dX2_placeOf_54 : decode cX2_placeOf 54 = .ok (.aload_n 2, 1) := by decide +kernel
theorem dX2_placeOf_55 : decode cX2_placeOf 55 = .ok (.iload 8, 2) := by decide +kernel
theorem dX2_placeOf_57 : decode cX2_placeOf 57 = .ok (.iaload, 1) := by decide +kernel
theorem dX2_placeOf_58 : decode cX2_placeOf 58 = .ok (.if_icmp .ge 31, 3) := by decide +kernel
theorem dX2_placeOf_61 : decode cX2_placeOf 61 = .ok (.lload 5, 2) := by decide +kernel
theorem dX2_placeOf_63 : decode cX2_placeOf 63 = .ok (.aload_n 0, 1) := by decide +kernel
theorem dX2_placeOf_64 : decode cX2_placeOf 64 = .ok (.iload 9, 2) := by decide +kernel
theorem dX2_placeOf_66 : decode cX2_placeOf 66 = .ok (.aload_n 0, 1) := by decide +kernel
theorem dX2_placeOf_67 : decode cX2_placeOf 67 = .ok (.getfield 22, 3) := by decide +kernel
theorem dX2_placeOf_70 : decode cX2_placeOf 70 = .ok (.aload_n 0, 1) := by decide +kernel
theorem dX2_placeOf_71 : decode cX2_placeOf 71 = .ok (.getfield 53, 3) := by decide +kernel
theorem dX2_placeOf_74 : decode cX2_placeOf 74 = .ok (.iaload, 1) := by decide +kernel
theorem dX2_placeOf_75 : decode cX2_placeOf 75 = .ok (.iload 7, 2) := by decide +kernel
theorem dX2_placeOf_77 : decode cX2_placeOf 77 = .ok (.invokevirtual 78, 3) := by decide +kernel
theorem dX2_placeOf_80 : decode cX2_placeOf 80 = .ok (.ladd, 1) := by decide +kernel
theorem dX2_placeOf_81 : decode cX2_placeOf 81 = .ok (.lstore 5, 2) := by decide +kernel
theorem dX2_placeOf_83 : decode cX2_placeOf 83 = .ok (.iinc 9 1, 3) := by decide +kernel
theorem dX2_placeOf_86 : decode cX2_placeOf 86 = .ok (.goto (-34), 3) := by decide +kernel
theorem dX2_placeOf_89 : decode cX2_placeOf 89 = .ok (.iload 7, 2) := by decide +kernel
theorem dX2_placeOf_91 : decode cX2_placeOf 91 = .ok (.aload_n 0, 1) := by decide +kernel
theorem dX2_placeOf_92 : decode cX2_placeOf 92 = .ok (.getfield 29, 3) := by decide +kernel
theorem dX2_placeOf_95 : decode cX2_placeOf 95 = .ok (.aload_n 2, 1) := by decide +kernel
theorem dX2_placeOf_96 : decode cX2_placeOf 96 = .ok (.iload 8, 2) := by decide +kernel
theorem dX2_placeOf_98 : decode cX2_placeOf 98 = .ok (.iaload, 1) := by decide +kernel
theorem dX2_placeOf_99 : decode cX2_placeOf 99 = .ok (.invokevirtual 65, 3) := by decide +kernel
theorem dX2_placeOf_102 : decode cX2_placeOf 102 = .ok (.isub, 1) := by decide +kernel
theorem dX2_placeOf_103 : decode cX2_placeOf 103 = .ok (.istore 7, 2) := by decide +kernel
theorem dX2_placeOf_105 : decode cX2_placeOf 105 = .ok (.aload_n 0, 1) := by decide +kernel
theorem dX2_placeOf_106 : decode cX2_placeOf 106 = .ok (.aload_n 2, 1) := by decide +kernel
theorem dX2_placeOf_107 : decode cX2_placeOf 107 = .ok (.iload 8, 2) := by decide +kernel
theorem dX2_placeOf_109 : decode cX2_placeOf 109 = .ok (.iaload, 1) := by decide +kernel
theorem dX2_placeOf_110 : decode cX2_placeOf 110 = .ok (.iload 7, 2) := by decide +kernel
theorem dX2_placeOf_112 : decode cX2_placeOf 112 = .ok (.invokevirtual 71, 3) := by decide +kernel
theorem dX2_placeOf_115 : decode cX2_placeOf 115 = .ok (.iinc 8 1, 3) := by decide +kernel
theorem dX2_placeOf_118 : decode cX2_placeOf 118 = .ok (.goto (-92), 3) := by decide +kernel
theorem dX2_placeOf_121 : decode cX2_placeOf 121 = .ok (.lload 5, 2) := by decide +kernel
theorem dX2_placeOf_123 : decode cX2_placeOf 123 = .ok (.ldc2_w 36, 3) := by decide +kernel
theorem dX2_placeOf_126 : decode cX2_placeOf 126 = .ok (.lcmp, 1) := by decide +kernel
theorem dX2_placeOf_127 : decode cX2_placeOf 127 = .ok (.ifCond .ge 9, 3) := by decide +kernel
theorem dX2_placeOf_130 : decode cX2_placeOf 130 = .ok (.lload 5, 2) := by decide +kernel
theorem dX2_placeOf_132 : decode cX2_placeOf 132 = .ok (.l2i, 1) := by decide +kernel
theorem dX2_placeOf_133 : decode cX2_placeOf 133 = .ok (.goto 5, 3) := by decide +kernel
theorem dX2_placeOf_136 : decode cX2_placeOf 136 = .ok (.ldc 52, 2) := by decide +kernel
theorem dX2_placeOf_138 : decode cX2_placeOf 138 = .ok (.ireturn, 1) := by decide +kernel
theorem dX2_waysWith_0 : decode cX2_waysWith 0 = .ok (.aload_n 0, 1) := by decide +kernel
theorem dX2_waysWith_1 : decode cX2_waysWith 1 = .ok (.getfield 29, 3) := by decide +kernel
theorem dX2_waysWith_4 : decode cX2_waysWith 4 = .ok (.iload_n 1, 1) := by decide +kernel
theorem dX2_waysWith_5 : decode cX2_waysWith 5 = .ok (.invokevirtual 82, 3) := by decide +kernel
theorem dX2_waysWith_8 : decode cX2_waysWith 8 = .ok (.ifCond .ne 15, 3) := by decide +kernel
theorem dX2_waysWith_11 : decode cX2_waysWith 11 = .ok (.aload_n 0, 1) := by decide +kernel
theorem dX2_waysWith_12 : decode cX2_waysWith 12 = .ok (.getfield 29, 3) := by decide +kernel
theorem dX2_waysWith_15 : decode cX2_waysWith 15 = .ok (.iload_n 1, 1) := by decide +kernel
theorem dX2_waysWith_16 : decode cX2_waysWith 16 = .ok (.iload_n 2, 1) := by decide +kernel
theorem dX2_waysWith_17 : decode cX2_waysWith 17 = .ok (.invokevirtual 86, 3) := by decide +kernel
theorem dX2_waysWith_20 : decode cX2_waysWith 20 = .ok (.ifCond .ne 5, 3) := by decide +kernel
theorem dX2_waysWith_23 : decode cX2_waysWith 23 = .ok (.lconst 0, 1) := by decide +kernel
theorem dX2_waysWith_24 : decode cX2_waysWith 24 = .ok (.lreturn, 1) := by decide +kernel
theorem dX2_waysWith_25 : decode cX2_waysWith 25 = .ok (.aload_n 0, 1) := by decide +kernel
theorem dX2_waysWith_26 : decode cX2_waysWith 26 = .ok (.getfield 11, 3) := by decide +kernel
theorem dX2_waysWith_29 : decode cX2_waysWith 29 = .ok (.iload_n 1, 1) := by decide +kernel
theorem dX2_waysWith_30 : decode cX2_waysWith 30 = .ok (.aaload, 1) := by decide +kernel
theorem dX2_waysWith_31 : decode cX2_waysWith 31 = .ok (.aload_n 0, 1) := by decide +kernel
theorem dX2_waysWith_32 : decode cX2_waysWith 32 = .ok (.getfield 19, 3) := by decide +kernel
theorem dX2_waysWith_35 : decode cX2_waysWith 35 = .ok (.aload_n 0, 1) := by decide +kernel
theorem dX2_waysWith_36 : decode cX2_waysWith 36 = .ok (.getfield 53, 3) := by decide +kernel
theorem dX2_waysWith_39 : decode cX2_waysWith 39 = .ok (.aaload, 1) := by decide +kernel
theorem dX2_waysWith_40 : decode cX2_waysWith 40 = .ok (.iload_n 3, 1) := by decide +kernel
theorem dX2_waysWith_41 : decode cX2_waysWith 41 = .ok (.invokestatic 90, 3) := by decide +kernel
theorem dX2_waysWith_44 : decode cX2_waysWith 44 = .ok (.lreturn, 1) := by decide +kernel
theorem dX2_wantTaken_0 : decode cX2_wantTaken 0 = .ok (.aload_n 0, 1) := by decide +kernel
theorem dX2_wantTaken_1 : decode cX2_wantTaken 1 = .ok (.getfield 29, 3) := by decide +kernel
theorem dX2_wantTaken_4 : decode cX2_wantTaken 4 = .ok (.getfield 94, 3) := by decide +kernel
theorem dX2_wantTaken_7 : decode cX2_wantTaken 7 = .ok (.iload_n 1, 1) := by decide +kernel
theorem dX2_wantTaken_8 : decode cX2_wantTaken 8 = .ok (.iaload, 1) := by decide +kernel
theorem dX2_wantTaken_9 : decode cX2_wantTaken 9 = .ok (.iconst 1, 1) := by decide +kernel
theorem dX2_wantTaken_10 : decode cX2_wantTaken 10 = .ok (.if_icmp .le 21, 3) := by decide +kernel
theorem dX2_wantTaken_13 : decode cX2_wantTaken 13 = .ok (.aload_n 0, 1) := by decide +kernel
theorem dX2_wantTaken_14 : decode cX2_wantTaken 14 = .ok (.aload_n 0, 1) := by decide +kernel
theorem dX2_wantTaken_15 : decode cX2_wantTaken 15 = .ok (.getfield 29, 3) := by decide +kernel
theorem dX2_wantTaken_18 : decode cX2_wantTaken 18 = .ok (.getfield 97, 3) := by decide +kernel
theorem dX2_wantTaken_21 : decode cX2_wantTaken 21 = .ok (.iload_n 1, 1) := by decide +kernel
theorem dX2_wantTaken_22 : decode cX2_wantTaken 22 = .ok (.iaload, 1) := by decide +kernel
theorem dX2_wantTaken_23 : decode cX2_wantTaken 23 = .ok (.invokevirtual 57, 3) := by decide +kernel
theorem dX2_wantTaken_26 : decode cX2_wantTaken 26 = .ok (.aload_n 0, 1) := by decide +kernel
theorem dX2_wantTaken_27 : decode cX2_wantTaken 27 = .ok (.iload_n 2, 1) := by decide +kernel
theorem dX2_wantTaken_28 : decode cX2_wantTaken 28 = .ok (.invokevirtual 100, 3) := by decide +kernel
theorem dX2_wantTaken_31 : decode cX2_wantTaken 31 = .ok (.aload_n 0, 1) := by decide +kernel
theorem dX2_wantTaken_32 : decode cX2_wantTaken 32 = .ok (.getfield 29, 3) := by decide +kernel
theorem dX2_wantTaken_35 : decode cX2_wantTaken 35 = .ok (.getfield 94, 3) := by decide +kernel
theorem dX2_wantTaken_38 : decode cX2_wantTaken 38 = .ok (.iload_n 1, 1) := by decide +kernel
theorem dX2_wantTaken_39 : decode cX2_wantTaken 39 = .ok (.iaload, 1) := by decide +kernel
theorem dX2_wantTaken_40 : decode cX2_wantTaken 40 = .ok (.ifCond .le 16, 3) := by decide +kernel
theorem dX2_wantTaken_43 : decode cX2_wantTaken 43 = .ok (.aload_n 0, 1) := by decide +kernel
theorem dX2_wantTaken_44 : decode cX2_wantTaken 44 = .ok (.aload_n 0, 1) := by decide +kernel
theorem dX2_wantTaken_45 : decode cX2_wantTaken 45 = .ok (.getfield 29, 3) := by decide +kernel
theorem dX2_wantTaken_48 : decode cX2_wantTaken 48 = .ok (.getfield 103, 3) := by decide +kernel
theorem dX2_wantTaken_51 : decode cX2_wantTaken 51 = .ok (.iload_n 1, 1) := by decide +kernel
theorem dX2_wantTaken_52 : decode cX2_wantTaken 52 = .ok (.iaload, 1) := by decide +kernel
theorem dX2_wantTaken_53 : decode cX2_wantTaken 53 = .ok (.invokevirtual 57, 3) := by decide +kernel
theorem dX2_wantTaken_56 : decode cX2_wantTaken 56 = .ok (.return_, 1) := by decide +kernel
theorem dX2_want_0 : decode cX2_want 0 = .ok (.aload_n 0, 1) := by decide +kernel
theorem dX2_want_1 : decode cX2_want 1 = .ok (.getfield 53, 3) := by decide +kernel
theorem dX2_want_4 : decode cX2_want 4 = .ok (.bipush 24, 2) := by decide +kernel
theorem dX2_want_6 : decode cX2_want 6 = .ok (.if_icmp .ge 23, 3) := by decide +kernel
theorem dX2_want_9 : decode cX2_want 9 = .ok (.aload_n 0, 1) := by decide +kernel
theorem dX2_want_10 : decode cX2_want 10 = .ok (.getfield 22, 3) := by decide +kernel
theorem dX2_want_13 : decode cX2_want 13 = .ok (.aload_n 0, 1) := by decide +kernel
theorem dX2_want_14 : decode cX2_want 14 = .ok (.getfield 53, 3) := by decide +kernel
theorem dX2_want_17 : decode cX2_want 17 = .ok (.iload_n 1, 1) := by decide +kernel
theorem dX2_want_18 : decode cX2_want 18 = .ok (.iastore, 1) := by decide +kernel
theorem dX2_want_19 : decode cX2_want 19 = .ok (.aload_n 0, 1) := by decide +kernel
theorem dX2_want_20 : decode cX2_want 20 = .ok (.dup, 1) := by decide +kernel
theorem dX2_want_21 : decode cX2_want 21 = .ok (.getfield 53, 3) := by decide +kernel
theorem dX2_want_24 : decode cX2_want 24 = .ok (.iconst 1, 1) := by decide +kernel
theorem dX2_want_25 : decode cX2_want 25 = .ok (.iadd, 1) := by decide +kernel
theorem dX2_want_26 : decode cX2_want 26 = .ok (.putfield 53, 3) := by decide +kernel
theorem dX2_want_29 : decode cX2_want 29 = .ok (.return_, 1) := by decide +kernel
theorem dX2_fillRest_0 : decode cX2_fillRest 0 = .ok (.aload_n 0, 1) := by decide +kernel
theorem dX2_fillRest_1 : decode cX2_fillRest 1 = .ok (.getfield 16, 3) := by decide +kernel
theorem dX2_fillRest_4 : decode cX2_fillRest 4 = .ok (.aload_n 0, 1) := by decide +kernel
theorem dX2_fillRest_5 : decode cX2_fillRest 5 = .ok (.getfield 22, 3) := by decide +kernel
theorem dX2_fillRest_8 : decode cX2_fillRest 8 = .ok (.aload_n 0, 1) := by decide +kernel
theorem dX2_fillRest_9 : decode cX2_fillRest 9 = .ok (.getfield 53, 3) := by decide +kernel
theorem dX2_fillRest_12 : decode cX2_fillRest 12 = .ok (.iconst 1, 1) := by decide +kernel
theorem dX2_fillRest_13 : decode cX2_fillRest 13 = .ok (.isub, 1) := by decide +kernel
theorem dX2_fillRest_14 : decode cX2_fillRest 14 = .ok (.iaload, 1) := by decide +kernel
theorem dX2_fillRest_15 : decode cX2_fillRest 15 = .ok (.aaload, 1) := by decide +kernel
theorem dX2_fillRest_16 : decode cX2_fillRest 16 = .ok (.astore_n 2, 1) := by decide +kernel
theorem dX2_fillRest_17 : decode cX2_fillRest 17 = .ok (.iconst 0, 1) := by decide +kernel
theorem dX2_fillRest_18 : decode cX2_fillRest 18 = .ok (.istore_n 3, 1) := by decide +kernel
theorem dX2_fillRest_19 : decode cX2_fillRest 19 = .ok (.iload_n 3, 1) := by decide +kernel
theorem dX2_fillRest_20 : decode cX2_fillRest 20 = .ok (.iload_n 1, 1) := by decide +kernel
theorem dX2_fillRest_21 : decode cX2_fillRest 21 = .ok (.if_icmp .gt 36, 3) := by decide +kernel
theorem dX2_fillRest_24 : decode cX2_fillRest 24 = .ok (.aload_n 0, 1) := by decide +kernel
theorem dX2_fillRest_25 : decode cX2_fillRest 25 = .ok (.getfield 19, 3) := by decide +kernel
theorem dX2_fillRest_28 : decode cX2_fillRest 28 = .ok (.aload_n 0, 1) := by decide +kernel
theorem dX2_fillRest_29 : decode cX2_fillRest 29 = .ok (.getfield 53, 3) := by decide +kernel
theorem dX2_fillRest_32 : decode cX2_fillRest 32 = .ok (.aaload, 1) := by decide +kernel
theorem dX2_fillRest_33 : decode cX2_fillRest 33 = .ok (.iload_n 3, 1) := by decide +kernel
theorem dX2_fillRest_34 : decode cX2_fillRest 34 = .ok (.aload_n 2, 1) := by decide +kernel
theorem dX2_fillRest_35 : decode cX2_fillRest 35 = .ok (.aload_n 0, 1) := by decide +kernel
theorem dX2_fillRest_36 : decode cX2_fillRest 36 = .ok (.getfield 19, 3) := by decide +kernel
theorem dX2_fillRest_39 : decode cX2_fillRest 39 = .ok (.aload_n 0, 1) := by decide +kernel
theorem dX2_fillRest_40 : decode cX2_fillRest 40 = .ok (.getfield 53, 3) := by decide +kernel
theorem dX2_fillRest_43 : decode cX2_fillRest 43 = .ok (.iconst 1, 1) := by decide +kernel
theorem dX2_fillRest_44 : decode cX2_fillRest 44 = .ok (.isub, 1) := by decide +kernel
theorem dX2_fillRest_45 : decode cX2_fillRest 45 = .ok (.aaload, 1) := by decide +kernel
theorem dX2_fillRest_46 : decode cX2_fillRest 46 = .ok (.iload_n 3, 1) := by decide +kernel
theorem dX2_fillRest_47 : decode cX2_fillRest 47 = .ok (.invokestatic 90, 3) := by decide +kernel
theorem dX2_fillRest_50 : decode cX2_fillRest 50 = .ok (.lastore, 1) := by decide +kernel
theorem dX2_fillRest_51 : decode cX2_fillRest 51 = .ok (.iinc 3 1, 3) := by decide +kernel
theorem dX2_fillRest_54 : decode cX2_fillRest 54 = .ok (.goto (-35), 3) := by decide +kernel
theorem dX2_fillRest_57 : decode cX2_fillRest 57 = .ok (.return_, 1) := by decide +kernel
theorem dX2_countAll_0 : decode cX2_countAll 0 = .ok (.aload_n 0, 1) := by decide +kernel
theorem dX2_countAll_1 : decode cX2_countAll 1 = .ok (.getfield 106, 3) := by decide +kernel
theorem dX2_countAll_4 : decode cX2_countAll 4 = .ok (.ifCond .eq 4, 3) := by decide +kernel
theorem dX2_countAll_7 : decode cX2_countAll 7 = .ok (.return_, 1) := by decide +kernel
theorem dX2_countAll_8 : decode cX2_countAll 8 = .ok (.iconst 1, 1) := by decide +kernel
theorem dX2_countAll_9 : decode cX2_countAll 9 = .ok (.istore_n 1, 1) := by decide +kernel
theorem dX2_countAll_10 : decode cX2_countAll 10 = .ok (.iload_n 1, 1) := by decide +kernel
theorem dX2_countAll_11 : decode cX2_countAll 11 = .ok (.bipush 24, 2) := by decide +kernel
theorem dX2_countAll_13 : decode cX2_countAll 13 = .ok (.if_icmp .gt 14, 3) := by decide +kernel
theorem dX2_countAll_16 : decode cX2_countAll 16 = .ok (.aload_n 0, 1) := by decide +kernel
theorem dX2_countAll_17 : decode cX2_countAll 17 = .ok (.iload_n 1, 1) := by decide +kernel
theorem dX2_countAll_18 : decode cX2_countAll 18 = .ok (.invokevirtual 110, 3) := by decide +kernel
theorem dX2_countAll_21 : decode cX2_countAll 21 = .ok (.iinc 1 1, 3) := by decide +kernel
theorem dX2_countAll_24 : decode cX2_countAll 24 = .ok (.goto (-14), 3) := by decide +kernel
theorem dX2_countAll_27 : decode cX2_countAll 27 = .ok (.aload_n 0, 1) := by decide +kernel
theorem dX2_countAll_28 : decode cX2_countAll 28 = .ok (.iconst 1, 1) := by decide +kernel
theorem dX2_countAll_29 : decode cX2_countAll 29 = .ok (.putfield 106, 3) := by decide +kernel
theorem dX2_countAll_32 : decode cX2_countAll 32 = .ok (.return_, 1) := by decide +kernel
theorem dX2_countPrice_0 : decode cX2_countPrice 0 = .ok (.iconst 0, 1) := by decide +kernel
theorem dX2_countPrice_1 : decode cX2_countPrice 1 = .ok (.istore_n 2, 1) := by decide +kernel
theorem dX2_countPrice_2 : decode cX2_countPrice 2 = .ok (.iload_n 2, 1) := by decide +kernel
theorem dX2_countPrice_3 : decode cX2_countPrice 3 = .ok (.aload_n 0, 1) := by decide +kernel
theorem dX2_countPrice_4 : decode cX2_countPrice 4 = .ok (.getfield 29, 3) := by decide +kernel
theorem dX2_countPrice_7 : decode cX2_countPrice 7 = .ok (.getfield 113, 3) := by decide +kernel
theorem dX2_countPrice_10 : decode cX2_countPrice 10 = .ok (.if_icmp .ge 18, 3) := by decide +kernel
theorem dX2_countPrice_13 : decode cX2_countPrice 13 = .ok (.aload_n 0, 1) := by decide +kernel
theorem dX2_countPrice_14 : decode cX2_countPrice 14 = .ok (.getfield 16, 3) := by decide +kernel
theorem dX2_countPrice_17 : decode cX2_countPrice 17 = .ok (.iload_n 2, 1) := by decide +kernel
theorem dX2_countPrice_18 : decode cX2_countPrice 18 = .ok (.aaload, 1) := by decide +kernel
theorem dX2_countPrice_19 : decode cX2_countPrice 19 = .ok (.iload_n 1, 1) := by decide +kernel
theorem dX2_countPrice_20 : decode cX2_countPrice 20 = .ok (.lconst 0, 1) := by decide +kernel
theorem dX2_countPrice_21 : decode cX2_countPrice 21 = .ok (.lastore, 1) := by decide +kernel
theorem dX2_countPrice_22 : decode cX2_countPrice 22 = .ok (.iinc 2 1, 3) := by decide +kernel
theorem dX2_countPrice_25 : decode cX2_countPrice 25 = .ok (.goto (-23), 3) := by decide +kernel
theorem dX2_countPrice_28 : decode cX2_countPrice 28 = .ok (.iconst 0, 1) := by decide +kernel
theorem dX2_countPrice_29 : decode cX2_countPrice 29 = .ok (.istore_n 2, 1) := by decide +kernel
theorem dX2_countPrice_30 : decode cX2_countPrice 30 = .ok (.iload_n 2, 1) := by decide +kernel
theorem dX2_countPrice_31 : decode cX2_countPrice 31 = .ok (.aload_n 0, 1) := by decide +kernel
theorem dX2_countPrice_32 : decode cX2_countPrice 32 = .ok (.getfield 29, 3) := by decide +kernel
theorem dX2_countPrice_35 : decode cX2_countPrice 35 = .ok (.getfield 75, 3) := by decide +kernel
theorem dX2_countPrice_38 : decode cX2_countPrice 38 = .ok (.if_icmp .ge 69, 3) := by decide +kernel
theorem dX2_countPrice_41 : decode cX2_countPrice 41 = .ok (.aload_n 0, 1) := by decide +kernel
theorem dX2_countPrice_42 : decode cX2_countPrice 42 = .ok (.getfield 29, 3) := by decide +kernel
theorem dX2_countPrice_45 : decode cX2_countPrice 45 = .ok (.iload_n 2, 1) := by decide +kernel
theorem dX2_countPrice_46 : decode cX2_countPrice 46 = .ok (.invokevirtual 82, 3) := by decide +kernel
theorem dX2_countPrice_49 : decode cX2_countPrice 49 = .ok (.ifCond .eq 7, 3) := by decide +kernel
theorem dX2_countPrice_52 : decode cX2_countPrice 52 = .ok (.lconst 0, 1) := by decide +kernel
theorem dX2_countPrice_53 : decode cX2_countPrice 53 = .ok (.goto 9, 3) := by decide +kernel
theorem dX2_countPrice_56 : decode cX2_countPrice 56 = .ok (.aload_n 0, 1) := by decide +kernel
theorem dX2_countPrice_57 : decode cX2_countPrice 57 = .ok (.iload_n 2, 1) := by decide +kernel
theorem dX2_countPrice_58 : decode cX2_countPrice 58 = .ok (.iload_n 1, 1) := by decide +kernel
theorem dX2_countPrice_59 : decode cX2_countPrice 59 = .ok (.invokevirtual 116, 3) := by decide +kernel
theorem dX2_countPrice_62 : decode cX2_countPrice 62 = .ok (.lstore_n 3, 1) := by decide +kernel
theorem dX2_countPrice_63 : decode cX2_countPrice 63 = .ok (.aload_n 0, 1) := by decide +kernel
theorem dX2_countPrice_64 : decode cX2_countPrice 64 = .ok (.getfield 11, 3) := by decide +kernel
theorem dX2_countPrice_67 : decode cX2_countPrice 67 = .ok (.iload_n 2, 1) := by decide +kernel
theorem dX2_countPrice_68 : decode cX2_countPrice 68 = .ok (.aaload, 1) := by decide +kernel
theorem dX2_countPrice_69 : decode cX2_countPrice 69 = .ok (.iload_n 1, 1) := by decide +kernel
theorem dX2_countPrice_70 : decode cX2_countPrice 70 = .ok (.lload_n 3, 1) := by decide +kernel
theorem dX2_countPrice_71 : decode cX2_countPrice 71 = .ok (.lastore, 1) := by decide +kernel
theorem dX2_countPrice_72 : decode cX2_countPrice 72 = .ok (.lload_n 3, 1) := by decide +kernel
theorem dX2_countPrice_73 : decode cX2_countPrice 73 = .ok (.lconst 0, 1) := by decide +kernel
theorem dX2_countPrice_74 : decode cX2_countPrice 74 = .ok (.lcmp, 1) := by decide +kernel
theorem dX2_countPrice_75 : decode cX2_countPrice 75 = .ok (.ifCond .le 26, 3) := by decide +kernel
theorem dX2_countPrice_78 : decode cX2_countPrice 78 = .ok (.aload_n 0, 1) := by decide +kernel
theorem dX2_countPrice_79 : decode cX2_countPrice 79 = .ok (.aload_n 0, 1) := by decide +kernel
theorem dX2_countPrice_80 : decode cX2_countPrice 80 = .ok (.getfield 29, 3) := by decide +kernel
theorem dX2_countPrice_83 : decode cX2_countPrice 83 = .ok (.getfield 119, 3) := by decide +kernel
theorem dX2_countPrice_86 : decode cX2_countPrice 86 = .ok (.aload_n 0, 1) := by decide +kernel
theorem dX2_countPrice_87 : decode cX2_countPrice 87 = .ok (.getfield 29, 3) := by decide +kernel
theorem dX2_countPrice_90 : decode cX2_countPrice 90 = .ok (.getfield 122, 3) := by decide +kernel
theorem dX2_countPrice_93 : decode cX2_countPrice 93 = .ok (.iload_n 2, 1) := by decide +kernel
theorem dX2_countPrice_94 : decode cX2_countPrice 94 = .ok (.iaload, 1) := by decide +kernel
theorem dX2_countPrice_95 : decode cX2_countPrice 95 = .ok (.iaload, 1) := by decide +kernel
theorem dX2_countPrice_96 : decode cX2_countPrice 96 = .ok (.iload_n 1, 1) := by decide +kernel
theorem dX2_countPrice_97 : decode cX2_countPrice 97 = .ok (.lload_n 3, 1) := by decide +kernel
theorem dX2_countPrice_98 : decode cX2_countPrice 98 = .ok (.invokevirtual 125, 3) := by decide +kernel
theorem dX2_countPrice_101 : decode cX2_countPrice 101 = .ok (.iinc 2 1, 3) := by decide +kernel
theorem dX2_countPrice_104 : decode cX2_countPrice 104 = .ok (.goto (-74), 3) := by decide +kernel
theorem dX2_countPrice_107 : decode cX2_countPrice 107 = .ok (.return_, 1) := by decide +kernel
theorem dX2_addTo_0 : decode cX2_addTo 0 = .ok (.iconst 0, 1) := by decide +kernel
theorem dX2_addTo_1 : decode cX2_addTo 1 = .ok (.istore 5, 2) := by decide +kernel
theorem dX2_addTo_3 : decode cX2_addTo 3 = .ok (.iload 5, 2) := by decide +kernel
theorem dX2_addTo_5 : decode cX2_addTo 5 = .ok (.aload_n 0, 1) := by decide +kernel
theorem dX2_addTo_6 : decode cX2_addTo 6 = .ok (.getfield 29, 3) := by decide +kernel
theorem dX2_addTo_9 : decode cX2_addTo 9 = .ok (.getfield 113, 3) := by decide +kernel
theorem dX2_addTo_12 : decode cX2_addTo 12 = .ok (.if_icmp .ge 44, 3) := by decide +kernel
theorem dX2_addTo_15 : decode cX2_addTo 15 = .ok (.iload_n 1, 1) := by decide +kernel
theorem dX2_addTo_16 : decode cX2_addTo 16 = .ok (.iload 5, 2) := by decide +kernel
theorem dX2_addTo_18 : decode cX2_addTo 18 = .ok (.ishr, 1) := by decide +kernel
theorem dX2_addTo_19 : decode cX2_addTo 19 = .ok (.iconst 1, 1) := by decide +kernel
theorem dX2_addTo_20 : decode cX2_addTo 20 = .ok (.iand, 1) := by decide +kernel
theorem dX2_addTo_21 : decode cX2_addTo 21 = .ok (.ifCond .eq 29, 3) := by decide +kernel
theorem dX2_addTo_24 : decode cX2_addTo 24 = .ok (.aload_n 0, 1) := by decide +kernel
theorem dX2_addTo_25 : decode cX2_addTo 25 = .ok (.getfield 16, 3) := by decide +kernel
theorem dX2_addTo_28 : decode cX2_addTo 28 = .ok (.iload 5, 2) := by decide +kernel
theorem dX2_addTo_30 : decode cX2_addTo 30 = .ok (.aaload, 1) := by decide +kernel
theorem dX2_addTo_31 : decode cX2_addTo 31 = .ok (.iload_n 2, 1) := by decide +kernel
theorem dX2_addTo_32 : decode cX2_addTo 32 = .ok (.aload_n 0, 1) := by decide +kernel
theorem dX2_addTo_33 : decode cX2_addTo 33 = .ok (.getfield 16, 3) := by decide +kernel
theorem dX2_addTo_36 : decode cX2_addTo 36 = .ok (.iload 5, 2) := by decide +kernel
theorem dX2_addTo_38 : decode cX2_addTo 38 = .ok (.aaload, 1) := by decide +kernel
theorem dX2_addTo_39 : decode cX2_addTo 39 = .ok (.iload_n 2, 1) := by decide +kernel
theorem dX2_addTo_40 : decode cX2_addTo 40 = .ok (.laload, 1) := by decide +kernel
theorem dX2_addTo_41 : decode cX2_addTo 41 = .ok (.lload_n 3, 1) := by decide +kernel
theorem dX2_addTo_42 : decode cX2_addTo 42 = .ok (.ladd, 1) := by decide +kernel
theorem dX2_addTo_43 : decode cX2_addTo 43 = .ok (.ldc2_w 129, 3) := by decide +kernel
theorem dX2_addTo_46 : decode cX2_addTo 46 = .ok (.invokestatic 38, 3) := by decide +kernel
theorem dX2_addTo_49 : decode cX2_addTo 49 = .ok (.lastore, 1) := by decide +kernel
theorem dX2_addTo_50 : decode cX2_addTo 50 = .ok (.iinc 5 1, 3) := by decide +kernel
theorem dX2_addTo_53 : decode cX2_addTo 53 = .ok (.goto (-50), 3) := by decide +kernel
theorem dX2_addTo_56 : decode cX2_addTo 56 = .ok (.return_, 1) := by decide +kernel
theorem dX2_manyWith_0 : decode cX2_manyWith 0 = .ok (.iload_n 2, 1) := by decide +kernel
theorem dX2_manyWith_1 : decode cX2_manyWith 1 = .ok (.aload_n 0, 1) := by decide +kernel
theorem dX2_manyWith_2 : decode cX2_manyWith 2 = .ok (.getfield 29, 3) := by decide +kernel
theorem dX2_manyWith_5 : decode cX2_manyWith 5 = .ok (.iload_n 1, 1) := by decide +kernel
theorem dX2_manyWith_6 : decode cX2_manyWith 6 = .ok (.invokevirtual 65, 3) := by decide +kernel
theorem dX2_manyWith_9 : decode cX2_manyWith 9 = .ok (.isub, 1) := by decide +kernel
theorem dX2_manyWith_10 : decode cX2_manyWith 10 = .ok (.istore_n 3, 1) := by decide +kernel
theorem dX2_manyWith_11 : decode cX2_manyWith 11 = .ok (.iload_n 3, 1) := by decide +kernel
theorem dX2_manyWith_12 : decode cX2_manyWith 12 = .ok (.ifCond .ge 5, 3) := by decide +kernel
theorem dX2_manyWith_15 : decode cX2_manyWith 15 = .ok (.lconst 0, 1) := by decide +kernel
theorem dX2_manyWith_16 : decode cX2_manyWith 16 = .ok (.lreturn, 1) := by decide +kernel
theorem dX2_manyWith_17 : decode cX2_manyWith 17 = .ok (.aload_n 0, 1) := by decide +kernel
theorem dX2_manyWith_18 : decode cX2_manyWith 18 = .ok (.getfield 29, 3) := by decide +kernel
theorem dX2_manyWith_21 : decode cX2_manyWith 21 = .ok (.getfield 94, 3) := by decide +kernel
theorem dX2_manyWith_24 : decode cX2_manyWith 24 = .ok (.iload_n 1, 1) := by decide +kernel
theorem dX2_manyWith_25 : decode cX2_manyWith 25 = .ok (.iaload, 1) := by decide +kernel
theorem dX2_manyWith_26 : decode cX2_manyWith 26 = .ok (.lookupswitch 53 #[(0, 26), (1, 36)], 26) := by decide +kernel
theorem dX2_manyWith_52 : decode cX2_manyWith 52 = .ok (.iload_n 3, 1) := by decide +kernel
theorem dX2_manyWith_53 : decode cX2_manyWith 53 = .ok (.ifCond .ne 7, 3) := by decide +kernel
theorem dX2_manyWith_56 : decode cX2_manyWith 56 = .ok (.lconst 1, 1) := by decide +kernel
theorem dX2_manyWith_57 : decode cX2_manyWith 57 = .ok (.goto 4, 3) := by decide +kernel
theorem dX2_manyWith_60 : decode cX2_manyWith 60 = .ok (.lconst 0, 1) := by decide +kernel
theorem dX2_manyWith_61 : decode cX2_manyWith 61 = .ok (.lreturn, 1) := by decide +kernel
theorem dX2_manyWith_62 : decode cX2_manyWith 62 = .ok (.aload_n 0, 1) := by decide +kernel
theorem dX2_manyWith_63 : decode cX2_manyWith 63 = .ok (.getfield 16, 3) := by decide +kernel
theorem dX2_manyWith_66 : decode cX2_manyWith 66 = .ok (.aload_n 0, 1) := by decide +kernel
theorem dX2_manyWith_67 : decode cX2_manyWith 67 = .ok (.getfield 29, 3) := by decide +kernel
theorem dX2_manyWith_70 : decode cX2_manyWith 70 = .ok (.getfield 103, 3) := by decide +kernel
theorem dX2_manyWith_73 : decode cX2_manyWith 73 = .ok (.iload_n 1, 1) := by decide +kernel
theorem dX2_manyWith_74 : decode cX2_manyWith 74 = .ok (.iaload, 1) := by decide +kernel
theorem dX2_manyWith_75 : decode cX2_manyWith 75 = .ok (.aaload, 1) := by decide +kernel
theorem dX2_manyWith_76 : decode cX2_manyWith 76 = .ok (.iload_n 3, 1) := by decide +kernel
theorem dX2_manyWith_77 : decode cX2_manyWith 77 = .ok (.laload, 1) := by decide +kernel
theorem dX2_manyWith_78 : decode cX2_manyWith 78 = .ok (.lreturn, 1) := by decide +kernel
theorem dX2_manyWith_79 : decode cX2_manyWith 79 = .ok (.aload_n 0, 1) := by decide +kernel
theorem dX2_manyWith_80 : decode cX2_manyWith 80 = .ok (.getfield 16, 3) := by decide +kernel
theorem dX2_manyWith_83 : decode cX2_manyWith 83 = .ok (.aload_n 0, 1) := by decide +kernel
theorem dX2_manyWith_84 : decode cX2_manyWith 84 = .ok (.getfield 29, 3) := by decide +kernel
theorem dX2_manyWith_87 : decode cX2_manyWith 87 = .ok (.getfield 103, 3) := by decide +kernel
theorem dX2_manyWith_90 : decode cX2_manyWith 90 = .ok (.iload_n 1, 1) := by decide +kernel
theorem dX2_manyWith_91 : decode cX2_manyWith 91 = .ok (.iaload, 1) := by decide +kernel
theorem dX2_manyWith_92 : decode cX2_manyWith 92 = .ok (.aaload, 1) := by decide +kernel
theorem dX2_manyWith_93 : decode cX2_manyWith 93 = .ok (.aload_n 0, 1) := by decide +kernel
theorem dX2_manyWith_94 : decode cX2_manyWith 94 = .ok (.getfield 16, 3) := by decide +kernel
theorem dX2_manyWith_97 : decode cX2_manyWith 97 = .ok (.aload_n 0, 1) := by decide +kernel
theorem dX2_manyWith_98 : decode cX2_manyWith 98 = .ok (.getfield 29, 3) := by decide +kernel
theorem dX2_manyWith_101 : decode cX2_manyWith 101 = .ok (.getfield 97, 3) := by decide +kernel
theorem dX2_manyWith_104 : decode cX2_manyWith 104 = .ok (.iload_n 1, 1) := by decide +kernel
theorem dX2_manyWith_105 : decode cX2_manyWith 105 = .ok (.iaload, 1) := by decide +kernel
theorem dX2_manyWith_106 : decode cX2_manyWith 106 = .ok (.aaload, 1) := by decide +kernel
theorem dX2_manyWith_107 : decode cX2_manyWith 107 = .ok (.iload_n 3, 1) := by decide +kernel
theorem dX2_manyWith_108 : decode cX2_manyWith 108 = .ok (.invokestatic 90, 3) := by decide +kernel
theorem dX2_manyWith_111 : decode cX2_manyWith 111 = .ok (.lreturn, 1) := by decide +kernel
theorem dX2_ways_0 : decode cX2_ways 0 = .ok (.lconst 0, 1) := by decide +kernel
theorem dX2_ways_1 : decode cX2_ways 1 = .ok (.lstore_n 3, 1) := by decide +kernel
theorem dX2_ways_2 : decode cX2_ways 2 = .ok (.iconst 0, 1) := by decide +kernel
theorem dX2_ways_3 : decode cX2_ways 3 = .ok (.istore 5, 2) := by decide +kernel
theorem dX2_ways_5 : decode cX2_ways 5 = .ok (.iload 5, 2) := by decide +kernel
theorem dX2_ways_7 : decode cX2_ways 7 = .ok (.iload_n 2, 1) := by decide +kernel
theorem dX2_ways_8 : decode cX2_ways 8 = .ok (.if_icmp .gt 31, 3) := by decide +kernel
theorem dX2_ways_11 : decode cX2_ways 11 = .ok (.lload_n 3, 1) := by decide +kernel
theorem dX2_ways_12 : decode cX2_ways 12 = .ok (.ldc2_w 129, 3) := by decide +kernel
theorem dX2_ways_15 : decode cX2_ways 15 = .ok (.lcmp, 1) := by decide +kernel
theorem dX2_ways_16 : decode cX2_ways 16 = .ok (.ifCond .ge 23, 3) := by decide +kernel
theorem dX2_ways_19 : decode cX2_ways 19 = .ok (.lload_n 3, 1) := by decide +kernel
theorem dX2_ways_20 : decode cX2_ways 20 = .ok (.aload_n 0, 1) := by decide +kernel
theorem dX2_ways_21 : decode cX2_ways 21 = .ok (.iload 5, 2) := by decide +kernel
theorem dX2_ways_23 : decode cX2_ways 23 = .ok (.laload, 1) := by decide +kernel
theorem dX2_ways_24 : decode cX2_ways 24 = .ok (.aload_n 1, 1) := by decide +kernel
theorem dX2_ways_25 : decode cX2_ways 25 = .ok (.iload_n 2, 1) := by decide +kernel
theorem dX2_ways_26 : decode cX2_ways 26 = .ok (.iload 5, 2) := by decide +kernel
theorem dX2_ways_28 : decode cX2_ways 28 = .ok (.isub, 1) := by decide +kernel
theorem dX2_ways_29 : decode cX2_ways 29 = .ok (.laload, 1) := by decide +kernel
theorem dX2_ways_30 : decode cX2_ways 30 = .ok (.lmul, 1) := by decide +kernel
theorem dX2_ways_31 : decode cX2_ways 31 = .ok (.ladd, 1) := by decide +kernel
theorem dX2_ways_32 : decode cX2_ways 32 = .ok (.lstore_n 3, 1) := by decide +kernel
theorem dX2_ways_33 : decode cX2_ways 33 = .ok (.iinc 5 1, 3) := by decide +kernel
theorem dX2_ways_36 : decode cX2_ways 36 = .ok (.goto (-31), 3) := by decide +kernel
theorem dX2_ways_39 : decode cX2_ways 39 = .ok (.lload_n 3, 1) := by decide +kernel
theorem dX2_ways_40 : decode cX2_ways 40 = .ok (.ldc2_w 129, 3) := by decide +kernel
theorem dX2_ways_43 : decode cX2_ways 43 = .ok (.invokestatic 38, 3) := by decide +kernel
theorem dX2_ways_46 : decode cX2_ways 46 = .ok (.lreturn, 1) := by decide +kernel
theorem dX3_init_0 : decode cX3_init 0 = .ok (.aload_n 0, 1) := by decide +kernel
theorem dX3_init_1 : decode cX3_init 1 = .ok (.invokespecial 3, 3) := by decide +kernel
theorem dX3_init_4 : decode cX3_init 4 = .ok (.aload_n 0, 1) := by decide +kernel
theorem dX3_init_5 : decode cX3_init 5 = .ok (.bipush 8, 2) := by decide +kernel
theorem dX3_init_7 : decode cX3_init 7 = .ok (.newarray .int, 2) := by decide +kernel
theorem dX3_init_9 : decode cX3_init 9 = .ok (.putfield 9, 3) := by decide +kernel
theorem dX3_init_12 : decode cX3_init 12 = .ok (.aload_n 0, 1) := by decide +kernel
theorem dX3_init_13 : decode cX3_init 13 = .ok (.aload_n 1, 1) := by decide +kernel
theorem dX3_init_14 : decode cX3_init 14 = .ok (.putfield 15, 3) := by decide +kernel
theorem dX3_init_17 : decode cX3_init 17 = .ok (.return_, 1) := by decide +kernel
theorem dX3_leastListed_0 : decode cX3_leastListed 0 = .ok (.aload_n 0, 1) := by decide +kernel
theorem dX3_leastListed_1 : decode cX3_leastListed 1 = .ok (.iload_n 2, 1) := by decide +kernel
theorem dX3_leastListed_2 : decode cX3_leastListed 2 = .ok (.invokevirtual 19, 3) := by decide +kernel
theorem dX3_leastListed_5 : decode cX3_leastListed 5 = .ok (.aload_n 0, 1) := by decide +kernel
theorem dX3_leastListed_6 : decode cX3_leastListed 6 = .ok (.getfield 9, 3) := by decide +kernel
theorem dX3_leastListed_9 : decode cX3_leastListed 9 = .ok (.iload_n 1, 1) := by decide +kernel
theorem dX3_leastListed_10 : decode cX3_leastListed 10 = .ok (.iaload, 1) := by decide +kernel
theorem dX3_leastListed_11 : decode cX3_leastListed 11 = .ok (.bipush 24, 2) := by decide +kernel
theorem dX3_leastListed_13 : decode cX3_leastListed 13 = .ok (.if_icmp .gt 12, 3) := by decide +kernel
theorem dX3_leastListed_16 : decode cX3_leastListed 16 = .ok (.aload_n 0, 1) := by decide +kernel
theorem dX3_leastListed_17 : decode cX3_leastListed 17 = .ok (.getfield 9, 3) := by decide +kernel
theorem dX3_leastListed_20 : decode cX3_leastListed 20 = .ok (.iload_n 1, 1) := by decide +kernel
theorem dX3_leastListed_21 : decode cX3_leastListed 21 = .ok (.iaload, 1) := by decide +kernel
theorem dX3_leastListed_22 : decode cX3_leastListed 22 = .ok (.goto 5, 3) := by decide +kernel
theorem dX3_leastListed_25 : decode cX3_leastListed 25 = .ok (.ldc 23, 2) := by decide +kernel
theorem dX3_leastListed_27 : decode cX3_leastListed 27 = .ok (.ireturn, 1) := by decide +kernel
theorem dX3_typesHad_0 : decode cX3_typesHad 0 = .ok (.aload_n 0, 1) := by decide +kernel
theorem dX3_typesHad_1 : decode cX3_typesHad 1 = .ok (.iload_n 1, 1) := by decide +kernel
theorem dX3_typesHad_2 : decode cX3_typesHad 2 = .ok (.invokevirtual 19, 3) := by decide +kernel
theorem dX3_typesHad_5 : decode cX3_typesHad 5 = .ok (.iconst 0, 1) := by decide +kernel
theorem dX3_typesHad_6 : decode cX3_typesHad 6 = .ok (.istore_n 2, 1) := by decide +kernel
theorem dX3_typesHad_7 : decode cX3_typesHad 7 = .ok (.iconst 0, 1) := by decide +kernel
theorem dX3_typesHad_8 : decode cX3_typesHad 8 = .ok (.istore_n 3, 1) := by decide +kernel
theorem dX3_typesHad_9 : decode cX3_typesHad 9 = .ok (.iload_n 3, 1) := by decide +kernel
theorem dX3_typesHad_10 : decode cX3_typesHad 10 = .ok (.aload_n 0, 1) := by decide +kernel
theorem dX3_typesHad_11 : decode cX3_typesHad 11 = .ok (.getfield 15, 3) := by decide +kernel
theorem dX3_typesHad_14 : decode cX3_typesHad 14 = .ok (.getfield 24, 3) := by decide +kernel
theorem dX3_typesHad_17 : decode cX3_typesHad 17 = .ok (.if_icmp .ge 26, 3) := by decide +kernel
theorem dX3_typesHad_20 : decode cX3_typesHad 20 = .ok (.aload_n 0, 1) := by decide +kernel
theorem dX3_typesHad_21 : decode cX3_typesHad 21 = .ok (.getfield 9, 3) := by decide +kernel
theorem dX3_typesHad_24 : decode cX3_typesHad 24 = .ok (.iload_n 3, 1) := by decide +kernel
theorem dX3_typesHad_25 : decode cX3_typesHad 25 = .ok (.iaload, 1) := by decide +kernel
theorem dX3_typesHad_26 : decode cX3_typesHad 26 = .ok (.ldc 30, 2) := by decide +kernel
theorem dX3_typesHad_28 : decode cX3_typesHad 28 = .ok (.if_icmp .ge 9, 3) := by decide +kernel
theorem dX3_typesHad_31 : decode cX3_typesHad 31 = .ok (.iload_n 2, 1) := by decide +kernel
theorem dX3_typesHad_32 : decode cX3_typesHad 32 = .ok (.iconst 1, 1) := by decide +kernel
theorem dX3_typesHad_33 : decode cX3_typesHad 33 = .ok (.iload_n 3, 1) := by decide +kernel
theorem dX3_typesHad_34 : decode cX3_typesHad 34 = .ok (.ishl, 1) := by decide +kernel
theorem dX3_typesHad_35 : decode cX3_typesHad 35 = .ok (.ior, 1) := by decide +kernel
theorem dX3_typesHad_36 : decode cX3_typesHad 36 = .ok (.istore_n 2, 1) := by decide +kernel
theorem dX3_typesHad_37 : decode cX3_typesHad 37 = .ok (.iinc 3 1, 3) := by decide +kernel
theorem dX3_typesHad_40 : decode cX3_typesHad 40 = .ok (.goto (-31), 3) := by decide +kernel
theorem dX3_typesHad_43 : decode cX3_typesHad 43 = .ok (.iload_n 2, 1) := by decide +kernel
theorem dX3_typesHad_44 : decode cX3_typesHad 44 = .ok (.ireturn, 1) := by decide +kernel
theorem dX3_membersNeeded_0 : decode cX3_membersNeeded 0 = .ok (.aload_n 0, 1) := by decide +kernel
theorem dX3_membersNeeded_1 : decode cX3_membersNeeded 1 = .ok (.aload_n 0, 1) := by decide +kernel
theorem dX3_membersNeeded_2 : decode cX3_membersNeeded 2 = .ok (.getfield 15, 3) := by decide +kernel
theorem dX3_membersNeeded_5 : decode cX3_membersNeeded 5 = .ok (.getfield 31, 3) := by decide +kernel
theorem dX3_membersNeeded_8 : decode cX3_membersNeeded 8 = .ok (.invokevirtual 34, 3) := by decide +kernel
theorem dX3_membersNeeded_11 : decode cX3_membersNeeded 11 = .ok (.iload_n 1, 1) := by decide +kernel
theorem dX3_membersNeeded_12 : decode cX3_membersNeeded 12 = .ok (.ishr, 1) := by decide +kernel
theorem dX3_membersNeeded_13 : decode cX3_membersNeeded 13 = .ok (.iconst 1, 1) := by decide +kernel
theorem dX3_membersNeeded_14 : decode cX3_membersNeeded 14 = .ok (.iand, 1) := by decide +kernel
theorem dX3_membersNeeded_15 : decode cX3_membersNeeded 15 = .ok (.ifCond .ne 5, 3) := by decide +kernel
theorem dX3_membersNeeded_18 : decode cX3_membersNeeded 18 = .ok (.iconst 0, 1) := by decide +kernel
theorem dX3_membersNeeded_19 : decode cX3_membersNeeded 19 = .ok (.ireturn, 1) := by decide +kernel
theorem dX3_membersNeeded_20 : decode cX3_membersNeeded 20 = .ok (.iconst 0, 1) := by decide +kernel
theorem dX3_membersNeeded_21 : decode cX3_membersNeeded 21 = .ok (.istore_n 2, 1) := by decide +kernel
theorem dX3_membersNeeded_22 : decode cX3_membersNeeded 22 = .ok (.iconst 0, 1) := by decide +kernel
theorem dX3_membersNeeded_23 : decode cX3_membersNeeded 23 = .ok (.istore_n 3, 1) := by decide +kernel
theorem dX3_membersNeeded_24 : decode cX3_membersNeeded 24 = .ok (.iload_n 3, 1) := by decide +kernel
theorem dX3_membersNeeded_25 : decode cX3_membersNeeded 25 = .ok (.aload_n 0, 1) := by decide +kernel
theorem dX3_membersNeeded_26 : decode cX3_membersNeeded 26 = .ok (.getfield 15, 3) := by decide +kernel
theorem dX3_membersNeeded_29 : decode cX3_membersNeeded 29 = .ok (.getfield 38, 3) := by decide +kernel
theorem dX3_membersNeeded_32 : decode cX3_membersNeeded 32 = .ok (.if_icmp .ge 37, 3) := by decide +kernel
theorem dX3_membersNeeded_35 : decode cX3_membersNeeded 35 = .ok (.aload_n 0, 1) := by decide +kernel
theorem dX3_membersNeeded_36 : decode cX3_membersNeeded 36 = .ok (.aload_n 0, 1) := by decide +kernel
theorem dX3_membersNeeded_37 : decode cX3_membersNeeded 37 = .ok (.getfield 15, 3) := by decide +kernel
theorem dX3_membersNeeded_40 : decode cX3_membersNeeded 40 = .ok (.getfield 31, 3) := by decide +kernel
theorem dX3_membersNeeded_43 : decode cX3_membersNeeded 43 = .ok (.iconst 1, 1) := by decide +kernel
theorem dX3_membersNeeded_44 : decode cX3_membersNeeded 44 = .ok (.iload_n 3, 1) := by decide +kernel
theorem dX3_membersNeeded_45 : decode cX3_membersNeeded 45 = .ok (.ishl, 1) := by decide +kernel
theorem dX3_membersNeeded_46 : decode cX3_membersNeeded 46 = .ok (.ior, 1) := by decide +kernel
theorem dX3_membersNeeded_47 : decode cX3_membersNeeded 47 = .ok (.invokevirtual 34, 3) := by decide +kernel
theorem dX3_membersNeeded_50 : decode cX3_membersNeeded 50 = .ok (.iload_n 1, 1) := by decide +kernel
theorem dX3_membersNeeded_51 : decode cX3_membersNeeded 51 = .ok (.ishr, 1) := by decide +kernel
theorem dX3_membersNeeded_52 : decode cX3_membersNeeded 52 = .ok (.iconst 1, 1) := by decide +kernel
theorem dX3_membersNeeded_53 : decode cX3_membersNeeded 53 = .ok (.iand, 1) := by decide +kernel
theorem dX3_membersNeeded_54 : decode cX3_membersNeeded 54 = .ok (.ifCond .ne 9, 3) := by decide +kernel
theorem dX3_membersNeeded_57 : decode cX3_membersNeeded 57 = .ok (.iload_n 2, 1) := by decide +kernel
theorem dX3_membersNeeded_58 : decode cX3_membersNeeded 58 = .ok (.iconst 1, 1) := by decide +kernel
theorem dX3_membersNeeded_59 : decode cX3_membersNeeded 59 = .ok (.iload_n 3, 1) := by decide +kernel
theorem dX3_membersNeeded_60 : decode cX3_membersNeeded 60 = .ok (.ishl, 1) := by decide +kernel
theorem dX3_membersNeeded_61 : decode cX3_membersNeeded 61 = .ok (.ior, 1) := by decide +kernel
theorem dX3_membersNeeded_62 : decode cX3_membersNeeded 62 = .ok (.istore_n 2, 1) := by decide +kernel
theorem dX3_membersNeeded_63 : decode cX3_membersNeeded 63 = .ok (.iinc 3 1, 3) := by decide +kernel
theorem dX3_membersNeeded_66 : decode cX3_membersNeeded 66 = .ok (.goto (-42), 3) := by decide +kernel
theorem dX3_membersNeeded_69 : decode cX3_membersNeeded 69 = .ok (.iload_n 2, 1) := by decide +kernel
theorem dX3_membersNeeded_70 : decode cX3_membersNeeded 70 = .ok (.ireturn, 1) := by decide +kernel
theorem dX3_seek_0 : decode cX3_seek 0 = .ok (.aload_n 0, 1) := by decide +kernel
theorem dX3_seek_1 : decode cX3_seek 1 = .ok (.getfield 9, 3) := by decide +kernel
theorem dX3_seek_4 : decode cX3_seek 4 = .ok (.ldc 30, 2) := by decide +kernel
theorem dX3_seek_6 : decode cX3_seek 6 = .ok (.invokestatic 41, 3) := by decide +kernel
theorem dX3_seek_9 : decode cX3_seek 9 = .ok (.iconst 1, 1) := by decide +kernel
theorem dX3_seek_10 : decode cX3_seek 10 = .ok (.istore_n 2, 1) := by decide +kernel
theorem dX3_seek_11 : decode cX3_seek 11 = .ok (.iconst 0, 1) := by decide +kernel
theorem dX3_seek_12 : decode cX3_seek 12 = .ok (.istore_n 3, 1) := by decide +kernel
theorem dX3_seek_13 : decode cX3_seek 13 = .ok (.iload_n 3, 1) := by decide +kernel
theorem dX3_seek_14 : decode cX3_seek 14 = .ok (.bipush 8, 2) := by decide +kernel
theorem dX3_seek_16 : decode cX3_seek 16 = .ok (.if_icmp .gt 78, 3) := by decide +kernel
theorem dX3_seek_19 : decode cX3_seek 19 = .ok (.iload_n 2, 1) := by decide +kernel
theorem dX3_seek_20 : decode cX3_seek 20 = .ok (.ifCond .eq 74, 3) := by decide +kernel
theorem dX3_seek_23 : decode cX3_seek 23 = .ok (.iconst 0, 1) := by decide +kernel
theorem dX3_seek_24 : decode cX3_seek 24 = .ok (.istore_n 2, 1) := by decide +kernel
theorem dX3_seek_25 : decode cX3_seek 25 = .ok (.iconst 0, 1) := by decide +kernel
theorem dX3_seek_26 : decode cX3_seek 26 = .ok (.istore 4, 2) := by decide +kernel
theorem dX3_seek_28 : decode cX3_seek 28 = .ok (.iload 4, 2) := by decide +kernel
theorem dX3_seek_30 : decode cX3_seek 30 = .ok (.aload_n 0, 1) := by decide +kernel
theorem dX3_seek_31 : decode cX3_seek 31 = .ok (.getfield 15, 3) := by decide +kernel
theorem dX3_seek_34 : decode cX3_seek 34 = .ok (.getfield 38, 3) := by decide +kernel
theorem dX3_seek_37 : decode cX3_seek 37 = .ok (.if_icmp .ge 51, 3) := by decide +kernel
theorem dX3_seek_40 : decode cX3_seek 40 = .ok (.iload_n 1, 1) := by decide +kernel
theorem dX3_seek_41 : decode cX3_seek 41 = .ok (.iload 4, 2) := by decide +kernel
theorem dX3_seek_43 : decode cX3_seek 43 = .ok (.ishr, 1) := by decide +kernel
theorem dX3_seek_44 : decode cX3_seek 44 = .ok (.iconst 1, 1) := by decide +kernel
theorem dX3_seek_45 : decode cX3_seek 45 = .ok (.iand, 1) := by decide +kernel
theorem dX3_seek_46 : decode cX3_seek 46 = .ok (.ifCond .ne 36, 3) := by decide +kernel
theorem dX3_seek_49 : decode cX3_seek 49 = .ok (.aload_n 0, 1) := by decide +kernel
theorem dX3_seek_50 : decode cX3_seek 50 = .ok (.aload_n 0, 1) := by decide +kernel
theorem dX3_seek_51 : decode cX3_seek 51 = .ok (.getfield 15, 3) := by decide +kernel
theorem dX3_seek_54 : decode cX3_seek 54 = .ok (.getfield 47, 3) := by decide +kernel
theorem dX3_seek_57 : decode cX3_seek 57 = .ok (.aload_n 0, 1) := by decide +kernel
theorem dX3_seek_58 : decode cX3_seek 58 = .ok (.getfield 15, 3) := by decide +kernel
theorem dX3_seek_61 : decode cX3_seek 61 = .ok (.getfield 50, 3) := by decide +kernel
theorem dX3_seek_64 : decode cX3_seek 64 = .ok (.iload 4, 2) := by decide +kernel
theorem dX3_seek_66 : decode cX3_seek 66 = .ok (.iaload, 1) := by decide +kernel
theorem dX3_seek_67 : decode cX3_seek 67 = .ok (.iaload, 1) := by decide +kernel
theorem dX3_seek_68 : decode cX3_seek 68 = .ok (.aload_n 0, 1) := by decide +kernel
theorem dX3_seek_69 : decode cX3_seek 69 = .ok (.iload 4, 2) := by decide +kernel
theorem dX3_seek_71 : decode cX3_seek 71 = .ok (.invokevirtual 53, 3) := by decide +kernel
theorem dX3_seek_74 : decode cX3_seek 74 = .ok (.invokevirtual 56, 3) := by decide +kernel
theorem dX3_seek_77 : decode cX3_seek 77 = .ok (.ifCond .eq 5, 3) := by decide +kernel
theorem dX3_seek_80 : decode cX3_seek 80 = .ok (.iconst 1, 1) := by decide +kernel
theorem dX3_seek_81 : decode cX3_seek 81 = .ok (.istore_n 2, 1) := by decide +kernel
theorem dX3_seek_82 : decode cX3_seek 82 = .ok (.iinc 4 1, 3) := by decide +kernel
theorem dX3_seek_85 : decode cX3_seek 85 = .ok (.goto (-57), 3) := by decide +kernel
theorem dX3_seek_88 : decode cX3_seek 88 = .ok (.iinc 3 1, 3) := by decide +kernel
theorem dX3_seek_91 : decode cX3_seek 91 = .ok (.goto (-78), 3) := by decide +kernel
theorem dX3_seek_94 : decode cX3_seek 94 = .ok (.return_, 1) := by decide +kernel
theorem dX3_leastWith_0 : decode cX3_leastWith 0 = .ok (.aload_n 0, 1) := by decide +kernel
theorem dX3_leastWith_1 : decode cX3_leastWith 1 = .ok (.getfield 15, 3) := by decide +kernel
theorem dX3_leastWith_4 : decode cX3_leastWith 4 = .ok (.iload_n 1, 1) := by decide +kernel
theorem dX3_leastWith_5 : decode cX3_leastWith 5 = .ok (.invokevirtual 60, 3) := by decide +kernel
theorem dX3_leastWith_8 : decode cX3_leastWith 8 = .ok (.istore_n 2, 1) := by decide +kernel
theorem dX3_leastWith_9 : decode cX3_leastWith 9 = .ok (.aload_n 0, 1) := by decide +kernel
theorem dX3_leastWith_10 : decode cX3_leastWith 10 = .ok (.getfield 15, 3) := by decide +kernel
theorem dX3_leastWith_13 : decode cX3_leastWith 13 = .ok (.getfield 63, 3) := by decide +kernel
theorem dX3_leastWith_16 : decode cX3_leastWith 16 = .ok (.iload_n 1, 1) := by decide +kernel
theorem dX3_leastWith_17 : decode cX3_leastWith 17 = .ok (.iaload, 1) := by decide +kernel
theorem dX3_leastWith_18 : decode cX3_leastWith 18 = .ok (.ifCond .le 20, 3) := by decide +kernel
theorem dX3_leastWith_21 : decode cX3_leastWith 21 = .ok (.iload_n 2, 1) := by decide +kernel
theorem dX3_leastWith_22 : decode cX3_leastWith 22 = .ok (.aload_n 0, 1) := by decide +kernel
theorem dX3_leastWith_23 : decode cX3_leastWith 23 = .ok (.getfield 9, 3) := by decide +kernel
theorem dX3_leastWith_26 : decode cX3_leastWith 26 = .ok (.aload_n 0, 1) := by decide +kernel
theorem dX3_leastWith_27 : decode cX3_leastWith 27 = .ok (.getfield 15, 3) := by decide +kernel
theorem dX3_leastWith_30 : decode cX3_leastWith 30 = .ok (.getfield 66, 3) := by decide +kernel
theorem dX3_leastWith_33 : decode cX3_leastWith 33 = .ok (.iload_n 1, 1) := by decide +kernel
theorem dX3_leastWith_34 : decode cX3_leastWith 34 = .ok (.iaload, 1) := by decide +kernel
theorem dX3_leastWith_35 : decode cX3_leastWith 35 = .ok (.iaload, 1) := by decide +kernel
theorem dX3_leastWith_36 : decode cX3_leastWith 36 = .ok (.iadd, 1) := by decide +kernel
theorem dX3_leastWith_37 : decode cX3_leastWith 37 = .ok (.istore_n 2, 1) := by decide +kernel
theorem dX3_leastWith_38 : decode cX3_leastWith 38 = .ok (.aload_n 0, 1) := by decide +kernel
theorem dX3_leastWith_39 : decode cX3_leastWith 39 = .ok (.getfield 15, 3) := by decide +kernel
theorem dX3_leastWith_42 : decode cX3_leastWith 42 = .ok (.getfield 63, 3) := by decide +kernel
theorem dX3_leastWith_45 : decode cX3_leastWith 45 = .ok (.iload_n 1, 1) := by decide +kernel
theorem dX3_leastWith_46 : decode cX3_leastWith 46 = .ok (.iaload, 1) := by decide +kernel
theorem dX3_leastWith_47 : decode cX3_leastWith 47 = .ok (.iconst 1, 1) := by decide +kernel
theorem dX3_leastWith_48 : decode cX3_leastWith 48 = .ok (.if_icmp .le 20, 3) := by decide +kernel
theorem dX3_leastWith_51 : decode cX3_leastWith 51 = .ok (.iload_n 2, 1) := by decide +kernel
theorem dX3_leastWith_52 : decode cX3_leastWith 52 = .ok (.aload_n 0, 1) := by decide +kernel
theorem dX3_leastWith_53 : decode cX3_leastWith 53 = .ok (.getfield 9, 3) := by decide +kernel
theorem dX3_leastWith_56 : decode cX3_leastWith 56 = .ok (.aload_n 0, 1) := by decide +kernel
theorem dX3_leastWith_57 : decode cX3_leastWith 57 = .ok (.getfield 15, 3) := by decide +kernel
theorem dX3_leastWith_60 : decode cX3_leastWith 60 = .ok (.getfield 69, 3) := by decide +kernel
theorem dX3_leastWith_63 : decode cX3_leastWith 63 = .ok (.iload_n 1, 1) := by decide +kernel
theorem dX3_leastWith_64 : decode cX3_leastWith 64 = .ok (.iaload, 1) := by decide +kernel
theorem dX3_leastWith_65 : decode cX3_leastWith 65 = .ok (.iaload, 1) := by decide +kernel
theorem dX3_leastWith_66 : decode cX3_leastWith 66 = .ok (.iadd, 1) := by decide +kernel
theorem dX3_leastWith_67 : decode cX3_leastWith 67 = .ok (.istore_n 2, 1) := by decide +kernel
theorem dX3_leastWith_68 : decode cX3_leastWith 68 = .ok (.iload_n 2, 1) := by decide +kernel
theorem dX3_leastWith_69 : decode cX3_leastWith 69 = .ok (.ireturn, 1) := by decide +kernel
theorem dX3_lower_0 : decode cX3_lower 0 = .ok (.iconst 0, 1) := by decide +kernel
theorem dX3_lower_1 : decode cX3_lower 1 = .ok (.istore_n 3, 1) := by decide +kernel
theorem dX3_lower_2 : decode cX3_lower 2 = .ok (.iconst 0, 1) := by decide +kernel
theorem dX3_lower_3 : decode cX3_lower 3 = .ok (.istore 4, 2) := by decide +kernel
theorem dX3_lower_5 : decode cX3_lower 5 = .ok (.iload 4, 2) := by decide +kernel
theorem dX3_lower_7 : decode cX3_lower 7 = .ok (.aload_n 0, 1) := by decide +kernel
theorem dX3_lower_8 : decode cX3_lower 8 = .ok (.getfield 15, 3) := by decide +kernel
theorem dX3_lower_11 : decode cX3_lower 11 = .ok (.getfield 24, 3) := by decide +kernel
theorem dX3_lower_14 : decode cX3_lower 14 = .ok (.if_icmp .ge 39, 3) := by decide +kernel
theorem dX3_lower_17 : decode cX3_lower 17 = .ok (.iload_n 1, 1) := by decide +kernel
theorem dX3_lower_18 : decode cX3_lower 18 = .ok (.iload 4, 2) := by decide +kernel
theorem dX3_lower_20 : decode cX3_lower 20 = .ok (.ishr, 1) := by decide +kernel
theorem dX3_lower_21 : decode cX3_lower 21 = .ok (.iconst 1, 1) := by decide +kernel
theorem dX3_lower_22 : decode cX3_lower 22 = .ok (.iand, 1) := by decide +kernel
theorem dX3_lower_23 : decode cX3_lower 23 = .ok (.ifCond .eq 24, 3) := by decide +kernel
theorem dX3_lower_26 : decode cX3_lower 26 = .ok (.iload_n 2, 1) := by decide +kernel
theorem dX3_lower_27 : decode cX3_lower 27 = .ok (.aload_n 0, 1) := by decide +kernel
theorem dX3_lower_28 : decode cX3_lower 28 = .ok (.getfield 9, 3) := by decide +kernel
theorem dX3_lower_31 : decode cX3_lower 31 = .ok (.iload 4, 2) := by decide +kernel
theorem dX3_lower_33 : decode cX3_lower 33 = .ok (.iaload, 1) := by decide +kernel
theorem dX3_lower_34 : decode cX3_lower 34 = .ok (.if_icmp .ge 13, 3) := by decide +kernel
theorem dX3_lower_37 : decode cX3_lower 37 = .ok (.aload_n 0, 1) := by decide +kernel
theorem dX3_lower_38 : decode cX3_lower 38 = .ok (.getfield 9, 3) := by decide +kernel
theorem dX3_lower_41 : decode cX3_lower 41 = .ok (.iload 4, 2) := by decide +kernel
theorem dX3_lower_43 : decode cX3_lower 43 = .ok (.iload_n 2, 1) := by decide +kernel
theorem dX3_lower_44 : decode cX3_lower 44 = .ok (.iastore, 1) := by decide +kernel
theorem dX3_lower_45 : decode cX3_lower 45 = .ok (.iconst 1, 1) := by decide +kernel
theorem dX3_lower_46 : decode cX3_lower 46 = .ok (.istore_n 3, 1) := by decide +kernel
theorem dX3_lower_47 : decode cX3_lower 47 = .ok (.iinc 4 1, 3) := by decide +kernel
theorem dX3_lower_50 : decode cX3_lower 50 = .ok (.goto (-45), 3) := by decide +kernel
theorem dX3_lower_53 : decode cX3_lower 53 = .ok (.iload_n 3, 1) := by decide +kernel
theorem dX3_lower_54 : decode cX3_lower 54 = .ok (.ireturn, 1) := by decide +kernel
theorem dX4_init_0 : decode cX4_init 0 = .ok (.aload_n 0, 1) := by decide +kernel
theorem dX4_init_1 : decode cX4_init 1 = .ok (.invokespecial 3, 3) := by decide +kernel
theorem dX4_init_4 : decode cX4_init 4 = .ok (.aload_n 0, 1) := by decide +kernel
theorem dX4_init_5 : decode cX4_init 5 = .ok (.sipush 140, 3) := by decide +kernel
theorem dX4_init_8 : decode cX4_init 8 = .ok (.newarray .int, 2) := by decide +kernel
theorem dX4_init_10 : decode cX4_init 10 = .ok (.putfield 11, 3) := by decide +kernel
theorem dX4_init_13 : decode cX4_init 13 = .ok (.aload_n 0, 1) := by decide +kernel
theorem dX4_init_14 : decode cX4_init 14 = .ok (.new 15, 3) := by decide +kernel
theorem dX4_init_17 : decode cX4_init 17 = .ok (.dup, 1) := by decide +kernel
theorem dX4_init_18 : decode cX4_init 18 = .ok (.invokespecial 17, 3) := by decide +kernel
theorem dX4_init_21 : decode cX4_init 21 = .ok (.putfield 18, 3) := by decide +kernel
theorem dX4_init_24 : decode cX4_init 24 = .ok (.return_, 1) := by decide +kernel
theorem dX4_isFull_0 : decode cX4_isFull 0 = .ok (.aload_n 0, 1) := by decide +kernel
theorem dX4_isFull_1 : decode cX4_isFull 1 = .ok (.getfield 22, 3) := by decide +kernel
theorem dX4_isFull_4 : decode cX4_isFull 4 = .ok (.sipush 140, 3) := by decide +kernel
theorem dX4_isFull_7 : decode cX4_isFull 7 = .ok (.if_icmp .lt 7, 3) := by decide +kernel
theorem dX4_isFull_10 : decode cX4_isFull 10 = .ok (.iconst 1, 1) := by decide +kernel
theorem dX4_isFull_11 : decode cX4_isFull 11 = .ok (.goto 4, 3) := by decide +kernel
theorem dX4_isFull_14 : decode cX4_isFull 14 = .ok (.iconst 0, 1) := by decide +kernel
theorem dX4_isFull_15 : decode cX4_isFull 15 = .ok (.ireturn, 1) := by decide +kernel
theorem dX4_append_0 : decode cX4_append 0 = .ok (.aload_n 0, 1) := by decide +kernel
theorem dX4_append_1 : decode cX4_append 1 = .ok (.getfield 11, 3) := by decide +kernel
theorem dX4_append_4 : decode cX4_append 4 = .ok (.aload_n 0, 1) := by decide +kernel
theorem dX4_append_5 : decode cX4_append 5 = .ok (.getfield 22, 3) := by decide +kernel
theorem dX4_append_8 : decode cX4_append 8 = .ok (.iload_n 1, 1) := by decide +kernel
theorem dX4_append_9 : decode cX4_append 9 = .ok (.iastore, 1) := by decide +kernel
theorem dX4_append_10 : decode cX4_append 10 = .ok (.aload_n 0, 1) := by decide +kernel
theorem dX4_append_11 : decode cX4_append 11 = .ok (.dup, 1) := by decide +kernel
theorem dX4_append_12 : decode cX4_append 12 = .ok (.getfield 22, 3) := by decide +kernel
theorem dX4_append_15 : decode cX4_append 15 = .ok (.iconst 1, 1) := by decide +kernel
theorem dX4_append_16 : decode cX4_append 16 = .ok (.iadd, 1) := by decide +kernel
theorem dX4_append_17 : decode cX4_append 17 = .ok (.putfield 22, 3) := by decide +kernel
theorem dX4_append_20 : decode cX4_append 20 = .ok (.aload_n 0, 1) := by decide +kernel
theorem dX4_append_21 : decode cX4_append 21 = .ok (.getfield 22, 3) := by decide +kernel
theorem dX4_append_24 : decode cX4_append 24 = .ok (.ireturn, 1) := by decide +kernel
theorem dX4_emptyTape_0 : decode cX4_emptyTape 0 = .ok (.aload_n 0, 1) := by decide +kernel
theorem dX4_emptyTape_1 : decode cX4_emptyTape 1 = .ok (.iconst 0, 1) := by decide +kernel
theorem dX4_emptyTape_2 : decode cX4_emptyTape 2 = .ok (.putfield 22, 3) := by decide +kernel
theorem dX4_emptyTape_5 : decode cX4_emptyTape 5 = .ok (.return_, 1) := by decide +kernel
theorem dX4_readTape_0 : decode cX4_readTape 0 = .ok (.aload_n 0, 1) := by decide +kernel
theorem dX4_readTape_1 : decode cX4_readTape 1 = .ok (.iconst 0, 1) := by decide +kernel
theorem dX4_readTape_2 : decode cX4_readTape 2 = .ok (.putfield 26, 3) := by decide +kernel
theorem dX4_readTape_5 : decode cX4_readTape 5 = .ok (.aload_n 0, 1) := by decide +kernel
theorem dX4_readTape_6 : decode cX4_readTape 6 = .ok (.iconst 0, 1) := by decide +kernel
theorem dX4_readTape_7 : decode cX4_readTape 7 = .ok (.putfield 29, 3) := by decide +kernel
theorem dX4_readTape_10 : decode cX4_readTape 10 = .ok (.aload_n 0, 1) := by decide +kernel
theorem dX4_readTape_11 : decode cX4_readTape 11 = .ok (.getfield 18, 3) := by decide +kernel
theorem dX4_readTape_14 : decode cX4_readTape 14 = .ok (.iconst 0, 1) := by decide +kernel
theorem dX4_readTape_15 : decode cX4_readTape 15 = .ok (.putfield 32, 3) := by decide +kernel
theorem dX4_readTape_18 : decode cX4_readTape 18 = .ok (.aload_n 0, 1) := by decide +kernel
theorem dX4_readTape_19 : decode cX4_readTape 19 = .ok (.getfield 18, 3) := by decide +kernel
theorem dX4_readTape_22 : decode cX4_readTape 22 = .ok (.iconst 0, 1) := by decide +kernel
theorem dX4_readTape_23 : decode cX4_readTape 23 = .ok (.putfield 35, 3) := by decide +kernel
theorem dX4_readTape_26 : decode cX4_readTape 26 = .ok (.aload_n 0, 1) := by decide +kernel
theorem dX4_readTape_27 : decode cX4_readTape 27 = .ok (.getfield 18, 3) := by decide +kernel
theorem dX4_readTape_30 : decode cX4_readTape 30 = .ok (.iconst 0, 1) := by decide +kernel
theorem dX4_readTape_31 : decode cX4_readTape 31 = .ok (.putfield 38, 3) := by decide +kernel
theorem dX4_readTape_34 : decode cX4_readTape 34 = .ok (.aload_n 0, 1) := by decide +kernel
theorem dX4_readTape_35 : decode cX4_readTape 35 = .ok (.invokevirtual 41, 3) := by decide +kernel
theorem dX4_readTape_38 : decode cX4_readTape 38 = .ok (.ifCond .eq 21, 3) := by decide +kernel
theorem dX4_readTape_41 : decode cX4_readTape 41 = .ok (.aload_n 0, 1) := by decide +kernel
theorem dX4_readTape_42 : decode cX4_readTape 42 = .ok (.invokevirtual 45, 3) := by decide +kernel
theorem dX4_readTape_45 : decode cX4_readTape 45 = .ok (.ifCond .eq 14, 3) := by decide +kernel
theorem dX4_readTape_48 : decode cX4_readTape 48 = .ok (.aload_n 0, 1) := by decide +kernel
theorem dX4_readTape_49 : decode cX4_readTape 49 = .ok (.invokevirtual 48, 3) := by decide +kernel
theorem dX4_readTape_52 : decode cX4_readTape 52 = .ok (.ifCond .eq 7, 3) := by decide +kernel
theorem dX4_readTape_55 : decode cX4_readTape 55 = .ok (.iconst 1, 1) := by decide +kernel
theorem dX4_readTape_56 : decode cX4_readTape 56 = .ok (.goto 4, 3) := by decide +kernel
theorem dX4_readTape_59 : decode cX4_readTape 59 = .ok (.iconst 0, 1) := by decide +kernel
theorem dX4_readTape_60 : decode cX4_readTape 60 = .ok (.ireturn, 1) := by decide +kernel
theorem dX4_readLaw_0 : decode cX4_readLaw 0 = .ok (.aload_n 0, 1) := by decide +kernel
theorem dX4_readLaw_1 : decode cX4_readLaw 1 = .ok (.bipush 119, 2) := by decide +kernel
theorem dX4_readLaw_3 : decode cX4_readLaw 3 = .ok (.invokevirtual 51, 3) := by decide +kernel
theorem dX4_readLaw_6 : decode cX4_readLaw 6 = .ok (.ifCond .ne 5, 3) := by decide +kernel
theorem dX4_readLaw_9 : decode cX4_readLaw 9 = .ok (.iconst 0, 1) := by decide +kernel
theorem dX4_readLaw_10 : decode cX4_readLaw 10 = .ok (.ireturn, 1) := by decide +kernel
theorem dX4_readLaw_11 : decode cX4_readLaw 11 = .ok (.aload_n 0, 1) := by decide +kernel
theorem dX4_readLaw_12 : decode cX4_readLaw 12 = .ok (.iconst 1, 1) := by decide +kernel
theorem dX4_readLaw_13 : decode cX4_readLaw 13 = .ok (.bipush 8, 2) := by decide +kernel
theorem dX4_readLaw_15 : decode cX4_readLaw 15 = .ok (.invokevirtual 55, 3) := by decide +kernel
theorem dX4_readLaw_18 : decode cX4_readLaw 18 = .ok (.istore_n 1, 1) := by decide +kernel
theorem dX4_readLaw_19 : decode cX4_readLaw 19 = .ok (.aload_n 0, 1) := by decide +kernel
theorem dX4_readLaw_20 : decode cX4_readLaw 20 = .ok (.getfield 18, 3) := by decide +kernel
theorem dX4_readLaw_23 : decode cX4_readLaw 23 = .ok (.iload_n 1, 1) := by decide +kernel
theorem dX4_readLaw_24 : decode cX4_readLaw 24 = .ok (.iconst 0, 1) := by decide +kernel
theorem dX4_readLaw_25 : decode cX4_readLaw 25 = .ok (.invokestatic 59, 3) := by decide +kernel
theorem dX4_readLaw_28 : decode cX4_readLaw 28 = .ok (.putfield 32, 3) := by decide +kernel
theorem dX4_readLaw_31 : decode cX4_readLaw 31 = .ok (.iload_n 1, 1) := by decide +kernel
theorem dX4_readLaw_32 : decode cX4_readLaw 32 = .ok (.ifCond .lt 16, 3) := by decide +kernel
theorem dX4_readLaw_35 : decode cX4_readLaw 35 = .ok (.aload_n 0, 1) := by decide +kernel
theorem dX4_readLaw_36 : decode cX4_readLaw 36 = .ok (.bipush 59, 2) := by decide +kernel
theorem dX4_readLaw_38 : decode cX4_readLaw 38 = .ok (.invokevirtual 51, 3) := by decide +kernel
theorem dX4_readLaw_41 : decode cX4_readLaw 41 = .ok (.ifCond .eq 7, 3) := by decide +kernel
theorem dX4_readLaw_44 : decode cX4_readLaw 44 = .ok (.iconst 1, 1) := by decide +kernel
theorem dX4_readLaw_45 : decode cX4_readLaw 45 = .ok (.goto 4, 3) := by decide +kernel
theorem dX4_readLaw_48 : decode cX4_readLaw 48 = .ok (.iconst 0, 1) := by decide +kernel
theorem dX4_readLaw_49 : decode cX4_readLaw 49 = .ok (.ireturn, 1) := by decide +kernel
theorem dX4_readTypes_0 : decode cX4_readTypes 0 = .ok (.iconst 0, 1) := by decide +kernel
theorem dX4_readTypes_1 : decode cX4_readTypes 1 = .ok (.istore_n 1, 1) := by decide +kernel
theorem dX4_readTypes_2 : decode cX4_readTypes 2 = .ok (.iload_n 1, 1) := by decide +kernel
theorem dX4_readTypes_3 : decode cX4_readTypes 3 = .ok (.aload_n 0, 1) := by decide +kernel
theorem dX4_readTypes_4 : decode cX4_readTypes 4 = .ok (.getfield 18, 3) := by decide +kernel
theorem dX4_readTypes_7 : decode cX4_readTypes 7 = .ok (.getfield 32, 3) := by decide +kernel
theorem dX4_readTypes_10 : decode cX4_readTypes 10 = .ok (.if_icmp .ge 52, 3) := by decide +kernel
theorem dX4_readTypes_13 : decode cX4_readTypes 13 = .ok (.aload_n 0, 1) := by decide +kernel
theorem dX4_readTypes_14 : decode cX4_readTypes 14 = .ok (.bipush 117, 2) := by decide +kernel
theorem dX4_readTypes_16 : decode cX4_readTypes 16 = .ok (.invokevirtual 51, 3) := by decide +kernel
theorem dX4_readTypes_19 : decode cX4_readTypes 19 = .ok (.ifCond .ne 5, 3) := by decide +kernel
theorem dX4_readTypes_22 : decode cX4_readTypes 22 = .ok (.iconst 0, 1) := by decide +kernel
theorem dX4_readTypes_23 : decode cX4_readTypes 23 = .ok (.ireturn, 1) := by decide +kernel
theorem dX4_readTypes_24 : decode cX4_readTypes 24 = .ok (.aload_n 0, 1) := by decide +kernel
theorem dX4_readTypes_25 : decode cX4_readTypes 25 = .ok (.iconst 0, 1) := by decide +kernel
theorem dX4_readTypes_26 : decode cX4_readTypes 26 = .ok (.iload_n 1, 1) := by decide +kernel
theorem dX4_readTypes_27 : decode cX4_readTypes 27 = .ok (.invokevirtual 55, 3) := by decide +kernel
theorem dX4_readTypes_30 : decode cX4_readTypes 30 = .ok (.istore_n 2, 1) := by decide +kernel
theorem dX4_readTypes_31 : decode cX4_readTypes 31 = .ok (.iload_n 2, 1) := by decide +kernel
theorem dX4_readTypes_32 : decode cX4_readTypes 32 = .ok (.ifCond .lt 12, 3) := by decide +kernel
theorem dX4_readTypes_35 : decode cX4_readTypes 35 = .ok (.aload_n 0, 1) := by decide +kernel
end
section
theorem dX4_readTypes_36 : decode cX4_readTypes 36 = .ok (.bipush 59, 2) := by decide +kernel
theorem dX4_readTypes_38 : decode cX4_readTypes 38 = .ok (.invokevirtual 51, 3) := by decide +kernel
theorem dX4_readTypes_41 : decode cX4_readTypes 41 = .ok (.ifCond .ne 5, 3) := by decide +kernel
theorem dX4_readTypes_44 : decode cX4_readTypes 44 = .ok (.iconst 0, 1) := by decide +kernel
theorem dX4_readTypes_45 : decode cX4_readTypes 45 = .ok (.ireturn, 1) := by decide +kernel
theorem dX4_readTypes_46 : decode cX4_readTypes 46 = .ok (.aload_n 0, 1) := by decide +kernel
theorem dX4_readTypes_47 : decode cX4_readTypes 47 = .ok (.getfield 18, 3) := by decide +kernel
theorem dX4_readTypes_50 : decode cX4_readTypes 50 = .ok (.getfield 64, 3) := by decide +kernel
theorem dX4_readTypes_53 : decode cX4_readTypes 53 = .ok (.iload_n 1, 1) := by decide +kernel
theorem dX4_readTypes_54 : decode cX4_readTypes 54 = .ok (.iload_n 2, 1) := by decide +kernel
theorem dX4_readTypes_55 : decode cX4_readTypes 55 = .ok (.iastore, 1) := by decide +kernel
theorem dX4_readTypes_56 : decode cX4_readTypes 56 = .ok (.iinc 1 1, 3) := by decide +kernel
theorem dX4_readTypes_59 : decode cX4_readTypes 59 = .ok (.goto (-57), 3) := by decide +kernel
theorem dX4_readTypes_62 : decode cX4_readTypes 62 = .ok (.aload_n 0, 1) := by decide +kernel
theorem dX4_readTypes_63 : decode cX4_readTypes 63 = .ok (.getfield 18, 3) := by decide +kernel
theorem dX4_readTypes_66 : decode cX4_readTypes 66 = .ok (.invokevirtual 67, 3) := by decide +kernel
theorem dX4_readTypes_69 : decode cX4_readTypes 69 = .ok (.iconst 1, 1) := by decide +kernel
theorem dX4_readTypes_70 : decode cX4_readTypes 70 = .ok (.ireturn, 1) := by decide +kernel
theorem dX4_readMembers_0 : decode cX4_readMembers 0 = .ok (.iconst 0, 1) := by decide +kernel
theorem dX4_readMembers_1 : decode cX4_readMembers 1 = .ok (.istore_n 1, 1) := by decide +kernel
theorem dX4_readMembers_2 : decode cX4_readMembers 2 = .ok (.iload_n 1, 1) := by decide +kernel
theorem dX4_readMembers_3 : decode cX4_readMembers 3 = .ok (.bipush 12, 2) := by decide +kernel
theorem dX4_readMembers_5 : decode cX4_readMembers 5 = .ok (.if_icmp .gt 36, 3) := by decide +kernel
theorem dX4_readMembers_8 : decode cX4_readMembers 8 = .ok (.iload_n 1, 1) := by decide +kernel
theorem dX4_readMembers_9 : decode cX4_readMembers 9 = .ok (.ifCond .le 16, 3) := by decide +kernel
theorem dX4_readMembers_12 : decode cX4_readMembers 12 = .ok (.aload_n 0, 1) := by decide +kernel
theorem dX4_readMembers_13 : decode cX4_readMembers 13 = .ok (.getfield 26, 3) := by decide +kernel
theorem dX4_readMembers_16 : decode cX4_readMembers 16 = .ok (.aload_n 0, 1) := by decide +kernel
theorem dX4_readMembers_17 : decode cX4_readMembers 17 = .ok (.getfield 22, 3) := by decide +kernel
theorem dX4_readMembers_20 : decode cX4_readMembers 20 = .ok (.if_icmp .ne 5, 3) := by decide +kernel
theorem dX4_readMembers_23 : decode cX4_readMembers 23 = .ok (.iconst 1, 1) := by decide +kernel
theorem dX4_readMembers_24 : decode cX4_readMembers 24 = .ok (.ireturn, 1) := by decide +kernel
theorem dX4_readMembers_25 : decode cX4_readMembers 25 = .ok (.aload_n 0, 1) := by decide +kernel
theorem dX4_readMembers_26 : decode cX4_readMembers 26 = .ok (.iload_n 1, 1) := by decide +kernel
theorem dX4_readMembers_27 : decode cX4_readMembers 27 = .ok (.invokevirtual 70, 3) := by decide +kernel
theorem dX4_readMembers_30 : decode cX4_readMembers 30 = .ok (.ifCond .ne 5, 3) := by decide +kernel
theorem dX4_readMembers_33 : decode cX4_readMembers 33 = .ok (.iconst 0, 1) := by decide +kernel
theorem dX4_readMembers_34 : decode cX4_readMembers 34 = .ok (.ireturn, 1) := by decide +kernel
theorem dX4_readMembers_35 : decode cX4_readMembers 35 = .ok (.iinc 1 1, 3) := by decide +kernel
theorem dX4_readMembers_38 : decode cX4_readMembers 38 = .ok (.goto (-36), 3) := by decide +kernel
theorem dX4_readMembers_41 : decode cX4_readMembers 41 = .ok (.iconst 0, 1) := by decide +kernel
theorem dX4_readMembers_42 : decode cX4_readMembers 42 = .ok (.ireturn, 1) := by decide +kernel
theorem dX4_readMember_0 : decode cX4_readMember 0 = .ok (.aload_n 0, 1) := by decide +kernel
theorem dX4_readMember_1 : decode cX4_readMember 1 = .ok (.invokevirtual 73, 3) := by decide +kernel
theorem dX4_readMember_4 : decode cX4_readMember 4 = .ok (.invokestatic 77, 3) := by decide +kernel
theorem dX4_readMember_7 : decode cX4_readMember 7 = .ok (.istore_n 2, 1) := by decide +kernel
theorem dX4_readMember_8 : decode cX4_readMember 8 = .ok (.iload_n 2, 1) := by decide +kernel
theorem dX4_readMember_9 : decode cX4_readMember 9 = .ok (.ifCond .ne 9, 3) := by decide +kernel
theorem dX4_readMember_12 : decode cX4_readMember 12 = .ok (.aload_n 0, 1) := by decide +kernel
theorem dX4_readMember_13 : decode cX4_readMember 13 = .ok (.iconst 1, 1) := by decide +kernel
theorem dX4_readMember_14 : decode cX4_readMember 14 = .ok (.invokevirtual 81, 3) := by decide +kernel
theorem dX4_readMember_17 : decode cX4_readMember 17 = .ok (.ireturn, 1) := by decide +kernel
theorem dX4_readMember_18 : decode cX4_readMember 18 = .ok (.iload_n 1, 1) := by decide +kernel
theorem dX4_readMember_19 : decode cX4_readMember 19 = .ok (.bipush 12, 2) := by decide +kernel
theorem dX4_readMember_21 : decode cX4_readMember 21 = .ok (.if_icmp .lt 9, 3) := by decide +kernel
theorem dX4_readMember_24 : decode cX4_readMember 24 = .ok (.aload_n 0, 1) := by decide +kernel
theorem dX4_readMember_25 : decode cX4_readMember 25 = .ok (.iconst 3, 1) := by decide +kernel
theorem dX4_readMember_26 : decode cX4_readMember 26 = .ok (.invokevirtual 81, 3) := by decide +kernel
theorem dX4_readMember_29 : decode cX4_readMember 29 = .ok (.ireturn, 1) := by decide +kernel
theorem dX4_readMember_30 : decode cX4_readMember 30 = .ok (.aload_n 0, 1) := by decide +kernel
theorem dX4_readMember_31 : decode cX4_readMember 31 = .ok (.dup, 1) := by decide +kernel
theorem dX4_readMember_32 : decode cX4_readMember 32 = .ok (.getfield 26, 3) := by decide +kernel
theorem dX4_readMember_35 : decode cX4_readMember 35 = .ok (.iconst 1, 1) := by decide +kernel
theorem dX4_readMember_36 : decode cX4_readMember 36 = .ok (.iadd, 1) := by decide +kernel
theorem dX4_readMember_37 : decode cX4_readMember 37 = .ok (.putfield 26, 3) := by decide +kernel
theorem dX4_readMember_40 : decode cX4_readMember 40 = .ok (.aload_n 0, 1) := by decide +kernel
theorem dX4_readMember_41 : decode cX4_readMember 41 = .ok (.iconst 0, 1) := by decide +kernel
theorem dX4_readMember_42 : decode cX4_readMember 42 = .ok (.aload_n 0, 1) := by decide +kernel
theorem dX4_readMember_43 : decode cX4_readMember 43 = .ok (.getfield 18, 3) := by decide +kernel
theorem dX4_readMember_46 : decode cX4_readMember 46 = .ok (.getfield 32, 3) := by decide +kernel
theorem dX4_readMember_49 : decode cX4_readMember 49 = .ok (.iconst 1, 1) := by decide +kernel
theorem dX4_readMember_50 : decode cX4_readMember 50 = .ok (.isub, 1) := by decide +kernel
theorem dX4_readMember_51 : decode cX4_readMember 51 = .ok (.invokevirtual 55, 3) := by decide +kernel
theorem dX4_readMember_54 : decode cX4_readMember 54 = .ok (.istore_n 3, 1) := by decide +kernel
theorem dX4_readMember_55 : decode cX4_readMember 55 = .ok (.iload_n 3, 1) := by decide +kernel
theorem dX4_readMember_56 : decode cX4_readMember 56 = .ok (.ifCond .lt 12, 3) := by decide +kernel
theorem dX4_readMember_59 : decode cX4_readMember 59 = .ok (.aload_n 0, 1) := by decide +kernel
theorem dX4_readMember_60 : decode cX4_readMember 60 = .ok (.bipush 44, 2) := by decide +kernel
theorem dX4_readMember_62 : decode cX4_readMember 62 = .ok (.invokevirtual 51, 3) := by decide +kernel
theorem dX4_readMember_65 : decode cX4_readMember 65 = .ok (.ifCond .ne 5, 3) := by decide +kernel
theorem dX4_readMember_68 : decode cX4_readMember 68 = .ok (.iconst 0, 1) := by decide +kernel
theorem dX4_readMember_69 : decode cX4_readMember 69 = .ok (.ireturn, 1) := by decide +kernel
theorem dX4_readMember_70 : decode cX4_readMember 70 = .ok (.aload_n 0, 1) := by decide +kernel
theorem dX4_readMember_71 : decode cX4_readMember 71 = .ok (.iconst 1, 1) := by decide +kernel
theorem dX4_readMember_72 : decode cX4_readMember 72 = .ok (.bipush 9, 2) := by decide +kernel
theorem dX4_readMember_74 : decode cX4_readMember 74 = .ok (.invokevirtual 55, 3) := by decide +kernel
theorem dX4_readMember_77 : decode cX4_readMember 77 = .ok (.istore 4, 2) := by decide +kernel
theorem dX4_readMember_79 : decode cX4_readMember 79 = .ok (.iload 4, 2) := by decide +kernel
theorem dX4_readMember_81 : decode cX4_readMember 81 = .ok (.ifCond .ge 5, 3) := by decide +kernel
theorem dX4_readMember_84 : decode cX4_readMember 84 = .ok (.iconst 0, 1) := by decide +kernel
theorem dX4_readMember_85 : decode cX4_readMember 85 = .ok (.ireturn, 1) := by decide +kernel
theorem dX4_readMember_86 : decode cX4_readMember 86 = .ok (.aload_n 0, 1) := by decide +kernel
theorem dX4_readMember_87 : decode cX4_readMember 87 = .ok (.getfield 18, 3) := by decide +kernel
theorem dX4_readMember_90 : decode cX4_readMember 90 = .ok (.getfield 84, 3) := by decide +kernel
theorem dX4_readMember_93 : decode cX4_readMember 93 = .ok (.iload_n 1, 1) := by decide +kernel
theorem dX4_readMember_94 : decode cX4_readMember 94 = .ok (.iload_n 2, 1) := by decide +kernel
theorem dX4_readMember_95 : decode cX4_readMember 95 = .ok (.iastore, 1) := by decide +kernel
theorem dX4_readMember_96 : decode cX4_readMember 96 = .ok (.aload_n 0, 1) := by decide +kernel
theorem dX4_readMember_97 : decode cX4_readMember 97 = .ok (.getfield 18, 3) := by decide +kernel
theorem dX4_readMember_100 : decode cX4_readMember 100 = .ok (.getfield 87, 3) := by decide +kernel
theorem dX4_readMember_103 : decode cX4_readMember 103 = .ok (.iload_n 1, 1) := by decide +kernel
theorem dX4_readMember_104 : decode cX4_readMember 104 = .ok (.iload_n 3, 1) := by decide +kernel
theorem dX4_readMember_105 : decode cX4_readMember 105 = .ok (.iastore, 1) := by decide +kernel
theorem dX4_readMember_106 : decode cX4_readMember 106 = .ok (.aload_n 0, 1) := by decide +kernel
theorem dX4_readMember_107 : decode cX4_readMember 107 = .ok (.getfield 18, 3) := by decide +kernel
theorem dX4_readMember_110 : decode cX4_readMember 110 = .ok (.getfield 90, 3) := by decide +kernel
theorem dX4_readMember_113 : decode cX4_readMember 113 = .ok (.iload_n 1, 1) := by decide +kernel
theorem dX4_readMember_114 : decode cX4_readMember 114 = .ok (.iload 4, 2) := by decide +kernel
theorem dX4_readMember_116 : decode cX4_readMember 116 = .ok (.iastore, 1) := by decide +kernel
theorem dX4_readMember_117 : decode cX4_readMember 117 = .ok (.aload_n 0, 1) := by decide +kernel
theorem dX4_readMember_118 : decode cX4_readMember 118 = .ok (.getfield 18, 3) := by decide +kernel
theorem dX4_readMember_121 : decode cX4_readMember 121 = .ok (.getfield 93, 3) := by decide +kernel
theorem dX4_readMember_124 : decode cX4_readMember 124 = .ok (.iload_n 1, 1) := by decide +kernel
theorem dX4_readMember_125 : decode cX4_readMember 125 = .ok (.iconst 0, 1) := by decide +kernel
theorem dX4_readMember_126 : decode cX4_readMember 126 = .ok (.iastore, 1) := by decide +kernel
theorem dX4_readMember_127 : decode cX4_readMember 127 = .ok (.aload_n 0, 1) := by decide +kernel
theorem dX4_readMember_128 : decode cX4_readMember 128 = .ok (.getfield 18, 3) := by decide +kernel
theorem dX4_readMember_131 : decode cX4_readMember 131 = .ok (.iload_n 1, 1) := by decide +kernel
theorem dX4_readMember_132 : decode cX4_readMember 132 = .ok (.iconst 1, 1) := by decide +kernel
theorem dX4_readMember_133 : decode cX4_readMember 133 = .ok (.iadd, 1) := by decide +kernel
theorem dX4_readMember_134 : decode cX4_readMember 134 = .ok (.putfield 35, 3) := by decide +kernel
theorem dX4_readMember_137 : decode cX4_readMember 137 = .ok (.iload_n 2, 1) := by decide +kernel
theorem dX4_readMember_138 : decode cX4_readMember 138 = .ok (.iconst 4, 1) := by decide +kernel
theorem dX4_readMember_139 : decode cX4_readMember 139 = .ok (.if_icmp .eq 8, 3) := by decide +kernel
theorem dX4_readMember_142 : decode cX4_readMember 142 = .ok (.iload_n 2, 1) := by decide +kernel
theorem dX4_readMember_143 : decode cX4_readMember 143 = .ok (.iconst 5, 1) := by decide +kernel
theorem dX4_readMember_144 : decode cX4_readMember 144 = .ok (.if_icmp .ne 11, 3) := by decide +kernel
theorem dX4_readMember_147 : decode cX4_readMember 147 = .ok (.aload_n 0, 1) := by decide +kernel
theorem dX4_readMember_148 : decode cX4_readMember 148 = .ok (.iload_n 1, 1) := by decide +kernel
theorem dX4_readMember_149 : decode cX4_readMember 149 = .ok (.invokevirtual 96, 3) := by decide +kernel
theorem dX4_readMember_152 : decode cX4_readMember 152 = .ok (.ifCond .eq 16, 3) := by decide +kernel
theorem dX4_readMember_155 : decode cX4_readMember 155 = .ok (.aload_n 0, 1) := by decide +kernel
theorem dX4_readMember_156 : decode cX4_readMember 156 = .ok (.bipush 59, 2) := by decide +kernel
theorem dX4_readMember_158 : decode cX4_readMember 158 = .ok (.invokevirtual 51, 3) := by decide +kernel
theorem dX4_readMember_161 : decode cX4_readMember 161 = .ok (.ifCond .eq 7, 3) := by decide +kernel
theorem dX4_readMember_164 : decode cX4_readMember 164 = .ok (.iconst 1, 1) := by decide +kernel
theorem dX4_readMember_165 : decode cX4_readMember 165 = .ok (.goto 4, 3) := by decide +kernel
theorem dX4_readMember_168 : decode cX4_readMember 168 = .ok (.iconst 0, 1) := by decide +kernel
theorem dX4_readMember_169 : decode cX4_readMember 169 = .ok (.ireturn, 1) := by decide +kernel
theorem dX4_readTaken_0 : decode cX4_readTaken 0 = .ok (.aload_n 0, 1) := by decide +kernel
theorem dX4_readTaken_1 : decode cX4_readTaken 1 = .ok (.bipush 44, 2) := by decide +kernel
theorem dX4_readTaken_3 : decode cX4_readTaken 3 = .ok (.invokevirtual 51, 3) := by decide +kernel
theorem dX4_readTaken_6 : decode cX4_readTaken 6 = .ok (.ifCond .ne 5, 3) := by decide +kernel
theorem dX4_readTaken_9 : decode cX4_readTaken 9 = .ok (.iconst 0, 1) := by decide +kernel
theorem dX4_readTaken_10 : decode cX4_readTaken 10 = .ok (.ireturn, 1) := by decide +kernel
theorem dX4_readTaken_11 : decode cX4_readTaken 11 = .ok (.aload_n 0, 1) := by decide +kernel
theorem dX4_readTaken_12 : decode cX4_readTaken 12 = .ok (.getfield 18, 3) := by decide +kernel
theorem dX4_readTaken_15 : decode cX4_readTaken 15 = .ok (.getfield 99, 3) := by decide +kernel
theorem dX4_readTaken_18 : decode cX4_readTaken 18 = .ok (.iload_n 1, 1) := by decide +kernel
theorem dX4_readTaken_19 : decode cX4_readTaken 19 = .ok (.aload_n 0, 1) := by decide +kernel
theorem dX4_readTaken_20 : decode cX4_readTaken 20 = .ok (.iconst 0, 1) := by decide +kernel
theorem dX4_readTaken_21 : decode cX4_readTaken 21 = .ok (.aload_n 0, 1) := by decide +kernel
theorem dX4_readTaken_22 : decode cX4_readTaken 22 = .ok (.getfield 18, 3) := by decide +kernel
theorem dX4_readTaken_25 : decode cX4_readTaken 25 = .ok (.getfield 32, 3) := by decide +kernel
theorem dX4_readTaken_28 : decode cX4_readTaken 28 = .ok (.iconst 1, 1) := by decide +kernel
theorem dX4_readTaken_29 : decode cX4_readTaken 29 = .ok (.isub, 1) := by decide +kernel
theorem dX4_readTaken_30 : decode cX4_readTaken 30 = .ok (.invokevirtual 55, 3) := by decide +kernel
theorem dX4_readTaken_33 : decode cX4_readTaken 33 = .ok (.iastore, 1) := by decide +kernel
theorem dX4_readTaken_34 : decode cX4_readTaken 34 = .ok (.aload_n 0, 1) := by decide +kernel
theorem dX4_readTaken_35 : decode cX4_readTaken 35 = .ok (.getfield 18, 3) := by decide +kernel
theorem dX4_readTaken_38 : decode cX4_readTaken 38 = .ok (.getfield 93, 3) := by decide +kernel
theorem dX4_readTaken_41 : decode cX4_readTaken 41 = .ok (.iload_n 1, 1) := by decide +kernel
theorem dX4_readTaken_42 : decode cX4_readTaken 42 = .ok (.iconst 1, 1) := by decide +kernel
theorem dX4_readTaken_43 : decode cX4_readTaken 43 = .ok (.iastore, 1) := by decide +kernel
theorem dX4_readTaken_44 : decode cX4_readTaken 44 = .ok (.aload_n 0, 1) := by decide +kernel
theorem dX4_readTaken_45 : decode cX4_readTaken 45 = .ok (.getfield 18, 3) := by decide +kernel
theorem dX4_readTaken_48 : decode cX4_readTaken 48 = .ok (.getfield 99, 3) := by decide +kernel
theorem dX4_readTaken_51 : decode cX4_readTaken 51 = .ok (.iload_n 1, 1) := by decide +kernel
theorem dX4_readTaken_52 : decode cX4_readTaken 52 = .ok (.iaload, 1) := by decide +kernel
theorem dX4_readTaken_53 : decode cX4_readTaken 53 = .ok (.ifCond .lt 12, 3) := by decide +kernel
theorem dX4_readTaken_56 : decode cX4_readTaken 56 = .ok (.aload_n 0, 1) := by decide +kernel
theorem dX4_readTaken_57 : decode cX4_readTaken 57 = .ok (.invokevirtual 73, 3) := by decide +kernel
theorem dX4_readTaken_60 : decode cX4_readTaken 60 = .ok (.bipush 44, 2) := by decide +kernel
theorem dX4_readTaken_62 : decode cX4_readTaken 62 = .ok (.if_icmp .eq 21, 3) := by decide +kernel
theorem dX4_readTaken_65 : decode cX4_readTaken 65 = .ok (.aload_n 0, 1) := by decide +kernel
theorem dX4_readTaken_66 : decode cX4_readTaken 66 = .ok (.getfield 18, 3) := by decide +kernel
theorem dX4_readTaken_69 : decode cX4_readTaken 69 = .ok (.getfield 99, 3) := by decide +kernel
theorem dX4_readTaken_72 : decode cX4_readTaken 72 = .ok (.iload_n 1, 1) := by decide +kernel
theorem dX4_readTaken_73 : decode cX4_readTaken 73 = .ok (.iaload, 1) := by decide +kernel
theorem dX4_readTaken_74 : decode cX4_readTaken 74 = .ok (.ifCond .lt 7, 3) := by decide +kernel
theorem dX4_readTaken_77 : decode cX4_readTaken 77 = .ok (.iconst 1, 1) := by decide +kernel
theorem dX4_readTaken_78 : decode cX4_readTaken 78 = .ok (.goto 4, 3) := by decide +kernel
theorem dX4_readTaken_81 : decode cX4_readTaken 81 = .ok (.iconst 0, 1) := by decide +kernel
theorem dX4_readTaken_82 : decode cX4_readTaken 82 = .ok (.ireturn, 1) := by decide +kernel
theorem dX4_readTaken_83 : decode cX4_readTaken 83 = .ok (.aload_n 0, 1) := by decide +kernel
theorem dX4_readTaken_84 : decode cX4_readTaken 84 = .ok (.dup, 1) := by decide +kernel
theorem dX4_readTaken_85 : decode cX4_readTaken 85 = .ok (.getfield 26, 3) := by decide +kernel
theorem dX4_readTaken_88 : decode cX4_readTaken 88 = .ok (.iconst 1, 1) := by decide +kernel
theorem dX4_readTaken_89 : decode cX4_readTaken 89 = .ok (.iadd, 1) := by decide +kernel
theorem dX4_readTaken_90 : decode cX4_readTaken 90 = .ok (.putfield 26, 3) := by decide +kernel
theorem dX4_readTaken_93 : decode cX4_readTaken 93 = .ok (.aload_n 0, 1) := by decide +kernel
theorem dX4_readTaken_94 : decode cX4_readTaken 94 = .ok (.getfield 18, 3) := by decide +kernel
theorem dX4_readTaken_97 : decode cX4_readTaken 97 = .ok (.getfield 102, 3) := by decide +kernel
theorem dX4_readTaken_100 : decode cX4_readTaken 100 = .ok (.iload_n 1, 1) := by decide +kernel
theorem dX4_readTaken_101 : decode cX4_readTaken 101 = .ok (.aload_n 0, 1) := by decide +kernel
theorem dX4_readTaken_102 : decode cX4_readTaken 102 = .ok (.iconst 0, 1) := by decide +kernel
theorem dX4_readTaken_103 : decode cX4_readTaken 103 = .ok (.aload_n 0, 1) := by decide +kernel
theorem dX4_readTaken_104 : decode cX4_readTaken 104 = .ok (.getfield 18, 3) := by decide +kernel
theorem dX4_readTaken_107 : decode cX4_readTaken 107 = .ok (.getfield 32, 3) := by decide +kernel
theorem dX4_readTaken_110 : decode cX4_readTaken 110 = .ok (.iconst 1, 1) := by decide +kernel
theorem dX4_readTaken_111 : decode cX4_readTaken 111 = .ok (.isub, 1) := by decide +kernel
theorem dX4_readTaken_112 : decode cX4_readTaken 112 = .ok (.invokevirtual 55, 3) := by decide +kernel
theorem dX4_readTaken_115 : decode cX4_readTaken 115 = .ok (.iastore, 1) := by decide +kernel
theorem dX4_readTaken_116 : decode cX4_readTaken 116 = .ok (.aload_n 0, 1) := by decide +kernel
theorem dX4_readTaken_117 : decode cX4_readTaken 117 = .ok (.getfield 18, 3) := by decide +kernel
theorem dX4_readTaken_120 : decode cX4_readTaken 120 = .ok (.getfield 93, 3) := by decide +kernel
theorem dX4_readTaken_123 : decode cX4_readTaken 123 = .ok (.iload_n 1, 1) := by decide +kernel
theorem dX4_readTaken_124 : decode cX4_readTaken 124 = .ok (.iconst 2, 1) := by decide +kernel
theorem dX4_readTaken_125 : decode cX4_readTaken 125 = .ok (.iastore, 1) := by decide +kernel
theorem dX4_readTaken_126 : decode cX4_readTaken 126 = .ok (.aload_n 0, 1) := by decide +kernel
theorem dX4_readTaken_127 : decode cX4_readTaken 127 = .ok (.getfield 18, 3) := by decide +kernel
theorem dX4_readTaken_130 : decode cX4_readTaken 130 = .ok (.getfield 102, 3) := by decide +kernel
theorem dX4_readTaken_133 : decode cX4_readTaken 133 = .ok (.iload_n 1, 1) := by decide +kernel
theorem dX4_readTaken_134 : decode cX4_readTaken 134 = .ok (.iaload, 1) := by decide +kernel
theorem dX4_readTaken_135 : decode cX4_readTaken 135 = .ok (.ifCond .lt 7, 3) := by decide +kernel
theorem dX4_readTaken_138 : decode cX4_readTaken 138 = .ok (.iconst 1, 1) := by decide +kernel
theorem dX4_readTaken_139 : decode cX4_readTaken 139 = .ok (.goto 4, 3) := by decide +kernel
theorem dX4_readTaken_142 : decode cX4_readTaken 142 = .ok (.iconst 0, 1) := by decide +kernel
theorem dX4_readTaken_143 : decode cX4_readTaken 143 = .ok (.ireturn, 1) := by decide +kernel
theorem dX4_kindOf_0 : decode cX4_kindOf 0 = .ok (.iload_n 0, 1) := by decide +kernel
theorem dX4_kindOf_1 : decode cX4_kindOf 1 = .ok (.tableswitch 77 99 111 #[73, 77, 77, 69, 77, 77, 77, 77, 77, 67, 75, 77, 71], 67) := by decide +kernel
theorem dX4_kindOf_68 : decode cX4_kindOf 68 = .ok (.iconst 1, 1) := by decide +kernel
theorem dX4_kindOf_69 : decode cX4_kindOf 69 = .ok (.ireturn, 1) := by decide +kernel
theorem dX4_kindOf_70 : decode cX4_kindOf 70 = .ok (.iconst 2, 1) := by decide +kernel
theorem dX4_kindOf_71 : decode cX4_kindOf 71 = .ok (.ireturn, 1) := by decide +kernel
theorem dX4_kindOf_72 : decode cX4_kindOf 72 = .ok (.iconst 3, 1) := by decide +kernel
theorem dX4_kindOf_73 : decode cX4_kindOf 73 = .ok (.ireturn, 1) := by decide +kernel
theorem dX4_kindOf_74 : decode cX4_kindOf 74 = .ok (.iconst 4, 1) := by decide +kernel
theorem dX4_kindOf_75 : decode cX4_kindOf 75 = .ok (.ireturn, 1) := by decide +kernel
theorem dX4_kindOf_76 : decode cX4_kindOf 76 = .ok (.iconst 5, 1) := by decide +kernel
theorem dX4_kindOf_77 : decode cX4_kindOf 77 = .ok (.ireturn, 1) := by decide +kernel
theorem dX4_kindOf_78 : decode cX4_kindOf 78 = .ok (.iconst 0, 1) := by decide +kernel
theorem dX4_kindOf_79 : decode cX4_kindOf 79 = .ok (.ireturn, 1) := by decide +kernel
theorem dX4_here_0 : decode cX4_here 0 = .ok (.aload_n 0, 1) := by decide +kernel
theorem dX4_here_1 : decode cX4_here 1 = .ok (.aload_n 0, 1) := by decide +kernel
theorem dX4_here_2 : decode cX4_here 2 = .ok (.getfield 26, 3) := by decide +kernel
theorem dX4_here_5 : decode cX4_here 5 = .ok (.invokevirtual 105, 3) := by decide +kernel
theorem dX4_here_8 : decode cX4_here 8 = .ok (.ireturn, 1) := by decide +kernel
theorem dX4_byteAt_0 : decode cX4_byteAt 0 = .ok (.iload_n 1, 1) := by decide +kernel
theorem dX4_byteAt_1 : decode cX4_byteAt 1 = .ok (.aload_n 0, 1) := by decide +kernel
theorem dX4_byteAt_2 : decode cX4_byteAt 2 = .ok (.getfield 22, 3) := by decide +kernel
theorem dX4_byteAt_5 : decode cX4_byteAt 5 = .ok (.if_icmp .ge 12, 3) := by decide +kernel
theorem dX4_byteAt_8 : decode cX4_byteAt 8 = .ok (.aload_n 0, 1) := by decide +kernel
theorem dX4_byteAt_9 : decode cX4_byteAt 9 = .ok (.getfield 11, 3) := by decide +kernel
theorem dX4_byteAt_12 : decode cX4_byteAt 12 = .ok (.iload_n 1, 1) := by decide +kernel
theorem dX4_byteAt_13 : decode cX4_byteAt 13 = .ok (.iaload, 1) := by decide +kernel
theorem dX4_byteAt_14 : decode cX4_byteAt 14 = .ok (.goto 4, 3) := by decide +kernel
theorem dX4_byteAt_17 : decode cX4_byteAt 17 = .ok (.iconst (-1), 1) := by decide +kernel
theorem dX4_byteAt_18 : decode cX4_byteAt 18 = .ok (.ireturn, 1) := by decide +kernel
theorem dX4_take_0 : decode cX4_take 0 = .ok (.aload_n 0, 1) := by decide +kernel
theorem dX4_take_1 : decode cX4_take 1 = .ok (.invokevirtual 73, 3) := by decide +kernel
theorem dX4_take_4 : decode cX4_take 4 = .ok (.iload_n 1, 1) := by decide +kernel
theorem dX4_take_5 : decode cX4_take 5 = .ok (.if_icmp .eq 9, 3) := by decide +kernel
theorem dX4_take_8 : decode cX4_take 8 = .ok (.aload_n 0, 1) := by decide +kernel
theorem dX4_take_9 : decode cX4_take 9 = .ok (.iconst 1, 1) := by decide +kernel
theorem dX4_take_10 : decode cX4_take 10 = .ok (.invokevirtual 81, 3) := by decide +kernel
theorem dX4_take_13 : decode cX4_take 13 = .ok (.ireturn, 1) := by decide +kernel
theorem dX4_take_14 : decode cX4_take 14 = .ok (.aload_n 0, 1) := by decide +kernel
theorem dX4_take_15 : decode cX4_take 15 = .ok (.dup, 1) := by decide +kernel
theorem dX4_take_16 : decode cX4_take 16 = .ok (.getfield 26, 3) := by decide +kernel
theorem dX4_take_19 : decode cX4_take 19 = .ok (.iconst 1, 1) := by decide +kernel
theorem dX4_take_20 : decode cX4_take 20 = .ok (.iadd, 1) := by decide +kernel
theorem dX4_take_21 : decode cX4_take 21 = .ok (.putfield 26, 3) := by decide +kernel
theorem dX4_take_24 : decode cX4_take 24 = .ok (.iconst 1, 1) := by decide +kernel
theorem dX4_take_25 : decode cX4_take 25 = .ok (.ireturn, 1) := by decide +kernel
theorem dX4_takeNumber_0 : decode cX4_takeNumber 0 = .ok (.iconst 0, 1) := by decide +kernel
theorem dX4_takeNumber_1 : decode cX4_takeNumber 1 = .ok (.istore_n 3, 1) := by decide +kernel
theorem dX4_takeNumber_2 : decode cX4_takeNumber 2 = .ok (.iconst 0, 1) := by decide +kernel
theorem dX4_takeNumber_3 : decode cX4_takeNumber 3 = .ok (.istore 4, 2) := by decide +kernel
theorem dX4_takeNumber_5 : decode cX4_takeNumber 5 = .ok (.iload_n 3, 1) := by decide +kernel
theorem dX4_takeNumber_6 : decode cX4_takeNumber 6 = .ok (.iconst 2, 1) := by decide +kernel
theorem dX4_takeNumber_7 : decode cX4_takeNumber 7 = .ok (.if_icmp .gt 46, 3) := by decide +kernel
theorem dX4_takeNumber_10 : decode cX4_takeNumber 10 = .ok (.aload_n 0, 1) := by decide +kernel
theorem dX4_takeNumber_11 : decode cX4_takeNumber 11 = .ok (.aload_n 0, 1) := by decide +kernel
theorem dX4_takeNumber_12 : decode cX4_takeNumber 12 = .ok (.getfield 26, 3) := by decide +kernel
theorem dX4_takeNumber_15 : decode cX4_takeNumber 15 = .ok (.iload_n 3, 1) := by decide +kernel
theorem dX4_takeNumber_16 : decode cX4_takeNumber 16 = .ok (.iadd, 1) := by decide +kernel
theorem dX4_takeNumber_17 : decode cX4_takeNumber 17 = .ok (.invokevirtual 105, 3) := by decide +kernel
theorem dX4_takeNumber_20 : decode cX4_takeNumber 20 = .ok (.invokestatic 108, 3) := by decide +kernel
theorem dX4_takeNumber_23 : decode cX4_takeNumber 23 = .ok (.ifCond .eq 30, 3) := by decide +kernel
theorem dX4_takeNumber_26 : decode cX4_takeNumber 26 = .ok (.iload 4, 2) := by decide +kernel
theorem dX4_takeNumber_28 : decode cX4_takeNumber 28 = .ok (.bipush 10, 2) := by decide +kernel
theorem dX4_takeNumber_30 : decode cX4_takeNumber 30 = .ok (.imul, 1) := by decide +kernel
theorem dX4_takeNumber_31 : decode cX4_takeNumber 31 = .ok (.aload_n 0, 1) := by decide +kernel
theorem dX4_takeNumber_32 : decode cX4_takeNumber 32 = .ok (.aload_n 0, 1) := by decide +kernel
theorem dX4_takeNumber_33 : decode cX4_takeNumber 33 = .ok (.getfield 26, 3) := by decide +kernel
theorem dX4_takeNumber_36 : decode cX4_takeNumber 36 = .ok (.iload_n 3, 1) := by decide +kernel
theorem dX4_takeNumber_37 : decode cX4_takeNumber 37 = .ok (.iadd, 1) := by decide +kernel
theorem dX4_takeNumber_38 : decode cX4_takeNumber 38 = .ok (.invokevirtual 105, 3) := by decide +kernel
theorem dX4_takeNumber_41 : decode cX4_takeNumber 41 = .ok (.iadd, 1) := by decide +kernel
theorem dX4_takeNumber_42 : decode cX4_takeNumber 42 = .ok (.bipush 48, 2) := by decide +kernel
theorem dX4_takeNumber_44 : decode cX4_takeNumber 44 = .ok (.isub, 1) := by decide +kernel
theorem dX4_takeNumber_45 : decode cX4_takeNumber 45 = .ok (.istore 4, 2) := by decide +kernel
theorem dX4_takeNumber_47 : decode cX4_takeNumber 47 = .ok (.iinc 3 1, 3) := by decide +kernel
theorem dX4_takeNumber_50 : decode cX4_takeNumber 50 = .ok (.goto (-45), 3) := by decide +kernel
theorem dX4_takeNumber_53 : decode cX4_takeNumber 53 = .ok (.iload_n 3, 1) := by decide +kernel
theorem dX4_takeNumber_54 : decode cX4_takeNumber 54 = .ok (.ifCond .eq 8, 3) := by decide +kernel
theorem dX4_takeNumber_57 : decode cX4_takeNumber 57 = .ok (.iload_n 3, 1) := by decide +kernel
theorem dX4_takeNumber_58 : decode cX4_takeNumber 58 = .ok (.iconst 2, 1) := by decide +kernel
theorem dX4_takeNumber_59 : decode cX4_takeNumber 59 = .ok (.if_icmp .le 11, 3) := by decide +kernel
theorem dX4_takeNumber_62 : decode cX4_takeNumber 62 = .ok (.aload_n 0, 1) := by decide +kernel
theorem dX4_takeNumber_63 : decode cX4_takeNumber 63 = .ok (.iconst 1, 1) := by decide +kernel
theorem dX4_takeNumber_64 : decode cX4_takeNumber 64 = .ok (.invokevirtual 81, 3) := by decide +kernel
theorem dX4_takeNumber_67 : decode cX4_takeNumber 67 = .ok (.pop, 1) := by decide +kernel
theorem dX4_takeNumber_68 : decode cX4_takeNumber 68 = .ok (.iconst (-1), 1) := by decide +kernel
theorem dX4_takeNumber_69 : decode cX4_takeNumber 69 = .ok (.ireturn, 1) := by decide +kernel
theorem dX4_takeNumber_70 : decode cX4_takeNumber 70 = .ok (.iload 4, 2) := by decide +kernel
theorem dX4_takeNumber_72 : decode cX4_takeNumber 72 = .ok (.iload_n 1, 1) := by decide +kernel
theorem dX4_takeNumber_73 : decode cX4_takeNumber 73 = .ok (.if_icmp .lt 9, 3) := by decide +kernel
theorem dX4_takeNumber_76 : decode cX4_takeNumber 76 = .ok (.iload 4, 2) := by decide +kernel
theorem dX4_takeNumber_78 : decode cX4_takeNumber 78 = .ok (.iload_n 2, 1) := by decide +kernel
theorem dX4_takeNumber_79 : decode cX4_takeNumber 79 = .ok (.if_icmp .le 11, 3) := by decide +kernel
theorem dX4_takeNumber_82 : decode cX4_takeNumber 82 = .ok (.aload_n 0, 1) := by decide +kernel
theorem dX4_takeNumber_83 : decode cX4_takeNumber 83 = .ok (.iconst 2, 1) := by decide +kernel
theorem dX4_takeNumber_84 : decode cX4_takeNumber 84 = .ok (.invokevirtual 81, 3) := by decide +kernel
theorem dX4_takeNumber_87 : decode cX4_takeNumber 87 = .ok (.pop, 1) := by decide +kernel
theorem dX4_takeNumber_88 : decode cX4_takeNumber 88 = .ok (.iconst (-1), 1) := by decide +kernel
theorem dX4_takeNumber_89 : decode cX4_takeNumber 89 = .ok (.ireturn, 1) := by decide +kernel
theorem dX4_takeNumber_90 : decode cX4_takeNumber 90 = .ok (.aload_n 0, 1) := by decide +kernel
theorem dX4_takeNumber_91 : decode cX4_takeNumber 91 = .ok (.dup, 1) := by decide +kernel
theorem dX4_takeNumber_92 : decode cX4_takeNumber 92 = .ok (.getfield 26, 3) := by decide +kernel
theorem dX4_takeNumber_95 : decode cX4_takeNumber 95 = .ok (.iload_n 3, 1) := by decide +kernel
theorem dX4_takeNumber_96 : decode cX4_takeNumber 96 = .ok (.iadd, 1) := by decide +kernel
theorem dX4_takeNumber_97 : decode cX4_takeNumber 97 = .ok (.putfield 26, 3) := by decide +kernel
theorem dX4_takeNumber_100 : decode cX4_takeNumber 100 = .ok (.iload 4, 2) := by decide +kernel
theorem dX4_takeNumber_102 : decode cX4_takeNumber 102 = .ok (.ireturn, 1) := by decide +kernel
theorem dX4_isFigure_0 : decode cX4_isFigure 0 = .ok (.iload_n 0, 1) := by decide +kernel
theorem dX4_isFigure_1 : decode cX4_isFigure 1 = .ok (.bipush 48, 2) := by decide +kernel
theorem dX4_isFigure_3 : decode cX4_isFigure 3 = .ok (.if_icmp .lt 13, 3) := by decide +kernel
theorem dX4_isFigure_6 : decode cX4_isFigure 6 = .ok (.iload_n 0, 1) := by decide +kernel
theorem dX4_isFigure_7 : decode cX4_isFigure 7 = .ok (.bipush 57, 2) := by decide +kernel
theorem dX4_isFigure_9 : decode cX4_isFigure 9 = .ok (.if_icmp .gt 7, 3) := by decide +kernel
theorem dX4_isFigure_12 : decode cX4_isFigure 12 = .ok (.iconst 1, 1) := by decide +kernel
theorem dX4_isFigure_13 : decode cX4_isFigure 13 = .ok (.goto 4, 3) := by decide +kernel
theorem dX4_isFigure_16 : decode cX4_isFigure 16 = .ok (.iconst 0, 1) := by decide +kernel
theorem dX4_isFigure_17 : decode cX4_isFigure 17 = .ok (.ireturn, 1) := by decide +kernel
theorem dX4_refuse_0 : decode cX4_refuse 0 = .ok (.aload_n 0, 1) := by decide +kernel
theorem dX4_refuse_1 : decode cX4_refuse 1 = .ok (.iload_n 1, 1) := by decide +kernel
theorem dX4_refuse_2 : decode cX4_refuse 2 = .ok (.putfield 29, 3) := by decide +kernel
theorem dX4_refuse_5 : decode cX4_refuse 5 = .ok (.iconst 0, 1) := by decide +kernel
theorem dX4_refuse_6 : decode cX4_refuse 6 = .ok (.ireturn, 1) := by decide +kernel
theorem dX5_init_0 : decode cX5_init 0 = .ok (.aload_n 0, 1) := by decide +kernel
theorem dX5_init_1 : decode cX5_init 1 = .ok (.invokespecial 1, 3) := by decide +kernel
theorem dX5_init_4 : decode cX5_init 4 = .ok (.aload_n 0, 1) := by decide +kernel
theorem dX5_init_5 : decode cX5_init 5 = .ok (.bipush 8, 2) := by decide +kernel
theorem dX5_init_7 : decode cX5_init 7 = .ok (.bipush 40, 2) := by decide +kernel
theorem dX5_init_9 : decode cX5_init 9 = .ok (.multianewarray 9 2, 4) := by decide +kernel
theorem dX5_init_13 : decode cX5_init 13 = .ok (.putfield 11, 3) := by decide +kernel
theorem dX5_init_16 : decode cX5_init 16 = .ok (.aload_n 0, 1) := by decide +kernel
theorem dX5_init_17 : decode cX5_init 17 = .ok (.bipush 8, 2) := by decide +kernel
theorem dX5_init_19 : decode cX5_init 19 = .ok (.newarray .int, 2) := by decide +kernel
theorem dX5_init_21 : decode cX5_init 21 = .ok (.putfield 14, 3) := by decide +kernel
theorem dX5_init_24 : decode cX5_init 24 = .ok (.aload_n 0, 1) := by decide +kernel
theorem dX5_init_25 : decode cX5_init 25 = .ok (.bipush 8, 2) := by decide +kernel
theorem dX5_init_27 : decode cX5_init 27 = .ok (.newarray .int, 2) := by decide +kernel
theorem dX5_init_29 : decode cX5_init 29 = .ok (.putfield 18, 3) := by decide +kernel
theorem dX5_init_32 : decode cX5_init 32 = .ok (.aload_n 0, 1) := by decide +kernel
theorem dX5_init_33 : decode cX5_init 33 = .ok (.getfield 14, 3) := by decide +kernel
theorem dX5_init_36 : decode cX5_init 36 = .ok (.iconst (-1), 1) := by decide +kernel
theorem dX5_init_37 : decode cX5_init 37 = .ok (.invokestatic 21, 3) := by decide +kernel
theorem dX5_init_40 : decode cX5_init 40 = .ok (.return_, 1) := by decide +kernel
theorem dX5_isRow_0 : decode cX5_isRow 0 = .ok (.iload_n 0, 1) := by decide +kernel
theorem dX5_isRow_1 : decode cX5_isRow 1 = .ok (.ifCond .lt 13, 3) := by decide +kernel
theorem dX5_isRow_4 : decode cX5_isRow 4 = .ok (.iload_n 0, 1) := by decide +kernel
theorem dX5_isRow_5 : decode cX5_isRow 5 = .ok (.bipush 8, 2) := by decide +kernel
theorem dX5_isRow_7 : decode cX5_isRow 7 = .ok (.if_icmp .ge 7, 3) := by decide +kernel
theorem dX5_isRow_10 : decode cX5_isRow 10 = .ok (.iconst 1, 1) := by decide +kernel
theorem dX5_isRow_11 : decode cX5_isRow 11 = .ok (.goto 4, 3) := by decide +kernel
theorem dX5_isRow_14 : decode cX5_isRow 14 = .ok (.iconst 0, 1) := by decide +kernel
theorem dX5_isRow_15 : decode cX5_isRow 15 = .ok (.ireturn, 1) := by decide +kernel
theorem dX5_isLane_0 : decode cX5_isLane 0 = .ok (.iload_n 0, 1) := by decide +kernel
theorem dX5_isLane_1 : decode cX5_isLane 1 = .ok (.ifCond .lt 12, 3) := by decide +kernel
theorem dX5_isLane_4 : decode cX5_isLane 4 = .ok (.iload_n 0, 1) := by decide +kernel
theorem dX5_isLane_5 : decode cX5_isLane 5 = .ok (.iconst 2, 1) := by decide +kernel
theorem dX5_isLane_6 : decode cX5_isLane 6 = .ok (.if_icmp .gt 7, 3) := by decide +kernel
theorem dX5_isLane_9 : decode cX5_isLane 9 = .ok (.iconst 1, 1) := by decide +kernel
theorem dX5_isLane_10 : decode cX5_isLane 10 = .ok (.goto 4, 3) := by decide +kernel
theorem dX5_isLane_13 : decode cX5_isLane 13 = .ok (.iconst 0, 1) := by decide +kernel
theorem dX5_isLane_14 : decode cX5_isLane 14 = .ok (.ireturn, 1) := by decide +kernel
theorem dX5_isMissing_0 : decode cX5_isMissing 0 = .ok (.aload_n 0, 1) := by decide +kernel
theorem dX5_isMissing_1 : decode cX5_isMissing 1 = .ok (.getfield 14, 3) := by decide +kernel
theorem dX5_isMissing_4 : decode cX5_isMissing 4 = .ok (.iload_n 1, 1) := by decide +kernel
theorem dX5_isMissing_5 : decode cX5_isMissing 5 = .ok (.iaload, 1) := by decide +kernel
theorem dX5_isMissing_6 : decode cX5_isMissing 6 = .ok (.iconst (-1), 1) := by decide +kernel
theorem dX5_isMissing_7 : decode cX5_isMissing 7 = .ok (.if_icmp .ne 7, 3) := by decide +kernel
theorem dX5_isMissing_10 : decode cX5_isMissing 10 = .ok (.iconst 1, 1) := by decide +kernel
theorem dX5_isMissing_11 : decode cX5_isMissing 11 = .ok (.goto 4, 3) := by decide +kernel
theorem dX5_isMissing_14 : decode cX5_isMissing 14 = .ok (.iconst 0, 1) := by decide +kernel
theorem dX5_isMissing_15 : decode cX5_isMissing 15 = .ok (.ireturn, 1) := by decide +kernel
theorem dX5_hasPlaces_0 : decode cX5_hasPlaces 0 = .ok (.iload_n 2, 1) := by decide +kernel
theorem dX5_hasPlaces_1 : decode cX5_hasPlaces 1 = .ok (.ifCond .lt 23, 3) := by decide +kernel
theorem dX5_hasPlaces_4 : decode cX5_hasPlaces 4 = .ok (.iload_n 3, 1) := by decide +kernel
theorem dX5_hasPlaces_5 : decode cX5_hasPlaces 5 = .ok (.ifCond .lt 19, 3) := by decide +kernel
theorem dX5_hasPlaces_8 : decode cX5_hasPlaces 8 = .ok (.iload_n 2, 1) := by decide +kernel
theorem dX5_hasPlaces_9 : decode cX5_hasPlaces 9 = .ok (.aload_n 0, 1) := by decide +kernel
theorem dX5_hasPlaces_10 : decode cX5_hasPlaces 10 = .ok (.getfield 18, 3) := by decide +kernel
theorem dX5_hasPlaces_13 : decode cX5_hasPlaces 13 = .ok (.iload_n 1, 1) := by decide +kernel
theorem dX5_hasPlaces_14 : decode cX5_hasPlaces 14 = .ok (.iaload, 1) := by decide +kernel
theorem dX5_hasPlaces_15 : decode cX5_hasPlaces 15 = .ok (.iload_n 3, 1) := by decide +kernel
theorem dX5_hasPlaces_16 : decode cX5_hasPlaces 16 = .ok (.isub, 1) := by decide +kernel
theorem dX5_hasPlaces_17 : decode cX5_hasPlaces 17 = .ok (.if_icmp .gt 7, 3) := by decide +kernel
theorem dX5_hasPlaces_20 : decode cX5_hasPlaces 20 = .ok (.iconst 1, 1) := by decide +kernel
theorem dX5_hasPlaces_21 : decode cX5_hasPlaces 21 = .ok (.goto 4, 3) := by decide +kernel
theorem dX5_hasPlaces_24 : decode cX5_hasPlaces 24 = .ok (.iconst 0, 1) := by decide +kernel
theorem dX5_hasPlaces_25 : decode cX5_hasPlaces 25 = .ok (.ireturn, 1) := by decide +kernel
theorem dX5_make_0 : decode cX5_make 0 = .ok (.aload_n 0, 1) := by decide +kernel
theorem dX5_make_1 : decode cX5_make 1 = .ok (.getfield 14, 3) := by decide +kernel
theorem dX5_make_4 : decode cX5_make 4 = .ok (.iload_n 1, 1) := by decide +kernel
theorem dX5_make_5 : decode cX5_make 5 = .ok (.iload_n 2, 1) := by decide +kernel
theorem dX5_make_6 : decode cX5_make 6 = .ok (.iastore, 1) := by decide +kernel
theorem dX5_make_7 : decode cX5_make 7 = .ok (.aload_n 0, 1) := by decide +kernel
theorem dX5_make_8 : decode cX5_make 8 = .ok (.getfield 18, 3) := by decide +kernel
theorem dX5_make_11 : decode cX5_make 11 = .ok (.iload_n 1, 1) := by decide +kernel
theorem dX5_make_12 : decode cX5_make 12 = .ok (.iload_n 3, 1) := by decide +kernel
theorem dX5_make_13 : decode cX5_make 13 = .ok (.iastore, 1) := by decide +kernel
theorem dX5_make_14 : decode cX5_make 14 = .ok (.aload_n 0, 1) := by decide +kernel
theorem dX5_make_15 : decode cX5_make 15 = .ok (.getfield 11, 3) := by decide +kernel
theorem dX5_make_18 : decode cX5_make 18 = .ok (.iload_n 1, 1) := by decide +kernel
theorem dX5_make_19 : decode cX5_make 19 = .ok (.aaload, 1) := by decide +kernel
theorem dX5_make_20 : decode cX5_make 20 = .ok (.iconst 0, 1) := by decide +kernel
theorem dX5_make_21 : decode cX5_make 21 = .ok (.invokestatic 21, 3) := by decide +kernel
theorem dX5_make_24 : decode cX5_make 24 = .ok (.return_, 1) := by decide +kernel
theorem dX5_put_0 : decode cX5_put 0 = .ok (.iload_n 3, 1) := by decide +kernel
theorem dX5_put_1 : decode cX5_put 1 = .ok (.istore 4, 2) := by decide +kernel
theorem dX5_put_3 : decode cX5_put 3 = .ok (.aload_n 0, 1) := by decide +kernel
theorem dX5_put_4 : decode cX5_put 4 = .ok (.getfield 14, 3) := by decide +kernel
theorem dX5_put_7 : decode cX5_put 7 = .ok (.iload_n 1, 1) := by decide +kernel
theorem dX5_put_8 : decode cX5_put 8 = .ok (.iaload, 1) := by decide +kernel
theorem dX5_put_9 : decode cX5_put 9 = .ok (.ifCond .ne 10, 3) := by decide +kernel
theorem dX5_put_12 : decode cX5_put 12 = .ok (.iload_n 3, 1) := by decide +kernel
theorem dX5_put_13 : decode cX5_put 13 = .ok (.i2b, 1) := by decide +kernel
theorem dX5_put_14 : decode cX5_put 14 = .ok (.istore 4, 2) := by decide +kernel
theorem dX5_put_16 : decode cX5_put 16 = .ok (.goto 17, 3) := by decide +kernel
theorem dX5_put_19 : decode cX5_put 19 = .ok (.aload_n 0, 1) := by decide +kernel
theorem dX5_put_20 : decode cX5_put 20 = .ok (.getfield 14, 3) := by decide +kernel
theorem dX5_put_23 : decode cX5_put 23 = .ok (.iload_n 1, 1) := by decide +kernel
theorem dX5_put_24 : decode cX5_put 24 = .ok (.iaload, 1) := by decide +kernel
theorem dX5_put_25 : decode cX5_put 25 = .ok (.iconst 1, 1) := by decide +kernel
theorem dX5_put_26 : decode cX5_put 26 = .ok (.if_icmp .ne 7, 3) := by decide +kernel
theorem dX5_put_29 : decode cX5_put 29 = .ok (.iload_n 3, 1) := by decide +kernel
theorem dX5_put_30 : decode cX5_put 30 = .ok (.i2s, 1) := by decide +kernel
theorem dX5_put_31 : decode cX5_put 31 = .ok (.istore 4, 2) := by decide +kernel
theorem dX5_put_33 : decode cX5_put 33 = .ok (.aload_n 0, 1) := by decide +kernel
theorem dX5_put_34 : decode cX5_put 34 = .ok (.getfield 11, 3) := by decide +kernel
theorem dX5_put_37 : decode cX5_put 37 = .ok (.iload_n 1, 1) := by decide +kernel
theorem dX5_put_38 : decode cX5_put 38 = .ok (.aaload, 1) := by decide +kernel
theorem dX5_put_39 : decode cX5_put 39 = .ok (.iload_n 2, 1) := by decide +kernel
theorem dX5_put_40 : decode cX5_put 40 = .ok (.iload 4, 2) := by decide +kernel
theorem dX5_put_42 : decode cX5_put 42 = .ok (.iastore, 1) := by decide +kernel
theorem dX5_put_43 : decode cX5_put 43 = .ok (.iload 4, 2) := by decide +kernel
theorem dX5_put_45 : decode cX5_put 45 = .ok (.ireturn, 1) := by decide +kernel
theorem dX5_lose_0 : decode cX5_lose 0 = .ok (.aload_n 0, 1) := by decide +kernel
theorem dX5_lose_1 : decode cX5_lose 1 = .ok (.getfield 14, 3) := by decide +kernel
theorem dX5_lose_4 : decode cX5_lose 4 = .ok (.iload_n 1, 1) := by decide +kernel
theorem dX5_lose_5 : decode cX5_lose 5 = .ok (.iconst (-1), 1) := by decide +kernel
theorem dX5_lose_6 : decode cX5_lose 6 = .ok (.iastore, 1) := by decide +kernel
theorem dX5_lose_7 : decode cX5_lose 7 = .ok (.aload_n 0, 1) := by decide +kernel
theorem dX5_lose_8 : decode cX5_lose 8 = .ok (.getfield 18, 3) := by decide +kernel
theorem dX5_lose_11 : decode cX5_lose 11 = .ok (.iload_n 1, 1) := by decide +kernel
theorem dX5_lose_12 : decode cX5_lose 12 = .ok (.iaload, 1) := by decide +kernel
theorem dX5_lose_13 : decode cX5_lose 13 = .ok (.ireturn, 1) := by decide +kernel
theorem dX5_present_0 : decode cX5_present 0 = .ok (.iconst 0, 1) := by decide +kernel
theorem dX5_present_1 : decode cX5_present 1 = .ok (.istore_n 1, 1) := by decide +kernel
theorem dX5_present_2 : decode cX5_present 2 = .ok (.iconst 0, 1) := by decide +kernel
theorem dX5_present_3 : decode cX5_present 3 = .ok (.istore_n 2, 1) := by decide +kernel
theorem dX5_present_4 : decode cX5_present 4 = .ok (.iload_n 2, 1) := by decide +kernel
theorem dX5_present_5 : decode cX5_present 5 = .ok (.bipush 8, 2) := by decide +kernel
theorem dX5_present_7 : decode cX5_present 7 = .ok (.if_icmp .ge 25, 3) := by decide +kernel
theorem dX5_present_10 : decode cX5_present 10 = .ok (.iload_n 1, 1) := by decide +kernel
theorem dX5_present_11 : decode cX5_present 11 = .ok (.aload_n 0, 1) := by decide +kernel
theorem dX5_present_12 : decode cX5_present 12 = .ok (.iload_n 2, 1) := by decide +kernel
theorem dX5_present_13 : decode cX5_present 13 = .ok (.invokevirtual 27, 3) := by decide +kernel
theorem dX5_present_16 : decode cX5_present 16 = .ok (.ifCond .eq 7, 3) := by decide +kernel
theorem dX5_present_19 : decode cX5_present 19 = .ok (.iconst 0, 1) := by decide +kernel
theorem dX5_present_20 : decode cX5_present 20 = .ok (.goto 4, 3) := by decide +kernel
theorem dX5_present_23 : decode cX5_present 23 = .ok (.iconst 1, 1) := by decide +kernel
theorem dX5_present_24 : decode cX5_present 24 = .ok (.iadd, 1) := by decide +kernel
theorem dX5_present_25 : decode cX5_present 25 = .ok (.istore_n 1, 1) := by decide +kernel
theorem dX5_present_26 : decode cX5_present 26 = .ok (.iinc 2 1, 3) := by decide +kernel
theorem dX5_present_29 : decode cX5_present 29 = .ok (.goto (-25), 3) := by decide +kernel
theorem dX5_present_32 : decode cX5_present 32 = .ok (.iload_n 1, 1) := by decide +kernel
theorem dX5_present_33 : decode cX5_present 33 = .ok (.ireturn, 1) := by decide +kernel
theorem dX6_init_0 : decode cX6_init 0 = .ok (.aload_n 0, 1) := by decide +kernel
theorem dX6_init_1 : decode cX6_init 1 = .ok (.invokespecial 3, 3) := by decide +kernel
theorem dX6_init_4 : decode cX6_init 4 = .ok (.aload_n 0, 1) := by decide +kernel
theorem dX6_init_5 : decode cX6_init 5 = .ok (.bipush 24, 2) := by decide +kernel
theorem dX6_init_7 : decode cX6_init 7 = .ok (.newarray .int, 2) := by decide +kernel
theorem dX6_init_9 : decode cX6_init 9 = .ok (.putfield 11, 3) := by decide +kernel
theorem dX6_init_12 : decode cX6_init 12 = .ok (.aload_n 0, 1) := by decide +kernel
theorem dX6_init_13 : decode cX6_init 13 = .ok (.bipush 26, 2) := by decide +kernel
theorem dX6_init_15 : decode cX6_init 15 = .ok (.newarray .int, 2) := by decide +kernel
theorem dX6_init_17 : decode cX6_init 17 = .ok (.putfield 15, 3) := by decide +kernel
theorem dX6_init_20 : decode cX6_init 20 = .ok (.aload_n 0, 1) := by decide +kernel
theorem dX6_init_21 : decode cX6_init 21 = .ok (.aload_n 1, 1) := by decide +kernel
theorem dX6_init_22 : decode cX6_init 22 = .ok (.putfield 18, 3) := by decide +kernel
theorem dX6_init_25 : decode cX6_init 25 = .ok (.aload_n 0, 1) := by decide +kernel
theorem dX6_init_26 : decode cX6_init 26 = .ok (.aload_n 2, 1) := by decide +kernel
theorem dX6_init_27 : decode cX6_init 27 = .ok (.putfield 22, 3) := by decide +kernel
theorem dX6_init_30 : decode cX6_init 30 = .ok (.return_, 1) := by decide +kernel
theorem dX6_isLength_0 : decode cX6_isLength 0 = .ok (.iload_n 0, 1) := by decide +kernel
theorem dX6_isLength_1 : decode cX6_isLength 1 = .ok (.iconst 1, 1) := by decide +kernel
theorem dX6_isLength_2 : decode cX6_isLength 2 = .ok (.if_icmp .lt 13, 3) := by decide +kernel
theorem dX6_isLength_5 : decode cX6_isLength 5 = .ok (.iload_n 0, 1) := by decide +kernel
theorem dX6_isLength_6 : decode cX6_isLength 6 = .ok (.bipush 24, 2) := by decide +kernel
theorem dX6_isLength_8 : decode cX6_isLength 8 = .ok (.if_icmp .gt 7, 3) := by decide +kernel
theorem dX6_isLength_11 : decode cX6_isLength 11 = .ok (.iconst 1, 1) := by decide +kernel
theorem dX6_isLength_12 : decode cX6_isLength 12 = .ok (.goto 4, 3) := by decide +kernel
theorem dX6_isLength_15 : decode cX6_isLength 15 = .ok (.iconst 0, 1) := by decide +kernel
theorem dX6_isLength_16 : decode cX6_isLength 16 = .ok (.ireturn, 1) := by decide +kernel
theorem dX6_take_0 : decode cX6_take 0 = .ok (.aload_n 0, 1) := by decide +kernel
theorem dX6_take_1 : decode cX6_take 1 = .ok (.getfield 22, 3) := by decide +kernel
theorem dX6_take_4 : decode cX6_take 4 = .ok (.iload_n 1, 1) := by decide +kernel
theorem dX6_take_5 : decode cX6_take 5 = .ok (.invokevirtual 26, 3) := by decide +kernel
theorem dX6_take_8 : decode cX6_take 8 = .ok (.ifCond .eq 5, 3) := by decide +kernel
theorem dX6_take_11 : decode cX6_take 11 = .ok (.iconst 1, 1) := by decide +kernel
theorem dX6_take_12 : decode cX6_take 12 = .ok (.ireturn, 1) := by decide +kernel
theorem dX6_take_13 : decode cX6_take 13 = .ok (.aload_n 0, 1) := by decide +kernel
theorem dX6_take_14 : decode cX6_take 14 = .ok (.getfield 22, 3) := by decide +kernel
theorem dX6_take_17 : decode cX6_take 17 = .ok (.iload_n 1, 1) := by decide +kernel
theorem dX6_take_18 : decode cX6_take 18 = .ok (.iload_n 2, 1) := by decide +kernel
theorem dX6_take_19 : decode cX6_take 19 = .ok (.iload_n 3, 1) := by decide +kernel
theorem dX6_take_20 : decode cX6_take 20 = .ok (.invokevirtual 32, 3) := by decide +kernel
theorem dX6_take_23 : decode cX6_take 23 = .ok (.ifCond .ne 5, 3) := by decide +kernel
theorem dX6_take_26 : decode cX6_take 26 = .ok (.iconst 2, 1) := by decide +kernel
theorem dX6_take_27 : decode cX6_take 27 = .ok (.ireturn, 1) := by decide +kernel
theorem dX6_take_28 : decode cX6_take 28 = .ok (.aload_n 0, 1) := by decide +kernel
theorem dX6_take_29 : decode cX6_take 29 = .ok (.getfield 22, 3) := by decide +kernel
theorem dX6_take_32 : decode cX6_take 32 = .ok (.getfield 36, 3) := by decide +kernel
theorem dX6_take_35 : decode cX6_take 35 = .ok (.iload_n 1, 1) := by decide +kernel
theorem dX6_take_36 : decode cX6_take 36 = .ok (.aaload, 1) := by decide +kernel
theorem dX6_take_37 : decode cX6_take 37 = .ok (.iload_n 2, 1) := by decide +kernel
theorem dX6_take_38 : decode cX6_take 38 = .ok (.aload_n 0, 1) := by decide +kernel
theorem dX6_take_39 : decode cX6_take 39 = .ok (.getfield 11, 3) := by decide +kernel
theorem dX6_take_42 : decode cX6_take 42 = .ok (.iconst 0, 1) := by decide +kernel
theorem dX6_take_43 : decode cX6_take 43 = .ok (.iload_n 3, 1) := by decide +kernel
theorem dX6_take_44 : decode cX6_take 44 = .ok (.invokestatic 40, 3) := by decide +kernel
theorem dX6_take_47 : decode cX6_take 47 = .ok (.aload_n 0, 1) := by decide +kernel
theorem dX6_take_48 : decode cX6_take 48 = .ok (.iload_n 3, 1) := by decide +kernel
theorem dX6_take_49 : decode cX6_take 49 = .ok (.putfield 46, 3) := by decide +kernel
theorem dX6_take_52 : decode cX6_take 52 = .ok (.iconst 0, 1) := by decide +kernel
theorem dX6_take_53 : decode cX6_take 53 = .ok (.ireturn, 1) := by decide +kernel
theorem dX6_isWhole_0 : decode cX6_isWhole 0 = .ok (.iconst 0, 1) := by decide +kernel
theorem dX6_isWhole_1 : decode cX6_isWhole 1 = .ok (.istore_n 1, 1) := by decide +kernel
theorem dX6_isWhole_2 : decode cX6_isWhole 2 = .ok (.iconst 0, 1) := by decide +kernel
theorem dX6_isWhole_3 : decode cX6_isWhole 3 = .ok (.istore_n 2, 1) := by decide +kernel
theorem dX6_isWhole_4 : decode cX6_isWhole 4 = .ok (.iload_n 2, 1) := by decide +kernel
theorem dX6_isWhole_5 : decode cX6_isWhole 5 = .ok (.aload_n 0, 1) := by decide +kernel
theorem dX6_isWhole_6 : decode cX6_isWhole 6 = .ok (.getfield 46, 3) := by decide +kernel
theorem dX6_isWhole_9 : decode cX6_isWhole 9 = .ok (.if_icmp .ge 46, 3) := by decide +kernel
theorem dX6_isWhole_12 : decode cX6_isWhole 12 = .ok (.iload_n 2, 1) := by decide +kernel
theorem dX6_isWhole_13 : decode cX6_isWhole 13 = .ok (.ifCond .le 7, 3) := by decide +kernel
theorem dX6_isWhole_16 : decode cX6_isWhole 16 = .ok (.iload_n 1, 1) := by decide +kernel
theorem dX6_isWhole_17 : decode cX6_isWhole 17 = .ok (.ifCond .eq 12, 3) := by decide +kernel
theorem dX6_isWhole_20 : decode cX6_isWhole 20 = .ok (.aload_n 0, 1) := by decide +kernel
theorem dX6_isWhole_21 : decode cX6_isWhole 21 = .ok (.iload_n 2, 1) := by decide +kernel
theorem dX6_isWhole_22 : decode cX6_isWhole 22 = .ok (.iload_n 1, 1) := by decide +kernel
theorem dX6_isWhole_23 : decode cX6_isWhole 23 = .ok (.invokevirtual 50, 3) := by decide +kernel
theorem dX6_isWhole_26 : decode cX6_isWhole 26 = .ok (.ifCond .ne 5, 3) := by decide +kernel
theorem dX6_isWhole_29 : decode cX6_isWhole 29 = .ok (.iconst 0, 1) := by decide +kernel
theorem dX6_isWhole_30 : decode cX6_isWhole 30 = .ok (.ireturn, 1) := by decide +kernel
theorem dX6_isWhole_31 : decode cX6_isWhole 31 = .ok (.aload_n 0, 1) := by decide +kernel
theorem dX6_isWhole_32 : decode cX6_isWhole 32 = .ok (.aload_n 0, 1) := by decide +kernel
theorem dX6_isWhole_33 : decode cX6_isWhole 33 = .ok (.getfield 11, 3) := by decide +kernel
theorem dX6_isWhole_36 : decode cX6_isWhole 36 = .ok (.iload_n 2, 1) := by decide +kernel
theorem dX6_isWhole_37 : decode cX6_isWhole 37 = .ok (.iaload, 1) := by decide +kernel
theorem dX6_isWhole_38 : decode cX6_isWhole 38 = .ok (.iload_n 1, 1) := by decide +kernel
theorem dX6_isWhole_39 : decode cX6_isWhole 39 = .ok (.iconst 1, 1) := by decide +kernel
theorem dX6_isWhole_40 : decode cX6_isWhole 40 = .ok (.isub, 1) := by decide +kernel
theorem dX6_isWhole_41 : decode cX6_isWhole 41 = .ok (.iconst 0, 1) := by decide +kernel
theorem dX6_isWhole_42 : decode cX6_isWhole 42 = .ok (.invokestatic 54, 3) := by decide +kernel
theorem dX6_isWhole_45 : decode cX6_isWhole 45 = .ok (.invokevirtual 60, 3) := by decide +kernel
theorem dX6_isWhole_48 : decode cX6_isWhole 48 = .ok (.istore_n 1, 1) := by decide +kernel
theorem dX6_isWhole_49 : decode cX6_isWhole 49 = .ok (.iinc 2 1, 3) := by decide +kernel
theorem dX6_isWhole_52 : decode cX6_isWhole 52 = .ok (.goto (-48), 3) := by decide +kernel
theorem dX6_isWhole_55 : decode cX6_isWhole 55 = .ok (.iload_n 1, 1) := by decide +kernel
theorem dX6_isWhole_56 : decode cX6_isWhole 56 = .ok (.ifCond .ne 7, 3) := by decide +kernel
theorem dX6_isWhole_59 : decode cX6_isWhole 59 = .ok (.iconst 1, 1) := by decide +kernel
theorem dX6_isWhole_60 : decode cX6_isWhole 60 = .ok (.goto 4, 3) := by decide +kernel
theorem dX6_isWhole_63 : decode cX6_isWhole 63 = .ok (.iconst 0, 1) := by decide +kernel
theorem dX6_isWhole_64 : decode cX6_isWhole 64 = .ok (.ireturn, 1) := by decide +kernel
theorem dX6_fits_0 : decode cX6_fits 0 = .ok (.aload_n 0, 1) := by decide +kernel
theorem dX6_fits_1 : decode cX6_fits 1 = .ok (.getfield 11, 3) := by decide +kernel
theorem dX6_fits_4 : decode cX6_fits 4 = .ok (.iload_n 1, 1) := by decide +kernel
theorem dX6_fits_5 : decode cX6_fits 5 = .ok (.iaload, 1) := by decide +kernel
theorem dX6_fits_6 : decode cX6_fits 6 = .ok (.istore_n 3, 1) := by decide +kernel
theorem dX6_fits_7 : decode cX6_fits 7 = .ok (.aload_n 0, 1) := by decide +kernel
theorem dX6_fits_8 : decode cX6_fits 8 = .ok (.getfield 18, 3) := by decide +kernel
theorem dX6_fits_11 : decode cX6_fits 11 = .ok (.iload_n 3, 1) := by decide +kernel
theorem dX6_fits_12 : decode cX6_fits 12 = .ok (.invokevirtual 63, 3) := by decide +kernel
theorem dX6_fits_15 : decode cX6_fits 15 = .ok (.ifCond .eq 14, 3) := by decide +kernel
theorem dX6_fits_18 : decode cX6_fits 18 = .ok (.aload_n 0, 1) := by decide +kernel
theorem dX6_fits_19 : decode cX6_fits 19 = .ok (.getfield 18, 3) := by decide +kernel
theorem dX6_fits_22 : decode cX6_fits 22 = .ok (.iload_n 3, 1) := by decide +kernel
theorem dX6_fits_23 : decode cX6_fits 23 = .ok (.invokevirtual 68, 3) := by decide +kernel
theorem dX6_fits_26 : decode cX6_fits 26 = .ok (.ifCond .eq 5, 3) := by decide +kernel
theorem dX6_fits_29 : decode cX6_fits 29 = .ok (.iconst 0, 1) := by decide +kernel
theorem dX6_fits_30 : decode cX6_fits 30 = .ok (.ireturn, 1) := by decide +kernel
theorem dX6_fits_31 : decode cX6_fits 31 = .ok (.iload_n 1, 1) := by decide +kernel
theorem dX6_fits_32 : decode cX6_fits 32 = .ok (.ifCond .eq 22, 3) := by decide +kernel
theorem dX6_fits_35 : decode cX6_fits 35 = .ok (.aload_n 0, 1) := by decide +kernel
theorem dX6_fits_36 : decode cX6_fits 36 = .ok (.getfield 18, 3) := by decide +kernel
theorem dX6_fits_39 : decode cX6_fits 39 = .ok (.iload_n 3, 1) := by decide +kernel
theorem dX6_fits_40 : decode cX6_fits 40 = .ok (.aload_n 0, 1) := by decide +kernel
theorem dX6_fits_41 : decode cX6_fits 41 = .ok (.getfield 15, 3) := by decide +kernel
theorem dX6_fits_44 : decode cX6_fits 44 = .ok (.iload_n 2, 1) := by decide +kernel
theorem dX6_fits_45 : decode cX6_fits 45 = .ok (.iconst 1, 1) := by decide +kernel
theorem dX6_fits_46 : decode cX6_fits 46 = .ok (.isub, 1) := by decide +kernel
theorem dX6_fits_47 : decode cX6_fits 47 = .ok (.iaload, 1) := by decide +kernel
theorem dX6_fits_48 : decode cX6_fits 48 = .ok (.invokevirtual 71, 3) := by decide +kernel
theorem dX6_fits_51 : decode cX6_fits 51 = .ok (.ifCond .eq 7, 3) := by decide +kernel
theorem dX6_fits_54 : decode cX6_fits 54 = .ok (.iconst 1, 1) := by decide +kernel
theorem dX6_fits_55 : decode cX6_fits 55 = .ok (.goto 4, 3) := by decide +kernel
theorem dX6_fits_58 : decode cX6_fits 58 = .ok (.iconst 0, 1) := by decide +kernel
theorem dX6_fits_59 : decode cX6_fits 59 = .ok (.ireturn, 1) := by decide +kernel
theorem dX6_wantTaken_0 : decode cX6_wantTaken 0 = .ok (.iload_n 2, 1) := by decide +kernel
theorem dX6_wantTaken_1 : decode cX6_wantTaken 1 = .ok (.istore_n 3, 1) := by decide +kernel
theorem dX6_wantTaken_2 : decode cX6_wantTaken 2 = .ok (.aload_n 0, 1) := by decide +kernel
theorem dX6_wantTaken_3 : decode cX6_wantTaken 3 = .ok (.getfield 18, 3) := by decide +kernel
theorem dX6_wantTaken_6 : decode cX6_wantTaken 6 = .ok (.getfield 74, 3) := by decide +kernel
theorem dX6_wantTaken_9 : decode cX6_wantTaken 9 = .ok (.iload_n 1, 1) := by decide +kernel
theorem dX6_wantTaken_10 : decode cX6_wantTaken 10 = .ok (.iaload, 1) := by decide +kernel
theorem dX6_wantTaken_11 : decode cX6_wantTaken 11 = .ok (.iconst 1, 1) := by decide +kernel
theorem dX6_wantTaken_12 : decode cX6_wantTaken 12 = .ok (.if_icmp .le 21, 3) := by decide +kernel
theorem dX6_wantTaken_15 : decode cX6_wantTaken 15 = .ok (.aload_n 0, 1) := by decide +kernel
theorem dX6_wantTaken_16 : decode cX6_wantTaken 16 = .ok (.getfield 15, 3) := by decide +kernel
theorem dX6_wantTaken_19 : decode cX6_wantTaken 19 = .ok (.iload_n 3, 1) := by decide +kernel
theorem dX6_wantTaken_20 : decode cX6_wantTaken 20 = .ok (.aload_n 0, 1) := by decide +kernel
theorem dX6_wantTaken_21 : decode cX6_wantTaken 21 = .ok (.getfield 18, 3) := by decide +kernel
theorem dX6_wantTaken_24 : decode cX6_wantTaken 24 = .ok (.getfield 77, 3) := by decide +kernel
theorem dX6_wantTaken_27 : decode cX6_wantTaken 27 = .ok (.iload_n 1, 1) := by decide +kernel
theorem dX6_wantTaken_28 : decode cX6_wantTaken 28 = .ok (.iaload, 1) := by decide +kernel
theorem dX6_wantTaken_29 : decode cX6_wantTaken 29 = .ok (.iastore, 1) := by decide +kernel
theorem dX6_wantTaken_30 : decode cX6_wantTaken 30 = .ok (.iinc 3 1, 3) := by decide +kernel
theorem dX6_wantTaken_33 : decode cX6_wantTaken 33 = .ok (.aload_n 0, 1) := by decide +kernel
theorem dX6_wantTaken_34 : decode cX6_wantTaken 34 = .ok (.getfield 18, 3) := by decide +kernel
theorem dX6_wantTaken_37 : decode cX6_wantTaken 37 = .ok (.getfield 74, 3) := by decide +kernel
theorem dX6_wantTaken_40 : decode cX6_wantTaken 40 = .ok (.iload_n 1, 1) := by decide +kernel
theorem dX6_wantTaken_41 : decode cX6_wantTaken 41 = .ok (.iaload, 1) := by decide +kernel
theorem dX6_wantTaken_42 : decode cX6_wantTaken 42 = .ok (.ifCond .le 21, 3) := by decide +kernel
theorem dX6_wantTaken_45 : decode cX6_wantTaken 45 = .ok (.aload_n 0, 1) := by decide +kernel
theorem dX6_wantTaken_46 : decode cX6_wantTaken 46 = .ok (.getfield 15, 3) := by decide +kernel
theorem dX6_wantTaken_49 : decode cX6_wantTaken 49 = .ok (.iload_n 3, 1) := by decide +kernel
theorem dX6_wantTaken_50 : decode cX6_wantTaken 50 = .ok (.aload_n 0, 1) := by decide +kernel
theorem dX6_wantTaken_51 : decode cX6_wantTaken 51 = .ok (.getfield 18, 3) := by decide +kernel
theorem dX6_wantTaken_54 : decode cX6_wantTaken 54 = .ok (.getfield 80, 3) := by decide +kernel
theorem dX6_wantTaken_57 : decode cX6_wantTaken 57 = .ok (.iload_n 1, 1) := by decide +kernel
theorem dX6_wantTaken_58 : decode cX6_wantTaken 58 = .ok (.iaload, 1) := by decide +kernel
theorem dX6_wantTaken_59 : decode cX6_wantTaken 59 = .ok (.iastore, 1) := by decide +kernel
theorem dX6_wantTaken_60 : decode cX6_wantTaken 60 = .ok (.iinc 3 1, 3) := by decide +kernel
theorem dX6_wantTaken_63 : decode cX6_wantTaken 63 = .ok (.iload_n 3, 1) := by decide +kernel
theorem dX6_wantTaken_64 : decode cX6_wantTaken 64 = .ok (.ireturn, 1) := by decide +kernel
theorem dX6_given_0 : decode cX6_given 0 = .ok (.aload_n 0, 1) := by decide +kernel
theorem dX6_given_1 : decode cX6_given 1 = .ok (.getfield 18, 3) := by decide +kernel
theorem dX6_given_4 : decode cX6_given 4 = .ok (.getfield 83, 3) := by decide +kernel
theorem dX6_given_7 : decode cX6_given 7 = .ok (.aload_n 0, 1) := by decide +kernel
theorem dX6_given_8 : decode cX6_given 8 = .ok (.getfield 11, 3) := by decide +kernel
theorem dX6_given_11 : decode cX6_given 11 = .ok (.iconst 0, 1) := by decide +kernel
theorem dX6_given_12 : decode cX6_given 12 = .ok (.iaload, 1) := by decide +kernel
theorem dX6_given_13 : decode cX6_given 13 = .ok (.iaload, 1) := by decide +kernel
theorem dX6_given_14 : decode cX6_given 14 = .ok (.ireturn, 1) := by decide +kernel
theorem dX6_priceTogether_0 : decode cX6_priceTogether 0 = .ok (.iconst 0, 1) := by decide +kernel
theorem dX6_priceTogether_1 : decode cX6_priceTogether 1 = .ok (.istore_n 1, 1) := by decide +kernel
theorem dX6_priceTogether_2 : decode cX6_priceTogether 2 = .ok (.iconst 0, 1) := by decide +kernel
theorem dX6_priceTogether_3 : decode cX6_priceTogether 3 = .ok (.istore_n 2, 1) := by decide +kernel
theorem dX6_priceTogether_4 : decode cX6_priceTogether 4 = .ok (.iload_n 2, 1) := by decide +kernel
theorem dX6_priceTogether_5 : decode cX6_priceTogether 5 = .ok (.aload_n 0, 1) := by decide +kernel
theorem dX6_priceTogether_6 : decode cX6_priceTogether 6 = .ok (.getfield 46, 3) := by decide +kernel
theorem dX6_priceTogether_9 : decode cX6_priceTogether 9 = .ok (.if_icmp .ge 25, 3) := by decide +kernel
theorem dX6_priceTogether_12 : decode cX6_priceTogether 12 = .ok (.iload_n 1, 1) := by decide +kernel
theorem dX6_priceTogether_13 : decode cX6_priceTogether 13 = .ok (.aload_n 0, 1) := by decide +kernel
theorem dX6_priceTogether_14 : decode cX6_priceTogether 14 = .ok (.getfield 18, 3) := by decide +kernel
theorem dX6_priceTogether_17 : decode cX6_priceTogether 17 = .ok (.aload_n 0, 1) := by decide +kernel
theorem dX6_priceTogether_18 : decode cX6_priceTogether 18 = .ok (.getfield 11, 3) := by decide +kernel
theorem dX6_priceTogether_21 : decode cX6_priceTogether 21 = .ok (.iload_n 2, 1) := by decide +kernel
theorem dX6_priceTogether_22 : decode cX6_priceTogether 22 = .ok (.iaload, 1) := by decide +kernel
theorem dX6_priceTogether_23 : decode cX6_priceTogether 23 = .ok (.invokevirtual 86, 3) := by decide +kernel
theorem dX6_priceTogether_26 : decode cX6_priceTogether 26 = .ok (.iadd, 1) := by decide +kernel
theorem dX6_priceTogether_27 : decode cX6_priceTogether 27 = .ok (.istore_n 1, 1) := by decide +kernel
theorem dX6_priceTogether_28 : decode cX6_priceTogether 28 = .ok (.iinc 2 1, 3) := by decide +kernel
theorem dX6_priceTogether_31 : decode cX6_priceTogether 31 = .ok (.goto (-27), 3) := by decide +kernel
theorem dX6_priceTogether_34 : decode cX6_priceTogether 34 = .ok (.iload_n 1, 1) := by decide +kernel
theorem dX6_priceTogether_35 : decode cX6_priceTogether 35 = .ok (.ireturn, 1) := by decide +kernel
theorem dX7_init_0 : decode cX7_init 0 = .ok (.aload_n 0, 1) := by decide +kernel
theorem dX7_init_1 : decode cX7_init 1 = .ok (.invokespecial 3, 3) := by decide +kernel
theorem dX7_init_4 : decode cX7_init 4 = .ok (.aload_n 0, 1) := by decide +kernel
theorem dX7_init_5 : decode cX7_init 5 = .ok (.bipush 8, 2) := by decide +kernel
theorem dX7_init_7 : decode cX7_init 7 = .ok (.newarray .int, 2) := by decide +kernel
theorem dX7_init_9 : decode cX7_init 9 = .ok (.putfield 9, 3) := by decide +kernel
theorem dX7_init_12 : decode cX7_init 12 = .ok (.aload_n 0, 1) := by decide +kernel
theorem dX7_init_13 : decode cX7_init 13 = .ok (.bipush 8, 2) := by decide +kernel
theorem dX7_init_15 : decode cX7_init 15 = .ok (.newarray .int, 2) := by decide +kernel
theorem dX7_init_17 : decode cX7_init 17 = .ok (.putfield 15, 3) := by decide +kernel
theorem dX7_init_20 : decode cX7_init 20 = .ok (.aload_n 0, 1) := by decide +kernel
theorem dX7_init_21 : decode cX7_init 21 = .ok (.bipush 12, 2) := by decide +kernel
theorem dX7_init_23 : decode cX7_init 23 = .ok (.newarray .int, 2) := by decide +kernel
theorem dX7_init_25 : decode cX7_init 25 = .ok (.putfield 18, 3) := by decide +kernel
theorem dX7_init_28 : decode cX7_init 28 = .ok (.aload_n 0, 1) := by decide +kernel
theorem dX7_init_29 : decode cX7_init 29 = .ok (.bipush 12, 2) := by decide +kernel
theorem dX7_init_31 : decode cX7_init 31 = .ok (.newarray .int, 2) := by decide +kernel
theorem dX7_init_33 : decode cX7_init 33 = .ok (.putfield 21, 3) := by decide +kernel
theorem dX7_init_36 : decode cX7_init 36 = .ok (.aload_n 0, 1) := by decide +kernel
theorem dX7_init_37 : decode cX7_init 37 = .ok (.bipush 12, 2) := by decide +kernel
theorem dX7_init_39 : decode cX7_init 39 = .ok (.newarray .int, 2) := by decide +kernel
theorem dX7_init_41 : decode cX7_init 41 = .ok (.putfield 24, 3) := by decide +kernel
theorem dX7_init_44 : decode cX7_init 44 = .ok (.aload_n 0, 1) := by decide +kernel
theorem dX7_init_45 : decode cX7_init 45 = .ok (.bipush 12, 2) := by decide +kernel
theorem dX7_init_47 : decode cX7_init 47 = .ok (.newarray .int, 2) := by decide +kernel
theorem dX7_init_49 : decode cX7_init 49 = .ok (.putfield 27, 3) := by decide +kernel
theorem dX7_init_52 : decode cX7_init 52 = .ok (.aload_n 0, 1) := by decide +kernel
theorem dX7_init_53 : decode cX7_init 53 = .ok (.bipush 12, 2) := by decide +kernel
theorem dX7_init_55 : decode cX7_init 55 = .ok (.newarray .int, 2) := by decide +kernel
theorem dX7_init_57 : decode cX7_init 57 = .ok (.putfield 30, 3) := by decide +kernel
theorem dX7_init_60 : decode cX7_init 60 = .ok (.aload_n 0, 1) := by decide +kernel
theorem dX7_init_61 : decode cX7_init 61 = .ok (.bipush 12, 2) := by decide +kernel
theorem dX7_init_63 : decode cX7_init 63 = .ok (.newarray .int, 2) := by decide +kernel
theorem dX7_init_65 : decode cX7_init 65 = .ok (.putfield 33, 3) := by decide +kernel
theorem dX7_init_68 : decode cX7_init 68 = .ok (.return_, 1) := by decide +kernel
theorem dX7_become_0 : decode cX7_become 0 = .ok (.aload_n 0, 1) := by decide +kernel
theorem dX7_become_1 : decode cX7_become 1 = .ok (.aload_n 1, 1) := by decide +kernel
theorem dX7_become_2 : decode cX7_become 2 = .ok (.getfield 36, 3) := by decide +kernel
theorem dX7_become_5 : decode cX7_become 5 = .ok (.putfield 36, 3) := by decide +kernel
theorem dX7_become_8 : decode cX7_become 8 = .ok (.aload_n 0, 1) := by decide +kernel
theorem dX7_become_9 : decode cX7_become 9 = .ok (.aload_n 1, 1) := by decide +kernel
theorem dX7_become_10 : decode cX7_become 10 = .ok (.getfield 40, 3) := by decide +kernel
theorem dX7_become_13 : decode cX7_become 13 = .ok (.putfield 40, 3) := by decide +kernel
theorem dX7_become_16 : decode cX7_become 16 = .ok (.aload_n 0, 1) := by decide +kernel
theorem dX7_become_17 : decode cX7_become 17 = .ok (.aload_n 1, 1) := by decide +kernel
theorem dX7_become_18 : decode cX7_become 18 = .ok (.getfield 43, 3) := by decide +kernel
theorem dX7_become_21 : decode cX7_become 21 = .ok (.putfield 43, 3) := by decide +kernel
theorem dX7_become_24 : decode cX7_become 24 = .ok (.aload_n 1, 1) := by decide +kernel
theorem dX7_become_25 : decode cX7_become 25 = .ok (.getfield 9, 3) := by decide +kernel
theorem dX7_become_28 : decode cX7_become 28 = .ok (.iconst 0, 1) := by decide +kernel
theorem dX7_become_29 : decode cX7_become 29 = .ok (.aload_n 0, 1) := by decide +kernel
theorem dX7_become_30 : decode cX7_become 30 = .ok (.getfield 9, 3) := by decide +kernel
theorem dX7_become_33 : decode cX7_become 33 = .ok (.iconst 0, 1) := by decide +kernel
theorem dX7_become_34 : decode cX7_become 34 = .ok (.bipush 8, 2) := by decide +kernel
theorem dX7_become_36 : decode cX7_become 36 = .ok (.invokestatic 46, 3) := by decide +kernel
theorem dX7_become_39 : decode cX7_become 39 = .ok (.aload_n 1, 1) := by decide +kernel
theorem dX7_become_40 : decode cX7_become 40 = .ok (.getfield 15, 3) := by decide +kernel
theorem dX7_become_43 : decode cX7_become 43 = .ok (.iconst 0, 1) := by decide +kernel
theorem dX7_become_44 : decode cX7_become 44 = .ok (.aload_n 0, 1) := by decide +kernel
theorem dX7_become_45 : decode cX7_become 45 = .ok (.getfield 15, 3) := by decide +kernel
theorem dX7_become_48 : decode cX7_become 48 = .ok (.iconst 0, 1) := by decide +kernel
theorem dX7_become_49 : decode cX7_become 49 = .ok (.bipush 8, 2) := by decide +kernel
theorem dX7_become_51 : decode cX7_become 51 = .ok (.invokestatic 46, 3) := by decide +kernel
theorem dX7_become_54 : decode cX7_become 54 = .ok (.aload_n 1, 1) := by decide +kernel
theorem dX7_become_55 : decode cX7_become 55 = .ok (.getfield 18, 3) := by decide +kernel
theorem dX7_become_58 : decode cX7_become 58 = .ok (.iconst 0, 1) := by decide +kernel
theorem dX7_become_59 : decode cX7_become 59 = .ok (.aload_n 0, 1) := by decide +kernel
theorem dX7_become_60 : decode cX7_become 60 = .ok (.getfield 18, 3) := by decide +kernel
theorem dX7_become_63 : decode cX7_become 63 = .ok (.iconst 0, 1) := by decide +kernel
theorem dX7_become_64 : decode cX7_become 64 = .ok (.bipush 12, 2) := by decide +kernel
theorem dX7_become_66 : decode cX7_become 66 = .ok (.invokestatic 46, 3) := by decide +kernel
theorem dX7_become_69 : decode cX7_become 69 = .ok (.aload_n 1, 1) := by decide +kernel
theorem dX7_become_70 : decode cX7_become 70 = .ok (.getfield 21, 3) := by decide +kernel
theorem dX7_become_73 : decode cX7_become 73 = .ok (.iconst 0, 1) := by decide +kernel
theorem dX7_become_74 : decode cX7_become 74 = .ok (.aload_n 0, 1) := by decide +kernel
theorem dX7_become_75 : decode cX7_become 75 = .ok (.getfield 21, 3) := by decide +kernel
theorem dX7_become_78 : decode cX7_become 78 = .ok (.iconst 0, 1) := by decide +kernel
theorem dX7_become_79 : decode cX7_become 79 = .ok (.bipush 12, 2) := by decide +kernel
theorem dX7_become_81 : decode cX7_become 81 = .ok (.invokestatic 46, 3) := by decide +kernel
theorem dX7_become_84 : decode cX7_become 84 = .ok (.aload_n 1, 1) := by decide +kernel
theorem dX7_become_85 : decode cX7_become 85 = .ok (.getfield 24, 3) := by decide +kernel
theorem dX7_become_88 : decode cX7_become 88 = .ok (.iconst 0, 1) := by decide +kernel
theorem dX7_become_89 : decode cX7_become 89 = .ok (.aload_n 0, 1) := by decide +kernel
theorem dX7_become_90 : decode cX7_become 90 = .ok (.getfield 24, 3) := by decide +kernel
theorem dX7_become_93 : decode cX7_become 93 = .ok (.iconst 0, 1) := by decide +kernel
theorem dX7_become_94 : decode cX7_become 94 = .ok (.bipush 12, 2) := by decide +kernel
theorem dX7_become_96 : decode cX7_become 96 = .ok (.invokestatic 46, 3) := by decide +kernel
theorem dX7_become_99 : decode cX7_become 99 = .ok (.aload_n 1, 1) := by decide +kernel
theorem dX7_become_100 : decode cX7_become 100 = .ok (.getfield 27, 3) := by decide +kernel
theorem dX7_become_103 : decode cX7_become 103 = .ok (.iconst 0, 1) := by decide +kernel
theorem dX7_become_104 : decode cX7_become 104 = .ok (.aload_n 0, 1) := by decide +kernel
theorem dX7_become_105 : decode cX7_become 105 = .ok (.getfield 27, 3) := by decide +kernel
theorem dX7_become_108 : decode cX7_become 108 = .ok (.iconst 0, 1) := by decide +kernel
theorem dX7_become_109 : decode cX7_become 109 = .ok (.bipush 12, 2) := by decide +kernel
theorem dX7_become_111 : decode cX7_become 111 = .ok (.invokestatic 46, 3) := by decide +kernel
theorem dX7_become_114 : decode cX7_become 114 = .ok (.aload_n 1, 1) := by decide +kernel
theorem dX7_become_115 : decode cX7_become 115 = .ok (.getfield 30, 3) := by decide +kernel
theorem dX7_become_118 : decode cX7_become 118 = .ok (.iconst 0, 1) := by decide +kernel
theorem dX7_become_119 : decode cX7_become 119 = .ok (.aload_n 0, 1) := by decide +kernel
theorem dX7_become_120 : decode cX7_become 120 = .ok (.getfield 30, 3) := by decide +kernel
theorem dX7_become_123 : decode cX7_become 123 = .ok (.iconst 0, 1) := by decide +kernel
theorem dX7_become_124 : decode cX7_become 124 = .ok (.bipush 12, 2) := by decide +kernel
theorem dX7_become_126 : decode cX7_become 126 = .ok (.invokestatic 46, 3) := by decide +kernel
theorem dX7_become_129 : decode cX7_become 129 = .ok (.aload_n 1, 1) := by decide +kernel
theorem dX7_become_130 : decode cX7_become 130 = .ok (.getfield 33, 3) := by decide +kernel
theorem dX7_become_133 : decode cX7_become 133 = .ok (.iconst 0, 1) := by decide +kernel
theorem dX7_become_134 : decode cX7_become 134 = .ok (.aload_n 0, 1) := by decide +kernel
theorem dX7_become_135 : decode cX7_become 135 = .ok (.getfield 33, 3) := by decide +kernel
theorem dX7_become_138 : decode cX7_become 138 = .ok (.iconst 0, 1) := by decide +kernel
theorem dX7_become_139 : decode cX7_become 139 = .ok (.bipush 12, 2) := by decide +kernel
theorem dX7_become_141 : decode cX7_become 141 = .ok (.invokestatic 46, 3) := by decide +kernel
theorem dX7_become_144 : decode cX7_become 144 = .ok (.return_, 1) := by decide +kernel
theorem dX7_seeAbove_0 : decode cX7_seeAbove 0 = .ok (.iconst 0, 1) := by decide +kernel
theorem dX7_seeAbove_1 : decode cX7_seeAbove 1 = .ok (.istore_n 1, 1) := by decide +kernel
theorem dX7_seeAbove_2 : decode cX7_seeAbove 2 = .ok (.iload_n 1, 1) := by decide +kernel
theorem dX7_seeAbove_3 : decode cX7_seeAbove 3 = .ok (.aload_n 0, 1) := by decide +kernel
theorem dX7_seeAbove_4 : decode cX7_seeAbove 4 = .ok (.getfield 36, 3) := by decide +kernel
theorem dX7_seeAbove_7 : decode cX7_seeAbove 7 = .ok (.if_icmp .ge 43, 3) := by decide +kernel
theorem dX7_seeAbove_10 : decode cX7_seeAbove 10 = .ok (.aload_n 0, 1) := by decide +kernel
theorem dX7_seeAbove_11 : decode cX7_seeAbove 11 = .ok (.getfield 9, 3) := by decide +kernel
theorem dX7_seeAbove_14 : decode cX7_seeAbove 14 = .ok (.iload_n 1, 1) := by decide +kernel
theorem dX7_seeAbove_15 : decode cX7_seeAbove 15 = .ok (.iaload, 1) := by decide +kernel
theorem dX7_seeAbove_16 : decode cX7_seeAbove 16 = .ok (.istore_n 2, 1) := by decide +kernel
theorem dX7_seeAbove_17 : decode cX7_seeAbove 17 = .ok (.aload_n 0, 1) := by decide +kernel
theorem dX7_seeAbove_18 : decode cX7_seeAbove 18 = .ok (.getfield 15, 3) := by decide +kernel
theorem dX7_seeAbove_21 : decode cX7_seeAbove 21 = .ok (.iload_n 1, 1) := by decide +kernel
theorem dX7_seeAbove_22 : decode cX7_seeAbove 22 = .ok (.iload_n 2, 1) := by decide +kernel
theorem dX7_seeAbove_23 : decode cX7_seeAbove 23 = .ok (.iload_n 1, 1) := by decide +kernel
theorem dX7_seeAbove_24 : decode cX7_seeAbove 24 = .ok (.if_icmp .ne 9, 3) := by decide +kernel
theorem dX7_seeAbove_27 : decode cX7_seeAbove 27 = .ok (.iconst 1, 1) := by decide +kernel
theorem dX7_seeAbove_28 : decode cX7_seeAbove 28 = .ok (.iload_n 1, 1) := by decide +kernel
theorem dX7_seeAbove_29 : decode cX7_seeAbove 29 = .ok (.ishl, 1) := by decide +kernel
theorem dX7_seeAbove_30 : decode cX7_seeAbove 30 = .ok (.goto 13, 3) := by decide +kernel
theorem dX7_seeAbove_33 : decode cX7_seeAbove 33 = .ok (.iconst 1, 1) := by decide +kernel
theorem dX7_seeAbove_34 : decode cX7_seeAbove 34 = .ok (.iload_n 1, 1) := by decide +kernel
theorem dX7_seeAbove_35 : decode cX7_seeAbove 35 = .ok (.ishl, 1) := by decide +kernel
theorem dX7_seeAbove_36 : decode cX7_seeAbove 36 = .ok (.aload_n 0, 1) := by decide +kernel
theorem dX7_seeAbove_37 : decode cX7_seeAbove 37 = .ok (.getfield 15, 3) := by decide +kernel
theorem dX7_seeAbove_40 : decode cX7_seeAbove 40 = .ok (.iload_n 2, 1) := by decide +kernel
theorem dX7_seeAbove_41 : decode cX7_seeAbove 41 = .ok (.iaload, 1) := by decide +kernel
theorem dX7_seeAbove_42 : decode cX7_seeAbove 42 = .ok (.ior, 1) := by decide +kernel
theorem dX7_seeAbove_43 : decode cX7_seeAbove 43 = .ok (.iastore, 1) := by decide +kernel
theorem dX7_seeAbove_44 : decode cX7_seeAbove 44 = .ok (.iinc 1 1, 3) := by decide +kernel
theorem dX7_seeAbove_47 : decode cX7_seeAbove 47 = .ok (.goto (-45), 3) := by decide +kernel
theorem dX7_seeAbove_50 : decode cX7_seeAbove 50 = .ok (.return_, 1) := by decide +kernel
theorem dX7_hasType_0 : decode cX7_hasType 0 = .ok (.iload_n 1, 1) := by decide +kernel
theorem dX7_hasType_1 : decode cX7_hasType 1 = .ok (.ifCond .lt 15, 3) := by decide +kernel
theorem dX7_hasType_4 : decode cX7_hasType 4 = .ok (.iload_n 1, 1) := by decide +kernel
theorem dX7_hasType_5 : decode cX7_hasType 5 = .ok (.aload_n 0, 1) := by decide +kernel
theorem dX7_hasType_6 : decode cX7_hasType 6 = .ok (.getfield 36, 3) := by decide +kernel
theorem dX7_hasType_9 : decode cX7_hasType 9 = .ok (.if_icmp .ge 7, 3) := by decide +kernel
theorem dX7_hasType_12 : decode cX7_hasType 12 = .ok (.iconst 1, 1) := by decide +kernel
theorem dX7_hasType_13 : decode cX7_hasType 13 = .ok (.goto 4, 3) := by decide +kernel
theorem dX7_hasType_16 : decode cX7_hasType 16 = .ok (.iconst 0, 1) := by decide +kernel
theorem dX7_hasType_17 : decode cX7_hasType 17 = .ok (.ireturn, 1) := by decide +kernel
theorem dX7_hasMember_0 : decode cX7_hasMember 0 = .ok (.iload_n 1, 1) := by decide +kernel
theorem dX7_hasMember_1 : decode cX7_hasMember 1 = .ok (.ifCond .lt 15, 3) := by decide +kernel
theorem dX7_hasMember_4 : decode cX7_hasMember 4 = .ok (.iload_n 1, 1) := by decide +kernel
theorem dX7_hasMember_5 : decode cX7_hasMember 5 = .ok (.aload_n 0, 1) := by decide +kernel
theorem dX7_hasMember_6 : decode cX7_hasMember 6 = .ok (.getfield 40, 3) := by decide +kernel
theorem dX7_hasMember_9 : decode cX7_hasMember 9 = .ok (.if_icmp .ge 7, 3) := by decide +kernel
theorem dX7_hasMember_12 : decode cX7_hasMember 12 = .ok (.iconst 1, 1) := by decide +kernel
theorem dX7_hasMember_13 : decode cX7_hasMember 13 = .ok (.goto 4, 3) := by decide +kernel
theorem dX7_hasMember_16 : decode cX7_hasMember 16 = .ok (.iconst 0, 1) := by decide +kernel
theorem dX7_hasMember_17 : decode cX7_hasMember 17 = .ok (.ireturn, 1) := by decide +kernel
theorem dX7_isHidden_0 : decode cX7_isHidden 0 = .ok (.aload_n 0, 1) := by decide +kernel
theorem dX7_isHidden_1 : decode cX7_isHidden 1 = .ok (.getfield 43, 3) := by decide +kernel
theorem dX7_isHidden_4 : decode cX7_isHidden 4 = .ok (.iload_n 1, 1) := by decide +kernel
theorem dX7_isHidden_5 : decode cX7_isHidden 5 = .ok (.ishr, 1) := by decide +kernel
theorem dX7_isHidden_6 : decode cX7_isHidden 6 = .ok (.iconst 1, 1) := by decide +kernel
theorem dX7_isHidden_7 : decode cX7_isHidden 7 = .ok (.iand, 1) := by decide +kernel
theorem dX7_isHidden_8 : decode cX7_isHidden 8 = .ok (.ifCond .eq 7, 3) := by decide +kernel
theorem dX7_isHidden_11 : decode cX7_isHidden 11 = .ok (.iconst 1, 1) := by decide +kernel
theorem dX7_isHidden_12 : decode cX7_isHidden 12 = .ok (.goto 4, 3) := by decide +kernel
theorem dX7_isHidden_15 : decode cX7_isHidden 15 = .ok (.iconst 0, 1) := by decide +kernel
theorem dX7_isHidden_16 : decode cX7_isHidden 16 = .ok (.ireturn, 1) := by decide +kernel
theorem dX7_putHidden_0 : decode cX7_putHidden 0 = .ok (.aload_n 0, 1) := by decide +kernel
theorem dX7_putHidden_1 : decode cX7_putHidden 1 = .ok (.iload_n 2, 1) := by decide +kernel
theorem dX7_putHidden_2 : decode cX7_putHidden 2 = .ok (.ifCond .ne 16, 3) := by decide +kernel
theorem dX7_putHidden_5 : decode cX7_putHidden 5 = .ok (.aload_n 0, 1) := by decide +kernel
theorem dX7_putHidden_6 : decode cX7_putHidden 6 = .ok (.getfield 43, 3) := by decide +kernel
theorem dX7_putHidden_9 : decode cX7_putHidden 9 = .ok (.iconst 1, 1) := by decide +kernel
theorem dX7_putHidden_10 : decode cX7_putHidden 10 = .ok (.iload_n 1, 1) := by decide +kernel
theorem dX7_putHidden_11 : decode cX7_putHidden 11 = .ok (.ishl, 1) := by decide +kernel
theorem dX7_putHidden_12 : decode cX7_putHidden 12 = .ok (.iconst (-1), 1) := by decide +kernel
theorem dX7_putHidden_13 : decode cX7_putHidden 13 = .ok (.ixor, 1) := by decide +kernel
theorem dX7_putHidden_14 : decode cX7_putHidden 14 = .ok (.iand, 1) := by decide +kernel
theorem dX7_putHidden_15 : decode cX7_putHidden 15 = .ok (.goto 11, 3) := by decide +kernel
theorem dX7_putHidden_18 : decode cX7_putHidden 18 = .ok (.aload_n 0, 1) := by decide +kernel
theorem dX7_putHidden_19 : decode cX7_putHidden 19 = .ok (.getfield 43, 3) := by decide +kernel
theorem dX7_putHidden_22 : decode cX7_putHidden 22 = .ok (.iconst 1, 1) := by decide +kernel
theorem dX7_putHidden_23 : decode cX7_putHidden 23 = .ok (.iload_n 1, 1) := by decide +kernel
theorem dX7_putHidden_24 : decode cX7_putHidden 24 = .ok (.ishl, 1) := by decide +kernel
theorem dX7_putHidden_25 : decode cX7_putHidden 25 = .ok (.ior, 1) := by decide +kernel
theorem dX7_putHidden_26 : decode cX7_putHidden 26 = .ok (.putfield 43, 3) := by decide +kernel
theorem dX7_putHidden_29 : decode cX7_putHidden 29 = .ok (.return_, 1) := by decide +kernel
theorem dX7_isOf_0 : decode cX7_isOf 0 = .ok (.aload_n 0, 1) := by decide +kernel
theorem dX7_isOf_1 : decode cX7_isOf 1 = .ok (.getfield 15, 3) := by decide +kernel
theorem dX7_isOf_4 : decode cX7_isOf 4 = .ok (.iload_n 1, 1) := by decide +kernel
theorem dX7_isOf_5 : decode cX7_isOf 5 = .ok (.iaload, 1) := by decide +kernel
theorem dX7_isOf_6 : decode cX7_isOf 6 = .ok (.iload_n 2, 1) := by decide +kernel
theorem dX7_isOf_7 : decode cX7_isOf 7 = .ok (.ishr, 1) := by decide +kernel
theorem dX7_isOf_8 : decode cX7_isOf 8 = .ok (.iconst 1, 1) := by decide +kernel
theorem dX7_isOf_9 : decode cX7_isOf 9 = .ok (.iand, 1) := by decide +kernel
theorem dX7_isOf_10 : decode cX7_isOf 10 = .ok (.ifCond .eq 7, 3) := by decide +kernel
theorem dX7_isOf_13 : decode cX7_isOf 13 = .ok (.iconst 1, 1) := by decide +kernel
theorem dX7_isOf_14 : decode cX7_isOf 14 = .ok (.goto 4, 3) := by decide +kernel
theorem dX7_isOf_17 : decode cX7_isOf 17 = .ok (.iconst 0, 1) := by decide +kernel
theorem dX7_isOf_18 : decode cX7_isOf 18 = .ok (.ireturn, 1) := by decide +kernel
theorem dX7_givesOne_0 : decode cX7_givesOne 0 = .ok (.aload_n 0, 1) := by decide +kernel
theorem dX7_givesOne_1 : decode cX7_givesOne 1 = .ok (.aload_n 0, 1) := by decide +kernel
theorem dX7_givesOne_2 : decode cX7_givesOne 2 = .ok (.getfield 21, 3) := by decide +kernel
theorem dX7_givesOne_5 : decode cX7_givesOne 5 = .ok (.iload_n 1, 1) := by decide +kernel
theorem dX7_givesOne_6 : decode cX7_givesOne 6 = .ok (.iaload, 1) := by decide +kernel
theorem dX7_givesOne_7 : decode cX7_givesOne 7 = .ok (.iload_n 2, 1) := by decide +kernel
theorem dX7_givesOne_8 : decode cX7_givesOne 8 = .ok (.invokevirtual 52, 3) := by decide +kernel
theorem dX7_givesOne_11 : decode cX7_givesOne 11 = .ok (.ireturn, 1) := by decide +kernel
theorem dX7_isKind_0 : decode cX7_isKind 0 = .ok (.aload_n 0, 1) := by decide +kernel
theorem dX7_isKind_1 : decode cX7_isKind 1 = .ok (.getfield 18, 3) := by decide +kernel
theorem dX7_isKind_4 : decode cX7_isKind 4 = .ok (.iload_n 1, 1) := by decide +kernel
theorem dX7_isKind_5 : decode cX7_isKind 5 = .ok (.iaload, 1) := by decide +kernel
theorem dX7_isKind_6 : decode cX7_isKind 6 = .ok (.istore_n 3, 1) := by decide +kernel
theorem dX7_isKind_7 : decode cX7_isKind 7 = .ok (.iload_n 2, 1) := by decide +kernel
theorem dX7_isKind_8 : decode cX7_isKind 8 = .ok (.lookupswitch 65 #[(1, 28), (4, 49)], 28) := by decide +kernel
theorem dX7_isKind_36 : decode cX7_isKind 36 = .ok (.iload_n 3, 1) := by decide +kernel
theorem dX7_isKind_37 : decode cX7_isKind 37 = .ok (.iconst 1, 1) := by decide +kernel
theorem dX7_isKind_38 : decode cX7_isKind 38 = .ok (.if_icmp .eq 13, 3) := by decide +kernel
theorem dX7_isKind_41 : decode cX7_isKind 41 = .ok (.iload_n 3, 1) := by decide +kernel
theorem dX7_isKind_42 : decode cX7_isKind 42 = .ok (.iconst 2, 1) := by decide +kernel
theorem dX7_isKind_43 : decode cX7_isKind 43 = .ok (.if_icmp .eq 8, 3) := by decide +kernel
theorem dX7_isKind_46 : decode cX7_isKind 46 = .ok (.iload_n 3, 1) := by decide +kernel
theorem dX7_isKind_47 : decode cX7_isKind 47 = .ok (.iconst 3, 1) := by decide +kernel
theorem dX7_isKind_48 : decode cX7_isKind 48 = .ok (.if_icmp .ne 7, 3) := by decide +kernel
theorem dX7_isKind_51 : decode cX7_isKind 51 = .ok (.iconst 1, 1) := by decide +kernel
theorem dX7_isKind_52 : decode cX7_isKind 52 = .ok (.goto 4, 3) := by decide +kernel
theorem dX7_isKind_55 : decode cX7_isKind 55 = .ok (.iconst 0, 1) := by decide +kernel
theorem dX7_isKind_56 : decode cX7_isKind 56 = .ok (.ireturn, 1) := by decide +kernel
theorem dX7_isKind_57 : decode cX7_isKind 57 = .ok (.iload_n 3, 1) := by decide +kernel
theorem dX7_isKind_58 : decode cX7_isKind 58 = .ok (.iconst 4, 1) := by decide +kernel
theorem dX7_isKind_59 : decode cX7_isKind 59 = .ok (.if_icmp .eq 8, 3) := by decide +kernel
theorem dX7_isKind_62 : decode cX7_isKind 62 = .ok (.iload_n 3, 1) := by decide +kernel
theorem dX7_isKind_63 : decode cX7_isKind 63 = .ok (.iconst 5, 1) := by decide +kernel
theorem dX7_isKind_64 : decode cX7_isKind 64 = .ok (.if_icmp .ne 7, 3) := by decide +kernel
theorem dX7_isKind_67 : decode cX7_isKind 67 = .ok (.iconst 1, 1) := by decide +kernel
theorem dX7_isKind_68 : decode cX7_isKind 68 = .ok (.goto 4, 3) := by decide +kernel
theorem dX7_isKind_71 : decode cX7_isKind 71 = .ok (.iconst 0, 1) := by decide +kernel
theorem dX7_isKind_72 : decode cX7_isKind 72 = .ok (.ireturn, 1) := by decide +kernel
theorem dX7_isKind_73 : decode cX7_isKind 73 = .ok (.iload_n 2, 1) := by decide +kernel
theorem dX7_isKind_74 : decode cX7_isKind 74 = .ok (.ifCond .eq 8, 3) := by decide +kernel
theorem dX7_isKind_77 : decode cX7_isKind 77 = .ok (.iload_n 3, 1) := by decide +kernel
theorem dX7_isKind_78 : decode cX7_isKind 78 = .ok (.iload_n 2, 1) := by decide +kernel
theorem dX7_isKind_79 : decode cX7_isKind 79 = .ok (.if_icmp .ne 7, 3) := by decide +kernel
theorem dX7_isKind_82 : decode cX7_isKind 82 = .ok (.iconst 1, 1) := by decide +kernel
theorem dX7_isKind_83 : decode cX7_isKind 83 = .ok (.goto 4, 3) := by decide +kernel
theorem dX7_isKind_86 : decode cX7_isKind 86 = .ok (.iconst 0, 1) := by decide +kernel
theorem dX7_isKind_87 : decode cX7_isKind 87 = .ok (.ireturn, 1) := by decide +kernel
theorem dX7_priceOf_0 : decode cX7_priceOf 0 = .ok (.aload_n 0, 1) := by decide +kernel
theorem dX7_priceOf_1 : decode cX7_priceOf 1 = .ok (.getfield 18, 3) := by decide +kernel
theorem dX7_priceOf_4 : decode cX7_priceOf 4 = .ok (.iload_n 1, 1) := by decide +kernel
theorem dX7_priceOf_5 : decode cX7_priceOf 5 = .ok (.iaload, 1) := by decide +kernel
theorem dX7_priceOf_6 : decode cX7_priceOf 6 = .ok (.tableswitch 62 2 5 #[30, 39, 62, 48], 30) := by decide +kernel
theorem dX7_priceOf_36 : decode cX7_priceOf 36 = .ok (.aload_n 0, 1) := by decide +kernel
theorem dX7_priceOf_37 : decode cX7_priceOf 37 = .ok (.getfield 24, 3) := by decide +kernel
theorem dX7_priceOf_40 : decode cX7_priceOf 40 = .ok (.iload_n 1, 1) := by decide +kernel
theorem dX7_priceOf_41 : decode cX7_priceOf 41 = .ok (.iaload, 1) := by decide +kernel
theorem dX7_priceOf_42 : decode cX7_priceOf 42 = .ok (.iconst 2, 1) := by decide +kernel
theorem dX7_priceOf_43 : decode cX7_priceOf 43 = .ok (.iadd, 1) := by decide +kernel
theorem dX7_priceOf_44 : decode cX7_priceOf 44 = .ok (.ireturn, 1) := by decide +kernel
theorem dX7_priceOf_45 : decode cX7_priceOf 45 = .ok (.aload_n 0, 1) := by decide +kernel
theorem dX7_priceOf_46 : decode cX7_priceOf 46 = .ok (.getfield 24, 3) := by decide +kernel
theorem dX7_priceOf_49 : decode cX7_priceOf 49 = .ok (.iload_n 1, 1) := by decide +kernel
theorem dX7_priceOf_50 : decode cX7_priceOf 50 = .ok (.iaload, 1) := by decide +kernel
theorem dX7_priceOf_51 : decode cX7_priceOf 51 = .ok (.iconst 3, 1) := by decide +kernel
theorem dX7_priceOf_52 : decode cX7_priceOf 52 = .ok (.imul, 1) := by decide +kernel
theorem dX7_priceOf_53 : decode cX7_priceOf 53 = .ok (.ireturn, 1) := by decide +kernel
theorem dX7_priceOf_54 : decode cX7_priceOf 54 = .ok (.aload_n 0, 1) := by decide +kernel
theorem dX7_priceOf_55 : decode cX7_priceOf 55 = .ok (.getfield 24, 3) := by decide +kernel
theorem dX7_priceOf_58 : decode cX7_priceOf 58 = .ok (.iload_n 1, 1) := by decide +kernel
theorem dX7_priceOf_59 : decode cX7_priceOf 59 = .ok (.iaload, 1) := by decide +kernel
theorem dX7_priceOf_60 : decode cX7_priceOf 60 = .ok (.aload_n 0, 1) := by decide +kernel
theorem dX7_priceOf_61 : decode cX7_priceOf 61 = .ok (.getfield 27, 3) := by decide +kernel
theorem dX7_priceOf_64 : decode cX7_priceOf 64 = .ok (.iload_n 1, 1) := by decide +kernel
theorem dX7_priceOf_65 : decode cX7_priceOf 65 = .ok (.iaload, 1) := by decide +kernel
theorem dX7_priceOf_66 : decode cX7_priceOf 66 = .ok (.iadd, 1) := by decide +kernel
theorem dX7_priceOf_67 : decode cX7_priceOf 67 = .ok (.ireturn, 1) := by decide +kernel
theorem dX7_priceOf_68 : decode cX7_priceOf 68 = .ok (.aload_n 0, 1) := by decide +kernel
theorem dX7_priceOf_69 : decode cX7_priceOf 69 = .ok (.getfield 24, 3) := by decide +kernel
theorem dX7_priceOf_72 : decode cX7_priceOf 72 = .ok (.iload_n 1, 1) := by decide +kernel
theorem dX7_priceOf_73 : decode cX7_priceOf 73 = .ok (.iaload, 1) := by decide +kernel
theorem dX7_priceOf_74 : decode cX7_priceOf 74 = .ok (.ireturn, 1) := by decide +kernel
theorem dX7_typesOf_0 : decode cX7_typesOf 0 = .ok (.iconst 0, 1) := by decide +kernel
theorem dX7_typesOf_1 : decode cX7_typesOf 1 = .ok (.istore_n 2, 1) := by decide +kernel
theorem dX7_typesOf_2 : decode cX7_typesOf 2 = .ok (.iconst 0, 1) := by decide +kernel
theorem dX7_typesOf_3 : decode cX7_typesOf 3 = .ok (.istore_n 3, 1) := by decide +kernel
theorem dX7_typesOf_4 : decode cX7_typesOf 4 = .ok (.iload_n 3, 1) := by decide +kernel
theorem dX7_typesOf_5 : decode cX7_typesOf 5 = .ok (.aload_n 0, 1) := by decide +kernel
theorem dX7_typesOf_6 : decode cX7_typesOf 6 = .ok (.getfield 36, 3) := by decide +kernel
theorem dX7_typesOf_9 : decode cX7_typesOf 9 = .ok (.if_icmp .ge 24, 3) := by decide +kernel
theorem dX7_typesOf_12 : decode cX7_typesOf 12 = .ok (.aload_n 0, 1) := by decide +kernel
theorem dX7_typesOf_13 : decode cX7_typesOf 13 = .ok (.iload_n 3, 1) := by decide +kernel
theorem dX7_typesOf_14 : decode cX7_typesOf 14 = .ok (.iload_n 1, 1) := by decide +kernel
theorem dX7_typesOf_15 : decode cX7_typesOf 15 = .ok (.invokevirtual 52, 3) := by decide +kernel
theorem dX7_typesOf_18 : decode cX7_typesOf 18 = .ok (.ifCond .eq 9, 3) := by decide +kernel
theorem dX7_typesOf_21 : decode cX7_typesOf 21 = .ok (.iload_n 2, 1) := by decide +kernel
theorem dX7_typesOf_22 : decode cX7_typesOf 22 = .ok (.iconst 1, 1) := by decide +kernel
theorem dX7_typesOf_23 : decode cX7_typesOf 23 = .ok (.iload_n 3, 1) := by decide +kernel
theorem dX7_typesOf_24 : decode cX7_typesOf 24 = .ok (.ishl, 1) := by decide +kernel
theorem dX7_typesOf_25 : decode cX7_typesOf 25 = .ok (.ior, 1) := by decide +kernel
theorem dX7_typesOf_26 : decode cX7_typesOf 26 = .ok (.istore_n 2, 1) := by decide +kernel
theorem dX7_typesOf_27 : decode cX7_typesOf 27 = .ok (.iinc 3 1, 3) := by decide +kernel
theorem dX7_typesOf_30 : decode cX7_typesOf 30 = .ok (.goto (-26), 3) := by decide +kernel
theorem dX7_typesOf_33 : decode cX7_typesOf 33 = .ok (.iload_n 2, 1) := by decide +kernel
theorem dX7_typesOf_34 : decode cX7_typesOf 34 = .ok (.ireturn, 1) := by decide +kernel
theorem dX7_membersOf_0 : decode cX7_membersOf 0 = .ok (.iconst 0, 1) := by decide +kernel
theorem dX7_membersOf_1 : decode cX7_membersOf 1 = .ok (.istore_n 2, 1) := by decide +kernel
theorem dX7_membersOf_2 : decode cX7_membersOf 2 = .ok (.iconst 0, 1) := by decide +kernel
theorem dX7_membersOf_3 : decode cX7_membersOf 3 = .ok (.istore_n 3, 1) := by decide +kernel
theorem dX7_membersOf_4 : decode cX7_membersOf 4 = .ok (.iload_n 3, 1) := by decide +kernel
theorem dX7_membersOf_5 : decode cX7_membersOf 5 = .ok (.aload_n 0, 1) := by decide +kernel
theorem dX7_membersOf_6 : decode cX7_membersOf 6 = .ok (.getfield 40, 3) := by decide +kernel
theorem dX7_membersOf_9 : decode cX7_membersOf 9 = .ok (.if_icmp .ge 24, 3) := by decide +kernel
theorem dX7_membersOf_12 : decode cX7_membersOf 12 = .ok (.aload_n 0, 1) := by decide +kernel
theorem dX7_membersOf_13 : decode cX7_membersOf 13 = .ok (.iload_n 3, 1) := by decide +kernel
theorem dX7_membersOf_14 : decode cX7_membersOf 14 = .ok (.iload_n 1, 1) := by decide +kernel
theorem dX7_membersOf_15 : decode cX7_membersOf 15 = .ok (.invokevirtual 56, 3) := by decide +kernel
theorem dX7_membersOf_18 : decode cX7_membersOf 18 = .ok (.ifCond .eq 9, 3) := by decide +kernel
theorem dX7_membersOf_21 : decode cX7_membersOf 21 = .ok (.iload_n 2, 1) := by decide +kernel
theorem dX7_membersOf_22 : decode cX7_membersOf 22 = .ok (.iconst 1, 1) := by decide +kernel
theorem dX7_membersOf_23 : decode cX7_membersOf 23 = .ok (.iload_n 3, 1) := by decide +kernel
theorem dX7_membersOf_24 : decode cX7_membersOf 24 = .ok (.ishl, 1) := by decide +kernel
theorem dX7_membersOf_25 : decode cX7_membersOf 25 = .ok (.ior, 1) := by decide +kernel
theorem dX7_membersOf_26 : decode cX7_membersOf 26 = .ok (.istore_n 2, 1) := by decide +kernel
theorem dX7_membersOf_27 : decode cX7_membersOf 27 = .ok (.iinc 3 1, 3) := by decide +kernel
theorem dX7_membersOf_30 : decode cX7_membersOf 30 = .ok (.goto (-26), 3) := by decide +kernel
theorem dX7_membersOf_33 : decode cX7_membersOf 33 = .ok (.iload_n 2, 1) := by decide +kernel
theorem dX7_membersOf_34 : decode cX7_membersOf 34 = .ok (.ireturn, 1) := by decide +kernel
theorem dX7_shareOf_0 : decode cX7_shareOf 0 = .ok (.aload_n 0, 1) := by decide +kernel
theorem dX7_shareOf_1 : decode cX7_shareOf 1 = .ok (.invokevirtual 59, 3) := by decide +kernel
theorem dX7_shareOf_4 : decode cX7_shareOf 4 = .ok (.istore_n 3, 1) := by decide +kernel
theorem dX7_shareOf_5 : decode cX7_shareOf 5 = .ok (.iload_n 3, 1) := by decide +kernel
theorem dX7_shareOf_6 : decode cX7_shareOf 6 = .ok (.iconst 1, 1) := by decide +kernel
theorem dX7_shareOf_7 : decode cX7_shareOf 7 = .ok (.if_icmp .ge 5, 3) := by decide +kernel
theorem dX7_shareOf_10 : decode cX7_shareOf 10 = .ok (.iconst 0, 1) := by decide +kernel
theorem dX7_shareOf_11 : decode cX7_shareOf 11 = .ok (.ireturn, 1) := by decide +kernel
theorem dX7_shareOf_12 : decode cX7_shareOf 12 = .ok (.iload_n 2, 1) := by decide +kernel
theorem dX7_shareOf_13 : decode cX7_shareOf 13 = .ok (.istore 4, 2) := by decide +kernel
theorem dX7_shareOf_15 : decode cX7_shareOf 15 = .ok (.iconst 0, 1) := by decide +kernel
theorem dX7_shareOf_16 : decode cX7_shareOf 16 = .ok (.istore 5, 2) := by decide +kernel
theorem dX7_shareOf_18 : decode cX7_shareOf 18 = .ok (.iconst 0, 1) := by decide +kernel
theorem dX7_shareOf_19 : decode cX7_shareOf 19 = .ok (.istore 6, 2) := by decide +kernel
theorem dX7_shareOf_21 : decode cX7_shareOf 21 = .ok (.iload 6, 2) := by decide +kernel
theorem dX7_shareOf_23 : decode cX7_shareOf 23 = .ok (.aload_n 0, 1) := by decide +kernel
theorem dX7_shareOf_24 : decode cX7_shareOf 24 = .ok (.getfield 40, 3) := by decide +kernel
theorem dX7_shareOf_27 : decode cX7_shareOf 27 = .ok (.if_icmp .ge 49, 3) := by decide +kernel
theorem dX7_shareOf_30 : decode cX7_shareOf 30 = .ok (.aload_n 0, 1) := by decide +kernel
theorem dX7_shareOf_31 : decode cX7_shareOf 31 = .ok (.iload 6, 2) := by decide +kernel
theorem dX7_shareOf_33 : decode cX7_shareOf 33 = .ok (.invokevirtual 63, 3) := by decide +kernel
theorem dX7_shareOf_36 : decode cX7_shareOf 36 = .ok (.ifCond .ne 34, 3) := by decide +kernel
theorem dX7_shareOf_39 : decode cX7_shareOf 39 = .ok (.iload 4, 2) := by decide +kernel
theorem dX7_shareOf_41 : decode cX7_shareOf 41 = .ok (.iload_n 2, 1) := by decide +kernel
theorem dX7_shareOf_42 : decode cX7_shareOf 42 = .ok (.aload_n 0, 1) := by decide +kernel
theorem dX7_shareOf_43 : decode cX7_shareOf 43 = .ok (.iload 6, 2) := by decide +kernel
theorem dX7_shareOf_45 : decode cX7_shareOf 45 = .ok (.invokevirtual 67, 3) := by decide +kernel
theorem dX7_shareOf_48 : decode cX7_shareOf 48 = .ok (.imul, 1) := by decide +kernel
theorem dX7_shareOf_49 : decode cX7_shareOf 49 = .ok (.iload_n 3, 1) := by decide +kernel
theorem dX7_shareOf_50 : decode cX7_shareOf 50 = .ok (.idiv, 1) := by decide +kernel
theorem dX7_shareOf_51 : decode cX7_shareOf 51 = .ok (.isub, 1) := by decide +kernel
theorem dX7_shareOf_52 : decode cX7_shareOf 52 = .ok (.istore 4, 2) := by decide +kernel
theorem dX7_shareOf_54 : decode cX7_shareOf 54 = .ok (.iload 5, 2) := by decide +kernel
theorem dX7_shareOf_56 : decode cX7_shareOf 56 = .ok (.iload 6, 2) := by decide +kernel
theorem dX7_shareOf_58 : decode cX7_shareOf 58 = .ok (.iload_n 1, 1) := by decide +kernel
theorem dX7_shareOf_59 : decode cX7_shareOf 59 = .ok (.if_icmp .ge 7, 3) := by decide +kernel
theorem dX7_shareOf_62 : decode cX7_shareOf 62 = .ok (.iconst 1, 1) := by decide +kernel
theorem dX7_shareOf_63 : decode cX7_shareOf 63 = .ok (.goto 4, 3) := by decide +kernel
theorem dX7_shareOf_66 : decode cX7_shareOf 66 = .ok (.iconst 0, 1) := by decide +kernel
theorem dX7_shareOf_67 : decode cX7_shareOf 67 = .ok (.iadd, 1) := by decide +kernel
theorem dX7_shareOf_68 : decode cX7_shareOf 68 = .ok (.istore 5, 2) := by decide +kernel
theorem dX7_shareOf_70 : decode cX7_shareOf 70 = .ok (.iinc 6 1, 3) := by decide +kernel
theorem dX7_shareOf_73 : decode cX7_shareOf 73 = .ok (.goto (-52), 3) := by decide +kernel
theorem dX7_shareOf_76 : decode cX7_shareOf 76 = .ok (.iload_n 2, 1) := by decide +kernel
theorem dX7_shareOf_77 : decode cX7_shareOf 77 = .ok (.aload_n 0, 1) := by decide +kernel
theorem dX7_shareOf_78 : decode cX7_shareOf 78 = .ok (.iload_n 1, 1) := by decide +kernel
theorem dX7_shareOf_79 : decode cX7_shareOf 79 = .ok (.invokevirtual 67, 3) := by decide +kernel
theorem dX7_shareOf_82 : decode cX7_shareOf 82 = .ok (.imul, 1) := by decide +kernel
theorem dX7_shareOf_83 : decode cX7_shareOf 83 = .ok (.iload_n 3, 1) := by decide +kernel
theorem dX7_shareOf_84 : decode cX7_shareOf 84 = .ok (.idiv, 1) := by decide +kernel
theorem dX7_shareOf_85 : decode cX7_shareOf 85 = .ok (.iload 5, 2) := by decide +kernel
theorem dX7_shareOf_87 : decode cX7_shareOf 87 = .ok (.iload 4, 2) := by decide +kernel
theorem dX7_shareOf_89 : decode cX7_shareOf 89 = .ok (.if_icmp .ge 7, 3) := by decide +kernel
theorem dX7_shareOf_92 : decode cX7_shareOf 92 = .ok (.iconst 1, 1) := by decide +kernel
theorem dX7_shareOf_93 : decode cX7_shareOf 93 = .ok (.goto 4, 3) := by decide +kernel
theorem dX7_shareOf_96 : decode cX7_shareOf 96 = .ok (.iconst 0, 1) := by decide +kernel
theorem dX7_shareOf_97 : decode cX7_shareOf 97 = .ok (.iadd, 1) := by decide +kernel
theorem dX7_shareOf_98 : decode cX7_shareOf 98 = .ok (.ireturn, 1) := by decide +kernel
theorem dX7_pricesShown_0 : decode cX7_pricesShown 0 = .ok (.iconst 0, 1) := by decide +kernel
theorem dX7_pricesShown_1 : decode cX7_pricesShown 1 = .ok (.istore_n 1, 1) := by decide +kernel
theorem dX7_pricesShown_2 : decode cX7_pricesShown 2 = .ok (.iconst 0, 1) := by decide +kernel
theorem dX7_pricesShown_3 : decode cX7_pricesShown 3 = .ok (.istore_n 2, 1) := by decide +kernel
theorem dX7_pricesShown_4 : decode cX7_pricesShown 4 = .ok (.iload_n 2, 1) := by decide +kernel
theorem dX7_pricesShown_5 : decode cX7_pricesShown 5 = .ok (.aload_n 0, 1) := by decide +kernel
theorem dX7_pricesShown_6 : decode cX7_pricesShown 6 = .ok (.getfield 40, 3) := by decide +kernel
theorem dX7_pricesShown_9 : decode cX7_pricesShown 9 = .ok (.if_icmp .ge 25, 3) := by decide +kernel
theorem dX7_pricesShown_12 : decode cX7_pricesShown 12 = .ok (.aload_n 0, 1) := by decide +kernel
theorem dX7_pricesShown_13 : decode cX7_pricesShown 13 = .ok (.iload_n 2, 1) := by decide +kernel
theorem dX7_pricesShown_14 : decode cX7_pricesShown 14 = .ok (.invokevirtual 63, 3) := by decide +kernel
theorem dX7_pricesShown_17 : decode cX7_pricesShown 17 = .ok (.ifCond .ne 11, 3) := by decide +kernel
theorem dX7_pricesShown_20 : decode cX7_pricesShown 20 = .ok (.iload_n 1, 1) := by decide +kernel
theorem dX7_pricesShown_21 : decode cX7_pricesShown 21 = .ok (.aload_n 0, 1) := by decide +kernel
theorem dX7_pricesShown_22 : decode cX7_pricesShown 22 = .ok (.iload_n 2, 1) := by decide +kernel
theorem dX7_pricesShown_23 : decode cX7_pricesShown 23 = .ok (.invokevirtual 67, 3) := by decide +kernel
theorem dX7_pricesShown_26 : decode cX7_pricesShown 26 = .ok (.iadd, 1) := by decide +kernel
theorem dX7_pricesShown_27 : decode cX7_pricesShown 27 = .ok (.istore_n 1, 1) := by decide +kernel
theorem dX7_pricesShown_28 : decode cX7_pricesShown 28 = .ok (.iinc 2 1, 3) := by decide +kernel
theorem dX7_pricesShown_31 : decode cX7_pricesShown 31 = .ok (.goto (-27), 3) := by decide +kernel
theorem dX7_pricesShown_34 : decode cX7_pricesShown 34 = .ok (.iload_n 1, 1) := by decide +kernel
theorem dX7_pricesShown_35 : decode cX7_pricesShown 35 = .ok (.ireturn, 1) := by decide +kernel
theorem dX8_init_0 : decode cX8_init 0 = .ok (.aload_n 0, 1) := by decide +kernel
theorem dX8_init_1 : decode cX8_init 1 = .ok (.invokespecial 1, 3) := by decide +kernel
theorem dX8_init_4 : decode cX8_init 4 = .ok (.aload_n 0, 1) := by decide +kernel
theorem dX8_init_5 : decode cX8_init 5 = .ok (.new 7, 3) := by decide +kernel
theorem dX8_init_8 : decode cX8_init 8 = .ok (.dup, 1) := by decide +kernel
theorem dX8_init_9 : decode cX8_init 9 = .ok (.invokespecial 9, 3) := by decide +kernel
theorem dX8_init_12 : decode cX8_init 12 = .ok (.putfield 10, 3) := by decide +kernel
theorem dX8_init_15 : decode cX8_init 15 = .ok (.aload_n 0, 1) := by decide +kernel
theorem dX8_init_16 : decode cX8_init 16 = .ok (.iconst 2, 1) := by decide +kernel
theorem dX8_init_17 : decode cX8_init 17 = .ok (.anewarray 7, 3) := by decide +kernel
theorem dX8_init_20 : decode cX8_init 20 = .ok (.putfield 16, 3) := by decide +kernel
theorem dX8_init_23 : decode cX8_init 23 = .ok (.aload_n 0, 1) := by decide +kernel
theorem dX8_init_24 : decode cX8_init 24 = .ok (.new 20, 3) := by decide +kernel
theorem dX8_init_27 : decode cX8_init 27 = .ok (.dup, 1) := by decide +kernel
theorem dX8_init_28 : decode cX8_init 28 = .ok (.invokespecial 22, 3) := by decide +kernel
theorem dX8_init_31 : decode cX8_init 31 = .ok (.putfield 23, 3) := by decide +kernel
theorem dX8_init_34 : decode cX8_init 34 = .ok (.aload_n 0, 1) := by decide +kernel
theorem dX8_init_35 : decode cX8_init 35 = .ok (.new 27, 3) := by decide +kernel
theorem dX8_init_38 : decode cX8_init 38 = .ok (.dup, 1) := by decide +kernel
theorem dX8_init_39 : decode cX8_init 39 = .ok (.invokespecial 29, 3) := by decide +kernel
theorem dX8_init_42 : decode cX8_init 42 = .ok (.putfield 30, 3) := by decide +kernel
theorem dX8_init_45 : decode cX8_init 45 = .ok (.aload_n 0, 1) := by decide +kernel
theorem dX8_init_46 : decode cX8_init 46 = .ok (.new 34, 3) := by decide +kernel
theorem dX8_init_49 : decode cX8_init 49 = .ok (.dup, 1) := by decide +kernel
theorem dX8_init_50 : decode cX8_init 50 = .ok (.invokespecial 36, 3) := by decide +kernel
theorem dX8_init_53 : decode cX8_init 53 = .ok (.putfield 37, 3) := by decide +kernel
theorem dX8_init_56 : decode cX8_init 56 = .ok (.aload_n 0, 1) := by decide +kernel
theorem dX8_init_57 : decode cX8_init 57 = .ok (.new 41, 3) := by decide +kernel
theorem dX8_init_60 : decode cX8_init 60 = .ok (.dup, 1) := by decide +kernel
theorem dX8_init_61 : decode cX8_init 61 = .ok (.aload_n 0, 1) := by decide +kernel
theorem dX8_init_62 : decode cX8_init 62 = .ok (.getfield 10, 3) := by decide +kernel
theorem dX8_init_65 : decode cX8_init 65 = .ok (.invokespecial 43, 3) := by decide +kernel
theorem dX8_init_68 : decode cX8_init 68 = .ok (.putfield 46, 3) := by decide +kernel
theorem dX8_init_71 : decode cX8_init 71 = .ok (.aload_n 0, 1) := by decide +kernel
theorem dX8_init_72 : decode cX8_init 72 = .ok (.new 50, 3) := by decide +kernel
theorem dX8_init_75 : decode cX8_init 75 = .ok (.dup, 1) := by decide +kernel
theorem dX8_init_76 : decode cX8_init 76 = .ok (.aload_n 0, 1) := by decide +kernel
theorem dX8_init_77 : decode cX8_init 77 = .ok (.getfield 10, 3) := by decide +kernel
theorem dX8_init_80 : decode cX8_init 80 = .ok (.invokespecial 52, 3) := by decide +kernel
theorem dX8_init_83 : decode cX8_init 83 = .ok (.putfield 53, 3) := by decide +kernel
theorem dX8_init_86 : decode cX8_init 86 = .ok (.aload_n 0, 1) := by decide +kernel
theorem dX8_init_87 : decode cX8_init 87 = .ok (.new 57, 3) := by decide +kernel
theorem dX8_init_90 : decode cX8_init 90 = .ok (.dup, 1) := by decide +kernel
theorem dX8_init_91 : decode cX8_init 91 = .ok (.aload_n 0, 1) := by decide +kernel
theorem dX8_init_92 : decode cX8_init 92 = .ok (.getfield 10, 3) := by decide +kernel
theorem dX8_init_95 : decode cX8_init 95 = .ok (.aload_n 0, 1) := by decide +kernel
theorem dX8_init_96 : decode cX8_init 96 = .ok (.getfield 23, 3) := by decide +kernel
theorem dX8_init_99 : decode cX8_init 99 = .ok (.invokespecial 59, 3) := by decide +kernel
theorem dX8_init_102 : decode cX8_init 102 = .ok (.putfield 62, 3) := by decide +kernel
theorem dX8_init_105 : decode cX8_init 105 = .ok (.aload_n 0, 1) := by decide +kernel
theorem dX8_init_106 : decode cX8_init 106 = .ok (.new 66, 3) := by decide +kernel
theorem dX8_init_109 : decode cX8_init 109 = .ok (.dup, 1) := by decide +kernel
theorem dX8_init_110 : decode cX8_init 110 = .ok (.aload_n 0, 1) := by decide +kernel
theorem dX8_init_111 : decode cX8_init 111 = .ok (.getfield 10, 3) := by decide +kernel
theorem dX8_init_114 : decode cX8_init 114 = .ok (.invokespecial 68, 3) := by decide +kernel
theorem dX8_init_117 : decode cX8_init 117 = .ok (.putfield 69, 3) := by decide +kernel
theorem dX8_init_120 : decode cX8_init 120 = .ok (.iconst 0, 1) := by decide +kernel
theorem dX8_init_121 : decode cX8_init 121 = .ok (.istore_n 1, 1) := by decide +kernel
theorem dX8_init_122 : decode cX8_init 122 = .ok (.iload_n 1, 1) := by decide +kernel
theorem dX8_init_123 : decode cX8_init 123 = .ok (.iconst 2, 1) := by decide +kernel
theorem dX8_init_124 : decode cX8_init 124 = .ok (.if_icmp .ge 22, 3) := by decide +kernel
theorem dX8_init_127 : decode cX8_init 127 = .ok (.aload_n 0, 1) := by decide +kernel
theorem dX8_init_128 : decode cX8_init 128 = .ok (.getfield 16, 3) := by decide +kernel
theorem dX8_init_131 : decode cX8_init 131 = .ok (.iload_n 1, 1) := by decide +kernel
theorem dX8_init_132 : decode cX8_init 132 = .ok (.new 7, 3) := by decide +kernel
theorem dX8_init_135 : decode cX8_init 135 = .ok (.dup, 1) := by decide +kernel
theorem dX8_init_136 : decode cX8_init 136 = .ok (.invokespecial 9, 3) := by decide +kernel
theorem dX8_init_139 : decode cX8_init 139 = .ok (.aastore, 1) := by decide +kernel
theorem dX8_init_140 : decode cX8_init 140 = .ok (.iinc 1 1, 3) := by decide +kernel
theorem dX8_init_143 : decode cX8_init 143 = .ok (.goto (-21), 3) := by decide +kernel
theorem dX8_init_146 : decode cX8_init 146 = .ok (.return_, 1) := by decide +kernel
theorem dX8_row_0 : decode cX8_row 0 = .ok (.iload_n 1, 1) := by decide +kernel
theorem dX8_row_1 : decode cX8_row 1 = .ok (.invokestatic 73, 3) := by decide +kernel
theorem dX8_row_4 : decode cX8_row 4 = .ok (.ifCond .eq 16, 3) := by decide +kernel
theorem dX8_row_7 : decode cX8_row 7 = .ok (.iload_n 2, 1) := by decide +kernel
theorem dX8_row_8 : decode cX8_row 8 = .ok (.invokestatic 77, 3) := by decide +kernel
theorem dX8_row_11 : decode cX8_row 11 = .ok (.ifCond .eq 9, 3) := by decide +kernel
theorem dX8_row_14 : decode cX8_row 14 = .ok (.iload_n 3, 1) := by decide +kernel
theorem dX8_row_15 : decode cX8_row 15 = .ok (.bipush 40, 2) := by decide +kernel
theorem dX8_row_17 : decode cX8_row 17 = .ok (.if_icmp .le 6, 3) := by decide +kernel
theorem dX8_row_20 : decode cX8_row 20 = .ok (.ldc 80, 2) := by decide +kernel
theorem dX8_row_22 : decode cX8_row 22 = .ok (.ireturn, 1) := by decide +kernel
theorem dX8_row_23 : decode cX8_row 23 = .ok (.iload_n 3, 1) := by decide +kernel
theorem dX8_row_24 : decode cX8_row 24 = .ok (.ifCond .ge 9, 3) := by decide +kernel
theorem dX8_row_27 : decode cX8_row 27 = .ok (.aload_n 0, 1) := by decide +kernel
theorem dX8_row_28 : decode cX8_row 28 = .ok (.iconst 4, 1) := by decide +kernel
theorem dX8_row_29 : decode cX8_row 29 = .ok (.invokevirtual 81, 3) := by decide +kernel
theorem dX8_row_32 : decode cX8_row 32 = .ok (.ireturn, 1) := by decide +kernel
theorem dX8_row_33 : decode cX8_row 33 = .ok (.aload_n 0, 1) := by decide +kernel
theorem dX8_row_34 : decode cX8_row 34 = .ok (.getfield 23, 3) := by decide +kernel
theorem dX8_row_37 : decode cX8_row 37 = .ok (.iload_n 1, 1) := by decide +kernel
theorem dX8_row_38 : decode cX8_row 38 = .ok (.iload_n 2, 1) := by decide +kernel
theorem dX8_row_39 : decode cX8_row 39 = .ok (.iload_n 3, 1) := by decide +kernel
theorem dX8_row_40 : decode cX8_row 40 = .ok (.invokevirtual 85, 3) := by decide +kernel
theorem dX8_row_43 : decode cX8_row 43 = .ok (.aload_n 0, 1) := by decide +kernel
theorem dX8_row_44 : decode cX8_row 44 = .ok (.iload_n 3, 1) := by decide +kernel
theorem dX8_row_45 : decode cX8_row 45 = .ok (.invokevirtual 89, 3) := by decide +kernel
theorem dX8_row_48 : decode cX8_row 48 = .ok (.ireturn, 1) := by decide +kernel
theorem dX8_set_0 : decode cX8_set 0 = .ok (.iload_n 1, 1) := by decide +kernel
theorem dX8_set_1 : decode cX8_set 1 = .ok (.invokestatic 73, 3) := by decide +kernel
theorem dX8_set_4 : decode cX8_set 4 = .ok (.ifCond .ne 6, 3) := by decide +kernel
theorem dX8_set_7 : decode cX8_set 7 = .ok (.ldc 80, 2) := by decide +kernel
end
section
theorem dX8_set_9 : decode cX8_set 9 = .ok (.ireturn, 1) := by decide +kernel
theorem dX8_set_10 : decode cX8_set 10 = .ok (.aload_n 0, 1) := by decide +kernel
theorem dX8_set_11 : decode cX8_set 11 = .ok (.getfield 23, 3) := by decide +kernel
theorem dX8_set_14 : decode cX8_set 14 = .ok (.iload_n 1, 1) := by decide +kernel
theorem dX8_set_15 : decode cX8_set 15 = .ok (.invokevirtual 92, 3) := by decide +kernel
theorem dX8_set_18 : decode cX8_set 18 = .ok (.ifCond .eq 9, 3) := by decide +kernel
theorem dX8_set_21 : decode cX8_set 21 = .ok (.aload_n 0, 1) := by decide +kernel
theorem dX8_set_22 : decode cX8_set 22 = .ok (.iconst 1, 1) := by decide +kernel
theorem dX8_set_23 : decode cX8_set 23 = .ok (.invokevirtual 81, 3) := by decide +kernel
theorem dX8_set_26 : decode cX8_set 26 = .ok (.ireturn, 1) := by decide +kernel
theorem dX8_set_27 : decode cX8_set 27 = .ok (.aload_n 0, 1) := by decide +kernel
theorem dX8_set_28 : decode cX8_set 28 = .ok (.getfield 23, 3) := by decide +kernel
theorem dX8_set_31 : decode cX8_set 31 = .ok (.iload_n 1, 1) := by decide +kernel
theorem dX8_set_32 : decode cX8_set 32 = .ok (.iload_n 2, 1) := by decide +kernel
theorem dX8_set_33 : decode cX8_set 33 = .ok (.iconst 1, 1) := by decide +kernel
theorem dX8_set_34 : decode cX8_set 34 = .ok (.invokevirtual 95, 3) := by decide +kernel
theorem dX8_set_37 : decode cX8_set 37 = .ok (.ifCond .ne 9, 3) := by decide +kernel
theorem dX8_set_40 : decode cX8_set 40 = .ok (.aload_n 0, 1) := by decide +kernel
theorem dX8_set_41 : decode cX8_set 41 = .ok (.iconst 2, 1) := by decide +kernel
theorem dX8_set_42 : decode cX8_set 42 = .ok (.invokevirtual 81, 3) := by decide +kernel
theorem dX8_set_45 : decode cX8_set 45 = .ok (.ireturn, 1) := by decide +kernel
theorem dX8_set_46 : decode cX8_set 46 = .ok (.aload_n 0, 1) := by decide +kernel
theorem dX8_set_47 : decode cX8_set 47 = .ok (.aload_n 0, 1) := by decide +kernel
theorem dX8_set_48 : decode cX8_set 48 = .ok (.getfield 23, 3) := by decide +kernel
theorem dX8_set_51 : decode cX8_set 51 = .ok (.iload_n 1, 1) := by decide +kernel
theorem dX8_set_52 : decode cX8_set 52 = .ok (.iload_n 2, 1) := by decide +kernel
theorem dX8_set_53 : decode cX8_set 53 = .ok (.iload_n 3, 1) := by decide +kernel
theorem dX8_set_54 : decode cX8_set 54 = .ok (.invokevirtual 99, 3) := by decide +kernel
theorem dX8_set_57 : decode cX8_set 57 = .ok (.invokevirtual 89, 3) := by decide +kernel
theorem dX8_set_60 : decode cX8_set 60 = .ok (.ireturn, 1) := by decide +kernel
theorem dX8_copy_0 : decode cX8_copy 0 = .ok (.iload_n 1, 1) := by decide +kernel
theorem dX8_copy_1 : decode cX8_copy 1 = .ok (.invokestatic 73, 3) := by decide +kernel
theorem dX8_copy_4 : decode cX8_copy 4 = .ok (.ifCond .eq 10, 3) := by decide +kernel
theorem dX8_copy_7 : decode cX8_copy 7 = .ok (.iload_n 3, 1) := by decide +kernel
theorem dX8_copy_8 : decode cX8_copy 8 = .ok (.invokestatic 73, 3) := by decide +kernel
theorem dX8_copy_11 : decode cX8_copy 11 = .ok (.ifCond .ne 6, 3) := by decide +kernel
theorem dX8_copy_14 : decode cX8_copy 14 = .ok (.ldc 80, 2) := by decide +kernel
theorem dX8_copy_16 : decode cX8_copy 16 = .ok (.ireturn, 1) := by decide +kernel
theorem dX8_copy_17 : decode cX8_copy 17 = .ok (.aload_n 0, 1) := by decide +kernel
theorem dX8_copy_18 : decode cX8_copy 18 = .ok (.getfield 23, 3) := by decide +kernel
theorem dX8_copy_21 : decode cX8_copy 21 = .ok (.iload_n 1, 1) := by decide +kernel
theorem dX8_copy_22 : decode cX8_copy 22 = .ok (.invokevirtual 92, 3) := by decide +kernel
theorem dX8_copy_25 : decode cX8_copy 25 = .ok (.ifCond .ne 14, 3) := by decide +kernel
theorem dX8_copy_28 : decode cX8_copy 28 = .ok (.aload_n 0, 1) := by decide +kernel
theorem dX8_copy_29 : decode cX8_copy 29 = .ok (.getfield 23, 3) := by decide +kernel
theorem dX8_copy_32 : decode cX8_copy 32 = .ok (.iload_n 3, 1) := by decide +kernel
theorem dX8_copy_33 : decode cX8_copy 33 = .ok (.invokevirtual 92, 3) := by decide +kernel
theorem dX8_copy_36 : decode cX8_copy 36 = .ok (.ifCond .eq 9, 3) := by decide +kernel
theorem dX8_copy_39 : decode cX8_copy 39 = .ok (.aload_n 0, 1) := by decide +kernel
theorem dX8_copy_40 : decode cX8_copy 40 = .ok (.iconst 1, 1) := by decide +kernel
theorem dX8_copy_41 : decode cX8_copy 41 = .ok (.invokevirtual 81, 3) := by decide +kernel
theorem dX8_copy_44 : decode cX8_copy 44 = .ok (.ireturn, 1) := by decide +kernel
theorem dX8_copy_45 : decode cX8_copy 45 = .ok (.aload_n 0, 1) := by decide +kernel
theorem dX8_copy_46 : decode cX8_copy 46 = .ok (.getfield 23, 3) := by decide +kernel
theorem dX8_copy_49 : decode cX8_copy 49 = .ok (.getfield 103, 3) := by decide +kernel
theorem dX8_copy_52 : decode cX8_copy 52 = .ok (.iload_n 1, 1) := by decide +kernel
theorem dX8_copy_53 : decode cX8_copy 53 = .ok (.iaload, 1) := by decide +kernel
theorem dX8_copy_54 : decode cX8_copy 54 = .ok (.aload_n 0, 1) := by decide +kernel
theorem dX8_copy_55 : decode cX8_copy 55 = .ok (.getfield 23, 3) := by decide +kernel
theorem dX8_copy_58 : decode cX8_copy 58 = .ok (.getfield 103, 3) := by decide +kernel
theorem dX8_copy_61 : decode cX8_copy 61 = .ok (.iload_n 3, 1) := by decide +kernel
theorem dX8_copy_62 : decode cX8_copy 62 = .ok (.iaload, 1) := by decide +kernel
theorem dX8_copy_63 : decode cX8_copy 63 = .ok (.if_icmp .eq 9, 3) := by decide +kernel
theorem dX8_copy_66 : decode cX8_copy 66 = .ok (.aload_n 0, 1) := by decide +kernel
theorem dX8_copy_67 : decode cX8_copy 67 = .ok (.iconst 5, 1) := by decide +kernel
theorem dX8_copy_68 : decode cX8_copy 68 = .ok (.invokevirtual 81, 3) := by decide +kernel
theorem dX8_copy_71 : decode cX8_copy 71 = .ok (.ireturn, 1) := by decide +kernel
theorem dX8_copy_72 : decode cX8_copy 72 = .ok (.aload_n 0, 1) := by decide +kernel
theorem dX8_copy_73 : decode cX8_copy 73 = .ok (.getfield 23, 3) := by decide +kernel
theorem dX8_copy_76 : decode cX8_copy 76 = .ok (.iload_n 1, 1) := by decide +kernel
theorem dX8_copy_77 : decode cX8_copy 77 = .ok (.iload_n 2, 1) := by decide +kernel
theorem dX8_copy_78 : decode cX8_copy 78 = .ok (.iload 5, 2) := by decide +kernel
theorem dX8_copy_80 : decode cX8_copy 80 = .ok (.invokevirtual 95, 3) := by decide +kernel
theorem dX8_copy_83 : decode cX8_copy 83 = .ok (.ifCond .eq 18, 3) := by decide +kernel
theorem dX8_copy_86 : decode cX8_copy 86 = .ok (.aload_n 0, 1) := by decide +kernel
theorem dX8_copy_87 : decode cX8_copy 87 = .ok (.getfield 23, 3) := by decide +kernel
theorem dX8_copy_90 : decode cX8_copy 90 = .ok (.iload_n 3, 1) := by decide +kernel
theorem dX8_copy_91 : decode cX8_copy 91 = .ok (.iload 4, 2) := by decide +kernel
theorem dX8_copy_93 : decode cX8_copy 93 = .ok (.iload 5, 2) := by decide +kernel
theorem dX8_copy_95 : decode cX8_copy 95 = .ok (.invokevirtual 95, 3) := by decide +kernel
theorem dX8_copy_98 : decode cX8_copy 98 = .ok (.ifCond .ne 9, 3) := by decide +kernel
theorem dX8_copy_101 : decode cX8_copy 101 = .ok (.aload_n 0, 1) := by decide +kernel
theorem dX8_copy_102 : decode cX8_copy 102 = .ok (.iconst 2, 1) := by decide +kernel
theorem dX8_copy_103 : decode cX8_copy 103 = .ok (.invokevirtual 81, 3) := by decide +kernel
theorem dX8_copy_106 : decode cX8_copy 106 = .ok (.ireturn, 1) := by decide +kernel
theorem dX8_copy_107 : decode cX8_copy 107 = .ok (.aload_n 0, 1) := by decide +kernel
theorem dX8_copy_108 : decode cX8_copy 108 = .ok (.getfield 23, 3) := by decide +kernel
theorem dX8_copy_111 : decode cX8_copy 111 = .ok (.getfield 107, 3) := by decide +kernel
theorem dX8_copy_114 : decode cX8_copy 114 = .ok (.iload_n 1, 1) := by decide +kernel
theorem dX8_copy_115 : decode cX8_copy 115 = .ok (.aaload, 1) := by decide +kernel
theorem dX8_copy_116 : decode cX8_copy 116 = .ok (.iload_n 2, 1) := by decide +kernel
theorem dX8_copy_117 : decode cX8_copy 117 = .ok (.aload_n 0, 1) := by decide +kernel
theorem dX8_copy_118 : decode cX8_copy 118 = .ok (.getfield 23, 3) := by decide +kernel
theorem dX8_copy_121 : decode cX8_copy 121 = .ok (.getfield 107, 3) := by decide +kernel
theorem dX8_copy_124 : decode cX8_copy 124 = .ok (.iload_n 3, 1) := by decide +kernel
theorem dX8_copy_125 : decode cX8_copy 125 = .ok (.aaload, 1) := by decide +kernel
theorem dX8_copy_126 : decode cX8_copy 126 = .ok (.iload 4, 2) := by decide +kernel
theorem dX8_copy_128 : decode cX8_copy 128 = .ok (.iload 5, 2) := by decide +kernel
theorem dX8_copy_130 : decode cX8_copy 130 = .ok (.invokestatic 111, 3) := by decide +kernel
theorem dX8_copy_133 : decode cX8_copy 133 = .ok (.aload_n 0, 1) := by decide +kernel
theorem dX8_copy_134 : decode cX8_copy 134 = .ok (.iload 5, 2) := by decide +kernel
theorem dX8_copy_136 : decode cX8_copy 136 = .ok (.invokevirtual 89, 3) := by decide +kernel
theorem dX8_copy_139 : decode cX8_copy 139 = .ok (.ireturn, 1) := by decide +kernel
theorem dX8_drop_0 : decode cX8_drop 0 = .ok (.iload_n 1, 1) := by decide +kernel
theorem dX8_drop_1 : decode cX8_drop 1 = .ok (.invokestatic 73, 3) := by decide +kernel
theorem dX8_drop_4 : decode cX8_drop 4 = .ok (.ifCond .ne 6, 3) := by decide +kernel
theorem dX8_drop_7 : decode cX8_drop 7 = .ok (.ldc 80, 2) := by decide +kernel
theorem dX8_drop_9 : decode cX8_drop 9 = .ok (.ireturn, 1) := by decide +kernel
theorem dX8_drop_10 : decode cX8_drop 10 = .ok (.aload_n 0, 1) := by decide +kernel
theorem dX8_drop_11 : decode cX8_drop 11 = .ok (.getfield 23, 3) := by decide +kernel
theorem dX8_drop_14 : decode cX8_drop 14 = .ok (.iload_n 1, 1) := by decide +kernel
theorem dX8_drop_15 : decode cX8_drop 15 = .ok (.invokevirtual 92, 3) := by decide +kernel
theorem dX8_drop_18 : decode cX8_drop 18 = .ok (.ifCond .eq 9, 3) := by decide +kernel
theorem dX8_drop_21 : decode cX8_drop 21 = .ok (.aload_n 0, 1) := by decide +kernel
theorem dX8_drop_22 : decode cX8_drop 22 = .ok (.iconst 1, 1) := by decide +kernel
theorem dX8_drop_23 : decode cX8_drop 23 = .ok (.invokevirtual 81, 3) := by decide +kernel
theorem dX8_drop_26 : decode cX8_drop 26 = .ok (.ireturn, 1) := by decide +kernel
theorem dX8_drop_27 : decode cX8_drop 27 = .ok (.aload_n 0, 1) := by decide +kernel
theorem dX8_drop_28 : decode cX8_drop 28 = .ok (.aload_n 0, 1) := by decide +kernel
theorem dX8_drop_29 : decode cX8_drop 29 = .ok (.getfield 23, 3) := by decide +kernel
theorem dX8_drop_32 : decode cX8_drop 32 = .ok (.iload_n 1, 1) := by decide +kernel
theorem dX8_drop_33 : decode cX8_drop 33 = .ok (.invokevirtual 117, 3) := by decide +kernel
theorem dX8_drop_36 : decode cX8_drop 36 = .ok (.invokevirtual 89, 3) := by decide +kernel
theorem dX8_drop_39 : decode cX8_drop 39 = .ok (.ireturn, 1) := by decide +kernel
theorem dX8_feed_0 : decode cX8_feed 0 = .ok (.iload_n 1, 1) := by decide +kernel
theorem dX8_feed_1 : decode cX8_feed 1 = .ok (.ifCond .lt 10, 3) := by decide +kernel
theorem dX8_feed_4 : decode cX8_feed 4 = .ok (.iload_n 1, 1) := by decide +kernel
theorem dX8_feed_5 : decode cX8_feed 5 = .ok (.sipush 255, 3) := by decide +kernel
theorem dX8_feed_8 : decode cX8_feed 8 = .ok (.if_icmp .le 6, 3) := by decide +kernel
theorem dX8_feed_11 : decode cX8_feed 11 = .ok (.ldc 80, 2) := by decide +kernel
theorem dX8_feed_13 : decode cX8_feed 13 = .ok (.ireturn, 1) := by decide +kernel
theorem dX8_feed_14 : decode cX8_feed 14 = .ok (.aload_n 0, 1) := by decide +kernel
theorem dX8_feed_15 : decode cX8_feed 15 = .ok (.getfield 30, 3) := by decide +kernel
theorem dX8_feed_18 : decode cX8_feed 18 = .ok (.invokevirtual 120, 3) := by decide +kernel
theorem dX8_feed_21 : decode cX8_feed 21 = .ok (.ifCond .eq 6, 3) := by decide +kernel
theorem dX8_feed_24 : decode cX8_feed 24 = .ok (.ldc 124, 2) := by decide +kernel
theorem dX8_feed_26 : decode cX8_feed 26 = .ok (.ireturn, 1) := by decide +kernel
theorem dX8_feed_27 : decode cX8_feed 27 = .ok (.aload_n 0, 1) := by decide +kernel
theorem dX8_feed_28 : decode cX8_feed 28 = .ok (.getfield 30, 3) := by decide +kernel
theorem dX8_feed_31 : decode cX8_feed 31 = .ok (.iload_n 1, 1) := by decide +kernel
theorem dX8_feed_32 : decode cX8_feed 32 = .ok (.invokevirtual 125, 3) := by decide +kernel
theorem dX8_feed_35 : decode cX8_feed 35 = .ok (.ireturn, 1) := by decide +kernel
theorem dX8_world_0 : decode cX8_world 0 = .ok (.aload_n 0, 1) := by decide +kernel
theorem dX8_world_1 : decode cX8_world 1 = .ok (.getfield 30, 3) := by decide +kernel
theorem dX8_world_4 : decode cX8_world 4 = .ok (.invokevirtual 128, 3) := by decide +kernel
theorem dX8_world_7 : decode cX8_world 7 = .ok (.istore_n 1, 1) := by decide +kernel
theorem dX8_world_8 : decode cX8_world 8 = .ok (.aload_n 0, 1) := by decide +kernel
theorem dX8_world_9 : decode cX8_world 9 = .ok (.getfield 30, 3) := by decide +kernel
theorem dX8_world_12 : decode cX8_world 12 = .ok (.invokevirtual 131, 3) := by decide +kernel
theorem dX8_world_15 : decode cX8_world 15 = .ok (.iload_n 1, 1) := by decide +kernel
theorem dX8_world_16 : decode cX8_world 16 = .ok (.ifCond .ne 25, 3) := by decide +kernel
theorem dX8_world_19 : decode cX8_world 19 = .ok (.aload_n 0, 1) := by decide +kernel
theorem dX8_world_20 : decode cX8_world 20 = .ok (.aload_n 0, 1) := by decide +kernel
theorem dX8_world_21 : decode cX8_world 21 = .ok (.getfield 30, 3) := by decide +kernel
theorem dX8_world_24 : decode cX8_world 24 = .ok (.getfield 134, 3) := by decide +kernel
theorem dX8_world_27 : decode cX8_world 27 = .ok (.putfield 138, 3) := by decide +kernel
theorem dX8_world_30 : decode cX8_world 30 = .ok (.ldc 141, 2) := by decide +kernel
theorem dX8_world_32 : decode cX8_world 32 = .ok (.aload_n 0, 1) := by decide +kernel
theorem dX8_world_33 : decode cX8_world 33 = .ok (.getfield 30, 3) := by decide +kernel
theorem dX8_world_36 : decode cX8_world 36 = .ok (.getfield 142, 3) := by decide +kernel
theorem dX8_world_39 : decode cX8_world 39 = .ok (.isub, 1) := by decide +kernel
theorem dX8_world_40 : decode cX8_world 40 = .ok (.ireturn, 1) := by decide +kernel
theorem dX8_world_41 : decode cX8_world 41 = .ok (.aload_n 0, 1) := by decide +kernel
theorem dX8_world_42 : decode cX8_world 42 = .ok (.aload_n 0, 1) := by decide +kernel
theorem dX8_world_43 : decode cX8_world 43 = .ok (.getfield 30, 3) := by decide +kernel
theorem dX8_world_46 : decode cX8_world 46 = .ok (.getfield 145, 3) := by decide +kernel
theorem dX8_world_49 : decode cX8_world 49 = .ok (.invokevirtual 148, 3) := by decide +kernel
theorem dX8_world_52 : decode cX8_world 52 = .ok (.aload_n 0, 1) := by decide +kernel
theorem dX8_world_53 : decode cX8_world 53 = .ok (.getfield 10, 3) := by decide +kernel
theorem dX8_world_56 : decode cX8_world 56 = .ok (.getfield 151, 3) := by decide +kernel
theorem dX8_world_59 : decode cX8_world 59 = .ok (.ireturn, 1) := by decide +kernel
theorem dX8_fault_0 : decode cX8_fault 0 = .ok (.aload_n 0, 1) := by decide +kernel
theorem dX8_fault_1 : decode cX8_fault 1 = .ok (.getfield 138, 3) := by decide +kernel
theorem dX8_fault_4 : decode cX8_fault 4 = .ok (.ireturn, 1) := by decide +kernel
theorem dX8_hide_0 : decode cX8_hide 0 = .ok (.aload_n 0, 1) := by decide +kernel
theorem dX8_hide_1 : decode cX8_hide 1 = .ok (.getfield 10, 3) := by decide +kernel
theorem dX8_hide_4 : decode cX8_hide 4 = .ok (.iload_n 1, 1) := by decide +kernel
theorem dX8_hide_5 : decode cX8_hide 5 = .ok (.invokevirtual 154, 3) := by decide +kernel
theorem dX8_hide_8 : decode cX8_hide 8 = .ok (.ifCond .eq 12, 3) := by decide +kernel
theorem dX8_hide_11 : decode cX8_hide 11 = .ok (.iload_n 2, 1) := by decide +kernel
theorem dX8_hide_12 : decode cX8_hide 12 = .ok (.ifCond .lt 8, 3) := by decide +kernel
theorem dX8_hide_15 : decode cX8_hide 15 = .ok (.iload_n 2, 1) := by decide +kernel
theorem dX8_hide_16 : decode cX8_hide 16 = .ok (.iconst 1, 1) := by decide +kernel
theorem dX8_hide_17 : decode cX8_hide 17 = .ok (.if_icmp .le 6, 3) := by decide +kernel
theorem dX8_hide_20 : decode cX8_hide 20 = .ok (.ldc 80, 2) := by decide +kernel
theorem dX8_hide_22 : decode cX8_hide 22 = .ok (.ireturn, 1) := by decide +kernel
theorem dX8_hide_23 : decode cX8_hide 23 = .ok (.aload_n 0, 1) := by decide +kernel
theorem dX8_hide_24 : decode cX8_hide 24 = .ok (.getfield 10, 3) := by decide +kernel
theorem dX8_hide_27 : decode cX8_hide 27 = .ok (.iload_n 1, 1) := by decide +kernel
theorem dX8_hide_28 : decode cX8_hide 28 = .ok (.invokevirtual 157, 3) := by decide +kernel
theorem dX8_hide_31 : decode cX8_hide 31 = .ok (.ifCond .eq 7, 3) := by decide +kernel
theorem dX8_hide_34 : decode cX8_hide 34 = .ok (.iconst 1, 1) := by decide +kernel
theorem dX8_hide_35 : decode cX8_hide 35 = .ok (.goto 4, 3) := by decide +kernel
theorem dX8_hide_38 : decode cX8_hide 38 = .ok (.iconst 0, 1) := by decide +kernel
theorem dX8_hide_39 : decode cX8_hide 39 = .ok (.istore_n 3, 1) := by decide +kernel
theorem dX8_hide_40 : decode cX8_hide 40 = .ok (.iload_n 2, 1) := by decide +kernel
theorem dX8_hide_41 : decode cX8_hide 41 = .ok (.iload_n 3, 1) := by decide +kernel
theorem dX8_hide_42 : decode cX8_hide 42 = .ok (.if_icmp .ne 6, 3) := by decide +kernel
theorem dX8_hide_45 : decode cX8_hide 45 = .ok (.ldc 160, 2) := by decide +kernel
theorem dX8_hide_47 : decode cX8_hide 47 = .ok (.ireturn, 1) := by decide +kernel
theorem dX8_hide_48 : decode cX8_hide 48 = .ok (.aload_n 0, 1) := by decide +kernel
theorem dX8_hide_49 : decode cX8_hide 49 = .ok (.getfield 37, 3) := by decide +kernel
theorem dX8_hide_52 : decode cX8_hide 52 = .ok (.iconst 0, 1) := by decide +kernel
theorem dX8_hide_53 : decode cX8_hide 53 = .ok (.iload_n 1, 1) := by decide +kernel
theorem dX8_hide_54 : decode cX8_hide 54 = .ok (.iload_n 3, 1) := by decide +kernel
theorem dX8_hide_55 : decode cX8_hide 55 = .ok (.invokevirtual 161, 3) := by decide +kernel
theorem dX8_hide_58 : decode cX8_hide 58 = .ok (.aload_n 0, 1) := by decide +kernel
theorem dX8_hide_59 : decode cX8_hide 59 = .ok (.iconst 0, 1) := by decide +kernel
theorem dX8_hide_60 : decode cX8_hide 60 = .ok (.iload_n 1, 1) := by decide +kernel
theorem dX8_hide_61 : decode cX8_hide 61 = .ok (.iload_n 2, 1) := by decide +kernel
theorem dX8_hide_62 : decode cX8_hide 62 = .ok (.invokevirtual 164, 3) := by decide +kernel
theorem dX8_hide_65 : decode cX8_hide 65 = .ok (.aload_n 0, 1) := by decide +kernel
theorem dX8_hide_66 : decode cX8_hide 66 = .ok (.getfield 10, 3) := by decide +kernel
theorem dX8_hide_69 : decode cX8_hide 69 = .ok (.getfield 167, 3) := by decide +kernel
theorem dX8_hide_72 : decode cX8_hide 72 = .ok (.ireturn, 1) := by decide +kernel
theorem dX8_cost_0 : decode cX8_cost 0 = .ok (.aload_n 0, 1) := by decide +kernel
theorem dX8_cost_1 : decode cX8_cost 1 = .ok (.getfield 10, 3) := by decide +kernel
theorem dX8_cost_4 : decode cX8_cost 4 = .ok (.iload_n 1, 1) := by decide +kernel
theorem dX8_cost_5 : decode cX8_cost 5 = .ok (.invokevirtual 154, 3) := by decide +kernel
theorem dX8_cost_8 : decode cX8_cost 8 = .ok (.ifCond .eq 14, 3) := by decide +kernel
theorem dX8_cost_11 : decode cX8_cost 11 = .ok (.iload_n 2, 1) := by decide +kernel
theorem dX8_cost_12 : decode cX8_cost 12 = .ok (.iconst 1, 1) := by decide +kernel
theorem dX8_cost_13 : decode cX8_cost 13 = .ok (.if_icmp .lt 9, 3) := by decide +kernel
theorem dX8_cost_16 : decode cX8_cost 16 = .ok (.iload_n 2, 1) := by decide +kernel
theorem dX8_cost_17 : decode cX8_cost 17 = .ok (.bipush 9, 2) := by decide +kernel
theorem dX8_cost_19 : decode cX8_cost 19 = .ok (.if_icmp .le 6, 3) := by decide +kernel
theorem dX8_cost_22 : decode cX8_cost 22 = .ok (.ldc 80, 2) := by decide +kernel
theorem dX8_cost_24 : decode cX8_cost 24 = .ok (.ireturn, 1) := by decide +kernel
theorem dX8_cost_25 : decode cX8_cost 25 = .ok (.aload_n 0, 1) := by decide +kernel
theorem dX8_cost_26 : decode cX8_cost 26 = .ok (.getfield 10, 3) := by decide +kernel
theorem dX8_cost_29 : decode cX8_cost 29 = .ok (.getfield 170, 3) := by decide +kernel
theorem dX8_cost_32 : decode cX8_cost 32 = .ok (.iload_n 1, 1) := by decide +kernel
theorem dX8_cost_33 : decode cX8_cost 33 = .ok (.iaload, 1) := by decide +kernel
theorem dX8_cost_34 : decode cX8_cost 34 = .ok (.istore_n 3, 1) := by decide +kernel
theorem dX8_cost_35 : decode cX8_cost 35 = .ok (.aload_n 0, 1) := by decide +kernel
theorem dX8_cost_36 : decode cX8_cost 36 = .ok (.getfield 37, 3) := by decide +kernel
theorem dX8_cost_39 : decode cX8_cost 39 = .ok (.iconst 1, 1) := by decide +kernel
theorem dX8_cost_40 : decode cX8_cost 40 = .ok (.iload_n 1, 1) := by decide +kernel
theorem dX8_cost_41 : decode cX8_cost 41 = .ok (.iload_n 3, 1) := by decide +kernel
theorem dX8_cost_42 : decode cX8_cost 42 = .ok (.invokevirtual 161, 3) := by decide +kernel
theorem dX8_cost_45 : decode cX8_cost 45 = .ok (.aload_n 0, 1) := by decide +kernel
theorem dX8_cost_46 : decode cX8_cost 46 = .ok (.iconst 1, 1) := by decide +kernel
theorem dX8_cost_47 : decode cX8_cost 47 = .ok (.iload_n 1, 1) := by decide +kernel
theorem dX8_cost_48 : decode cX8_cost 48 = .ok (.iload_n 2, 1) := by decide +kernel
theorem dX8_cost_49 : decode cX8_cost 49 = .ok (.invokevirtual 164, 3) := by decide +kernel
theorem dX8_cost_52 : decode cX8_cost 52 = .ok (.iload_n 3, 1) := by decide +kernel
theorem dX8_cost_53 : decode cX8_cost 53 = .ok (.ireturn, 1) := by decide +kernel
theorem dX8_above_0 : decode cX8_above 0 = .ok (.aload_n 0, 1) := by decide +kernel
theorem dX8_above_1 : decode cX8_above 1 = .ok (.getfield 10, 3) := by decide +kernel
theorem dX8_above_4 : decode cX8_above 4 = .ok (.iload_n 1, 1) := by decide +kernel
theorem dX8_above_5 : decode cX8_above 5 = .ok (.invokevirtual 173, 3) := by decide +kernel
theorem dX8_above_8 : decode cX8_above 8 = .ok (.ifCond .eq 12, 3) := by decide +kernel
theorem dX8_above_11 : decode cX8_above 11 = .ok (.iload_n 2, 1) := by decide +kernel
theorem dX8_above_12 : decode cX8_above 12 = .ok (.ifCond .lt 8, 3) := by decide +kernel
theorem dX8_above_15 : decode cX8_above 15 = .ok (.iload_n 2, 1) := by decide +kernel
theorem dX8_above_16 : decode cX8_above 16 = .ok (.iload_n 1, 1) := by decide +kernel
theorem dX8_above_17 : decode cX8_above 17 = .ok (.if_icmp .le 6, 3) := by decide +kernel
theorem dX8_above_20 : decode cX8_above 20 = .ok (.ldc 80, 2) := by decide +kernel
theorem dX8_above_22 : decode cX8_above 22 = .ok (.ireturn, 1) := by decide +kernel
theorem dX8_above_23 : decode cX8_above 23 = .ok (.aload_n 0, 1) := by decide +kernel
theorem dX8_above_24 : decode cX8_above 24 = .ok (.getfield 10, 3) := by decide +kernel
theorem dX8_above_27 : decode cX8_above 27 = .ok (.getfield 176, 3) := by decide +kernel
theorem dX8_above_30 : decode cX8_above 30 = .ok (.iload_n 1, 1) := by decide +kernel
theorem dX8_above_31 : decode cX8_above 31 = .ok (.iaload, 1) := by decide +kernel
theorem dX8_above_32 : decode cX8_above 32 = .ok (.istore_n 3, 1) := by decide +kernel
theorem dX8_above_33 : decode cX8_above 33 = .ok (.aload_n 0, 1) := by decide +kernel
theorem dX8_above_34 : decode cX8_above 34 = .ok (.getfield 37, 3) := by decide +kernel
theorem dX8_above_37 : decode cX8_above 37 = .ok (.iconst 2, 1) := by decide +kernel
theorem dX8_above_38 : decode cX8_above 38 = .ok (.iload_n 1, 1) := by decide +kernel
theorem dX8_above_39 : decode cX8_above 39 = .ok (.iload_n 3, 1) := by decide +kernel
theorem dX8_above_40 : decode cX8_above 40 = .ok (.invokevirtual 161, 3) := by decide +kernel
theorem dX8_above_43 : decode cX8_above 43 = .ok (.aload_n 0, 1) := by decide +kernel
theorem dX8_above_44 : decode cX8_above 44 = .ok (.iconst 2, 1) := by decide +kernel
theorem dX8_above_45 : decode cX8_above 45 = .ok (.iload_n 1, 1) := by decide +kernel
theorem dX8_above_46 : decode cX8_above 46 = .ok (.iload_n 2, 1) := by decide +kernel
theorem dX8_above_47 : decode cX8_above 47 = .ok (.invokevirtual 164, 3) := by decide +kernel
theorem dX8_above_50 : decode cX8_above 50 = .ok (.iload_n 3, 1) := by decide +kernel
theorem dX8_above_51 : decode cX8_above 51 = .ok (.ireturn, 1) := by decide +kernel
theorem dX8_undo_0 : decode cX8_undo 0 = .ok (.aload_n 0, 1) := by decide +kernel
theorem dX8_undo_1 : decode cX8_undo 1 = .ok (.getfield 37, 3) := by decide +kernel
theorem dX8_undo_4 : decode cX8_undo 4 = .ok (.getfield 179, 3) := by decide +kernel
theorem dX8_undo_7 : decode cX8_undo 7 = .ok (.ifCond .ne 6, 3) := by decide +kernel
theorem dX8_undo_10 : decode cX8_undo 10 = .ok (.ldc 160, 2) := by decide +kernel
theorem dX8_undo_12 : decode cX8_undo 12 = .ok (.ireturn, 1) := by decide +kernel
theorem dX8_undo_13 : decode cX8_undo 13 = .ok (.aload_n 0, 1) := by decide +kernel
theorem dX8_undo_14 : decode cX8_undo 14 = .ok (.getfield 37, 3) := by decide +kernel
theorem dX8_undo_17 : decode cX8_undo 17 = .ok (.dup, 1) := by decide +kernel
theorem dX8_undo_18 : decode cX8_undo 18 = .ok (.getfield 179, 3) := by decide +kernel
theorem dX8_undo_21 : decode cX8_undo 21 = .ok (.iconst 1, 1) := by decide +kernel
theorem dX8_undo_22 : decode cX8_undo 22 = .ok (.isub, 1) := by decide +kernel
theorem dX8_undo_23 : decode cX8_undo 23 = .ok (.putfield 179, 3) := by decide +kernel
theorem dX8_undo_26 : decode cX8_undo 26 = .ok (.aload_n 0, 1) := by decide +kernel
theorem dX8_undo_27 : decode cX8_undo 27 = .ok (.getfield 37, 3) := by decide +kernel
theorem dX8_undo_30 : decode cX8_undo 30 = .ok (.getfield 179, 3) := by decide +kernel
theorem dX8_undo_33 : decode cX8_undo 33 = .ok (.istore_n 1, 1) := by decide +kernel
theorem dX8_undo_34 : decode cX8_undo 34 = .ok (.aload_n 0, 1) := by decide +kernel
theorem dX8_undo_35 : decode cX8_undo 35 = .ok (.aload_n 0, 1) := by decide +kernel
theorem dX8_undo_36 : decode cX8_undo 36 = .ok (.getfield 37, 3) := by decide +kernel
theorem dX8_undo_39 : decode cX8_undo 39 = .ok (.getfield 182, 3) := by decide +kernel
theorem dX8_undo_42 : decode cX8_undo 42 = .ok (.iload_n 1, 1) := by decide +kernel
theorem dX8_undo_43 : decode cX8_undo 43 = .ok (.iaload, 1) := by decide +kernel
theorem dX8_undo_44 : decode cX8_undo 44 = .ok (.aload_n 0, 1) := by decide +kernel
theorem dX8_undo_45 : decode cX8_undo 45 = .ok (.getfield 37, 3) := by decide +kernel
theorem dX8_undo_48 : decode cX8_undo 48 = .ok (.getfield 185, 3) := by decide +kernel
theorem dX8_undo_51 : decode cX8_undo 51 = .ok (.iload_n 1, 1) := by decide +kernel
theorem dX8_undo_52 : decode cX8_undo 52 = .ok (.iaload, 1) := by decide +kernel
theorem dX8_undo_53 : decode cX8_undo 53 = .ok (.aload_n 0, 1) := by decide +kernel
theorem dX8_undo_54 : decode cX8_undo 54 = .ok (.getfield 37, 3) := by decide +kernel
theorem dX8_undo_57 : decode cX8_undo 57 = .ok (.getfield 188, 3) := by decide +kernel
theorem dX8_undo_60 : decode cX8_undo 60 = .ok (.iload_n 1, 1) := by decide +kernel
theorem dX8_undo_61 : decode cX8_undo 61 = .ok (.iaload, 1) := by decide +kernel
theorem dX8_undo_62 : decode cX8_undo 62 = .ok (.invokevirtual 164, 3) := by decide +kernel
theorem dX8_undo_65 : decode cX8_undo 65 = .ok (.iload_n 1, 1) := by decide +kernel
theorem dX8_undo_66 : decode cX8_undo 66 = .ok (.ireturn, 1) := by decide +kernel
theorem dX8_member_0 : decode cX8_member 0 = .ok (.aload_n 0, 1) := by decide +kernel
theorem dX8_member_1 : decode cX8_member 1 = .ok (.getfield 10, 3) := by decide +kernel
theorem dX8_member_4 : decode cX8_member 4 = .ok (.iload_n 1, 1) := by decide +kernel
theorem dX8_member_5 : decode cX8_member 5 = .ok (.invokevirtual 154, 3) := by decide +kernel
theorem dX8_member_8 : decode cX8_member 8 = .ok (.ifCond .ne 6, 3) := by decide +kernel
theorem dX8_member_11 : decode cX8_member 11 = .ok (.ldc 80, 2) := by decide +kernel
theorem dX8_member_13 : decode cX8_member 13 = .ok (.ireturn, 1) := by decide +kernel
theorem dX8_member_14 : decode cX8_member 14 = .ok (.iload_n 2, 1) := by decide +kernel
theorem dX8_member_15 : decode cX8_member 15 = .ok (.tableswitch 152 0 6 #[41, 51, 61, 70, 80, 107, 135], 41) := by decide +kernel
theorem dX8_member_56 : decode cX8_member 56 = .ok (.aload_n 0, 1) := by decide +kernel
theorem dX8_member_57 : decode cX8_member 57 = .ok (.getfield 10, 3) := by decide +kernel
theorem dX8_member_60 : decode cX8_member 60 = .ok (.getfield 191, 3) := by decide +kernel
theorem dX8_member_63 : decode cX8_member 63 = .ok (.iload_n 1, 1) := by decide +kernel
theorem dX8_member_64 : decode cX8_member 64 = .ok (.iaload, 1) := by decide +kernel
theorem dX8_member_65 : decode cX8_member 65 = .ok (.ireturn, 1) := by decide +kernel
theorem dX8_member_66 : decode cX8_member 66 = .ok (.aload_n 0, 1) := by decide +kernel
theorem dX8_member_67 : decode cX8_member 67 = .ok (.getfield 10, 3) := by decide +kernel
theorem dX8_member_70 : decode cX8_member 70 = .ok (.getfield 170, 3) := by decide +kernel
theorem dX8_member_73 : decode cX8_member 73 = .ok (.iload_n 1, 1) := by decide +kernel
theorem dX8_member_74 : decode cX8_member 74 = .ok (.iaload, 1) := by decide +kernel
theorem dX8_member_75 : decode cX8_member 75 = .ok (.ireturn, 1) := by decide +kernel
theorem dX8_member_76 : decode cX8_member 76 = .ok (.aload_n 0, 1) := by decide +kernel
theorem dX8_member_77 : decode cX8_member 77 = .ok (.getfield 10, 3) := by decide +kernel
theorem dX8_member_80 : decode cX8_member 80 = .ok (.iload_n 1, 1) := by decide +kernel
theorem dX8_member_81 : decode cX8_member 81 = .ok (.invokevirtual 194, 3) := by decide +kernel
theorem dX8_member_84 : decode cX8_member 84 = .ok (.ireturn, 1) := by decide +kernel
theorem dX8_member_85 : decode cX8_member 85 = .ok (.aload_n 0, 1) := by decide +kernel
theorem dX8_member_86 : decode cX8_member 86 = .ok (.getfield 10, 3) := by decide +kernel
theorem dX8_member_89 : decode cX8_member 89 = .ok (.getfield 197, 3) := by decide +kernel
theorem dX8_member_92 : decode cX8_member 92 = .ok (.iload_n 1, 1) := by decide +kernel
theorem dX8_member_93 : decode cX8_member 93 = .ok (.iaload, 1) := by decide +kernel
theorem dX8_member_94 : decode cX8_member 94 = .ok (.ireturn, 1) := by decide +kernel
theorem dX8_member_95 : decode cX8_member 95 = .ok (.aload_n 0, 1) := by decide +kernel
theorem dX8_member_96 : decode cX8_member 96 = .ok (.getfield 10, 3) := by decide +kernel
theorem dX8_member_99 : decode cX8_member 99 = .ok (.getfield 197, 3) := by decide +kernel
theorem dX8_member_102 : decode cX8_member 102 = .ok (.iload_n 1, 1) := by decide +kernel
theorem dX8_member_103 : decode cX8_member 103 = .ok (.iaload, 1) := by decide +kernel
theorem dX8_member_104 : decode cX8_member 104 = .ok (.ifCond .le 15, 3) := by decide +kernel
theorem dX8_member_107 : decode cX8_member 107 = .ok (.aload_n 0, 1) := by decide +kernel
theorem dX8_member_108 : decode cX8_member 108 = .ok (.getfield 10, 3) := by decide +kernel
theorem dX8_member_111 : decode cX8_member 111 = .ok (.getfield 200, 3) := by decide +kernel
theorem dX8_member_114 : decode cX8_member 114 = .ok (.iload_n 1, 1) := by decide +kernel
theorem dX8_member_115 : decode cX8_member 115 = .ok (.iaload, 1) := by decide +kernel
theorem dX8_member_116 : decode cX8_member 116 = .ok (.goto 5, 3) := by decide +kernel
theorem dX8_member_119 : decode cX8_member 119 = .ok (.ldc 203, 2) := by decide +kernel
theorem dX8_member_121 : decode cX8_member 121 = .ok (.ireturn, 1) := by decide +kernel
theorem dX8_member_122 : decode cX8_member 122 = .ok (.aload_n 0, 1) := by decide +kernel
theorem dX8_member_123 : decode cX8_member 123 = .ok (.getfield 10, 3) := by decide +kernel
theorem dX8_member_126 : decode cX8_member 126 = .ok (.getfield 197, 3) := by decide +kernel
theorem dX8_member_129 : decode cX8_member 129 = .ok (.iload_n 1, 1) := by decide +kernel
theorem dX8_member_130 : decode cX8_member 130 = .ok (.iaload, 1) := by decide +kernel
theorem dX8_member_131 : decode cX8_member 131 = .ok (.iconst 1, 1) := by decide +kernel
theorem dX8_member_132 : decode cX8_member 132 = .ok (.if_icmp .le 15, 3) := by decide +kernel
theorem dX8_member_135 : decode cX8_member 135 = .ok (.aload_n 0, 1) := by decide +kernel
theorem dX8_member_136 : decode cX8_member 136 = .ok (.getfield 10, 3) := by decide +kernel
theorem dX8_member_139 : decode cX8_member 139 = .ok (.getfield 204, 3) := by decide +kernel
theorem dX8_member_142 : decode cX8_member 142 = .ok (.iload_n 1, 1) := by decide +kernel
theorem dX8_member_143 : decode cX8_member 143 = .ok (.iaload, 1) := by decide +kernel
theorem dX8_member_144 : decode cX8_member 144 = .ok (.goto 5, 3) := by decide +kernel
theorem dX8_member_147 : decode cX8_member 147 = .ok (.ldc 203, 2) := by decide +kernel
theorem dX8_member_149 : decode cX8_member 149 = .ok (.ireturn, 1) := by decide +kernel
theorem dX8_member_150 : decode cX8_member 150 = .ok (.aload_n 0, 1) := by decide +kernel
theorem dX8_member_151 : decode cX8_member 151 = .ok (.getfield 10, 3) := by decide +kernel
theorem dX8_member_154 : decode cX8_member 154 = .ok (.iload_n 1, 1) := by decide +kernel
theorem dX8_member_155 : decode cX8_member 155 = .ok (.invokevirtual 157, 3) := by decide +kernel
theorem dX8_member_158 : decode cX8_member 158 = .ok (.ifCond .eq 7, 3) := by decide +kernel
theorem dX8_member_161 : decode cX8_member 161 = .ok (.iconst 1, 1) := by decide +kernel
theorem dX8_member_162 : decode cX8_member 162 = .ok (.goto 4, 3) := by decide +kernel
theorem dX8_member_165 : decode cX8_member 165 = .ok (.iconst 0, 1) := by decide +kernel
theorem dX8_member_166 : decode cX8_member 166 = .ok (.ireturn, 1) := by decide +kernel
theorem dX8_member_167 : decode cX8_member 167 = .ok (.ldc 80, 2) := by decide +kernel
theorem dX8_member_169 : decode cX8_member 169 = .ok (.ireturn, 1) := by decide +kernel
theorem dX8_type_0 : decode cX8_type 0 = .ok (.aload_n 0, 1) := by decide +kernel
theorem dX8_type_1 : decode cX8_type 1 = .ok (.getfield 10, 3) := by decide +kernel
theorem dX8_type_4 : decode cX8_type 4 = .ok (.iload_n 1, 1) := by decide +kernel
theorem dX8_type_5 : decode cX8_type 5 = .ok (.invokevirtual 173, 3) := by decide +kernel
theorem dX8_type_8 : decode cX8_type 8 = .ok (.ifCond .ne 6, 3) := by decide +kernel
theorem dX8_type_11 : decode cX8_type 11 = .ok (.ldc 80, 2) := by decide +kernel
theorem dX8_type_13 : decode cX8_type 13 = .ok (.ireturn, 1) := by decide +kernel
theorem dX8_type_14 : decode cX8_type 14 = .ok (.iload_n 2, 1) := by decide +kernel
theorem dX8_type_15 : decode cX8_type 15 = .ok (.tableswitch 67 0 3 #[29, 39, 49, 58], 29) := by decide +kernel
theorem dX8_type_44 : decode cX8_type 44 = .ok (.aload_n 0, 1) := by decide +kernel
theorem dX8_type_45 : decode cX8_type 45 = .ok (.getfield 10, 3) := by decide +kernel
theorem dX8_type_48 : decode cX8_type 48 = .ok (.getfield 176, 3) := by decide +kernel
theorem dX8_type_51 : decode cX8_type 51 = .ok (.iload_n 1, 1) := by decide +kernel
theorem dX8_type_52 : decode cX8_type 52 = .ok (.iaload, 1) := by decide +kernel
theorem dX8_type_53 : decode cX8_type 53 = .ok (.ireturn, 1) := by decide +kernel
theorem dX8_type_54 : decode cX8_type 54 = .ok (.aload_n 0, 1) := by decide +kernel
theorem dX8_type_55 : decode cX8_type 55 = .ok (.getfield 10, 3) := by decide +kernel
theorem dX8_type_58 : decode cX8_type 58 = .ok (.getfield 207, 3) := by decide +kernel
theorem dX8_type_61 : decode cX8_type 61 = .ok (.iload_n 1, 1) := by decide +kernel
theorem dX8_type_62 : decode cX8_type 62 = .ok (.iaload, 1) := by decide +kernel
theorem dX8_type_63 : decode cX8_type 63 = .ok (.ireturn, 1) := by decide +kernel
theorem dX8_type_64 : decode cX8_type 64 = .ok (.aload_n 0, 1) := by decide +kernel
theorem dX8_type_65 : decode cX8_type 65 = .ok (.getfield 10, 3) := by decide +kernel
theorem dX8_type_68 : decode cX8_type 68 = .ok (.iload_n 1, 1) := by decide +kernel
theorem dX8_type_69 : decode cX8_type 69 = .ok (.invokevirtual 210, 3) := by decide +kernel
theorem dX8_type_72 : decode cX8_type 72 = .ok (.ireturn, 1) := by decide +kernel
theorem dX8_type_73 : decode cX8_type 73 = .ok (.aload_n 0, 1) := by decide +kernel
theorem dX8_type_74 : decode cX8_type 74 = .ok (.getfield 10, 3) := by decide +kernel
theorem dX8_type_77 : decode cX8_type 77 = .ok (.iload_n 1, 1) := by decide +kernel
theorem dX8_type_78 : decode cX8_type 78 = .ok (.invokevirtual 213, 3) := by decide +kernel
theorem dX8_type_81 : decode cX8_type 81 = .ok (.ireturn, 1) := by decide +kernel
theorem dX8_type_82 : decode cX8_type 82 = .ok (.ldc 80, 2) := by decide +kernel
theorem dX8_type_84 : decode cX8_type 84 = .ok (.ireturn, 1) := by decide +kernel
theorem dX8_many_0 : decode cX8_many 0 = .ok (.aload_n 0, 1) := by decide +kernel
theorem dX8_many_1 : decode cX8_many 1 = .ok (.getfield 10, 3) := by decide +kernel
theorem dX8_many_4 : decode cX8_many 4 = .ok (.iload_n 1, 1) := by decide +kernel
theorem dX8_many_5 : decode cX8_many 5 = .ok (.invokevirtual 173, 3) := by decide +kernel
theorem dX8_many_8 : decode cX8_many 8 = .ok (.ifCond .eq 14, 3) := by decide +kernel
theorem dX8_many_11 : decode cX8_many 11 = .ok (.iload_n 2, 1) := by decide +kernel
theorem dX8_many_12 : decode cX8_many 12 = .ok (.iconst 1, 1) := by decide +kernel
theorem dX8_many_13 : decode cX8_many 13 = .ok (.if_icmp .lt 9, 3) := by decide +kernel
theorem dX8_many_16 : decode cX8_many 16 = .ok (.iload_n 2, 1) := by decide +kernel
theorem dX8_many_17 : decode cX8_many 17 = .ok (.bipush 24, 2) := by decide +kernel
theorem dX8_many_19 : decode cX8_many 19 = .ok (.if_icmp .le 6, 3) := by decide +kernel
theorem dX8_many_22 : decode cX8_many 22 = .ok (.ldc 80, 2) := by decide +kernel
theorem dX8_many_24 : decode cX8_many 24 = .ok (.ireturn, 1) := by decide +kernel
theorem dX8_many_25 : decode cX8_many 25 = .ok (.aload_n 0, 1) := by decide +kernel
theorem dX8_many_26 : decode cX8_many 26 = .ok (.getfield 53, 3) := by decide +kernel
theorem dX8_many_29 : decode cX8_many 29 = .ok (.iload_n 1, 1) := by decide +kernel
theorem dX8_many_30 : decode cX8_many 30 = .ok (.iload_n 2, 1) := by decide +kernel
theorem dX8_many_31 : decode cX8_many 31 = .ok (.invokevirtual 216, 3) := by decide +kernel
theorem dX8_many_34 : decode cX8_many 34 = .ok (.ireturn, 1) := by decide +kernel
theorem dX8_cheapest_0 : decode cX8_cheapest 0 = .ok (.aload_n 0, 1) := by decide +kernel
theorem dX8_cheapest_1 : decode cX8_cheapest 1 = .ok (.getfield 10, 3) := by decide +kernel
theorem dX8_cheapest_4 : decode cX8_cheapest 4 = .ok (.iload_n 1, 1) := by decide +kernel
theorem dX8_cheapest_5 : decode cX8_cheapest 5 = .ok (.invokevirtual 173, 3) := by decide +kernel
theorem dX8_cheapest_8 : decode cX8_cheapest 8 = .ok (.ifCond .ne 6, 3) := by decide +kernel
theorem dX8_cheapest_11 : decode cX8_cheapest 11 = .ok (.ldc 80, 2) := by decide +kernel
theorem dX8_cheapest_13 : decode cX8_cheapest 13 = .ok (.ireturn, 1) := by decide +kernel
theorem dX8_cheapest_14 : decode cX8_cheapest 14 = .ok (.aload_n 0, 1) := by decide +kernel
theorem dX8_cheapest_15 : decode cX8_cheapest 15 = .ok (.getfield 46, 3) := by decide +kernel
theorem dX8_cheapest_18 : decode cX8_cheapest 18 = .ok (.iload_n 1, 1) := by decide +kernel
theorem dX8_cheapest_19 : decode cX8_cheapest 19 = .ok (.aload_n 0, 1) := by decide +kernel
theorem dX8_cheapest_20 : decode cX8_cheapest 20 = .ok (.getfield 10, 3) := by decide +kernel
theorem dX8_cheapest_23 : decode cX8_cheapest 23 = .ok (.getfield 167, 3) := by decide +kernel
theorem dX8_cheapest_26 : decode cX8_cheapest 26 = .ok (.invokevirtual 220, 3) := by decide +kernel
theorem dX8_cheapest_29 : decode cX8_cheapest 29 = .ok (.ireturn, 1) := by decide +kernel
theorem dX8_listed_0 : decode cX8_listed 0 = .ok (.aload_n 0, 1) := by decide +kernel
theorem dX8_listed_1 : decode cX8_listed 1 = .ok (.getfield 10, 3) := by decide +kernel
theorem dX8_listed_4 : decode cX8_listed 4 = .ok (.iload_n 1, 1) := by decide +kernel
theorem dX8_listed_5 : decode cX8_listed 5 = .ok (.invokevirtual 173, 3) := by decide +kernel
theorem dX8_listed_8 : decode cX8_listed 8 = .ok (.ifCond .eq 18, 3) := by decide +kernel
theorem dX8_listed_11 : decode cX8_listed 11 = .ok (.iload_n 2, 1) := by decide +kernel
theorem dX8_listed_12 : decode cX8_listed 12 = .ok (.ifCond .lt 14, 3) := by decide +kernel
theorem dX8_listed_15 : decode cX8_listed 15 = .ok (.iload_n 2, 1) := by decide +kernel
theorem dX8_listed_16 : decode cX8_listed 16 = .ok (.ldc 223, 2) := by decide +kernel
theorem dX8_listed_18 : decode cX8_listed 18 = .ok (.if_icmp .ge 8, 3) := by decide +kernel
theorem dX8_listed_21 : decode cX8_listed 21 = .ok (.iload_n 3, 1) := by decide +kernel
theorem dX8_listed_22 : decode cX8_listed 22 = .ok (.iconst (-1), 1) := by decide +kernel
theorem dX8_listed_23 : decode cX8_listed 23 = .ok (.if_icmp .ge 6, 3) := by decide +kernel
theorem dX8_listed_26 : decode cX8_listed 26 = .ok (.ldc 80, 2) := by decide +kernel
theorem dX8_listed_28 : decode cX8_listed 28 = .ok (.ireturn, 1) := by decide +kernel
theorem dX8_listed_29 : decode cX8_listed 29 = .ok (.aload_n 0, 1) := by decide +kernel
theorem dX8_listed_30 : decode cX8_listed 30 = .ok (.getfield 53, 3) := by decide +kernel
theorem dX8_listed_33 : decode cX8_listed 33 = .ok (.iload_n 1, 1) := by decide +kernel
theorem dX8_listed_34 : decode cX8_listed 34 = .ok (.iload_n 2, 1) := by decide +kernel
theorem dX8_listed_35 : decode cX8_listed 35 = .ok (.invokevirtual 224, 3) := by decide +kernel
theorem dX8_listed_38 : decode cX8_listed 38 = .ok (.istore 4, 2) := by decide +kernel
theorem dX8_listed_40 : decode cX8_listed 40 = .ok (.iload 4, 2) := by decide +kernel
theorem dX8_listed_42 : decode cX8_listed 42 = .ok (.ldc 203, 2) := by decide +kernel
theorem dX8_listed_44 : decode cX8_listed 44 = .ok (.if_icmp .eq 8, 3) := by decide +kernel
theorem dX8_listed_47 : decode cX8_listed 47 = .ok (.iload_n 3, 1) := by decide +kernel
theorem dX8_listed_48 : decode cX8_listed 48 = .ok (.iconst (-1), 1) := by decide +kernel
theorem dX8_listed_49 : decode cX8_listed 49 = .ok (.if_icmp .ne 6, 3) := by decide +kernel
theorem dX8_listed_52 : decode cX8_listed 52 = .ok (.iload 4, 2) := by decide +kernel
theorem dX8_listed_54 : decode cX8_listed 54 = .ok (.ireturn, 1) := by decide +kernel
theorem dX8_listed_55 : decode cX8_listed 55 = .ok (.aload_n 0, 1) := by decide +kernel
theorem dX8_listed_56 : decode cX8_listed 56 = .ok (.getfield 53, 3) := by decide +kernel
theorem dX8_listed_59 : decode cX8_listed 59 = .ok (.iload_n 1, 1) := by decide +kernel
theorem dX8_listed_60 : decode cX8_listed 60 = .ok (.iload 4, 2) := by decide +kernel
theorem dX8_listed_62 : decode cX8_listed 62 = .ok (.invokevirtual 227, 3) := by decide +kernel
theorem dX8_listed_65 : decode cX8_listed 65 = .ok (.istore 5, 2) := by decide +kernel
theorem dX8_listed_67 : decode cX8_listed 67 = .ok (.iload_n 3, 1) := by decide +kernel
theorem dX8_listed_68 : decode cX8_listed 68 = .ok (.iload 5, 2) := by decide +kernel
theorem dX8_listed_70 : decode cX8_listed 70 = .ok (.if_icmp .ge 15, 3) := by decide +kernel
theorem dX8_listed_73 : decode cX8_listed 73 = .ok (.aload_n 0, 1) := by decide +kernel
theorem dX8_listed_74 : decode cX8_listed 74 = .ok (.getfield 53, 3) := by decide +kernel
theorem dX8_listed_77 : decode cX8_listed 77 = .ok (.getfield 230, 3) := by decide +kernel
theorem dX8_listed_80 : decode cX8_listed 80 = .ok (.iload_n 3, 1) := by decide +kernel
theorem dX8_listed_81 : decode cX8_listed 81 = .ok (.iaload, 1) := by decide +kernel
theorem dX8_listed_82 : decode cX8_listed 82 = .ok (.goto 5, 3) := by decide +kernel
theorem dX8_listed_85 : decode cX8_listed 85 = .ok (.ldc 203, 2) := by decide +kernel
theorem dX8_listed_87 : decode cX8_listed 87 = .ok (.ireturn, 1) := by decide +kernel
theorem dX8_word_0 : decode cX8_word 0 = .ok (.iload_n 1, 1) := by decide +kernel
theorem dX8_word_1 : decode cX8_word 1 = .ok (.invokestatic 73, 3) := by decide +kernel
theorem dX8_word_4 : decode cX8_word 4 = .ok (.ifCond .eq 21, 3) := by decide +kernel
theorem dX8_word_7 : decode cX8_word 7 = .ok (.iload_n 3, 1) := by decide +kernel
theorem dX8_word_8 : decode cX8_word 8 = .ok (.invokestatic 233, 3) := by decide +kernel
theorem dX8_word_11 : decode cX8_word 11 = .ok (.ifCond .eq 14, 3) := by decide +kernel
theorem dX8_word_14 : decode cX8_word 14 = .ok (.iload 4, 2) := by decide +kernel
theorem dX8_word_16 : decode cX8_word 16 = .ok (.ifCond .lt 9, 3) := by decide +kernel
theorem dX8_word_19 : decode cX8_word 19 = .ok (.iload 4, 2) := by decide +kernel
theorem dX8_word_21 : decode cX8_word 21 = .ok (.iconst 1, 1) := by decide +kernel
theorem dX8_word_22 : decode cX8_word 22 = .ok (.if_icmp .le 6, 3) := by decide +kernel
theorem dX8_word_25 : decode cX8_word 25 = .ok (.ldc 80, 2) := by decide +kernel
theorem dX8_word_27 : decode cX8_word 27 = .ok (.ireturn, 1) := by decide +kernel
theorem dX8_word_28 : decode cX8_word 28 = .ok (.aload_n 0, 1) := by decide +kernel
theorem dX8_word_29 : decode cX8_word 29 = .ok (.getfield 10, 3) := by decide +kernel
theorem dX8_word_32 : decode cX8_word 32 = .ok (.getfield 236, 3) := by decide +kernel
theorem dX8_word_35 : decode cX8_word 35 = .ok (.ifCond .ne 6, 3) := by decide +kernel
theorem dX8_word_38 : decode cX8_word 38 = .ok (.ldc 160, 2) := by decide +kernel
theorem dX8_word_40 : decode cX8_word 40 = .ok (.ireturn, 1) := by decide +kernel
theorem dX8_word_41 : decode cX8_word 41 = .ok (.aload_n 0, 1) := by decide +kernel
theorem dX8_word_42 : decode cX8_word 42 = .ok (.getfield 62, 3) := by decide +kernel
theorem dX8_word_45 : decode cX8_word 45 = .ok (.iload_n 1, 1) := by decide +kernel
theorem dX8_word_46 : decode cX8_word 46 = .ok (.iload_n 2, 1) := by decide +kernel
theorem dX8_word_47 : decode cX8_word 47 = .ok (.iload_n 3, 1) := by decide +kernel
theorem dX8_word_48 : decode cX8_word 48 = .ok (.invokevirtual 239, 3) := by decide +kernel
theorem dX8_word_51 : decode cX8_word 51 = .ok (.istore 5, 2) := by decide +kernel
theorem dX8_word_53 : decode cX8_word 53 = .ok (.iload 5, 2) := by decide +kernel
theorem dX8_word_55 : decode cX8_word 55 = .ok (.ifCond .eq 10, 3) := by decide +kernel
theorem dX8_word_58 : decode cX8_word 58 = .ok (.aload_n 0, 1) := by decide +kernel
theorem dX8_word_59 : decode cX8_word 59 = .ok (.iload 5, 2) := by decide +kernel
theorem dX8_word_61 : decode cX8_word 61 = .ok (.invokevirtual 81, 3) := by decide +kernel
theorem dX8_word_64 : decode cX8_word 64 = .ok (.ireturn, 1) := by decide +kernel
theorem dX8_word_65 : decode cX8_word 65 = .ok (.aload_n 0, 1) := by decide +kernel
theorem dX8_word_66 : decode cX8_word 66 = .ok (.getfield 62, 3) := by decide +kernel
theorem dX8_word_69 : decode cX8_word 69 = .ok (.invokevirtual 242, 3) := by decide +kernel
theorem dX8_word_72 : decode cX8_word 72 = .ok (.ifCond .ne 10, 3) := by decide +kernel
theorem dX8_word_75 : decode cX8_word 75 = .ok (.aload_n 0, 1) := by decide +kernel
theorem dX8_word_76 : decode cX8_word 76 = .ok (.ldc 203, 2) := by decide +kernel
theorem dX8_word_78 : decode cX8_word 78 = .ok (.invokevirtual 89, 3) := by decide +kernel
theorem dX8_word_81 : decode cX8_word 81 = .ok (.ireturn, 1) := by decide +kernel
theorem dX8_word_82 : decode cX8_word 82 = .ok (.aload_n 0, 1) := by decide +kernel
theorem dX8_word_83 : decode cX8_word 83 = .ok (.iload 4, 2) := by decide +kernel
theorem dX8_word_85 : decode cX8_word 85 = .ok (.ifCond .ne 13, 3) := by decide +kernel
theorem dX8_word_88 : decode cX8_word 88 = .ok (.aload_n 0, 1) := by decide +kernel
theorem dX8_word_89 : decode cX8_word 89 = .ok (.getfield 62, 3) := by decide +kernel
theorem dX8_word_92 : decode cX8_word 92 = .ok (.invokevirtual 245, 3) := by decide +kernel
theorem dX8_word_95 : decode cX8_word 95 = .ok (.goto 10, 3) := by decide +kernel
theorem dX8_word_98 : decode cX8_word 98 = .ok (.aload_n 0, 1) := by decide +kernel
theorem dX8_word_99 : decode cX8_word 99 = .ok (.getfield 62, 3) := by decide +kernel
theorem dX8_word_102 : decode cX8_word 102 = .ok (.invokevirtual 249, 3) := by decide +kernel
theorem dX8_word_105 : decode cX8_word 105 = .ok (.invokevirtual 89, 3) := by decide +kernel
theorem dX8_word_108 : decode cX8_word 108 = .ok (.ireturn, 1) := by decide +kernel
theorem dX8_place_0 : decode cX8_place 0 = .ok (.aload_n 0, 1) := by decide +kernel
theorem dX8_place_1 : decode cX8_place 1 = .ok (.getfield 10, 3) := by decide +kernel
theorem dX8_place_4 : decode cX8_place 4 = .ok (.iload_n 1, 1) := by decide +kernel
theorem dX8_place_5 : decode cX8_place 5 = .ok (.invokevirtual 173, 3) := by decide +kernel
theorem dX8_place_8 : decode cX8_place 8 = .ok (.ifCond .eq 17, 3) := by decide +kernel
theorem dX8_place_11 : decode cX8_place 11 = .ok (.iload_n 2, 1) := by decide +kernel
theorem dX8_place_12 : decode cX8_place 12 = .ok (.invokestatic 73, 3) := by decide +kernel
theorem dX8_place_15 : decode cX8_place 15 = .ok (.ifCond .eq 10, 3) := by decide +kernel
theorem dX8_place_18 : decode cX8_place 18 = .ok (.iload_n 3, 1) := by decide +kernel
theorem dX8_place_19 : decode cX8_place 19 = .ok (.invokestatic 233, 3) := by decide +kernel
theorem dX8_place_22 : decode cX8_place 22 = .ok (.ifCond .ne 6, 3) := by decide +kernel
theorem dX8_place_25 : decode cX8_place 25 = .ok (.ldc 80, 2) := by decide +kernel
theorem dX8_place_27 : decode cX8_place 27 = .ok (.ireturn, 1) := by decide +kernel
theorem dX8_place_28 : decode cX8_place 28 = .ok (.aload_n 0, 1) := by decide +kernel
theorem dX8_place_29 : decode cX8_place 29 = .ok (.getfield 62, 3) := by decide +kernel
theorem dX8_place_32 : decode cX8_place 32 = .ok (.iload_n 2, 1) := by decide +kernel
theorem dX8_place_33 : decode cX8_place 33 = .ok (.iconst 0, 1) := by decide +kernel
theorem dX8_place_34 : decode cX8_place 34 = .ok (.iload_n 3, 1) := by decide +kernel
theorem dX8_place_35 : decode cX8_place 35 = .ok (.invokevirtual 239, 3) := by decide +kernel
theorem dX8_place_38 : decode cX8_place 38 = .ok (.istore 4, 2) := by decide +kernel
theorem dX8_place_40 : decode cX8_place 40 = .ok (.iload 4, 2) := by decide +kernel
theorem dX8_place_42 : decode cX8_place 42 = .ok (.ifCond .eq 10, 3) := by decide +kernel
theorem dX8_place_45 : decode cX8_place 45 = .ok (.aload_n 0, 1) := by decide +kernel
theorem dX8_place_46 : decode cX8_place 46 = .ok (.iload 4, 2) := by decide +kernel
theorem dX8_place_48 : decode cX8_place 48 = .ok (.invokevirtual 81, 3) := by decide +kernel
theorem dX8_place_51 : decode cX8_place 51 = .ok (.ireturn, 1) := by decide +kernel
theorem dX8_place_52 : decode cX8_place 52 = .ok (.aload_n 0, 1) := by decide +kernel
theorem dX8_place_53 : decode cX8_place 53 = .ok (.getfield 62, 3) := by decide +kernel
theorem dX8_place_56 : decode cX8_place 56 = .ok (.invokevirtual 242, 3) := by decide +kernel
theorem dX8_place_59 : decode cX8_place 59 = .ok (.ifCond .eq 21, 3) := by decide +kernel
theorem dX8_place_62 : decode cX8_place 62 = .ok (.aload_n 0, 1) := by decide +kernel
theorem dX8_place_63 : decode cX8_place 63 = .ok (.getfield 10, 3) := by decide +kernel
theorem dX8_place_66 : decode cX8_place 66 = .ok (.aload_n 0, 1) := by decide +kernel
theorem dX8_place_67 : decode cX8_place 67 = .ok (.getfield 62, 3) := by decide +kernel
theorem dX8_place_70 : decode cX8_place 70 = .ok (.invokevirtual 245, 3) := by decide +kernel
theorem dX8_place_73 : decode cX8_place 73 = .ok (.iload_n 1, 1) := by decide +kernel
theorem dX8_place_74 : decode cX8_place 74 = .ok (.invokevirtual 252, 3) := by decide +kernel
theorem dX8_place_77 : decode cX8_place 77 = .ok (.ifCond .ne 10, 3) := by decide +kernel
theorem dX8_place_80 : decode cX8_place 80 = .ok (.aload_n 0, 1) := by decide +kernel
theorem dX8_place_81 : decode cX8_place 81 = .ok (.ldc 203, 2) := by decide +kernel
theorem dX8_place_83 : decode cX8_place 83 = .ok (.invokevirtual 89, 3) := by decide +kernel
theorem dX8_place_86 : decode cX8_place 86 = .ok (.ireturn, 1) := by decide +kernel
theorem dX8_place_87 : decode cX8_place 87 = .ok (.aload_n 0, 1) := by decide +kernel
theorem dX8_place_88 : decode cX8_place 88 = .ok (.getfield 62, 3) := by decide +kernel
theorem dX8_place_91 : decode cX8_place 91 = .ok (.invokevirtual 249, 3) := by decide +kernel
theorem dX8_place_94 : decode cX8_place 94 = .ok (.istore 5, 2) := by decide +kernel
theorem dX8_place_96 : decode cX8_place 96 = .ok (.iload 5, 2) := by decide +kernel
theorem dX8_place_98 : decode cX8_place 98 = .ok (.bipush 24, 2) := by decide +kernel
theorem dX8_place_100 : decode cX8_place 100 = .ok (.if_icmp .le 10, 3) := by decide +kernel
theorem dX8_place_103 : decode cX8_place 103 = .ok (.aload_n 0, 1) := by decide +kernel
theorem dX8_place_104 : decode cX8_place 104 = .ok (.ldc 203, 2) := by decide +kernel
theorem dX8_place_106 : decode cX8_place 106 = .ok (.invokevirtual 89, 3) := by decide +kernel
theorem dX8_place_109 : decode cX8_place 109 = .ok (.ireturn, 1) := by decide +kernel
theorem dX8_place_110 : decode cX8_place 110 = .ok (.aload_n 0, 1) := by decide +kernel
theorem dX8_place_111 : decode cX8_place 111 = .ok (.aload_n 0, 1) := by decide +kernel
theorem dX8_place_112 : decode cX8_place 112 = .ok (.getfield 53, 3) := by decide +kernel
theorem dX8_place_115 : decode cX8_place 115 = .ok (.iload_n 1, 1) := by decide +kernel
theorem dX8_place_116 : decode cX8_place 116 = .ok (.aload_n 0, 1) := by decide +kernel
theorem dX8_place_117 : decode cX8_place 117 = .ok (.getfield 62, 3) := by decide +kernel
theorem dX8_place_120 : decode cX8_place 120 = .ok (.getfield 256, 3) := by decide +kernel
theorem dX8_place_123 : decode cX8_place 123 = .ok (.iload_n 3, 1) := by decide +kernel
theorem dX8_place_124 : decode cX8_place 124 = .ok (.iload 5, 2) := by decide +kernel
theorem dX8_place_126 : decode cX8_place 126 = .ok (.invokevirtual 257, 3) := by decide +kernel
theorem dX8_place_129 : decode cX8_place 129 = .ok (.invokevirtual 89, 3) := by decide +kernel
theorem dX8_place_132 : decode cX8_place 132 = .ok (.ireturn, 1) := by decide +kernel
theorem dX8_had_0 : decode cX8_had 0 = .ok (.aload_n 0, 1) := by decide +kernel
theorem dX8_had_1 : decode cX8_had 1 = .ok (.getfield 10, 3) := by decide +kernel
theorem dX8_had_4 : decode cX8_had 4 = .ok (.getfield 236, 3) := by decide +kernel
theorem dX8_had_7 : decode cX8_had 7 = .ok (.ifCond .ne 6, 3) := by decide +kernel
theorem dX8_had_10 : decode cX8_had 10 = .ok (.ldc 160, 2) := by decide +kernel
theorem dX8_had_12 : decode cX8_had 12 = .ok (.ireturn, 1) := by decide +kernel
theorem dX8_had_13 : decode cX8_had 13 = .ok (.aload_n 0, 1) := by decide +kernel
theorem dX8_had_14 : decode cX8_had 14 = .ok (.getfield 46, 3) := by decide +kernel
theorem dX8_had_17 : decode cX8_had 17 = .ok (.aload_n 0, 1) := by decide +kernel
theorem dX8_had_18 : decode cX8_had 18 = .ok (.getfield 10, 3) := by decide +kernel
theorem dX8_had_21 : decode cX8_had 21 = .ok (.getfield 167, 3) := by decide +kernel
theorem dX8_had_24 : decode cX8_had 24 = .ok (.invokevirtual 261, 3) := by decide +kernel
theorem dX8_had_27 : decode cX8_had 27 = .ok (.ireturn, 1) := by decide +kernel
theorem dX8_needed_0 : decode cX8_needed 0 = .ok (.aload_n 0, 1) := by decide +kernel
theorem dX8_needed_1 : decode cX8_needed 1 = .ok (.getfield 10, 3) := by decide +kernel
theorem dX8_needed_4 : decode cX8_needed 4 = .ok (.iload_n 1, 1) := by decide +kernel
theorem dX8_needed_5 : decode cX8_needed 5 = .ok (.invokevirtual 173, 3) := by decide +kernel
theorem dX8_needed_8 : decode cX8_needed 8 = .ok (.ifCond .ne 6, 3) := by decide +kernel
theorem dX8_needed_11 : decode cX8_needed 11 = .ok (.ldc 80, 2) := by decide +kernel
theorem dX8_needed_13 : decode cX8_needed 13 = .ok (.ireturn, 1) := by decide +kernel
theorem dX8_needed_14 : decode cX8_needed 14 = .ok (.aload_n 0, 1) := by decide +kernel
theorem dX8_needed_15 : decode cX8_needed 15 = .ok (.getfield 46, 3) := by decide +kernel
theorem dX8_needed_18 : decode cX8_needed 18 = .ok (.iload_n 1, 1) := by decide +kernel
theorem dX8_needed_19 : decode cX8_needed 19 = .ok (.invokevirtual 264, 3) := by decide +kernel
theorem dX8_needed_22 : decode cX8_needed 22 = .ok (.ireturn, 1) := by decide +kernel
theorem dX8_without_0 : decode cX8_without 0 = .ok (.aload_n 0, 1) := by decide +kernel
theorem dX8_without_1 : decode cX8_without 1 = .ok (.getfield 10, 3) := by decide +kernel
theorem dX8_without_4 : decode cX8_without 4 = .ok (.iload_n 1, 1) := by decide +kernel
theorem dX8_without_5 : decode cX8_without 5 = .ok (.invokevirtual 173, 3) := by decide +kernel
theorem dX8_without_8 : decode cX8_without 8 = .ok (.ifCond .eq 14, 3) := by decide +kernel
theorem dX8_without_11 : decode cX8_without 11 = .ok (.aload_n 0, 1) := by decide +kernel
theorem dX8_without_12 : decode cX8_without 12 = .ok (.getfield 10, 3) := by decide +kernel
theorem dX8_without_15 : decode cX8_without 15 = .ok (.iload_n 2, 1) := by decide +kernel
theorem dX8_without_16 : decode cX8_without 16 = .ok (.invokevirtual 154, 3) := by decide +kernel
theorem dX8_without_19 : decode cX8_without 19 = .ok (.ifCond .ne 6, 3) := by decide +kernel
theorem dX8_without_22 : decode cX8_without 22 = .ok (.ldc 80, 2) := by decide +kernel
theorem dX8_without_24 : decode cX8_without 24 = .ok (.ireturn, 1) := by decide +kernel
theorem dX8_without_25 : decode cX8_without 25 = .ok (.aload_n 0, 1) := by decide +kernel
theorem dX8_without_26 : decode cX8_without 26 = .ok (.getfield 46, 3) := by decide +kernel
theorem dX8_without_29 : decode cX8_without 29 = .ok (.iload_n 1, 1) := by decide +kernel
theorem dX8_without_30 : decode cX8_without 30 = .ok (.aload_n 0, 1) := by decide +kernel
theorem dX8_without_31 : decode cX8_without 31 = .ok (.getfield 10, 3) := by decide +kernel
theorem dX8_without_34 : decode cX8_without 34 = .ok (.getfield 167, 3) := by decide +kernel
theorem dX8_without_37 : decode cX8_without 37 = .ok (.iconst 1, 1) := by decide +kernel
theorem dX8_without_38 : decode cX8_without 38 = .ok (.iload_n 2, 1) := by decide +kernel
theorem dX8_without_39 : decode cX8_without 39 = .ok (.ishl, 1) := by decide +kernel
theorem dX8_without_40 : decode cX8_without 40 = .ok (.ior, 1) := by decide +kernel
theorem dX8_without_41 : decode cX8_without 41 = .ok (.invokevirtual 220, 3) := by decide +kernel
theorem dX8_without_44 : decode cX8_without 44 = .ok (.ireturn, 1) := by decide +kernel
theorem dX8_share_0 : decode cX8_share 0 = .ok (.aload_n 0, 1) := by decide +kernel
theorem dX8_share_1 : decode cX8_share 1 = .ok (.getfield 10, 3) := by decide +kernel
theorem dX8_share_4 : decode cX8_share 4 = .ok (.iload_n 1, 1) := by decide +kernel
theorem dX8_share_5 : decode cX8_share 5 = .ok (.invokevirtual 154, 3) := by decide +kernel
theorem dX8_share_8 : decode cX8_share 8 = .ok (.ifCond .eq 14, 3) := by decide +kernel
theorem dX8_share_11 : decode cX8_share 11 = .ok (.iload_n 2, 1) := by decide +kernel
theorem dX8_share_12 : decode cX8_share 12 = .ok (.ifCond .lt 10, 3) := by decide +kernel
theorem dX8_share_15 : decode cX8_share 15 = .ok (.iload_n 2, 1) := by decide +kernel
theorem dX8_share_16 : decode cX8_share 16 = .ok (.sipush 999, 3) := by decide +kernel
theorem dX8_share_19 : decode cX8_share 19 = .ok (.if_icmp .le 6, 3) := by decide +kernel
theorem dX8_share_22 : decode cX8_share 22 = .ok (.ldc 80, 2) := by decide +kernel
theorem dX8_share_24 : decode cX8_share 24 = .ok (.ireturn, 1) := by decide +kernel
theorem dX8_share_25 : decode cX8_share 25 = .ok (.aload_n 0, 1) := by decide +kernel
theorem dX8_share_26 : decode cX8_share 26 = .ok (.getfield 10, 3) := by decide +kernel
theorem dX8_share_29 : decode cX8_share 29 = .ok (.iload_n 1, 1) := by decide +kernel
theorem dX8_share_30 : decode cX8_share 30 = .ok (.invokevirtual 157, 3) := by decide +kernel
theorem dX8_share_33 : decode cX8_share 33 = .ok (.ifCond .eq 7, 3) := by decide +kernel
theorem dX8_share_36 : decode cX8_share 36 = .ok (.iconst 0, 1) := by decide +kernel
theorem dX8_share_37 : decode cX8_share 37 = .ok (.goto 12, 3) := by decide +kernel
theorem dX8_share_40 : decode cX8_share 40 = .ok (.aload_n 0, 1) := by decide +kernel
theorem dX8_share_41 : decode cX8_share 41 = .ok (.getfield 10, 3) := by decide +kernel
theorem dX8_share_44 : decode cX8_share 44 = .ok (.iload_n 1, 1) := by decide +kernel
theorem dX8_share_45 : decode cX8_share 45 = .ok (.iload_n 2, 1) := by decide +kernel
theorem dX8_share_46 : decode cX8_share 46 = .ok (.invokevirtual 267, 3) := by decide +kernel
theorem dX8_share_49 : decode cX8_share 49 = .ok (.ireturn, 1) := by decide +kernel
theorem dX8_drawn_0 : decode cX8_drawn 0 = .ok (.aload_n 0, 1) := by decide +kernel
theorem dX8_drawn_1 : decode cX8_drawn 1 = .ok (.getfield 10, 3) := by decide +kernel
theorem dX8_drawn_4 : decode cX8_drawn 4 = .ok (.iload_n 1, 1) := by decide +kernel
theorem dX8_drawn_5 : decode cX8_drawn 5 = .ok (.invokevirtual 173, 3) := by decide +kernel
theorem dX8_drawn_8 : decode cX8_drawn 8 = .ok (.ifCond .eq 37, 3) := by decide +kernel
theorem dX8_drawn_11 : decode cX8_drawn 11 = .ok (.iload_n 2, 1) := by decide +kernel
theorem dX8_drawn_12 : decode cX8_drawn 12 = .ok (.iconst 1, 1) := by decide +kernel
theorem dX8_drawn_13 : decode cX8_drawn 13 = .ok (.if_icmp .lt 32, 3) := by decide +kernel
theorem dX8_drawn_16 : decode cX8_drawn 16 = .ok (.iload_n 2, 1) := by decide +kernel
theorem dX8_drawn_17 : decode cX8_drawn 17 = .ok (.bipush 60, 2) := by decide +kernel
theorem dX8_drawn_19 : decode cX8_drawn 19 = .ok (.if_icmp .gt 26, 3) := by decide +kernel
theorem dX8_drawn_22 : decode cX8_drawn 22 = .ok (.iload_n 3, 1) := by decide +kernel
theorem dX8_drawn_23 : decode cX8_drawn 23 = .ok (.iconst 1, 1) := by decide +kernel
theorem dX8_drawn_24 : decode cX8_drawn 24 = .ok (.if_icmp .lt 21, 3) := by decide +kernel
theorem dX8_drawn_27 : decode cX8_drawn 27 = .ok (.iload_n 3, 1) := by decide +kernel
theorem dX8_drawn_28 : decode cX8_drawn 28 = .ok (.ldc_w 270, 3) := by decide +kernel
theorem dX8_drawn_31 : decode cX8_drawn 31 = .ok (.if_icmp .gt 14, 3) := by decide +kernel
theorem dX8_drawn_34 : decode cX8_drawn 34 = .ok (.iload 4, 2) := by decide +kernel
theorem dX8_drawn_36 : decode cX8_drawn 36 = .ok (.ifCond .lt 9, 3) := by decide +kernel
theorem dX8_drawn_39 : decode cX8_drawn 39 = .ok (.iload 4, 2) := by decide +kernel
theorem dX8_drawn_41 : decode cX8_drawn 41 = .ok (.iconst 1, 1) := by decide +kernel
theorem dX8_drawn_42 : decode cX8_drawn 42 = .ok (.if_icmp .le 6, 3) := by decide +kernel
theorem dX8_drawn_45 : decode cX8_drawn 45 = .ok (.ldc 80, 2) := by decide +kernel
theorem dX8_drawn_47 : decode cX8_drawn 47 = .ok (.ireturn, 1) := by decide +kernel
theorem dX8_drawn_48 : decode cX8_drawn 48 = .ok (.aload_n 0, 1) := by decide +kernel
theorem dX8_drawn_49 : decode cX8_drawn 49 = .ok (.getfield 53, 3) := by decide +kernel
theorem dX8_drawn_52 : decode cX8_drawn 52 = .ok (.iload_n 1, 1) := by decide +kernel
theorem dX8_drawn_53 : decode cX8_drawn 53 = .ok (.invokevirtual 271, 3) := by decide +kernel
theorem dX8_drawn_56 : decode cX8_drawn 56 = .ok (.istore 5, 2) := by decide +kernel
theorem dX8_drawn_58 : decode cX8_drawn 58 = .ok (.iload 5, 2) := by decide +kernel
theorem dX8_drawn_60 : decode cX8_drawn 60 = .ok (.iconst 1, 1) := by decide +kernel
theorem dX8_drawn_61 : decode cX8_drawn 61 = .ok (.if_icmp .ge 6, 3) := by decide +kernel
theorem dX8_drawn_64 : decode cX8_drawn 64 = .ok (.ldc 160, 2) := by decide +kernel
theorem dX8_drawn_66 : decode cX8_drawn 66 = .ok (.ireturn, 1) := by decide +kernel
theorem dX8_drawn_67 : decode cX8_drawn 67 = .ok (.iload_n 3, 1) := by decide +kernel
theorem dX8_drawn_68 : decode cX8_drawn 68 = .ok (.i2l, 1) := by decide +kernel
theorem dX8_drawn_69 : decode cX8_drawn 69 = .ok (.lstore 6, 2) := by decide +kernel
theorem dX8_drawn_71 : decode cX8_drawn 71 = .ok (.iconst 0, 1) := by decide +kernel
theorem dX8_drawn_72 : decode cX8_drawn 72 = .ok (.istore 8, 2) := by decide +kernel
theorem dX8_drawn_74 : decode cX8_drawn 74 = .ok (.iconst 0, 1) := by decide +kernel
theorem dX8_drawn_75 : decode cX8_drawn 75 = .ok (.istore 9, 2) := by decide +kernel
theorem dX8_drawn_77 : decode cX8_drawn 77 = .ok (.iload 9, 2) := by decide +kernel
theorem dX8_drawn_79 : decode cX8_drawn 79 = .ok (.iload_n 2, 1) := by decide +kernel
theorem dX8_drawn_80 : decode cX8_drawn 80 = .ok (.if_icmp .ge 63, 3) := by decide +kernel
theorem dX8_drawn_83 : decode cX8_drawn 83 = .ok (.lload 6, 2) := by decide +kernel
theorem dX8_drawn_85 : decode cX8_drawn 85 = .ok (.ldc2_w 274, 3) := by decide +kernel
theorem dX8_drawn_88 : decode cX8_drawn 88 = .ok (.lmul, 1) := by decide +kernel
theorem dX8_drawn_89 : decode cX8_drawn 89 = .ok (.ldc2_w 276, 3) := by decide +kernel
theorem dX8_drawn_92 : decode cX8_drawn 92 = .ok (.lrem, 1) := by decide +kernel
theorem dX8_drawn_93 : decode cX8_drawn 93 = .ok (.lstore 6, 2) := by decide +kernel
theorem dX8_drawn_95 : decode cX8_drawn 95 = .ok (.aload_n 0, 1) := by decide +kernel
theorem dX8_drawn_96 : decode cX8_drawn 96 = .ok (.getfield 53, 3) := by decide +kernel
theorem dX8_drawn_99 : decode cX8_drawn 99 = .ok (.iload_n 1, 1) := by decide +kernel
theorem dX8_drawn_100 : decode cX8_drawn 100 = .ok (.lload 6, 2) := by decide +kernel
theorem dX8_drawn_102 : decode cX8_drawn 102 = .ok (.iload 5, 2) := by decide +kernel
theorem dX8_drawn_104 : decode cX8_drawn 104 = .ok (.i2l, 1) := by decide +kernel
theorem dX8_drawn_105 : decode cX8_drawn 105 = .ok (.lrem, 1) := by decide +kernel
theorem dX8_drawn_106 : decode cX8_drawn 106 = .ok (.l2i, 1) := by decide +kernel
theorem dX8_drawn_107 : decode cX8_drawn 107 = .ok (.invokevirtual 224, 3) := by decide +kernel
theorem dX8_drawn_110 : decode cX8_drawn 110 = .ok (.istore 10, 2) := by decide +kernel
theorem dX8_drawn_112 : decode cX8_drawn 112 = .ok (.iload 8, 2) := by decide +kernel
theorem dX8_drawn_114 : decode cX8_drawn 114 = .ok (.iload 4, 2) := by decide +kernel
theorem dX8_drawn_116 : decode cX8_drawn 116 = .ok (.ifCond .ne 8, 3) := by decide +kernel
theorem dX8_drawn_119 : decode cX8_drawn 119 = .ok (.iload 10, 2) := by decide +kernel
theorem dX8_drawn_121 : decode cX8_drawn 121 = .ok (.goto 13, 3) := by decide +kernel
theorem dX8_drawn_124 : decode cX8_drawn 124 = .ok (.aload_n 0, 1) := by decide +kernel
theorem dX8_drawn_125 : decode cX8_drawn 125 = .ok (.getfield 53, 3) := by decide +kernel
theorem dX8_drawn_128 : decode cX8_drawn 128 = .ok (.iload_n 1, 1) := by decide +kernel
theorem dX8_drawn_129 : decode cX8_drawn 129 = .ok (.iload 10, 2) := by decide +kernel
theorem dX8_drawn_131 : decode cX8_drawn 131 = .ok (.invokevirtual 227, 3) := by decide +kernel
theorem dX8_drawn_134 : decode cX8_drawn 134 = .ok (.iadd, 1) := by decide +kernel
theorem dX8_drawn_135 : decode cX8_drawn 135 = .ok (.istore 8, 2) := by decide +kernel
theorem dX8_drawn_137 : decode cX8_drawn 137 = .ok (.iinc 9 1, 3) := by decide +kernel
theorem dX8_drawn_140 : decode cX8_drawn 140 = .ok (.goto (-63), 3) := by decide +kernel
theorem dX8_drawn_143 : decode cX8_drawn 143 = .ok (.iload 8, 2) := by decide +kernel
theorem dX8_drawn_145 : decode cX8_drawn 145 = .ok (.ireturn, 1) := by decide +kernel
theorem dX8_image_0 : decode cX8_image 0 = .ok (.iload_n 1, 1) := by decide +kernel
theorem dX8_image_1 : decode cX8_image 1 = .ok (.ifCond .lt 8, 3) := by decide +kernel
theorem dX8_image_4 : decode cX8_image 4 = .ok (.iload_n 1, 1) := by decide +kernel
theorem dX8_image_5 : decode cX8_image 5 = .ok (.iconst 2, 1) := by decide +kernel
theorem dX8_image_6 : decode cX8_image 6 = .ok (.if_icmp .lt 6, 3) := by decide +kernel
theorem dX8_image_9 : decode cX8_image 9 = .ok (.ldc 80, 2) := by decide +kernel
theorem dX8_image_11 : decode cX8_image 11 = .ok (.ireturn, 1) := by decide +kernel
theorem dX8_image_12 : decode cX8_image 12 = .ok (.aload_n 0, 1) := by decide +kernel
theorem dX8_image_13 : decode cX8_image 13 = .ok (.getfield 10, 3) := by decide +kernel
theorem dX8_image_16 : decode cX8_image 16 = .ok (.getfield 236, 3) := by decide +kernel
theorem dX8_image_19 : decode cX8_image 19 = .ok (.ifCond .ne 6, 3) := by decide +kernel
theorem dX8_image_22 : decode cX8_image 22 = .ok (.ldc 160, 2) := by decide +kernel
theorem dX8_image_24 : decode cX8_image 24 = .ok (.ireturn, 1) := by decide +kernel
theorem dX8_image_25 : decode cX8_image 25 = .ok (.aload_n 0, 1) := by decide +kernel
theorem dX8_image_26 : decode cX8_image 26 = .ok (.getfield 16, 3) := by decide +kernel
theorem dX8_image_29 : decode cX8_image 29 = .ok (.iload_n 1, 1) := by decide +kernel
theorem dX8_image_30 : decode cX8_image 30 = .ok (.aaload, 1) := by decide +kernel
theorem dX8_image_31 : decode cX8_image 31 = .ok (.aload_n 0, 1) := by decide +kernel
theorem dX8_image_32 : decode cX8_image 32 = .ok (.getfield 10, 3) := by decide +kernel
theorem dX8_image_35 : decode cX8_image 35 = .ok (.invokevirtual 278, 3) := by decide +kernel
theorem dX8_image_38 : decode cX8_image 38 = .ok (.iconst 1, 1) := by decide +kernel
theorem dX8_image_39 : decode cX8_image 39 = .ok (.ireturn, 1) := by decide +kernel
theorem dX8_restore_0 : decode cX8_restore 0 = .ok (.iload_n 1, 1) := by decide +kernel
theorem dX8_restore_1 : decode cX8_restore 1 = .ok (.ifCond .lt 8, 3) := by decide +kernel
theorem dX8_restore_4 : decode cX8_restore 4 = .ok (.iload_n 1, 1) := by decide +kernel
theorem dX8_restore_5 : decode cX8_restore 5 = .ok (.iconst 2, 1) := by decide +kernel
theorem dX8_restore_6 : decode cX8_restore 6 = .ok (.if_icmp .lt 6, 3) := by decide +kernel
theorem dX8_restore_9 : decode cX8_restore 9 = .ok (.ldc 80, 2) := by decide +kernel
theorem dX8_restore_11 : decode cX8_restore 11 = .ok (.ireturn, 1) := by decide +kernel
theorem dX8_restore_12 : decode cX8_restore 12 = .ok (.aload_n 0, 1) := by decide +kernel
theorem dX8_restore_13 : decode cX8_restore 13 = .ok (.getfield 16, 3) := by decide +kernel
theorem dX8_restore_16 : decode cX8_restore 16 = .ok (.iload_n 1, 1) := by decide +kernel
theorem dX8_restore_17 : decode cX8_restore 17 = .ok (.aaload, 1) := by decide +kernel
theorem dX8_restore_18 : decode cX8_restore 18 = .ok (.getfield 236, 3) := by decide +kernel
theorem dX8_restore_21 : decode cX8_restore 21 = .ok (.ifCond .ne 6, 3) := by decide +kernel
theorem dX8_restore_24 : decode cX8_restore 24 = .ok (.ldc 160, 2) := by decide +kernel
theorem dX8_restore_26 : decode cX8_restore 26 = .ok (.ireturn, 1) := by decide +kernel
theorem dX8_restore_27 : decode cX8_restore 27 = .ok (.aload_n 0, 1) := by decide +kernel
theorem dX8_restore_28 : decode cX8_restore 28 = .ok (.aload_n 0, 1) := by decide +kernel
theorem dX8_restore_29 : decode cX8_restore 29 = .ok (.getfield 16, 3) := by decide +kernel
theorem dX8_restore_32 : decode cX8_restore 32 = .ok (.iload_n 1, 1) := by decide +kernel
theorem dX8_restore_33 : decode cX8_restore 33 = .ok (.aaload, 1) := by decide +kernel
theorem dX8_restore_34 : decode cX8_restore 34 = .ok (.invokevirtual 148, 3) := by decide +kernel
theorem dX8_restore_37 : decode cX8_restore 37 = .ok (.iconst 1, 1) := by decide +kernel
theorem dX8_restore_38 : decode cX8_restore 38 = .ok (.ireturn, 1) := by decide +kernel
theorem dX8_kind_0 : decode cX8_kind 0 = .ok (.aload_n 0, 1) := by decide +kernel
theorem dX8_kind_1 : decode cX8_kind 1 = .ok (.getfield 10, 3) := by decide +kernel
theorem dX8_kind_4 : decode cX8_kind 4 = .ok (.iload_n 1, 1) := by decide +kernel
theorem dX8_kind_5 : decode cX8_kind 5 = .ok (.invokevirtual 154, 3) := by decide +kernel
theorem dX8_kind_8 : decode cX8_kind 8 = .ok (.ifCond .eq 15, 3) := by decide +kernel
theorem dX8_kind_11 : decode cX8_kind 11 = .ok (.aload_n 0, 1) := by decide +kernel
theorem dX8_kind_12 : decode cX8_kind 12 = .ok (.getfield 10, 3) := by decide +kernel
theorem dX8_kind_15 : decode cX8_kind 15 = .ok (.getfield 281, 3) := by decide +kernel
theorem dX8_kind_18 : decode cX8_kind 18 = .ok (.iload_n 1, 1) := by decide +kernel
theorem dX8_kind_19 : decode cX8_kind 19 = .ok (.iaload, 1) := by decide +kernel
theorem dX8_kind_20 : decode cX8_kind 20 = .ok (.goto 5, 3) := by decide +kernel
theorem dX8_kind_23 : decode cX8_kind 23 = .ok (.ldc 80, 2) := by decide +kernel
theorem dX8_kind_25 : decode cX8_kind 25 = .ok (.ireturn, 1) := by decide +kernel
theorem dX8_as_0 : decode cX8_as 0 = .ok (.aload_n 0, 1) := by decide +kernel
theorem dX8_as_1 : decode cX8_as 1 = .ok (.getfield 10, 3) := by decide +kernel
theorem dX8_as_4 : decode cX8_as 4 = .ok (.iload_n 1, 1) := by decide +kernel
theorem dX8_as_5 : decode cX8_as 5 = .ok (.invokevirtual 154, 3) := by decide +kernel
theorem dX8_as_8 : decode cX8_as 8 = .ok (.ifCond .eq 12, 3) := by decide +kernel
theorem dX8_as_11 : decode cX8_as 11 = .ok (.iload_n 2, 1) := by decide +kernel
theorem dX8_as_12 : decode cX8_as 12 = .ok (.ifCond .lt 8, 3) := by decide +kernel
theorem dX8_as_15 : decode cX8_as 15 = .ok (.iload_n 2, 1) := by decide +kernel
theorem dX8_as_16 : decode cX8_as 16 = .ok (.iconst 5, 1) := by decide +kernel
theorem dX8_as_17 : decode cX8_as 17 = .ok (.if_icmp .le 6, 3) := by decide +kernel
theorem dX8_as_20 : decode cX8_as 20 = .ok (.ldc 80, 2) := by decide +kernel
theorem dX8_as_22 : decode cX8_as 22 = .ok (.ireturn, 1) := by decide +kernel
theorem dX8_as_23 : decode cX8_as 23 = .ok (.aload_n 0, 1) := by decide +kernel
theorem dX8_as_24 : decode cX8_as 24 = .ok (.getfield 10, 3) := by decide +kernel
theorem dX8_as_27 : decode cX8_as 27 = .ok (.iload_n 1, 1) := by decide +kernel
theorem dX8_as_28 : decode cX8_as 28 = .ok (.iload_n 2, 1) := by decide +kernel
theorem dX8_as_29 : decode cX8_as 29 = .ok (.invokevirtual 284, 3) := by decide +kernel
theorem dX8_as_32 : decode cX8_as 32 = .ok (.ifCond .eq 11, 3) := by decide +kernel
theorem dX8_as_35 : decode cX8_as 35 = .ok (.aload_n 0, 1) := by decide +kernel
theorem dX8_as_36 : decode cX8_as 36 = .ok (.iload_n 1, 1) := by decide +kernel
theorem dX8_as_37 : decode cX8_as 37 = .ok (.invokevirtual 89, 3) := by decide +kernel
theorem dX8_as_40 : decode cX8_as 40 = .ok (.goto 8, 3) := by decide +kernel
theorem dX8_as_43 : decode cX8_as 43 = .ok (.aload_n 0, 1) := by decide +kernel
theorem dX8_as_44 : decode cX8_as 44 = .ok (.iconst 3, 1) := by decide +kernel
theorem dX8_as_45 : decode cX8_as 45 = .ok (.invokevirtual 81, 3) := by decide +kernel
theorem dX8_as_48 : decode cX8_as 48 = .ok (.ireturn, 1) := by decide +kernel
theorem dX8_ask_0 : decode cX8_ask 0 = .ok (.aload_n 0, 1) := by decide +kernel
theorem dX8_ask_1 : decode cX8_ask 1 = .ok (.getfield 10, 3) := by decide +kernel
theorem dX8_ask_4 : decode cX8_ask 4 = .ok (.iload_n 1, 1) := by decide +kernel
theorem dX8_ask_5 : decode cX8_ask 5 = .ok (.invokevirtual 154, 3) := by decide +kernel
theorem dX8_ask_8 : decode cX8_ask 8 = .ok (.ifCond .eq 12, 3) := by decide +kernel
theorem dX8_ask_11 : decode cX8_ask 11 = .ok (.iload_n 2, 1) := by decide +kernel
theorem dX8_ask_12 : decode cX8_ask 12 = .ok (.ifCond .lt 8, 3) := by decide +kernel
theorem dX8_ask_15 : decode cX8_ask 15 = .ok (.iload_n 2, 1) := by decide +kernel
theorem dX8_ask_16 : decode cX8_ask 16 = .ok (.iconst 1, 1) := by decide +kernel
theorem dX8_ask_17 : decode cX8_ask 17 = .ok (.if_icmp .le 6, 3) := by decide +kernel
theorem dX8_ask_20 : decode cX8_ask 20 = .ok (.ldc 80, 2) := by decide +kernel
theorem dX8_ask_22 : decode cX8_ask 22 = .ok (.ireturn, 1) := by decide +kernel
theorem dX8_ask_23 : decode cX8_ask 23 = .ok (.aload_n 0, 1) := by decide +kernel
theorem dX8_ask_24 : decode cX8_ask 24 = .ok (.getfield 69, 3) := by decide +kernel
theorem dX8_ask_27 : decode cX8_ask 27 = .ok (.iconst 0, 1) := by decide +kernel
theorem dX8_ask_28 : decode cX8_ask 28 = .ok (.putfield 287, 3) := by decide +kernel
theorem dX8_ask_31 : decode cX8_ask 31 = .ok (.iload_n 2, 1) := by decide +kernel
theorem dX8_ask_32 : decode cX8_ask 32 = .ok (.ifCond .ne 14, 3) := by decide +kernel
theorem dX8_ask_35 : decode cX8_ask 35 = .ok (.aload_n 0, 1) := by decide +kernel
theorem dX8_ask_36 : decode cX8_ask 36 = .ok (.getfield 69, 3) := by decide +kernel
theorem dX8_ask_39 : decode cX8_ask 39 = .ok (.iload_n 1, 1) := by decide +kernel
theorem dX8_ask_40 : decode cX8_ask 40 = .ok (.invokevirtual 290, 3) := by decide +kernel
theorem dX8_ask_43 : decode cX8_ask 43 = .ok (.goto 11, 3) := by decide +kernel
theorem dX8_ask_46 : decode cX8_ask 46 = .ok (.aload_n 0, 1) := by decide +kernel
theorem dX8_ask_47 : decode cX8_ask 47 = .ok (.getfield 69, 3) := by decide +kernel
theorem dX8_ask_50 : decode cX8_ask 50 = .ok (.iload_n 1, 1) := by decide +kernel
theorem dX8_ask_51 : decode cX8_ask 51 = .ok (.invokevirtual 293, 3) := by decide +kernel
theorem dX8_ask_54 : decode cX8_ask 54 = .ok (.ireturn, 1) := by decide +kernel
theorem dX8_trace_0 : decode cX8_trace 0 = .ok (.iload_n 1, 1) := by decide +kernel
theorem dX8_trace_1 : decode cX8_trace 1 = .ok (.ifCond .lt 26, 3) := by decide +kernel
theorem dX8_trace_4 : decode cX8_trace 4 = .ok (.iload_n 1, 1) := by decide +kernel
theorem dX8_trace_5 : decode cX8_trace 5 = .ok (.aload_n 0, 1) := by decide +kernel
theorem dX8_trace_6 : decode cX8_trace 6 = .ok (.getfield 69, 3) := by decide +kernel
theorem dX8_trace_9 : decode cX8_trace 9 = .ok (.getfield 287, 3) := by decide +kernel
theorem dX8_trace_12 : decode cX8_trace 12 = .ok (.if_icmp .ge 15, 3) := by decide +kernel
theorem dX8_trace_15 : decode cX8_trace 15 = .ok (.aload_n 0, 1) := by decide +kernel
theorem dX8_trace_16 : decode cX8_trace 16 = .ok (.getfield 69, 3) := by decide +kernel
theorem dX8_trace_19 : decode cX8_trace 19 = .ok (.getfield 296, 3) := by decide +kernel
theorem dX8_trace_22 : decode cX8_trace 22 = .ok (.iload_n 1, 1) := by decide +kernel
theorem dX8_trace_23 : decode cX8_trace 23 = .ok (.iaload, 1) := by decide +kernel
theorem dX8_trace_24 : decode cX8_trace 24 = .ok (.goto 5, 3) := by decide +kernel
theorem dX8_trace_27 : decode cX8_trace 27 = .ok (.ldc 203, 2) := by decide +kernel
theorem dX8_trace_29 : decode cX8_trace 29 = .ok (.ireturn, 1) := by decide +kernel
theorem dX8_count_0 : decode cX8_count 0 = .ok (.iload_n 1, 1) := by decide +kernel
theorem dX8_count_1 : decode cX8_count 1 = .ok (.tableswitch 87 0 5 #[39, 47, 55, 63, 71, 79], 39) := by decide +kernel
theorem dX8_count_40 : decode cX8_count 40 = .ok (.aload_n 0, 1) := by decide +kernel
theorem dX8_count_41 : decode cX8_count 41 = .ok (.getfield 23, 3) := by decide +kernel
theorem dX8_count_44 : decode cX8_count 44 = .ok (.invokevirtual 299, 3) := by decide +kernel
theorem dX8_count_47 : decode cX8_count 47 = .ok (.ireturn, 1) := by decide +kernel
theorem dX8_count_48 : decode cX8_count 48 = .ok (.aload_n 0, 1) := by decide +kernel
theorem dX8_count_49 : decode cX8_count 49 = .ok (.getfield 10, 3) := by decide +kernel
theorem dX8_count_52 : decode cX8_count 52 = .ok (.getfield 236, 3) := by decide +kernel
theorem dX8_count_55 : decode cX8_count 55 = .ok (.ireturn, 1) := by decide +kernel
theorem dX8_count_56 : decode cX8_count 56 = .ok (.aload_n 0, 1) := by decide +kernel
theorem dX8_count_57 : decode cX8_count 57 = .ok (.getfield 10, 3) := by decide +kernel
theorem dX8_count_60 : decode cX8_count 60 = .ok (.getfield 151, 3) := by decide +kernel
theorem dX8_count_63 : decode cX8_count 63 = .ok (.ireturn, 1) := by decide +kernel
theorem dX8_count_64 : decode cX8_count 64 = .ok (.aload_n 0, 1) := by decide +kernel
theorem dX8_count_65 : decode cX8_count 65 = .ok (.getfield 10, 3) := by decide +kernel
theorem dX8_count_68 : decode cX8_count 68 = .ok (.getfield 167, 3) := by decide +kernel
theorem dX8_count_71 : decode cX8_count 71 = .ok (.ireturn, 1) := by decide +kernel
theorem dX8_count_72 : decode cX8_count 72 = .ok (.aload_n 0, 1) := by decide +kernel
theorem dX8_count_73 : decode cX8_count 73 = .ok (.getfield 37, 3) := by decide +kernel
theorem dX8_count_76 : decode cX8_count 76 = .ok (.getfield 179, 3) := by decide +kernel
theorem dX8_count_79 : decode cX8_count 79 = .ok (.ireturn, 1) := by decide +kernel
theorem dX8_count_80 : decode cX8_count 80 = .ok (.aload_n 0, 1) := by decide +kernel
theorem dX8_count_81 : decode cX8_count 81 = .ok (.getfield 30, 3) := by decide +kernel
theorem dX8_count_84 : decode cX8_count 84 = .ok (.getfield 302, 3) := by decide +kernel
theorem dX8_count_87 : decode cX8_count 87 = .ok (.ireturn, 1) := by decide +kernel
theorem dX8_count_88 : decode cX8_count 88 = .ok (.ldc 80, 2) := by decide +kernel
theorem dX8_count_90 : decode cX8_count 90 = .ok (.ireturn, 1) := by decide +kernel
theorem dX8_status_0 : decode cX8_status 0 = .ok (.aload_n 0, 1) := by decide +kernel
theorem dX8_status_1 : decode cX8_status 1 = .ok (.getfield 305, 3) := by decide +kernel
theorem dX8_status_4 : decode cX8_status 4 = .ok (.ireturn, 1) := by decide +kernel
theorem dX8_found_0 : decode cX8_found 0 = .ok (.aload_n 0, 1) := by decide +kernel
theorem dX8_found_1 : decode cX8_found 1 = .ok (.iload_n 1, 1) := by decide +kernel
theorem dX8_found_2 : decode cX8_found 2 = .ok (.putfield 305, 3) := by decide +kernel
theorem dX8_found_5 : decode cX8_found 5 = .ok (.ldc_w 308, 3) := by decide +kernel
theorem dX8_found_8 : decode cX8_found 8 = .ok (.iload_n 1, 1) := by decide +kernel
theorem dX8_found_9 : decode cX8_found 9 = .ok (.isub, 1) := by decide +kernel
theorem dX8_found_10 : decode cX8_found 10 = .ok (.ireturn, 1) := by decide +kernel
theorem dX8_unfound_0 : decode cX8_unfound 0 = .ok (.aload_n 0, 1) := by decide +kernel
theorem dX8_unfound_1 : decode cX8_unfound 1 = .ok (.iconst 0, 1) := by decide +kernel
theorem dX8_unfound_2 : decode cX8_unfound 2 = .ok (.putfield 305, 3) := by decide +kernel
theorem dX8_unfound_5 : decode cX8_unfound 5 = .ok (.iload_n 1, 1) := by decide +kernel
theorem dX8_unfound_6 : decode cX8_unfound 6 = .ok (.ireturn, 1) := by decide +kernel
theorem dX8_standAs_0 : decode cX8_standAs 0 = .ok (.aload_n 0, 1) := by decide +kernel
theorem dX8_standAs_1 : decode cX8_standAs 1 = .ok (.getfield 10, 3) := by decide +kernel
theorem dX8_standAs_4 : decode cX8_standAs 4 = .ok (.aload_n 1, 1) := by decide +kernel
theorem dX8_standAs_5 : decode cX8_standAs 5 = .ok (.invokevirtual 278, 3) := by decide +kernel
theorem dX8_standAs_8 : decode cX8_standAs 8 = .ok (.aload_n 0, 1) := by decide +kernel
theorem dX8_standAs_9 : decode cX8_standAs 9 = .ok (.getfield 37, 3) := by decide +kernel
theorem dX8_standAs_12 : decode cX8_standAs 12 = .ok (.iconst 0, 1) := by decide +kernel
theorem dX8_standAs_13 : decode cX8_standAs 13 = .ok (.putfield 179, 3) := by decide +kernel
theorem dX8_standAs_16 : decode cX8_standAs 16 = .ok (.aload_n 0, 1) := by decide +kernel
theorem dX8_standAs_17 : decode cX8_standAs 17 = .ok (.getfield 53, 3) := by decide +kernel
theorem dX8_standAs_20 : decode cX8_standAs 20 = .ok (.iconst 0, 1) := by decide +kernel
theorem dX8_standAs_21 : decode cX8_standAs 21 = .ok (.putfield 309, 3) := by decide +kernel
theorem dX8_standAs_24 : decode cX8_standAs 24 = .ok (.return_, 1) := by decide +kernel
theorem dX8_change_0 : decode cX8_change 0 = .ok (.iload_n 1, 1) := by decide +kernel
theorem dX8_change_1 : decode cX8_change 1 = .ok (.lookupswitch 52 #[(0, 27), (1, 39)], 27) := by decide +kernel
theorem dX8_change_28 : decode cX8_change 28 = .ok (.aload_n 0, 1) := by decide +kernel
theorem dX8_change_29 : decode cX8_change 29 = .ok (.getfield 10, 3) := by decide +kernel
theorem dX8_change_32 : decode cX8_change 32 = .ok (.iload_n 2, 1) := by decide +kernel
theorem dX8_change_33 : decode cX8_change 33 = .ok (.iload_n 3, 1) := by decide +kernel
theorem dX8_change_34 : decode cX8_change 34 = .ok (.invokevirtual 313, 3) := by decide +kernel
theorem dX8_change_37 : decode cX8_change 37 = .ok (.goto 33, 3) := by decide +kernel
theorem dX8_change_40 : decode cX8_change 40 = .ok (.aload_n 0, 1) := by decide +kernel
theorem dX8_change_41 : decode cX8_change 41 = .ok (.getfield 10, 3) := by decide +kernel
theorem dX8_change_44 : decode cX8_change 44 = .ok (.getfield 170, 3) := by decide +kernel
theorem dX8_change_47 : decode cX8_change 47 = .ok (.iload_n 2, 1) := by decide +kernel
theorem dX8_change_48 : decode cX8_change 48 = .ok (.iload_n 3, 1) := by decide +kernel
theorem dX8_change_49 : decode cX8_change 49 = .ok (.iastore, 1) := by decide +kernel
theorem dX8_change_50 : decode cX8_change 50 = .ok (.goto 20, 3) := by decide +kernel
theorem dX8_change_53 : decode cX8_change 53 = .ok (.aload_n 0, 1) := by decide +kernel
theorem dX8_change_54 : decode cX8_change 54 = .ok (.getfield 10, 3) := by decide +kernel
theorem dX8_change_57 : decode cX8_change 57 = .ok (.getfield 176, 3) := by decide +kernel
theorem dX8_change_60 : decode cX8_change 60 = .ok (.iload_n 2, 1) := by decide +kernel
theorem dX8_change_61 : decode cX8_change 61 = .ok (.iload_n 3, 1) := by decide +kernel
theorem dX8_change_62 : decode cX8_change 62 = .ok (.iastore, 1) := by decide +kernel
theorem dX8_change_63 : decode cX8_change 63 = .ok (.aload_n 0, 1) := by decide +kernel
theorem dX8_change_64 : decode cX8_change 64 = .ok (.getfield 10, 3) := by decide +kernel
theorem dX8_change_67 : decode cX8_change 67 = .ok (.invokevirtual 317, 3) := by decide +kernel
theorem dX8_change_70 : decode cX8_change 70 = .ok (.aload_n 0, 1) := by decide +kernel
theorem dX8_change_71 : decode cX8_change 71 = .ok (.getfield 53, 3) := by decide +kernel
theorem dX8_change_74 : decode cX8_change 74 = .ok (.iconst 0, 1) := by decide +kernel
theorem dX8_change_75 : decode cX8_change 75 = .ok (.putfield 309, 3) := by decide +kernel
theorem dX8_change_78 : decode cX8_change 78 = .ok (.return_, 1) := by decide +kernel
theorem dX9_init_0 : decode cX9_init 0 = .ok (.aload_n 0, 1) := by decide +kernel
theorem dX9_init_1 : decode cX9_init 1 = .ok (.invokespecial 1, 3) := by decide +kernel
theorem dX9_init_4 : decode cX9_init 4 = .ok (.aload_n 0, 1) := by decide +kernel
theorem dX9_init_5 : decode cX9_init 5 = .ok (.sipush 2324, 3) := by decide +kernel
theorem dX9_init_8 : decode cX9_init 8 = .ok (.newarray .int, 2) := by decide +kernel
theorem dX9_init_10 : decode cX9_init 10 = .ok (.putfield 7, 3) := by decide +kernel
theorem dX9_init_13 : decode cX9_init 13 = .ok (.aload_n 0, 1) := by decide +kernel
theorem dX9_init_14 : decode cX9_init 14 = .ok (.sipush 140, 3) := by decide +kernel
theorem dX9_init_17 : decode cX9_init 17 = .ok (.newarray .int, 2) := by decide +kernel
theorem dX9_init_19 : decode cX9_init 19 = .ok (.putfield 13, 3) := by decide +kernel
theorem dX9_init_22 : decode cX9_init 22 = .ok (.aload_n 0, 1) := by decide +kernel
theorem dX9_init_23 : decode cX9_init 23 = .ok (.bipush 8, 2) := by decide +kernel
theorem dX9_init_25 : decode cX9_init 25 = .ok (.newarray .int, 2) := by decide +kernel
theorem dX9_init_27 : decode cX9_init 27 = .ok (.putfield 16, 3) := by decide +kernel
theorem dX9_init_30 : decode cX9_init 30 = .ok (.aload_n 0, 1) := by decide +kernel
theorem dX9_init_31 : decode cX9_init 31 = .ok (.bipush 8, 2) := by decide +kernel
theorem dX9_init_33 : decode cX9_init 33 = .ok (.newarray .int, 2) := by decide +kernel
theorem dX9_init_35 : decode cX9_init 35 = .ok (.putfield 19, 3) := by decide +kernel
theorem dX9_init_38 : decode cX9_init 38 = .ok (.aload_n 0, 1) := by decide +kernel
theorem dX9_init_39 : decode cX9_init 39 = .ok (.sipush 320, 3) := by decide +kernel
theorem dX9_init_42 : decode cX9_init 42 = .ok (.newarray .int, 2) := by decide +kernel
theorem dX9_init_44 : decode cX9_init 44 = .ok (.putfield 22, 3) := by decide +kernel
theorem dX9_init_47 : decode cX9_init 47 = .ok (.aload_n 0, 1) := by decide +kernel
theorem dX9_init_48 : decode cX9_init 48 = .ok (.bipush 40, 2) := by decide +kernel
theorem dX9_init_50 : decode cX9_init 50 = .ok (.newarray .int, 2) := by decide +kernel
theorem dX9_init_52 : decode cX9_init 52 = .ok (.putfield 25, 3) := by decide +kernel
theorem dX9_init_55 : decode cX9_init 55 = .ok (.aload_n 0, 1) := by decide +kernel
theorem dX9_init_56 : decode cX9_init 56 = .ok (.sipush 200, 3) := by decide +kernel
theorem dX9_init_59 : decode cX9_init 59 = .ok (.newarray .long, 2) := by decide +kernel
theorem dX9_init_61 : decode cX9_init 61 = .ok (.putfield 28, 3) := by decide +kernel
theorem dX9_init_64 : decode cX9_init 64 = .ok (.aload_n 0, 1) := by decide +kernel
theorem dX9_init_65 : decode cX9_init 65 = .ok (.bipush 64, 2) := by decide +kernel
theorem dX9_init_67 : decode cX9_init 67 = .ok (.newarray .int, 2) := by decide +kernel
theorem dX9_init_69 : decode cX9_init 69 = .ok (.putfield 32, 3) := by decide +kernel
theorem dX9_init_72 : decode cX9_init 72 = .ok (.aload_n 0, 1) := by decide +kernel
theorem dX9_init_73 : decode cX9_init 73 = .ok (.sipush 1650, 3) := by decide +kernel
theorem dX9_init_76 : decode cX9_init 76 = .ok (.newarray .long, 2) := by decide +kernel
theorem dX9_init_78 : decode cX9_init 78 = .ok (.putfield 35, 3) := by decide +kernel
theorem dX9_init_81 : decode cX9_init 81 = .ok (.aload_n 0, 1) := by decide +kernel
theorem dX9_init_82 : decode cX9_init 82 = .ok (.bipush 64, 2) := by decide +kernel
theorem dX9_init_84 : decode cX9_init 84 = .ok (.newarray .int, 2) := by decide +kernel
theorem dX9_init_86 : decode cX9_init 86 = .ok (.putfield 38, 3) := by decide +kernel
theorem dX9_init_89 : decode cX9_init 89 = .ok (.aload_n 0, 1) := by decide +kernel
theorem dX9_init_90 : decode cX9_init 90 = .ok (.iconst 2, 1) := by decide +kernel
theorem dX9_init_91 : decode cX9_init 91 = .ok (.newarray .boolean, 2) := by decide +kernel
theorem dX9_init_93 : decode cX9_init 93 = .ok (.putfield 41, 3) := by decide +kernel
theorem dX9_init_96 : decode cX9_init 96 = .ok (.aload_n 0, 1) := by decide +kernel
theorem dX9_init_97 : decode cX9_init 97 = .ok (.bipush 16, 2) := by decide +kernel
theorem dX9_init_99 : decode cX9_init 99 = .ok (.newarray .int, 2) := by decide +kernel
theorem dX9_init_101 : decode cX9_init 101 = .ok (.putfield 45, 3) := by decide +kernel
theorem dX9_init_104 : decode cX9_init 104 = .ok (.iconst 0, 1) := by decide +kernel
theorem dX9_init_105 : decode cX9_init 105 = .ok (.istore_n 1, 1) := by decide +kernel
theorem dX9_init_106 : decode cX9_init 106 = .ok (.iload_n 1, 1) := by decide +kernel
theorem dX9_init_107 : decode cX9_init 107 = .ok (.bipush 8, 2) := by decide +kernel
theorem dX9_init_109 : decode cX9_init 109 = .ok (.if_icmp .ge 16, 3) := by decide +kernel
theorem dX9_init_112 : decode cX9_init 112 = .ok (.aload_n 0, 1) := by decide +kernel
theorem dX9_init_113 : decode cX9_init 113 = .ok (.getfield 16, 3) := by decide +kernel
theorem dX9_init_116 : decode cX9_init 116 = .ok (.iload_n 1, 1) := by decide +kernel
theorem dX9_init_117 : decode cX9_init 117 = .ok (.iconst (-1), 1) := by decide +kernel
theorem dX9_init_118 : decode cX9_init 118 = .ok (.iastore, 1) := by decide +kernel
theorem dX9_init_119 : decode cX9_init 119 = .ok (.iinc 1 1, 3) := by decide +kernel
theorem dX9_init_122 : decode cX9_init 122 = .ok (.goto (-16), 3) := by decide +kernel
theorem dX9_init_125 : decode cX9_init 125 = .ok (.return_, 1) := by decide +kernel
theorem dX9_in_0 : decode cX9_in 0 = .ok (.lload_n 0, 1) := by decide +kernel
theorem dX9_in_1 : decode cX9_in 1 = .ok (.lload_n 2, 1) := by decide +kernel
theorem dX9_in_2 : decode cX9_in 2 = .ok (.lcmp, 1) := by decide +kernel
theorem dX9_in_3 : decode cX9_in 3 = .ok (.ifCond .lt 14, 3) := by decide +kernel
theorem dX9_in_6 : decode cX9_in 6 = .ok (.lload_n 0, 1) := by decide +kernel
theorem dX9_in_7 : decode cX9_in 7 = .ok (.lload 4, 2) := by decide +kernel
theorem dX9_in_9 : decode cX9_in 9 = .ok (.lcmp, 1) := by decide +kernel
theorem dX9_in_10 : decode cX9_in 10 = .ok (.ifCond .gt 7, 3) := by decide +kernel
theorem dX9_in_13 : decode cX9_in 13 = .ok (.iconst 1, 1) := by decide +kernel
theorem dX9_in_14 : decode cX9_in 14 = .ok (.goto 4, 3) := by decide +kernel
theorem dX9_in_17 : decode cX9_in 17 = .ok (.iconst 0, 1) := by decide +kernel
theorem dX9_in_18 : decode cX9_in 18 = .ok (.ireturn, 1) := by decide +kernel
theorem dX9_has_0 : decode cX9_has 0 = .ok (.iload_n 0, 1) := by decide +kernel
theorem dX9_has_1 : decode cX9_has 1 = .ok (.iload_n 1, 1) := by decide +kernel
theorem dX9_has_2 : decode cX9_has 2 = .ok (.ishr, 1) := by decide +kernel
theorem dX9_has_3 : decode cX9_has 3 = .ok (.iconst 1, 1) := by decide +kernel
theorem dX9_has_4 : decode cX9_has 4 = .ok (.iand, 1) := by decide +kernel
theorem dX9_has_5 : decode cX9_has 5 = .ok (.iconst 1, 1) := by decide +kernel
theorem dX9_has_6 : decode cX9_has 6 = .ok (.if_icmp .ne 7, 3) := by decide +kernel
theorem dX9_has_9 : decode cX9_has 9 = .ok (.iconst 1, 1) := by decide +kernel
theorem dX9_has_10 : decode cX9_has 10 = .ok (.goto 4, 3) := by decide +kernel
theorem dX9_has_13 : decode cX9_has 13 = .ok (.iconst 0, 1) := by decide +kernel
theorem dX9_has_14 : decode cX9_has 14 = .ok (.ireturn, 1) := by decide +kernel
theorem dX9_copyOf_0 : decode cX9_copyOf 0 = .ok (.iconst 0, 1) := by decide +kernel
theorem dX9_copyOf_1 : decode cX9_copyOf 1 = .ok (.istore_n 3, 1) := by decide +kernel
theorem dX9_copyOf_2 : decode cX9_copyOf 2 = .ok (.iload_n 3, 1) := by decide +kernel
theorem dX9_copyOf_3 : decode cX9_copyOf 3 = .ok (.bipush 83, 2) := by decide +kernel
theorem dX9_copyOf_5 : decode cX9_copyOf 5 = .ok (.if_icmp .ge 25, 3) := by decide +kernel
theorem dX9_copyOf_8 : decode cX9_copyOf 8 = .ok (.aload_n 0, 1) := by decide +kernel
theorem dX9_copyOf_9 : decode cX9_copyOf 9 = .ok (.getfield 7, 3) := by decide +kernel
theorem dX9_copyOf_12 : decode cX9_copyOf 12 = .ok (.iload_n 2, 1) := by decide +kernel
theorem dX9_copyOf_13 : decode cX9_copyOf 13 = .ok (.iload_n 3, 1) := by decide +kernel
theorem dX9_copyOf_14 : decode cX9_copyOf 14 = .ok (.iadd, 1) := by decide +kernel
theorem dX9_copyOf_15 : decode cX9_copyOf 15 = .ok (.aload_n 0, 1) := by decide +kernel
theorem dX9_copyOf_16 : decode cX9_copyOf 16 = .ok (.getfield 7, 3) := by decide +kernel
theorem dX9_copyOf_19 : decode cX9_copyOf 19 = .ok (.iload_n 1, 1) := by decide +kernel
theorem dX9_copyOf_20 : decode cX9_copyOf 20 = .ok (.iload_n 3, 1) := by decide +kernel
theorem dX9_copyOf_21 : decode cX9_copyOf 21 = .ok (.iadd, 1) := by decide +kernel
theorem dX9_copyOf_22 : decode cX9_copyOf 22 = .ok (.iaload, 1) := by decide +kernel
theorem dX9_copyOf_23 : decode cX9_copyOf 23 = .ok (.iastore, 1) := by decide +kernel
theorem dX9_copyOf_24 : decode cX9_copyOf 24 = .ok (.iinc 3 1, 3) := by decide +kernel
theorem dX9_copyOf_27 : decode cX9_copyOf 27 = .ok (.goto (-25), 3) := by decide +kernel
theorem dX9_copyOf_30 : decode cX9_copyOf 30 = .ok (.return_, 1) := by decide +kernel
theorem dX9_isMember_0 : decode cX9_isMember 0 = .ok (.iload_n 1, 1) := by decide +kernel
theorem dX9_isMember_1 : decode cX9_isMember 1 = .ok (.i2l, 1) := by decide +kernel
theorem dX9_isMember_2 : decode cX9_isMember 2 = .ok (.lconst 0, 1) := by decide +kernel
theorem dX9_isMember_3 : decode cX9_isMember 3 = .ok (.aload_n 0, 1) := by decide +kernel
theorem dX9_isMember_4 : decode cX9_isMember 4 = .ok (.getfield 7, 3) := by decide +kernel
theorem dX9_isMember_7 : decode cX9_isMember 7 = .ok (.iconst 1, 1) := by decide +kernel
theorem dX9_isMember_8 : decode cX9_isMember 8 = .ok (.iaload, 1) := by decide +kernel
theorem dX9_isMember_9 : decode cX9_isMember 9 = .ok (.iconst 1, 1) := by decide +kernel
theorem dX9_isMember_10 : decode cX9_isMember 10 = .ok (.isub, 1) := by decide +kernel
theorem dX9_isMember_11 : decode cX9_isMember 11 = .ok (.i2l, 1) := by decide +kernel
theorem dX9_isMember_12 : decode cX9_isMember 12 = .ok (.invokestatic 48, 3) := by decide +kernel
theorem dX9_isMember_15 : decode cX9_isMember 15 = .ok (.ireturn, 1) := by decide +kernel
theorem dX9_isType_0 : decode cX9_isType 0 = .ok (.iload_n 1, 1) := by decide +kernel
theorem dX9_isType_1 : decode cX9_isType 1 = .ok (.i2l, 1) := by decide +kernel
theorem dX9_isType_2 : decode cX9_isType 2 = .ok (.lconst 0, 1) := by decide +kernel
theorem dX9_isType_3 : decode cX9_isType 3 = .ok (.aload_n 0, 1) := by decide +kernel
theorem dX9_isType_4 : decode cX9_isType 4 = .ok (.getfield 7, 3) := by decide +kernel
theorem dX9_isType_7 : decode cX9_isType 7 = .ok (.iconst 0, 1) := by decide +kernel
theorem dX9_isType_8 : decode cX9_isType 8 = .ok (.iaload, 1) := by decide +kernel
theorem dX9_isType_9 : decode cX9_isType 9 = .ok (.iconst 1, 1) := by decide +kernel
theorem dX9_isType_10 : decode cX9_isType 10 = .ok (.isub, 1) := by decide +kernel
theorem dX9_isType_11 : decode cX9_isType 11 = .ok (.i2l, 1) := by decide +kernel
theorem dX9_isType_12 : decode cX9_isType 12 = .ok (.invokestatic 48, 3) := by decide +kernel
theorem dX9_isType_15 : decode cX9_isType 15 = .ok (.ireturn, 1) := by decide +kernel
theorem dX9_isWorld_0 : decode cX9_isWorld 0 = .ok (.aload_n 0, 1) := by decide +kernel
theorem dX9_isWorld_1 : decode cX9_isWorld 1 = .ok (.getfield 7, 3) := by decide +kernel
theorem dX9_isWorld_4 : decode cX9_isWorld 4 = .ok (.iconst 1, 1) := by decide +kernel
theorem dX9_isWorld_5 : decode cX9_isWorld 5 = .ok (.iaload, 1) := by decide +kernel
theorem dX9_isWorld_6 : decode cX9_isWorld 6 = .ok (.ifCond .le 7, 3) := by decide +kernel
theorem dX9_isWorld_9 : decode cX9_isWorld 9 = .ok (.iconst 1, 1) := by decide +kernel
theorem dX9_isWorld_10 : decode cX9_isWorld 10 = .ok (.goto 4, 3) := by decide +kernel
theorem dX9_isWorld_13 : decode cX9_isWorld 13 = .ok (.iconst 0, 1) := by decide +kernel
theorem dX9_isWorld_14 : decode cX9_isWorld 14 = .ok (.ireturn, 1) := by decide +kernel
theorem dX9_isRow_0 : decode cX9_isRow 0 = .ok (.iload_n 0, 1) := by decide +kernel
theorem dX9_isRow_1 : decode cX9_isRow 1 = .ok (.i2l, 1) := by decide +kernel
theorem dX9_isRow_2 : decode cX9_isRow 2 = .ok (.lconst 0, 1) := by decide +kernel
theorem dX9_isRow_3 : decode cX9_isRow 3 = .ok (.ldc2_w 52, 3) := by decide +kernel
theorem dX9_isRow_6 : decode cX9_isRow 6 = .ok (.invokestatic 48, 3) := by decide +kernel
theorem dX9_isRow_9 : decode cX9_isRow 9 = .ok (.ireturn, 1) := by decide +kernel
theorem dX9_finds_0 : decode cX9_finds 0 = .ok (.aload_n 0, 1) := by decide +kernel
theorem dX9_finds_1 : decode cX9_finds 1 = .ok (.iload_n 1, 1) := by decide +kernel
theorem dX9_finds_2 : decode cX9_finds 2 = .ok (.putfield 54, 3) := by decide +kernel
theorem dX9_finds_5 : decode cX9_finds 5 = .ok (.ldc 58, 2) := by decide +kernel
theorem dX9_finds_7 : decode cX9_finds 7 = .ok (.iload_n 1, 1) := by decide +kernel
theorem dX9_finds_8 : decode cX9_finds 8 = .ok (.isub, 1) := by decide +kernel
theorem dX9_finds_9 : decode cX9_finds 9 = .ok (.ireturn, 1) := by decide +kernel
theorem dX9_against_0 : decode cX9_against 0 = .ok (.aload_n 0, 1) := by decide +kernel
theorem dX9_against_1 : decode cX9_against 1 = .ok (.getfield 16, 3) := by decide +kernel
theorem dX9_against_4 : decode cX9_against 4 = .ok (.iload_n 1, 1) := by decide +kernel
theorem dX9_against_5 : decode cX9_against 5 = .ok (.iaload, 1) := by decide +kernel
theorem dX9_against_6 : decode cX9_against 6 = .ok (.ifCond .ge 7, 3) := by decide +kernel
theorem dX9_against_9 : decode cX9_against 9 = .ok (.iconst 1, 1) := by decide +kernel
theorem dX9_against_10 : decode cX9_against 10 = .ok (.goto 32, 3) := by decide +kernel
theorem dX9_against_13 : decode cX9_against 13 = .ok (.iload_n 2, 1) := by decide +kernel
theorem dX9_against_14 : decode cX9_against 14 = .ok (.ifCond .lt 23, 3) := by decide +kernel
theorem dX9_against_17 : decode cX9_against 17 = .ok (.iload_n 3, 1) := by decide +kernel
theorem dX9_against_18 : decode cX9_against 18 = .ok (.ifCond .lt 19, 3) := by decide +kernel
theorem dX9_against_21 : decode cX9_against 21 = .ok (.iload_n 2, 1) := by decide +kernel
theorem dX9_against_22 : decode cX9_against 22 = .ok (.i2l, 1) := by decide +kernel
theorem dX9_against_23 : decode cX9_against 23 = .ok (.iload_n 3, 1) := by decide +kernel
theorem dX9_against_24 : decode cX9_against 24 = .ok (.i2l, 1) := by decide +kernel
theorem dX9_against_25 : decode cX9_against 25 = .ok (.ladd, 1) := by decide +kernel
theorem dX9_against_26 : decode cX9_against 26 = .ok (.aload_n 0, 1) := by decide +kernel
theorem dX9_against_27 : decode cX9_against 27 = .ok (.getfield 16, 3) := by decide +kernel
theorem dX9_against_30 : decode cX9_against 30 = .ok (.iload_n 1, 1) := by decide +kernel
theorem dX9_against_31 : decode cX9_against 31 = .ok (.iaload, 1) := by decide +kernel
theorem dX9_against_32 : decode cX9_against 32 = .ok (.i2l, 1) := by decide +kernel
theorem dX9_against_33 : decode cX9_against 33 = .ok (.lcmp, 1) := by decide +kernel
theorem dX9_against_34 : decode cX9_against 34 = .ok (.ifCond .le 7, 3) := by decide +kernel
theorem dX9_against_37 : decode cX9_against 37 = .ok (.iconst 2, 1) := by decide +kernel
theorem dX9_against_38 : decode cX9_against 38 = .ok (.goto 4, 3) := by decide +kernel
theorem dX9_against_41 : decode cX9_against 41 = .ok (.iconst 0, 1) := by decide +kernel
theorem dX9_against_42 : decode cX9_against 42 = .ok (.ireturn, 1) := by decide +kernel
theorem dX9_row_0 : decode cX9_row 0 = .ok (.iload_n 1, 1) := by decide +kernel
theorem dX9_row_1 : decode cX9_row 1 = .ok (.invokestatic 59, 3) := by decide +kernel
theorem dX9_row_4 : decode cX9_row 4 = .ok (.ifCond .eq 21, 3) := by decide +kernel
theorem dX9_row_7 : decode cX9_row 7 = .ok (.iload_n 2, 1) := by decide +kernel
theorem dX9_row_8 : decode cX9_row 8 = .ok (.i2l, 1) := by decide +kernel
theorem dX9_row_9 : decode cX9_row 9 = .ok (.lconst 0, 1) := by decide +kernel
theorem dX9_row_10 : decode cX9_row 10 = .ok (.ldc2_w 63, 3) := by decide +kernel
theorem dX9_row_13 : decode cX9_row 13 = .ok (.invokestatic 48, 3) := by decide +kernel
theorem dX9_row_16 : decode cX9_row 16 = .ok (.ifCond .eq 9, 3) := by decide +kernel
theorem dX9_row_19 : decode cX9_row 19 = .ok (.iload_n 3, 1) := by decide +kernel
theorem dX9_row_20 : decode cX9_row 20 = .ok (.bipush 40, 2) := by decide +kernel
theorem dX9_row_22 : decode cX9_row 22 = .ok (.if_icmp .le 6, 3) := by decide +kernel
theorem dX9_row_25 : decode cX9_row 25 = .ok (.ldc 65, 2) := by decide +kernel
theorem dX9_row_27 : decode cX9_row 27 = .ok (.ireturn, 1) := by decide +kernel
theorem dX9_row_28 : decode cX9_row 28 = .ok (.iload_n 3, 1) := by decide +kernel
theorem dX9_row_29 : decode cX9_row 29 = .ok (.ifCond .ge 9, 3) := by decide +kernel
theorem dX9_row_32 : decode cX9_row 32 = .ok (.aload_n 0, 1) := by decide +kernel
theorem dX9_row_33 : decode cX9_row 33 = .ok (.iconst 4, 1) := by decide +kernel
theorem dX9_row_34 : decode cX9_row 34 = .ok (.invokevirtual 66, 3) := by decide +kernel
theorem dX9_row_37 : decode cX9_row 37 = .ok (.ireturn, 1) := by decide +kernel
theorem dX9_row_38 : decode cX9_row 38 = .ok (.aload_n 0, 1) := by decide +kernel
theorem dX9_row_39 : decode cX9_row 39 = .ok (.iconst 0, 1) := by decide +kernel
theorem dX9_row_40 : decode cX9_row 40 = .ok (.putfield 54, 3) := by decide +kernel
theorem dX9_row_43 : decode cX9_row 43 = .ok (.aload_n 0, 1) := by decide +kernel
theorem dX9_row_44 : decode cX9_row 44 = .ok (.getfield 16, 3) := by decide +kernel
theorem dX9_row_47 : decode cX9_row 47 = .ok (.iload_n 1, 1) := by decide +kernel
theorem dX9_row_48 : decode cX9_row 48 = .ok (.iload_n 3, 1) := by decide +kernel
theorem dX9_row_49 : decode cX9_row 49 = .ok (.iastore, 1) := by decide +kernel
theorem dX9_row_50 : decode cX9_row 50 = .ok (.aload_n 0, 1) := by decide +kernel
theorem dX9_row_51 : decode cX9_row 51 = .ok (.getfield 19, 3) := by decide +kernel
theorem dX9_row_54 : decode cX9_row 54 = .ok (.iload_n 1, 1) := by decide +kernel
theorem dX9_row_55 : decode cX9_row 55 = .ok (.iload_n 2, 1) := by decide +kernel
theorem dX9_row_56 : decode cX9_row 56 = .ok (.iastore, 1) := by decide +kernel
theorem dX9_row_57 : decode cX9_row 57 = .ok (.iconst 0, 1) := by decide +kernel
theorem dX9_row_58 : decode cX9_row 58 = .ok (.istore 4, 2) := by decide +kernel
theorem dX9_row_60 : decode cX9_row 60 = .ok (.iload 4, 2) := by decide +kernel
theorem dX9_row_62 : decode cX9_row 62 = .ok (.bipush 40, 2) := by decide +kernel
theorem dX9_row_64 : decode cX9_row 64 = .ok (.if_icmp .ge 22, 3) := by decide +kernel
theorem dX9_row_67 : decode cX9_row 67 = .ok (.aload_n 0, 1) := by decide +kernel
theorem dX9_row_68 : decode cX9_row 68 = .ok (.getfield 22, 3) := by decide +kernel
theorem dX9_row_71 : decode cX9_row 71 = .ok (.bipush 40, 2) := by decide +kernel
theorem dX9_row_73 : decode cX9_row 73 = .ok (.iload_n 1, 1) := by decide +kernel
theorem dX9_row_74 : decode cX9_row 74 = .ok (.imul, 1) := by decide +kernel
end
section
theorem dX9_row_75 : decode cX9_row 75 = .ok (.iload 4, 2) := by decide +kernel
theorem dX9_row_77 : decode cX9_row 77 = .ok (.iadd, 1) := by decide +kernel
theorem dX9_row_78 : decode cX9_row 78 = .ok (.iconst 0, 1) := by decide +kernel
theorem dX9_row_79 : decode cX9_row 79 = .ok (.iastore, 1) := by decide +kernel
theorem dX9_row_80 : decode cX9_row 80 = .ok (.iinc 4 1, 3) := by decide +kernel
theorem dX9_row_83 : decode cX9_row 83 = .ok (.goto (-23), 3) := by decide +kernel
theorem dX9_row_86 : decode cX9_row 86 = .ok (.iload_n 3, 1) := by decide +kernel
theorem dX9_row_87 : decode cX9_row 87 = .ok (.ireturn, 1) := by decide +kernel
theorem dX9_set_0 : decode cX9_set 0 = .ok (.iload_n 1, 1) := by decide +kernel
theorem dX9_set_1 : decode cX9_set 1 = .ok (.invokestatic 59, 3) := by decide +kernel
theorem dX9_set_4 : decode cX9_set 4 = .ok (.ifCond .ne 6, 3) := by decide +kernel
theorem dX9_set_7 : decode cX9_set 7 = .ok (.ldc 65, 2) := by decide +kernel
theorem dX9_set_9 : decode cX9_set 9 = .ok (.ireturn, 1) := by decide +kernel
theorem dX9_set_10 : decode cX9_set 10 = .ok (.aload_n 0, 1) := by decide +kernel
theorem dX9_set_11 : decode cX9_set 11 = .ok (.iload_n 1, 1) := by decide +kernel
theorem dX9_set_12 : decode cX9_set 12 = .ok (.iload_n 2, 1) := by decide +kernel
theorem dX9_set_13 : decode cX9_set 13 = .ok (.iconst 1, 1) := by decide +kernel
theorem dX9_set_14 : decode cX9_set 14 = .ok (.invokevirtual 70, 3) := by decide +kernel
theorem dX9_set_17 : decode cX9_set 17 = .ok (.istore 4, 2) := by decide +kernel
theorem dX9_set_19 : decode cX9_set 19 = .ok (.iload 4, 2) := by decide +kernel
theorem dX9_set_21 : decode cX9_set 21 = .ok (.ifCond .le 10, 3) := by decide +kernel
theorem dX9_set_24 : decode cX9_set 24 = .ok (.aload_n 0, 1) := by decide +kernel
theorem dX9_set_25 : decode cX9_set 25 = .ok (.iload 4, 2) := by decide +kernel
theorem dX9_set_27 : decode cX9_set 27 = .ok (.invokevirtual 66, 3) := by decide +kernel
theorem dX9_set_30 : decode cX9_set 30 = .ok (.ireturn, 1) := by decide +kernel
theorem dX9_set_31 : decode cX9_set 31 = .ok (.aload_n 0, 1) := by decide +kernel
theorem dX9_set_32 : decode cX9_set 32 = .ok (.iconst 0, 1) := by decide +kernel
theorem dX9_set_33 : decode cX9_set 33 = .ok (.putfield 54, 3) := by decide +kernel
theorem dX9_set_36 : decode cX9_set 36 = .ok (.aload_n 0, 1) := by decide +kernel
theorem dX9_set_37 : decode cX9_set 37 = .ok (.getfield 22, 3) := by decide +kernel
theorem dX9_set_40 : decode cX9_set 40 = .ok (.bipush 40, 2) := by decide +kernel
theorem dX9_set_42 : decode cX9_set 42 = .ok (.iload_n 1, 1) := by decide +kernel
theorem dX9_set_43 : decode cX9_set 43 = .ok (.imul, 1) := by decide +kernel
theorem dX9_set_44 : decode cX9_set 44 = .ok (.iload_n 2, 1) := by decide +kernel
theorem dX9_set_45 : decode cX9_set 45 = .ok (.iadd, 1) := by decide +kernel
theorem dX9_set_46 : decode cX9_set 46 = .ok (.aload_n 0, 1) := by decide +kernel
theorem dX9_set_47 : decode cX9_set 47 = .ok (.getfield 19, 3) := by decide +kernel
theorem dX9_set_50 : decode cX9_set 50 = .ok (.iload_n 1, 1) := by decide +kernel
theorem dX9_set_51 : decode cX9_set 51 = .ok (.iaload, 1) := by decide +kernel
theorem dX9_set_52 : decode cX9_set 52 = .ok (.ifCond .ne 8, 3) := by decide +kernel
theorem dX9_set_55 : decode cX9_set 55 = .ok (.iload_n 3, 1) := by decide +kernel
theorem dX9_set_56 : decode cX9_set 56 = .ok (.i2b, 1) := by decide +kernel
theorem dX9_set_57 : decode cX9_set 57 = .ok (.goto 19, 3) := by decide +kernel
theorem dX9_set_60 : decode cX9_set 60 = .ok (.aload_n 0, 1) := by decide +kernel
theorem dX9_set_61 : decode cX9_set 61 = .ok (.getfield 19, 3) := by decide +kernel
theorem dX9_set_64 : decode cX9_set 64 = .ok (.iload_n 1, 1) := by decide +kernel
theorem dX9_set_65 : decode cX9_set 65 = .ok (.iaload, 1) := by decide +kernel
theorem dX9_set_66 : decode cX9_set 66 = .ok (.iconst 1, 1) := by decide +kernel
theorem dX9_set_67 : decode cX9_set 67 = .ok (.if_icmp .ne 8, 3) := by decide +kernel
theorem dX9_set_70 : decode cX9_set 70 = .ok (.iload_n 3, 1) := by decide +kernel
theorem dX9_set_71 : decode cX9_set 71 = .ok (.i2s, 1) := by decide +kernel
theorem dX9_set_72 : decode cX9_set 72 = .ok (.goto 4, 3) := by decide +kernel
theorem dX9_set_75 : decode cX9_set 75 = .ok (.iload_n 3, 1) := by decide +kernel
theorem dX9_set_76 : decode cX9_set 76 = .ok (.iastore, 1) := by decide +kernel
theorem dX9_set_77 : decode cX9_set 77 = .ok (.aload_n 0, 1) := by decide +kernel
theorem dX9_set_78 : decode cX9_set 78 = .ok (.getfield 22, 3) := by decide +kernel
theorem dX9_set_81 : decode cX9_set 81 = .ok (.bipush 40, 2) := by decide +kernel
theorem dX9_set_83 : decode cX9_set 83 = .ok (.iload_n 1, 1) := by decide +kernel
theorem dX9_set_84 : decode cX9_set 84 = .ok (.imul, 1) := by decide +kernel
theorem dX9_set_85 : decode cX9_set 85 = .ok (.iload_n 2, 1) := by decide +kernel
theorem dX9_set_86 : decode cX9_set 86 = .ok (.iadd, 1) := by decide +kernel
theorem dX9_set_87 : decode cX9_set 87 = .ok (.iaload, 1) := by decide +kernel
theorem dX9_set_88 : decode cX9_set 88 = .ok (.ireturn, 1) := by decide +kernel
theorem dX9_copy_0 : decode cX9_copy 0 = .ok (.iload_n 1, 1) := by decide +kernel
theorem dX9_copy_1 : decode cX9_copy 1 = .ok (.invokestatic 59, 3) := by decide +kernel
theorem dX9_copy_4 : decode cX9_copy 4 = .ok (.ifCond .eq 10, 3) := by decide +kernel
theorem dX9_copy_7 : decode cX9_copy 7 = .ok (.iload_n 3, 1) := by decide +kernel
theorem dX9_copy_8 : decode cX9_copy 8 = .ok (.invokestatic 59, 3) := by decide +kernel
theorem dX9_copy_11 : decode cX9_copy 11 = .ok (.ifCond .ne 6, 3) := by decide +kernel
theorem dX9_copy_14 : decode cX9_copy 14 = .ok (.ldc 65, 2) := by decide +kernel
theorem dX9_copy_16 : decode cX9_copy 16 = .ok (.ireturn, 1) := by decide +kernel
theorem dX9_copy_17 : decode cX9_copy 17 = .ok (.aload_n 0, 1) := by decide +kernel
theorem dX9_copy_18 : decode cX9_copy 18 = .ok (.getfield 16, 3) := by decide +kernel
theorem dX9_copy_21 : decode cX9_copy 21 = .ok (.iload_n 1, 1) := by decide +kernel
theorem dX9_copy_22 : decode cX9_copy 22 = .ok (.iaload, 1) := by decide +kernel
theorem dX9_copy_23 : decode cX9_copy 23 = .ok (.ifCond .lt 12, 3) := by decide +kernel
theorem dX9_copy_26 : decode cX9_copy 26 = .ok (.aload_n 0, 1) := by decide +kernel
theorem dX9_copy_27 : decode cX9_copy 27 = .ok (.getfield 16, 3) := by decide +kernel
theorem dX9_copy_30 : decode cX9_copy 30 = .ok (.iload_n 3, 1) := by decide +kernel
theorem dX9_copy_31 : decode cX9_copy 31 = .ok (.iaload, 1) := by decide +kernel
theorem dX9_copy_32 : decode cX9_copy 32 = .ok (.ifCond .ge 9, 3) := by decide +kernel
theorem dX9_copy_35 : decode cX9_copy 35 = .ok (.aload_n 0, 1) := by decide +kernel
theorem dX9_copy_36 : decode cX9_copy 36 = .ok (.iconst 1, 1) := by decide +kernel
theorem dX9_copy_37 : decode cX9_copy 37 = .ok (.invokevirtual 66, 3) := by decide +kernel
theorem dX9_copy_40 : decode cX9_copy 40 = .ok (.ireturn, 1) := by decide +kernel
theorem dX9_copy_41 : decode cX9_copy 41 = .ok (.aload_n 0, 1) := by decide +kernel
theorem dX9_copy_42 : decode cX9_copy 42 = .ok (.getfield 19, 3) := by decide +kernel
theorem dX9_copy_45 : decode cX9_copy 45 = .ok (.iload_n 1, 1) := by decide +kernel
theorem dX9_copy_46 : decode cX9_copy 46 = .ok (.iaload, 1) := by decide +kernel
theorem dX9_copy_47 : decode cX9_copy 47 = .ok (.aload_n 0, 1) := by decide +kernel
theorem dX9_copy_48 : decode cX9_copy 48 = .ok (.getfield 19, 3) := by decide +kernel
theorem dX9_copy_51 : decode cX9_copy 51 = .ok (.iload_n 3, 1) := by decide +kernel
theorem dX9_copy_52 : decode cX9_copy 52 = .ok (.iaload, 1) := by decide +kernel
theorem dX9_copy_53 : decode cX9_copy 53 = .ok (.if_icmp .eq 9, 3) := by decide +kernel
theorem dX9_copy_56 : decode cX9_copy 56 = .ok (.aload_n 0, 1) := by decide +kernel
theorem dX9_copy_57 : decode cX9_copy 57 = .ok (.iconst 5, 1) := by decide +kernel
theorem dX9_copy_58 : decode cX9_copy 58 = .ok (.invokevirtual 66, 3) := by decide +kernel
theorem dX9_copy_61 : decode cX9_copy 61 = .ok (.ireturn, 1) := by decide +kernel
theorem dX9_copy_62 : decode cX9_copy 62 = .ok (.aload_n 0, 1) := by decide +kernel
theorem dX9_copy_63 : decode cX9_copy 63 = .ok (.iload_n 1, 1) := by decide +kernel
theorem dX9_copy_64 : decode cX9_copy 64 = .ok (.iload_n 2, 1) := by decide +kernel
theorem dX9_copy_65 : decode cX9_copy 65 = .ok (.iload 5, 2) := by decide +kernel
theorem dX9_copy_67 : decode cX9_copy 67 = .ok (.invokevirtual 70, 3) := by decide +kernel
theorem dX9_copy_70 : decode cX9_copy 70 = .ok (.ifCond .gt 15, 3) := by decide +kernel
theorem dX9_copy_73 : decode cX9_copy 73 = .ok (.aload_n 0, 1) := by decide +kernel
theorem dX9_copy_74 : decode cX9_copy 74 = .ok (.iload_n 3, 1) := by decide +kernel
theorem dX9_copy_75 : decode cX9_copy 75 = .ok (.iload 4, 2) := by decide +kernel
theorem dX9_copy_77 : decode cX9_copy 77 = .ok (.iload 5, 2) := by decide +kernel
theorem dX9_copy_79 : decode cX9_copy 79 = .ok (.invokevirtual 70, 3) := by decide +kernel
theorem dX9_copy_82 : decode cX9_copy 82 = .ok (.ifCond .le 9, 3) := by decide +kernel
theorem dX9_copy_85 : decode cX9_copy 85 = .ok (.aload_n 0, 1) := by decide +kernel
theorem dX9_copy_86 : decode cX9_copy 86 = .ok (.iconst 2, 1) := by decide +kernel
theorem dX9_copy_87 : decode cX9_copy 87 = .ok (.invokevirtual 66, 3) := by decide +kernel
theorem dX9_copy_90 : decode cX9_copy 90 = .ok (.ireturn, 1) := by decide +kernel
theorem dX9_copy_91 : decode cX9_copy 91 = .ok (.aload_n 0, 1) := by decide +kernel
theorem dX9_copy_92 : decode cX9_copy 92 = .ok (.iconst 0, 1) := by decide +kernel
theorem dX9_copy_93 : decode cX9_copy 93 = .ok (.putfield 54, 3) := by decide +kernel
theorem dX9_copy_96 : decode cX9_copy 96 = .ok (.iconst 0, 1) := by decide +kernel
theorem dX9_copy_97 : decode cX9_copy 97 = .ok (.istore 6, 2) := by decide +kernel
theorem dX9_copy_99 : decode cX9_copy 99 = .ok (.iload 6, 2) := by decide +kernel
theorem dX9_copy_101 : decode cX9_copy 101 = .ok (.iload 5, 2) := by decide +kernel
theorem dX9_copy_103 : decode cX9_copy 103 = .ok (.if_icmp .ge 30, 3) := by decide +kernel
theorem dX9_copy_106 : decode cX9_copy 106 = .ok (.aload_n 0, 1) := by decide +kernel
theorem dX9_copy_107 : decode cX9_copy 107 = .ok (.getfield 25, 3) := by decide +kernel
theorem dX9_copy_110 : decode cX9_copy 110 = .ok (.iload 6, 2) := by decide +kernel
theorem dX9_copy_112 : decode cX9_copy 112 = .ok (.aload_n 0, 1) := by decide +kernel
theorem dX9_copy_113 : decode cX9_copy 113 = .ok (.getfield 22, 3) := by decide +kernel
theorem dX9_copy_116 : decode cX9_copy 116 = .ok (.bipush 40, 2) := by decide +kernel
theorem dX9_copy_118 : decode cX9_copy 118 = .ok (.iload_n 1, 1) := by decide +kernel
theorem dX9_copy_119 : decode cX9_copy 119 = .ok (.imul, 1) := by decide +kernel
theorem dX9_copy_120 : decode cX9_copy 120 = .ok (.iload_n 2, 1) := by decide +kernel
theorem dX9_copy_121 : decode cX9_copy 121 = .ok (.iadd, 1) := by decide +kernel
theorem dX9_copy_122 : decode cX9_copy 122 = .ok (.iload 6, 2) := by decide +kernel
theorem dX9_copy_124 : decode cX9_copy 124 = .ok (.iadd, 1) := by decide +kernel
theorem dX9_copy_125 : decode cX9_copy 125 = .ok (.iaload, 1) := by decide +kernel
theorem dX9_copy_126 : decode cX9_copy 126 = .ok (.iastore, 1) := by decide +kernel
theorem dX9_copy_127 : decode cX9_copy 127 = .ok (.iinc 6 1, 3) := by decide +kernel
theorem dX9_copy_130 : decode cX9_copy 130 = .ok (.goto (-31), 3) := by decide +kernel
theorem dX9_copy_133 : decode cX9_copy 133 = .ok (.iconst 0, 1) := by decide +kernel
theorem dX9_copy_134 : decode cX9_copy 134 = .ok (.istore 6, 2) := by decide +kernel
theorem dX9_copy_136 : decode cX9_copy 136 = .ok (.iload 6, 2) := by decide +kernel
theorem dX9_copy_138 : decode cX9_copy 138 = .ok (.iload 5, 2) := by decide +kernel
theorem dX9_copy_140 : decode cX9_copy 140 = .ok (.if_icmp .ge 31, 3) := by decide +kernel
theorem dX9_copy_143 : decode cX9_copy 143 = .ok (.aload_n 0, 1) := by decide +kernel
theorem dX9_copy_144 : decode cX9_copy 144 = .ok (.getfield 22, 3) := by decide +kernel
theorem dX9_copy_147 : decode cX9_copy 147 = .ok (.bipush 40, 2) := by decide +kernel
theorem dX9_copy_149 : decode cX9_copy 149 = .ok (.iload_n 3, 1) := by decide +kernel
theorem dX9_copy_150 : decode cX9_copy 150 = .ok (.imul, 1) := by decide +kernel
theorem dX9_copy_151 : decode cX9_copy 151 = .ok (.iload 4, 2) := by decide +kernel
theorem dX9_copy_153 : decode cX9_copy 153 = .ok (.iadd, 1) := by decide +kernel
theorem dX9_copy_154 : decode cX9_copy 154 = .ok (.iload 6, 2) := by decide +kernel
theorem dX9_copy_156 : decode cX9_copy 156 = .ok (.iadd, 1) := by decide +kernel
theorem dX9_copy_157 : decode cX9_copy 157 = .ok (.aload_n 0, 1) := by decide +kernel
theorem dX9_copy_158 : decode cX9_copy 158 = .ok (.getfield 25, 3) := by decide +kernel
theorem dX9_copy_161 : decode cX9_copy 161 = .ok (.iload 6, 2) := by decide +kernel
theorem dX9_copy_163 : decode cX9_copy 163 = .ok (.iaload, 1) := by decide +kernel
theorem dX9_copy_164 : decode cX9_copy 164 = .ok (.iastore, 1) := by decide +kernel
theorem dX9_copy_165 : decode cX9_copy 165 = .ok (.iinc 6 1, 3) := by decide +kernel
theorem dX9_copy_168 : decode cX9_copy 168 = .ok (.goto (-32), 3) := by decide +kernel
theorem dX9_copy_171 : decode cX9_copy 171 = .ok (.iload 5, 2) := by decide +kernel
theorem dX9_copy_173 : decode cX9_copy 173 = .ok (.ireturn, 1) := by decide +kernel
theorem dX9_drop_0 : decode cX9_drop 0 = .ok (.iload_n 1, 1) := by decide +kernel
theorem dX9_drop_1 : decode cX9_drop 1 = .ok (.invokestatic 59, 3) := by decide +kernel
theorem dX9_drop_4 : decode cX9_drop 4 = .ok (.ifCond .ne 6, 3) := by decide +kernel
theorem dX9_drop_7 : decode cX9_drop 7 = .ok (.ldc 65, 2) := by decide +kernel
theorem dX9_drop_9 : decode cX9_drop 9 = .ok (.ireturn, 1) := by decide +kernel
theorem dX9_drop_10 : decode cX9_drop 10 = .ok (.aload_n 0, 1) := by decide +kernel
theorem dX9_drop_11 : decode cX9_drop 11 = .ok (.getfield 16, 3) := by decide +kernel
theorem dX9_drop_14 : decode cX9_drop 14 = .ok (.iload_n 1, 1) := by decide +kernel
theorem dX9_drop_15 : decode cX9_drop 15 = .ok (.iaload, 1) := by decide +kernel
theorem dX9_drop_16 : decode cX9_drop 16 = .ok (.ifCond .ge 9, 3) := by decide +kernel
theorem dX9_drop_19 : decode cX9_drop 19 = .ok (.aload_n 0, 1) := by decide +kernel
theorem dX9_drop_20 : decode cX9_drop 20 = .ok (.iconst 1, 1) := by decide +kernel
theorem dX9_drop_21 : decode cX9_drop 21 = .ok (.invokevirtual 66, 3) := by decide +kernel
theorem dX9_drop_24 : decode cX9_drop 24 = .ok (.ireturn, 1) := by decide +kernel
theorem dX9_drop_25 : decode cX9_drop 25 = .ok (.aload_n 0, 1) := by decide +kernel
theorem dX9_drop_26 : decode cX9_drop 26 = .ok (.iconst 0, 1) := by decide +kernel
theorem dX9_drop_27 : decode cX9_drop 27 = .ok (.putfield 54, 3) := by decide +kernel
theorem dX9_drop_30 : decode cX9_drop 30 = .ok (.aload_n 0, 1) := by decide +kernel
theorem dX9_drop_31 : decode cX9_drop 31 = .ok (.getfield 16, 3) := by decide +kernel
theorem dX9_drop_34 : decode cX9_drop 34 = .ok (.iload_n 1, 1) := by decide +kernel
theorem dX9_drop_35 : decode cX9_drop 35 = .ok (.iaload, 1) := by decide +kernel
theorem dX9_drop_36 : decode cX9_drop 36 = .ok (.istore_n 2, 1) := by decide +kernel
theorem dX9_drop_37 : decode cX9_drop 37 = .ok (.aload_n 0, 1) := by decide +kernel
theorem dX9_drop_38 : decode cX9_drop 38 = .ok (.getfield 16, 3) := by decide +kernel
theorem dX9_drop_41 : decode cX9_drop 41 = .ok (.iload_n 1, 1) := by decide +kernel
theorem dX9_drop_42 : decode cX9_drop 42 = .ok (.iconst (-1), 1) := by decide +kernel
theorem dX9_drop_43 : decode cX9_drop 43 = .ok (.iastore, 1) := by decide +kernel
theorem dX9_drop_44 : decode cX9_drop 44 = .ok (.iload_n 2, 1) := by decide +kernel
theorem dX9_drop_45 : decode cX9_drop 45 = .ok (.ireturn, 1) := by decide +kernel
theorem dX9_feed_0 : decode cX9_feed 0 = .ok (.iload_n 1, 1) := by decide +kernel
theorem dX9_feed_1 : decode cX9_feed 1 = .ok (.i2l, 1) := by decide +kernel
theorem dX9_feed_2 : decode cX9_feed 2 = .ok (.lconst 0, 1) := by decide +kernel
theorem dX9_feed_3 : decode cX9_feed 3 = .ok (.ldc2_w 74, 3) := by decide +kernel
theorem dX9_feed_6 : decode cX9_feed 6 = .ok (.invokestatic 48, 3) := by decide +kernel
theorem dX9_feed_9 : decode cX9_feed 9 = .ok (.ifCond .ne 6, 3) := by decide +kernel
theorem dX9_feed_12 : decode cX9_feed 12 = .ok (.ldc 65, 2) := by decide +kernel
theorem dX9_feed_14 : decode cX9_feed 14 = .ok (.ireturn, 1) := by decide +kernel
theorem dX9_feed_15 : decode cX9_feed 15 = .ok (.aload_n 0, 1) := by decide +kernel
theorem dX9_feed_16 : decode cX9_feed 16 = .ok (.getfield 76, 3) := by decide +kernel
theorem dX9_feed_19 : decode cX9_feed 19 = .ok (.sipush 140, 3) := by decide +kernel
theorem dX9_feed_22 : decode cX9_feed 22 = .ok (.if_icmp .ne 6, 3) := by decide +kernel
theorem dX9_feed_25 : decode cX9_feed 25 = .ok (.ldc 79, 2) := by decide +kernel
theorem dX9_feed_27 : decode cX9_feed 27 = .ok (.ireturn, 1) := by decide +kernel
theorem dX9_feed_28 : decode cX9_feed 28 = .ok (.aload_n 0, 1) := by decide +kernel
theorem dX9_feed_29 : decode cX9_feed 29 = .ok (.getfield 13, 3) := by decide +kernel
theorem dX9_feed_32 : decode cX9_feed 32 = .ok (.aload_n 0, 1) := by decide +kernel
theorem dX9_feed_33 : decode cX9_feed 33 = .ok (.getfield 76, 3) := by decide +kernel
theorem dX9_feed_36 : decode cX9_feed 36 = .ok (.iload_n 1, 1) := by decide +kernel
theorem dX9_feed_37 : decode cX9_feed 37 = .ok (.iastore, 1) := by decide +kernel
theorem dX9_feed_38 : decode cX9_feed 38 = .ok (.aload_n 0, 1) := by decide +kernel
theorem dX9_feed_39 : decode cX9_feed 39 = .ok (.dup, 1) := by decide +kernel
theorem dX9_feed_40 : decode cX9_feed 40 = .ok (.getfield 76, 3) := by decide +kernel
theorem dX9_feed_43 : decode cX9_feed 43 = .ok (.iconst 1, 1) := by decide +kernel
theorem dX9_feed_44 : decode cX9_feed 44 = .ok (.iadd, 1) := by decide +kernel
theorem dX9_feed_45 : decode cX9_feed 45 = .ok (.putfield 76, 3) := by decide +kernel
theorem dX9_feed_48 : decode cX9_feed 48 = .ok (.aload_n 0, 1) := by decide +kernel
theorem dX9_feed_49 : decode cX9_feed 49 = .ok (.getfield 76, 3) := by decide +kernel
theorem dX9_feed_52 : decode cX9_feed 52 = .ok (.ireturn, 1) := by decide +kernel
theorem dX9_here_0 : decode cX9_here 0 = .ok (.aload_n 0, 1) := by decide +kernel
theorem dX9_here_1 : decode cX9_here 1 = .ok (.getfield 80, 3) := by decide +kernel
theorem dX9_here_4 : decode cX9_here 4 = .ok (.aload_n 0, 1) := by decide +kernel
theorem dX9_here_5 : decode cX9_here 5 = .ok (.getfield 76, 3) := by decide +kernel
theorem dX9_here_8 : decode cX9_here 8 = .ok (.if_icmp .ge 15, 3) := by decide +kernel
theorem dX9_here_11 : decode cX9_here 11 = .ok (.aload_n 0, 1) := by decide +kernel
theorem dX9_here_12 : decode cX9_here 12 = .ok (.getfield 13, 3) := by decide +kernel
theorem dX9_here_15 : decode cX9_here 15 = .ok (.aload_n 0, 1) := by decide +kernel
theorem dX9_here_16 : decode cX9_here 16 = .ok (.getfield 80, 3) := by decide +kernel
theorem dX9_here_19 : decode cX9_here 19 = .ok (.iaload, 1) := by decide +kernel
theorem dX9_here_20 : decode cX9_here 20 = .ok (.goto 4, 3) := by decide +kernel
theorem dX9_here_23 : decode cX9_here 23 = .ok (.iconst (-1), 1) := by decide +kernel
theorem dX9_here_24 : decode cX9_here 24 = .ok (.ireturn, 1) := by decide +kernel
theorem dX9_fails_0 : decode cX9_fails 0 = .ok (.aload_n 0, 1) := by decide +kernel
theorem dX9_fails_1 : decode cX9_fails 1 = .ok (.iload_n 1, 1) := by decide +kernel
theorem dX9_fails_2 : decode cX9_fails 2 = .ok (.putfield 83, 3) := by decide +kernel
theorem dX9_fails_5 : decode cX9_fails 5 = .ok (.aload_n 0, 1) := by decide +kernel
theorem dX9_fails_6 : decode cX9_fails 6 = .ok (.iload_n 2, 1) := by decide +kernel
theorem dX9_fails_7 : decode cX9_fails 7 = .ok (.putfield 86, 3) := by decide +kernel
theorem dX9_fails_10 : decode cX9_fails 10 = .ok (.iconst 0, 1) := by decide +kernel
theorem dX9_fails_11 : decode cX9_fails 11 = .ok (.ireturn, 1) := by decide +kernel
theorem dX9_takes_0 : decode cX9_takes 0 = .ok (.aload_n 0, 1) := by decide +kernel
theorem dX9_takes_1 : decode cX9_takes 1 = .ok (.invokevirtual 89, 3) := by decide +kernel
theorem dX9_takes_4 : decode cX9_takes 4 = .ok (.iload_n 1, 1) := by decide +kernel
theorem dX9_takes_5 : decode cX9_takes 5 = .ok (.if_icmp .eq 13, 3) := by decide +kernel
theorem dX9_takes_8 : decode cX9_takes 8 = .ok (.aload_n 0, 1) := by decide +kernel
theorem dX9_takes_9 : decode cX9_takes 9 = .ok (.iconst 1, 1) := by decide +kernel
theorem dX9_takes_10 : decode cX9_takes 10 = .ok (.aload_n 0, 1) := by decide +kernel
theorem dX9_takes_11 : decode cX9_takes 11 = .ok (.getfield 80, 3) := by decide +kernel
theorem dX9_takes_14 : decode cX9_takes 14 = .ok (.invokevirtual 93, 3) := by decide +kernel
theorem dX9_takes_17 : decode cX9_takes 17 = .ok (.ireturn, 1) := by decide +kernel
theorem dX9_takes_18 : decode cX9_takes 18 = .ok (.aload_n 0, 1) := by decide +kernel
theorem dX9_takes_19 : decode cX9_takes 19 = .ok (.dup, 1) := by decide +kernel
theorem dX9_takes_20 : decode cX9_takes 20 = .ok (.getfield 80, 3) := by decide +kernel
theorem dX9_takes_23 : decode cX9_takes 23 = .ok (.iconst 1, 1) := by decide +kernel
theorem dX9_takes_24 : decode cX9_takes 24 = .ok (.iadd, 1) := by decide +kernel
theorem dX9_takes_25 : decode cX9_takes 25 = .ok (.putfield 80, 3) := by decide +kernel
theorem dX9_takes_28 : decode cX9_takes 28 = .ok (.iconst 1, 1) := by decide +kernel
theorem dX9_takes_29 : decode cX9_takes 29 = .ok (.ireturn, 1) := by decide +kernel
theorem dX9_takesNumber_0 : decode cX9_takesNumber 0 = .ok (.aload_n 0, 1) := by decide +kernel
theorem dX9_takesNumber_1 : decode cX9_takesNumber 1 = .ok (.getfield 80, 3) := by decide +kernel
theorem dX9_takesNumber_4 : decode cX9_takesNumber 4 = .ok (.istore_n 3, 1) := by decide +kernel
theorem dX9_takesNumber_5 : decode cX9_takesNumber 5 = .ok (.aload_n 0, 1) := by decide +kernel
theorem dX9_takesNumber_6 : decode cX9_takesNumber 6 = .ok (.iconst 0, 1) := by decide +kernel
theorem dX9_takesNumber_7 : decode cX9_takesNumber 7 = .ok (.putfield 97, 3) := by decide +kernel
theorem dX9_takesNumber_10 : decode cX9_takesNumber 10 = .ok (.aload_n 0, 1) := by decide +kernel
theorem dX9_takesNumber_11 : decode cX9_takesNumber 11 = .ok (.invokevirtual 89, 3) := by decide +kernel
theorem dX9_takesNumber_14 : decode cX9_takesNumber 14 = .ok (.i2l, 1) := by decide +kernel
theorem dX9_takesNumber_15 : decode cX9_takesNumber 15 = .ok (.ldc2_w 100, 3) := by decide +kernel
theorem dX9_takesNumber_18 : decode cX9_takesNumber 18 = .ok (.ldc2_w 102, 3) := by decide +kernel
theorem dX9_takesNumber_21 : decode cX9_takesNumber 21 = .ok (.invokestatic 48, 3) := by decide +kernel
theorem dX9_takesNumber_24 : decode cX9_takesNumber 24 = .ok (.ifCond .eq 52, 3) := by decide +kernel
theorem dX9_takesNumber_27 : decode cX9_takesNumber 27 = .ok (.aload_n 0, 1) := by decide +kernel
theorem dX9_takesNumber_28 : decode cX9_takesNumber 28 = .ok (.aload_n 0, 1) := by decide +kernel
theorem dX9_takesNumber_29 : decode cX9_takesNumber 29 = .ok (.getfield 80, 3) := by decide +kernel
theorem dX9_takesNumber_32 : decode cX9_takesNumber 32 = .ok (.iload_n 3, 1) := by decide +kernel
theorem dX9_takesNumber_33 : decode cX9_takesNumber 33 = .ok (.isub, 1) := by decide +kernel
theorem dX9_takesNumber_34 : decode cX9_takesNumber 34 = .ok (.iconst 2, 1) := by decide +kernel
theorem dX9_takesNumber_35 : decode cX9_takesNumber 35 = .ok (.if_icmp .ge 21, 3) := by decide +kernel
theorem dX9_takesNumber_38 : decode cX9_takesNumber 38 = .ok (.bipush 10, 2) := by decide +kernel
theorem dX9_takesNumber_40 : decode cX9_takesNumber 40 = .ok (.aload_n 0, 1) := by decide +kernel
theorem dX9_takesNumber_41 : decode cX9_takesNumber 41 = .ok (.getfield 97, 3) := by decide +kernel
theorem dX9_takesNumber_44 : decode cX9_takesNumber 44 = .ok (.imul, 1) := by decide +kernel
theorem dX9_takesNumber_45 : decode cX9_takesNumber 45 = .ok (.aload_n 0, 1) := by decide +kernel
theorem dX9_takesNumber_46 : decode cX9_takesNumber 46 = .ok (.invokevirtual 89, 3) := by decide +kernel
theorem dX9_takesNumber_49 : decode cX9_takesNumber 49 = .ok (.iadd, 1) := by decide +kernel
theorem dX9_takesNumber_50 : decode cX9_takesNumber 50 = .ok (.bipush 48, 2) := by decide +kernel
theorem dX9_takesNumber_52 : decode cX9_takesNumber 52 = .ok (.isub, 1) := by decide +kernel
theorem dX9_takesNumber_53 : decode cX9_takesNumber 53 = .ok (.goto 7, 3) := by decide +kernel
theorem dX9_takesNumber_56 : decode cX9_takesNumber 56 = .ok (.aload_n 0, 1) := by decide +kernel
theorem dX9_takesNumber_57 : decode cX9_takesNumber 57 = .ok (.getfield 97, 3) := by decide +kernel
theorem dX9_takesNumber_60 : decode cX9_takesNumber 60 = .ok (.putfield 97, 3) := by decide +kernel
theorem dX9_takesNumber_63 : decode cX9_takesNumber 63 = .ok (.aload_n 0, 1) := by decide +kernel
theorem dX9_takesNumber_64 : decode cX9_takesNumber 64 = .ok (.dup, 1) := by decide +kernel
theorem dX9_takesNumber_65 : decode cX9_takesNumber 65 = .ok (.getfield 80, 3) := by decide +kernel
theorem dX9_takesNumber_68 : decode cX9_takesNumber 68 = .ok (.iconst 1, 1) := by decide +kernel
theorem dX9_takesNumber_69 : decode cX9_takesNumber 69 = .ok (.iadd, 1) := by decide +kernel
theorem dX9_takesNumber_70 : decode cX9_takesNumber 70 = .ok (.putfield 80, 3) := by decide +kernel
theorem dX9_takesNumber_73 : decode cX9_takesNumber 73 = .ok (.goto (-63), 3) := by decide +kernel
theorem dX9_takesNumber_76 : decode cX9_takesNumber 76 = .ok (.aload_n 0, 1) := by decide +kernel
theorem dX9_takesNumber_77 : decode cX9_takesNumber 77 = .ok (.getfield 80, 3) := by decide +kernel
theorem dX9_takesNumber_80 : decode cX9_takesNumber 80 = .ok (.iload_n 3, 1) := by decide +kernel
theorem dX9_takesNumber_81 : decode cX9_takesNumber 81 = .ok (.isub, 1) := by decide +kernel
theorem dX9_takesNumber_82 : decode cX9_takesNumber 82 = .ok (.i2l, 1) := by decide +kernel
theorem dX9_takesNumber_83 : decode cX9_takesNumber 83 = .ok (.lconst 1, 1) := by decide +kernel
theorem dX9_takesNumber_84 : decode cX9_takesNumber 84 = .ok (.ldc2_w 63, 3) := by decide +kernel
theorem dX9_takesNumber_87 : decode cX9_takesNumber 87 = .ok (.invokestatic 48, 3) := by decide +kernel
theorem dX9_takesNumber_90 : decode cX9_takesNumber 90 = .ok (.ifCond .ne 10, 3) := by decide +kernel
theorem dX9_takesNumber_93 : decode cX9_takesNumber 93 = .ok (.aload_n 0, 1) := by decide +kernel
theorem dX9_takesNumber_94 : decode cX9_takesNumber 94 = .ok (.iconst 1, 1) := by decide +kernel
theorem dX9_takesNumber_95 : decode cX9_takesNumber 95 = .ok (.iload_n 3, 1) := by decide +kernel
theorem dX9_takesNumber_96 : decode cX9_takesNumber 96 = .ok (.invokevirtual 93, 3) := by decide +kernel
theorem dX9_takesNumber_99 : decode cX9_takesNumber 99 = .ok (.ireturn, 1) := by decide +kernel
theorem dX9_takesNumber_100 : decode cX9_takesNumber 100 = .ok (.aload_n 0, 1) := by decide +kernel
theorem dX9_takesNumber_101 : decode cX9_takesNumber 101 = .ok (.getfield 97, 3) := by decide +kernel
theorem dX9_takesNumber_104 : decode cX9_takesNumber 104 = .ok (.i2l, 1) := by decide +kernel
theorem dX9_takesNumber_105 : decode cX9_takesNumber 105 = .ok (.iload_n 1, 1) := by decide +kernel
theorem dX9_takesNumber_106 : decode cX9_takesNumber 106 = .ok (.i2l, 1) := by decide +kernel
theorem dX9_takesNumber_107 : decode cX9_takesNumber 107 = .ok (.iload_n 2, 1) := by decide +kernel
theorem dX9_takesNumber_108 : decode cX9_takesNumber 108 = .ok (.i2l, 1) := by decide +kernel
theorem dX9_takesNumber_109 : decode cX9_takesNumber 109 = .ok (.invokestatic 48, 3) := by decide +kernel
theorem dX9_takesNumber_112 : decode cX9_takesNumber 112 = .ok (.ifCond .ne 10, 3) := by decide +kernel
theorem dX9_takesNumber_115 : decode cX9_takesNumber 115 = .ok (.aload_n 0, 1) := by decide +kernel
theorem dX9_takesNumber_116 : decode cX9_takesNumber 116 = .ok (.iconst 2, 1) := by decide +kernel
theorem dX9_takesNumber_117 : decode cX9_takesNumber 117 = .ok (.iload_n 3, 1) := by decide +kernel
theorem dX9_takesNumber_118 : decode cX9_takesNumber 118 = .ok (.invokevirtual 93, 3) := by decide +kernel
theorem dX9_takesNumber_121 : decode cX9_takesNumber 121 = .ok (.ireturn, 1) := by decide +kernel
theorem dX9_takesNumber_122 : decode cX9_takesNumber 122 = .ok (.iconst 1, 1) := by decide +kernel
theorem dX9_takesNumber_123 : decode cX9_takesNumber 123 = .ok (.ireturn, 1) := by decide +kernel
theorem dX9_kindOf_0 : decode cX9_kindOf 0 = .ok (.iload_n 0, 1) := by decide +kernel
theorem dX9_kindOf_1 : decode cX9_kindOf 1 = .ok (.bipush 108, 2) := by decide +kernel
theorem dX9_kindOf_3 : decode cX9_kindOf 3 = .ok (.if_icmp .ne 7, 3) := by decide +kernel
theorem dX9_kindOf_6 : decode cX9_kindOf 6 = .ok (.iconst 1, 1) := by decide +kernel
theorem dX9_kindOf_7 : decode cX9_kindOf 7 = .ok (.goto 44, 3) := by decide +kernel
theorem dX9_kindOf_10 : decode cX9_kindOf 10 = .ok (.iload_n 0, 1) := by decide +kernel
theorem dX9_kindOf_11 : decode cX9_kindOf 11 = .ok (.bipush 102, 2) := by decide +kernel
theorem dX9_kindOf_13 : decode cX9_kindOf 13 = .ok (.if_icmp .ne 7, 3) := by decide +kernel
theorem dX9_kindOf_16 : decode cX9_kindOf 16 = .ok (.iconst 2, 1) := by decide +kernel
theorem dX9_kindOf_17 : decode cX9_kindOf 17 = .ok (.goto 34, 3) := by decide +kernel
theorem dX9_kindOf_20 : decode cX9_kindOf 20 = .ok (.iload_n 0, 1) := by decide +kernel
theorem dX9_kindOf_21 : decode cX9_kindOf 21 = .ok (.bipush 111, 2) := by decide +kernel
theorem dX9_kindOf_23 : decode cX9_kindOf 23 = .ok (.if_icmp .ne 7, 3) := by decide +kernel
theorem dX9_kindOf_26 : decode cX9_kindOf 26 = .ok (.iconst 3, 1) := by decide +kernel
theorem dX9_kindOf_27 : decode cX9_kindOf 27 = .ok (.goto 24, 3) := by decide +kernel
theorem dX9_kindOf_30 : decode cX9_kindOf 30 = .ok (.iload_n 0, 1) := by decide +kernel
theorem dX9_kindOf_31 : decode cX9_kindOf 31 = .ok (.bipush 99, 2) := by decide +kernel
theorem dX9_kindOf_33 : decode cX9_kindOf 33 = .ok (.if_icmp .ne 7, 3) := by decide +kernel
theorem dX9_kindOf_36 : decode cX9_kindOf 36 = .ok (.iconst 4, 1) := by decide +kernel
theorem dX9_kindOf_37 : decode cX9_kindOf 37 = .ok (.goto 14, 3) := by decide +kernel
theorem dX9_kindOf_40 : decode cX9_kindOf 40 = .ok (.iload_n 0, 1) := by decide +kernel
theorem dX9_kindOf_41 : decode cX9_kindOf 41 = .ok (.bipush 109, 2) := by decide +kernel
theorem dX9_kindOf_43 : decode cX9_kindOf 43 = .ok (.if_icmp .ne 7, 3) := by decide +kernel
theorem dX9_kindOf_46 : decode cX9_kindOf 46 = .ok (.iconst 5, 1) := by decide +kernel
theorem dX9_kindOf_47 : decode cX9_kindOf 47 = .ok (.goto 4, 3) := by decide +kernel
theorem dX9_kindOf_50 : decode cX9_kindOf 50 = .ok (.iconst 0, 1) := by decide +kernel
theorem dX9_kindOf_51 : decode cX9_kindOf 51 = .ok (.ireturn, 1) := by decide +kernel
theorem dX9_takesLaw_0 : decode cX9_takesLaw 0 = .ok (.aload_n 0, 1) := by decide +kernel
theorem dX9_takesLaw_1 : decode cX9_takesLaw 1 = .ok (.bipush 119, 2) := by decide +kernel
theorem dX9_takesLaw_3 : decode cX9_takesLaw 3 = .ok (.invokevirtual 104, 3) := by decide +kernel
theorem dX9_takesLaw_6 : decode cX9_takesLaw 6 = .ok (.ifCond .eq 13, 3) := by decide +kernel
theorem dX9_takesLaw_9 : decode cX9_takesLaw 9 = .ok (.aload_n 0, 1) := by decide +kernel
theorem dX9_takesLaw_10 : decode cX9_takesLaw 10 = .ok (.iconst 1, 1) := by decide +kernel
theorem dX9_takesLaw_11 : decode cX9_takesLaw 11 = .ok (.bipush 8, 2) := by decide +kernel
theorem dX9_takesLaw_13 : decode cX9_takesLaw 13 = .ok (.invokevirtual 107, 3) := by decide +kernel
theorem dX9_takesLaw_16 : decode cX9_takesLaw 16 = .ok (.ifCond .ne 5, 3) := by decide +kernel
theorem dX9_takesLaw_19 : decode cX9_takesLaw 19 = .ok (.iconst 0, 1) := by decide +kernel
theorem dX9_takesLaw_20 : decode cX9_takesLaw 20 = .ok (.ireturn, 1) := by decide +kernel
theorem dX9_takesLaw_21 : decode cX9_takesLaw 21 = .ok (.aload_n 0, 1) := by decide +kernel
theorem dX9_takesLaw_22 : decode cX9_takesLaw 22 = .ok (.getfield 7, 3) := by decide +kernel
theorem dX9_takesLaw_25 : decode cX9_takesLaw 25 = .ok (.bipush 83, 2) := by decide +kernel
theorem dX9_takesLaw_27 : decode cX9_takesLaw 27 = .ok (.aload_n 0, 1) := by decide +kernel
theorem dX9_takesLaw_28 : decode cX9_takesLaw 28 = .ok (.getfield 97, 3) := by decide +kernel
theorem dX9_takesLaw_31 : decode cX9_takesLaw 31 = .ok (.iastore, 1) := by decide +kernel
theorem dX9_takesLaw_32 : decode cX9_takesLaw 32 = .ok (.aload_n 0, 1) := by decide +kernel
theorem dX9_takesLaw_33 : decode cX9_takesLaw 33 = .ok (.bipush 59, 2) := by decide +kernel
theorem dX9_takesLaw_35 : decode cX9_takesLaw 35 = .ok (.invokevirtual 104, 3) := by decide +kernel
theorem dX9_takesLaw_38 : decode cX9_takesLaw 38 = .ok (.ireturn, 1) := by decide +kernel
theorem dX9_takesType_0 : decode cX9_takesType 0 = .ok (.aload_n 0, 1) := by decide +kernel
theorem dX9_takesType_1 : decode cX9_takesType 1 = .ok (.bipush 117, 2) := by decide +kernel
theorem dX9_takesType_3 : decode cX9_takesType 3 = .ok (.invokevirtual 104, 3) := by decide +kernel
theorem dX9_takesType_6 : decode cX9_takesType 6 = .ok (.ifCond .eq 12, 3) := by decide +kernel
theorem dX9_takesType_9 : decode cX9_takesType 9 = .ok (.aload_n 0, 1) := by decide +kernel
theorem dX9_takesType_10 : decode cX9_takesType 10 = .ok (.iconst 0, 1) := by decide +kernel
theorem dX9_takesType_11 : decode cX9_takesType 11 = .ok (.iload_n 1, 1) := by decide +kernel
theorem dX9_takesType_12 : decode cX9_takesType 12 = .ok (.invokevirtual 107, 3) := by decide +kernel
theorem dX9_takesType_15 : decode cX9_takesType 15 = .ok (.ifCond .ne 5, 3) := by decide +kernel
theorem dX9_takesType_18 : decode cX9_takesType 18 = .ok (.iconst 0, 1) := by decide +kernel
theorem dX9_takesType_19 : decode cX9_takesType 19 = .ok (.ireturn, 1) := by decide +kernel
theorem dX9_takesType_20 : decode cX9_takesType 20 = .ok (.aload_n 0, 1) := by decide +kernel
theorem dX9_takesType_21 : decode cX9_takesType 21 = .ok (.getfield 7, 3) := by decide +kernel
theorem dX9_takesType_24 : decode cX9_takesType 24 = .ok (.bipush 86, 2) := by decide +kernel
theorem dX9_takesType_26 : decode cX9_takesType 26 = .ok (.iload_n 1, 1) := by decide +kernel
theorem dX9_takesType_27 : decode cX9_takesType 27 = .ok (.iadd, 1) := by decide +kernel
theorem dX9_takesType_28 : decode cX9_takesType 28 = .ok (.aload_n 0, 1) := by decide +kernel
theorem dX9_takesType_29 : decode cX9_takesType 29 = .ok (.getfield 97, 3) := by decide +kernel
theorem dX9_takesType_32 : decode cX9_takesType 32 = .ok (.iastore, 1) := by decide +kernel
theorem dX9_takesType_33 : decode cX9_takesType 33 = .ok (.aload_n 0, 1) := by decide +kernel
theorem dX9_takesType_34 : decode cX9_takesType 34 = .ok (.bipush 59, 2) := by decide +kernel
theorem dX9_takesType_36 : decode cX9_takesType 36 = .ok (.invokevirtual 104, 3) := by decide +kernel
theorem dX9_takesType_39 : decode cX9_takesType 39 = .ok (.ireturn, 1) := by decide +kernel
theorem dX9_takesMember_0 : decode cX9_takesMember 0 = .ok (.aload_n 0, 1) := by decide +kernel
theorem dX9_takesMember_1 : decode cX9_takesMember 1 = .ok (.invokevirtual 89, 3) := by decide +kernel
theorem dX9_takesMember_4 : decode cX9_takesMember 4 = .ok (.invokestatic 110, 3) := by decide +kernel
theorem dX9_takesMember_7 : decode cX9_takesMember 7 = .ok (.istore_n 1, 1) := by decide +kernel
theorem dX9_takesMember_8 : decode cX9_takesMember 8 = .ok (.iload_n 1, 1) := by decide +kernel
theorem dX9_takesMember_9 : decode cX9_takesMember 9 = .ok (.ifCond .ne 13, 3) := by decide +kernel
theorem dX9_takesMember_12 : decode cX9_takesMember 12 = .ok (.aload_n 0, 1) := by decide +kernel
theorem dX9_takesMember_13 : decode cX9_takesMember 13 = .ok (.iconst 1, 1) := by decide +kernel
theorem dX9_takesMember_14 : decode cX9_takesMember 14 = .ok (.aload_n 0, 1) := by decide +kernel
theorem dX9_takesMember_15 : decode cX9_takesMember 15 = .ok (.getfield 80, 3) := by decide +kernel
theorem dX9_takesMember_18 : decode cX9_takesMember 18 = .ok (.invokevirtual 93, 3) := by decide +kernel
theorem dX9_takesMember_21 : decode cX9_takesMember 21 = .ok (.ireturn, 1) := by decide +kernel
theorem dX9_takesMember_22 : decode cX9_takesMember 22 = .ok (.aload_n 0, 1) := by decide +kernel
theorem dX9_takesMember_23 : decode cX9_takesMember 23 = .ok (.getfield 7, 3) := by decide +kernel
theorem dX9_takesMember_26 : decode cX9_takesMember 26 = .ok (.bipush 84, 2) := by decide +kernel
theorem dX9_takesMember_28 : decode cX9_takesMember 28 = .ok (.iaload, 1) := by decide +kernel
theorem dX9_takesMember_29 : decode cX9_takesMember 29 = .ok (.istore_n 2, 1) := by decide +kernel
theorem dX9_takesMember_30 : decode cX9_takesMember 30 = .ok (.iload_n 2, 1) := by decide +kernel
theorem dX9_takesMember_31 : decode cX9_takesMember 31 = .ok (.bipush 12, 2) := by decide +kernel
theorem dX9_takesMember_33 : decode cX9_takesMember 33 = .ok (.if_icmp .ne 13, 3) := by decide +kernel
theorem dX9_takesMember_36 : decode cX9_takesMember 36 = .ok (.aload_n 0, 1) := by decide +kernel
theorem dX9_takesMember_37 : decode cX9_takesMember 37 = .ok (.iconst 3, 1) := by decide +kernel
theorem dX9_takesMember_38 : decode cX9_takesMember 38 = .ok (.aload_n 0, 1) := by decide +kernel
theorem dX9_takesMember_39 : decode cX9_takesMember 39 = .ok (.getfield 80, 3) := by decide +kernel
theorem dX9_takesMember_42 : decode cX9_takesMember 42 = .ok (.invokevirtual 93, 3) := by decide +kernel
theorem dX9_takesMember_45 : decode cX9_takesMember 45 = .ok (.ireturn, 1) := by decide +kernel
theorem dX9_takesMember_46 : decode cX9_takesMember 46 = .ok (.aload_n 0, 1) := by decide +kernel
theorem dX9_takesMember_47 : decode cX9_takesMember 47 = .ok (.dup, 1) := by decide +kernel
theorem dX9_takesMember_48 : decode cX9_takesMember 48 = .ok (.getfield 80, 3) := by decide +kernel
theorem dX9_takesMember_51 : decode cX9_takesMember 51 = .ok (.iconst 1, 1) := by decide +kernel
theorem dX9_takesMember_52 : decode cX9_takesMember 52 = .ok (.iadd, 1) := by decide +kernel
theorem dX9_takesMember_53 : decode cX9_takesMember 53 = .ok (.putfield 80, 3) := by decide +kernel
theorem dX9_takesMember_56 : decode cX9_takesMember 56 = .ok (.aload_n 0, 1) := by decide +kernel
theorem dX9_takesMember_57 : decode cX9_takesMember 57 = .ok (.getfield 7, 3) := by decide +kernel
theorem dX9_takesMember_60 : decode cX9_takesMember 60 = .ok (.bipush 94, 2) := by decide +kernel
theorem dX9_takesMember_62 : decode cX9_takesMember 62 = .ok (.iload_n 2, 1) := by decide +kernel
theorem dX9_takesMember_63 : decode cX9_takesMember 63 = .ok (.iadd, 1) := by decide +kernel
theorem dX9_takesMember_64 : decode cX9_takesMember 64 = .ok (.iload_n 1, 1) := by decide +kernel
theorem dX9_takesMember_65 : decode cX9_takesMember 65 = .ok (.iastore, 1) := by decide +kernel
theorem dX9_takesMember_66 : decode cX9_takesMember 66 = .ok (.aload_n 0, 1) := by decide +kernel
theorem dX9_takesMember_67 : decode cX9_takesMember 67 = .ok (.iconst 0, 1) := by decide +kernel
theorem dX9_takesMember_68 : decode cX9_takesMember 68 = .ok (.aload_n 0, 1) := by decide +kernel
theorem dX9_takesMember_69 : decode cX9_takesMember 69 = .ok (.getfield 7, 3) := by decide +kernel
theorem dX9_takesMember_72 : decode cX9_takesMember 72 = .ok (.bipush 83, 2) := by decide +kernel
theorem dX9_takesMember_74 : decode cX9_takesMember 74 = .ok (.iaload, 1) := by decide +kernel
theorem dX9_takesMember_75 : decode cX9_takesMember 75 = .ok (.iconst 1, 1) := by decide +kernel
theorem dX9_takesMember_76 : decode cX9_takesMember 76 = .ok (.isub, 1) := by decide +kernel
theorem dX9_takesMember_77 : decode cX9_takesMember 77 = .ok (.invokevirtual 107, 3) := by decide +kernel
theorem dX9_takesMember_80 : decode cX9_takesMember 80 = .ok (.ifCond .ne 5, 3) := by decide +kernel
theorem dX9_takesMember_83 : decode cX9_takesMember 83 = .ok (.iconst 0, 1) := by decide +kernel
theorem dX9_takesMember_84 : decode cX9_takesMember 84 = .ok (.ireturn, 1) := by decide +kernel
theorem dX9_takesMember_85 : decode cX9_takesMember 85 = .ok (.aload_n 0, 1) := by decide +kernel
theorem dX9_takesMember_86 : decode cX9_takesMember 86 = .ok (.getfield 7, 3) := by decide +kernel
theorem dX9_takesMember_89 : decode cX9_takesMember 89 = .ok (.bipush 106, 2) := by decide +kernel
theorem dX9_takesMember_91 : decode cX9_takesMember 91 = .ok (.iload_n 2, 1) := by decide +kernel
theorem dX9_takesMember_92 : decode cX9_takesMember 92 = .ok (.iadd, 1) := by decide +kernel
theorem dX9_takesMember_93 : decode cX9_takesMember 93 = .ok (.aload_n 0, 1) := by decide +kernel
theorem dX9_takesMember_94 : decode cX9_takesMember 94 = .ok (.getfield 97, 3) := by decide +kernel
theorem dX9_takesMember_97 : decode cX9_takesMember 97 = .ok (.iastore, 1) := by decide +kernel
theorem dX9_takesMember_98 : decode cX9_takesMember 98 = .ok (.aload_n 0, 1) := by decide +kernel
theorem dX9_takesMember_99 : decode cX9_takesMember 99 = .ok (.bipush 44, 2) := by decide +kernel
theorem dX9_takesMember_101 : decode cX9_takesMember 101 = .ok (.invokevirtual 104, 3) := by decide +kernel
theorem dX9_takesMember_104 : decode cX9_takesMember 104 = .ok (.ifCond .eq 13, 3) := by decide +kernel
theorem dX9_takesMember_107 : decode cX9_takesMember 107 = .ok (.aload_n 0, 1) := by decide +kernel
theorem dX9_takesMember_108 : decode cX9_takesMember 108 = .ok (.iconst 1, 1) := by decide +kernel
theorem dX9_takesMember_109 : decode cX9_takesMember 109 = .ok (.bipush 9, 2) := by decide +kernel
theorem dX9_takesMember_111 : decode cX9_takesMember 111 = .ok (.invokevirtual 107, 3) := by decide +kernel
theorem dX9_takesMember_114 : decode cX9_takesMember 114 = .ok (.ifCond .ne 5, 3) := by decide +kernel
theorem dX9_takesMember_117 : decode cX9_takesMember 117 = .ok (.iconst 0, 1) := by decide +kernel
theorem dX9_takesMember_118 : decode cX9_takesMember 118 = .ok (.ireturn, 1) := by decide +kernel
theorem dX9_takesMember_119 : decode cX9_takesMember 119 = .ok (.aload_n 0, 1) := by decide +kernel
theorem dX9_takesMember_120 : decode cX9_takesMember 120 = .ok (.getfield 7, 3) := by decide +kernel
theorem dX9_takesMember_123 : decode cX9_takesMember 123 = .ok (.bipush 118, 2) := by decide +kernel
theorem dX9_takesMember_125 : decode cX9_takesMember 125 = .ok (.iload_n 2, 1) := by decide +kernel
theorem dX9_takesMember_126 : decode cX9_takesMember 126 = .ok (.iadd, 1) := by decide +kernel
theorem dX9_takesMember_127 : decode cX9_takesMember 127 = .ok (.aload_n 0, 1) := by decide +kernel
theorem dX9_takesMember_128 : decode cX9_takesMember 128 = .ok (.getfield 97, 3) := by decide +kernel
theorem dX9_takesMember_131 : decode cX9_takesMember 131 = .ok (.iastore, 1) := by decide +kernel
theorem dX9_takesMember_132 : decode cX9_takesMember 132 = .ok (.iconst 0, 1) := by decide +kernel
theorem dX9_takesMember_133 : decode cX9_takesMember 133 = .ok (.istore_n 3, 1) := by decide +kernel
theorem dX9_takesMember_134 : decode cX9_takesMember 134 = .ok (.iload_n 1, 1) := by decide +kernel
theorem dX9_takesMember_135 : decode cX9_takesMember 135 = .ok (.iconst 4, 1) := by decide +kernel
theorem dX9_takesMember_136 : decode cX9_takesMember 136 = .ok (.if_icmp .lt 74, 3) := by decide +kernel
theorem dX9_takesMember_139 : decode cX9_takesMember 139 = .ok (.iload_n 3, 1) := by decide +kernel
theorem dX9_takesMember_140 : decode cX9_takesMember 140 = .ok (.iconst 2, 1) := by decide +kernel
theorem dX9_takesMember_141 : decode cX9_takesMember 141 = .ok (.if_icmp .ge 69, 3) := by decide +kernel
theorem dX9_takesMember_144 : decode cX9_takesMember 144 = .ok (.iload_n 3, 1) := by decide +kernel
theorem dX9_takesMember_145 : decode cX9_takesMember 145 = .ok (.ifCond .eq 12, 3) := by decide +kernel
theorem dX9_takesMember_148 : decode cX9_takesMember 148 = .ok (.aload_n 0, 1) := by decide +kernel
theorem dX9_takesMember_149 : decode cX9_takesMember 149 = .ok (.invokevirtual 89, 3) := by decide +kernel
theorem dX9_takesMember_152 : decode cX9_takesMember 152 = .ok (.bipush 44, 2) := by decide +kernel
theorem dX9_takesMember_154 : decode cX9_takesMember 154 = .ok (.if_icmp .ne 56, 3) := by decide +kernel
theorem dX9_takesMember_157 : decode cX9_takesMember 157 = .ok (.aload_n 0, 1) := by decide +kernel
theorem dX9_takesMember_158 : decode cX9_takesMember 158 = .ok (.bipush 44, 2) := by decide +kernel
theorem dX9_takesMember_160 : decode cX9_takesMember 160 = .ok (.invokevirtual 104, 3) := by decide +kernel
theorem dX9_takesMember_163 : decode cX9_takesMember 163 = .ok (.ifCond .eq 20, 3) := by decide +kernel
theorem dX9_takesMember_166 : decode cX9_takesMember 166 = .ok (.aload_n 0, 1) := by decide +kernel
theorem dX9_takesMember_167 : decode cX9_takesMember 167 = .ok (.iconst 0, 1) := by decide +kernel
theorem dX9_takesMember_168 : decode cX9_takesMember 168 = .ok (.aload_n 0, 1) := by decide +kernel
theorem dX9_takesMember_169 : decode cX9_takesMember 169 = .ok (.getfield 7, 3) := by decide +kernel
theorem dX9_takesMember_172 : decode cX9_takesMember 172 = .ok (.bipush 83, 2) := by decide +kernel
theorem dX9_takesMember_174 : decode cX9_takesMember 174 = .ok (.iaload, 1) := by decide +kernel
theorem dX9_takesMember_175 : decode cX9_takesMember 175 = .ok (.iconst 1, 1) := by decide +kernel
theorem dX9_takesMember_176 : decode cX9_takesMember 176 = .ok (.isub, 1) := by decide +kernel
theorem dX9_takesMember_177 : decode cX9_takesMember 177 = .ok (.invokevirtual 107, 3) := by decide +kernel
theorem dX9_takesMember_180 : decode cX9_takesMember 180 = .ok (.ifCond .ne 5, 3) := by decide +kernel
theorem dX9_takesMember_183 : decode cX9_takesMember 183 = .ok (.iconst 0, 1) := by decide +kernel
theorem dX9_takesMember_184 : decode cX9_takesMember 184 = .ok (.ireturn, 1) := by decide +kernel
theorem dX9_takesMember_185 : decode cX9_takesMember 185 = .ok (.aload_n 0, 1) := by decide +kernel
theorem dX9_takesMember_186 : decode cX9_takesMember 186 = .ok (.getfield 7, 3) := by decide +kernel
theorem dX9_takesMember_189 : decode cX9_takesMember 189 = .ok (.sipush 142, 3) := by decide +kernel
theorem dX9_takesMember_192 : decode cX9_takesMember 192 = .ok (.bipush 12, 2) := by decide +kernel
theorem dX9_takesMember_194 : decode cX9_takesMember 194 = .ok (.iload_n 3, 1) := by decide +kernel
theorem dX9_takesMember_195 : decode cX9_takesMember 195 = .ok (.imul, 1) := by decide +kernel
theorem dX9_takesMember_196 : decode cX9_takesMember 196 = .ok (.iadd, 1) := by decide +kernel
theorem dX9_takesMember_197 : decode cX9_takesMember 197 = .ok (.iload_n 2, 1) := by decide +kernel
theorem dX9_takesMember_198 : decode cX9_takesMember 198 = .ok (.iadd, 1) := by decide +kernel
theorem dX9_takesMember_199 : decode cX9_takesMember 199 = .ok (.aload_n 0, 1) := by decide +kernel
theorem dX9_takesMember_200 : decode cX9_takesMember 200 = .ok (.getfield 97, 3) := by decide +kernel
theorem dX9_takesMember_203 : decode cX9_takesMember 203 = .ok (.iastore, 1) := by decide +kernel
theorem dX9_takesMember_204 : decode cX9_takesMember 204 = .ok (.iinc 3 1, 3) := by decide +kernel
theorem dX9_takesMember_207 : decode cX9_takesMember 207 = .ok (.goto (-73), 3) := by decide +kernel
theorem dX9_takesMember_210 : decode cX9_takesMember 210 = .ok (.aload_n 0, 1) := by decide +kernel
theorem dX9_takesMember_211 : decode cX9_takesMember 211 = .ok (.getfield 7, 3) := by decide +kernel
theorem dX9_takesMember_214 : decode cX9_takesMember 214 = .ok (.sipush 130, 3) := by decide +kernel
theorem dX9_takesMember_217 : decode cX9_takesMember 217 = .ok (.iload_n 2, 1) := by decide +kernel
theorem dX9_takesMember_218 : decode cX9_takesMember 218 = .ok (.iadd, 1) := by decide +kernel
theorem dX9_takesMember_219 : decode cX9_takesMember 219 = .ok (.iload_n 3, 1) := by decide +kernel
theorem dX9_takesMember_220 : decode cX9_takesMember 220 = .ok (.iastore, 1) := by decide +kernel
theorem dX9_takesMember_221 : decode cX9_takesMember 221 = .ok (.aload_n 0, 1) := by decide +kernel
theorem dX9_takesMember_222 : decode cX9_takesMember 222 = .ok (.getfield 7, 3) := by decide +kernel
theorem dX9_takesMember_225 : decode cX9_takesMember 225 = .ok (.bipush 84, 2) := by decide +kernel
theorem dX9_takesMember_227 : decode cX9_takesMember 227 = .ok (.dup2, 1) := by decide +kernel
theorem dX9_takesMember_228 : decode cX9_takesMember 228 = .ok (.iaload, 1) := by decide +kernel
theorem dX9_takesMember_229 : decode cX9_takesMember 229 = .ok (.iconst 1, 1) := by decide +kernel
theorem dX9_takesMember_230 : decode cX9_takesMember 230 = .ok (.iadd, 1) := by decide +kernel
theorem dX9_takesMember_231 : decode cX9_takesMember 231 = .ok (.iastore, 1) := by decide +kernel
theorem dX9_takesMember_232 : decode cX9_takesMember 232 = .ok (.aload_n 0, 1) := by decide +kernel
theorem dX9_takesMember_233 : decode cX9_takesMember 233 = .ok (.bipush 59, 2) := by decide +kernel
theorem dX9_takesMember_235 : decode cX9_takesMember 235 = .ok (.invokevirtual 104, 3) := by decide +kernel
theorem dX9_takesMember_238 : decode cX9_takesMember 238 = .ok (.ireturn, 1) := by decide +kernel
theorem dX9_takesAll_0 : decode cX9_takesAll 0 = .ok (.aload_n 0, 1) := by decide +kernel
theorem dX9_takesAll_1 : decode cX9_takesAll 1 = .ok (.invokevirtual 113, 3) := by decide +kernel
theorem dX9_takesAll_4 : decode cX9_takesAll 4 = .ok (.ifCond .ne 5, 3) := by decide +kernel
theorem dX9_takesAll_7 : decode cX9_takesAll 7 = .ok (.iconst 0, 1) := by decide +kernel
theorem dX9_takesAll_8 : decode cX9_takesAll 8 = .ok (.ireturn, 1) := by decide +kernel
theorem dX9_takesAll_9 : decode cX9_takesAll 9 = .ok (.iconst 0, 1) := by decide +kernel
theorem dX9_takesAll_10 : decode cX9_takesAll 10 = .ok (.istore_n 1, 1) := by decide +kernel
theorem dX9_takesAll_11 : decode cX9_takesAll 11 = .ok (.iload_n 1, 1) := by decide +kernel
theorem dX9_takesAll_12 : decode cX9_takesAll 12 = .ok (.aload_n 0, 1) := by decide +kernel
theorem dX9_takesAll_13 : decode cX9_takesAll 13 = .ok (.getfield 7, 3) := by decide +kernel
theorem dX9_takesAll_16 : decode cX9_takesAll 16 = .ok (.bipush 83, 2) := by decide +kernel
theorem dX9_takesAll_18 : decode cX9_takesAll 18 = .ok (.iaload, 1) := by decide +kernel
theorem dX9_takesAll_19 : decode cX9_takesAll 19 = .ok (.if_icmp .ge 19, 3) := by decide +kernel
theorem dX9_takesAll_22 : decode cX9_takesAll 22 = .ok (.aload_n 0, 1) := by decide +kernel
theorem dX9_takesAll_23 : decode cX9_takesAll 23 = .ok (.iload_n 1, 1) := by decide +kernel
theorem dX9_takesAll_24 : decode cX9_takesAll 24 = .ok (.invokevirtual 117, 3) := by decide +kernel
theorem dX9_takesAll_27 : decode cX9_takesAll 27 = .ok (.ifCond .ne 5, 3) := by decide +kernel
theorem dX9_takesAll_30 : decode cX9_takesAll 30 = .ok (.iconst 0, 1) := by decide +kernel
theorem dX9_takesAll_31 : decode cX9_takesAll 31 = .ok (.ireturn, 1) := by decide +kernel
theorem dX9_takesAll_32 : decode cX9_takesAll 32 = .ok (.iinc 1 1, 3) := by decide +kernel
theorem dX9_takesAll_35 : decode cX9_takesAll 35 = .ok (.goto (-24), 3) := by decide +kernel
theorem dX9_takesAll_38 : decode cX9_takesAll 38 = .ok (.aload_n 0, 1) := by decide +kernel
theorem dX9_takesAll_39 : decode cX9_takesAll 39 = .ok (.getfield 7, 3) := by decide +kernel
theorem dX9_takesAll_42 : decode cX9_takesAll 42 = .ok (.bipush 84, 2) := by decide +kernel
theorem dX9_takesAll_44 : decode cX9_takesAll 44 = .ok (.iaload, 1) := by decide +kernel
theorem dX9_takesAll_45 : decode cX9_takesAll 45 = .ok (.ifCond .eq 14, 3) := by decide +kernel
theorem dX9_takesAll_48 : decode cX9_takesAll 48 = .ok (.aload_n 0, 1) := by decide +kernel
theorem dX9_takesAll_49 : decode cX9_takesAll 49 = .ok (.getfield 80, 3) := by decide +kernel
theorem dX9_takesAll_52 : decode cX9_takesAll 52 = .ok (.aload_n 0, 1) := by decide +kernel
theorem dX9_takesAll_53 : decode cX9_takesAll 53 = .ok (.getfield 76, 3) := by decide +kernel
theorem dX9_takesAll_56 : decode cX9_takesAll 56 = .ok (.if_icmp .ge 12, 3) := by decide +kernel
theorem dX9_takesAll_59 : decode cX9_takesAll 59 = .ok (.aload_n 0, 1) := by decide +kernel
theorem dX9_takesAll_60 : decode cX9_takesAll 60 = .ok (.invokevirtual 120, 3) := by decide +kernel
theorem dX9_takesAll_63 : decode cX9_takesAll 63 = .ok (.ifCond .ne (-25), 3) := by decide +kernel
theorem dX9_takesAll_66 : decode cX9_takesAll 66 = .ok (.iconst 0, 1) := by decide +kernel
theorem dX9_takesAll_67 : decode cX9_takesAll 67 = .ok (.ireturn, 1) := by decide +kernel
theorem dX9_takesAll_68 : decode cX9_takesAll 68 = .ok (.iconst 1, 1) := by decide +kernel
theorem dX9_takesAll_69 : decode cX9_takesAll 69 = .ok (.ireturn, 1) := by decide +kernel
theorem dX9_world_0 : decode cX9_world 0 = .ok (.iconst 0, 1) := by decide +kernel
theorem dX9_world_1 : decode cX9_world 1 = .ok (.istore_n 1, 1) := by decide +kernel
theorem dX9_world_2 : decode cX9_world 2 = .ok (.iload_n 1, 1) := by decide +kernel
theorem dX9_world_3 : decode cX9_world 3 = .ok (.bipush 83, 2) := by decide +kernel
theorem dX9_world_5 : decode cX9_world 5 = .ok (.if_icmp .ge 19, 3) := by decide +kernel
theorem dX9_world_8 : decode cX9_world 8 = .ok (.aload_n 0, 1) := by decide +kernel
theorem dX9_world_9 : decode cX9_world 9 = .ok (.getfield 7, 3) := by decide +kernel
theorem dX9_world_12 : decode cX9_world 12 = .ok (.bipush 83, 2) := by decide +kernel
theorem dX9_world_14 : decode cX9_world 14 = .ok (.iload_n 1, 1) := by decide +kernel
theorem dX9_world_15 : decode cX9_world 15 = .ok (.iadd, 1) := by decide +kernel
theorem dX9_world_16 : decode cX9_world 16 = .ok (.iconst 0, 1) := by decide +kernel
theorem dX9_world_17 : decode cX9_world 17 = .ok (.iastore, 1) := by decide +kernel
theorem dX9_world_18 : decode cX9_world 18 = .ok (.iinc 1 1, 3) := by decide +kernel
theorem dX9_world_21 : decode cX9_world 21 = .ok (.goto (-19), 3) := by decide +kernel
theorem dX9_world_24 : decode cX9_world 24 = .ok (.aload_n 0, 1) := by decide +kernel
theorem dX9_world_25 : decode cX9_world 25 = .ok (.iconst 0, 1) := by decide +kernel
theorem dX9_world_26 : decode cX9_world 26 = .ok (.putfield 80, 3) := by decide +kernel
theorem dX9_world_29 : decode cX9_world 29 = .ok (.aload_n 0, 1) := by decide +kernel
theorem dX9_world_30 : decode cX9_world 30 = .ok (.invokevirtual 123, 3) := by decide +kernel
theorem dX9_world_33 : decode cX9_world 33 = .ok (.istore_n 1, 1) := by decide +kernel
theorem dX9_world_34 : decode cX9_world 34 = .ok (.aload_n 0, 1) := by decide +kernel
theorem dX9_world_35 : decode cX9_world 35 = .ok (.iconst 0, 1) := by decide +kernel
theorem dX9_world_36 : decode cX9_world 36 = .ok (.putfield 76, 3) := by decide +kernel
theorem dX9_world_39 : decode cX9_world 39 = .ok (.iload_n 1, 1) := by decide +kernel
theorem dX9_world_40 : decode cX9_world 40 = .ok (.ifCond .ne 11, 3) := by decide +kernel
theorem dX9_world_43 : decode cX9_world 43 = .ok (.ldc 126, 2) := by decide +kernel
theorem dX9_world_45 : decode cX9_world 45 = .ok (.aload_n 0, 1) := by decide +kernel
theorem dX9_world_46 : decode cX9_world 46 = .ok (.getfield 86, 3) := by decide +kernel
theorem dX9_world_49 : decode cX9_world 49 = .ok (.isub, 1) := by decide +kernel
theorem dX9_world_50 : decode cX9_world 50 = .ok (.ireturn, 1) := by decide +kernel
theorem dX9_world_51 : decode cX9_world 51 = .ok (.aload_n 0, 1) := by decide +kernel
theorem dX9_world_52 : decode cX9_world 52 = .ok (.bipush 83, 2) := by decide +kernel
theorem dX9_world_54 : decode cX9_world 54 = .ok (.iconst 0, 1) := by decide +kernel
theorem dX9_world_55 : decode cX9_world 55 = .ok (.invokevirtual 127, 3) := by decide +kernel
theorem dX9_world_58 : decode cX9_world 58 = .ok (.aload_n 0, 1) := by decide +kernel
theorem dX9_world_59 : decode cX9_world 59 = .ok (.iconst 0, 1) := by decide +kernel
theorem dX9_world_60 : decode cX9_world 60 = .ok (.putfield 131, 3) := by decide +kernel
theorem dX9_world_63 : decode cX9_world 63 = .ok (.aload_n 0, 1) := by decide +kernel
theorem dX9_world_64 : decode cX9_world 64 = .ok (.getfield 7, 3) := by decide +kernel
theorem dX9_world_67 : decode cX9_world 67 = .ok (.iconst 1, 1) := by decide +kernel
theorem dX9_world_68 : decode cX9_world 68 = .ok (.iaload, 1) := by decide +kernel
theorem dX9_world_69 : decode cX9_world 69 = .ok (.ireturn, 1) := by decide +kernel
theorem dX9_fault_0 : decode cX9_fault 0 = .ok (.aload_n 0, 1) := by decide +kernel
theorem dX9_fault_1 : decode cX9_fault 1 = .ok (.getfield 83, 3) := by decide +kernel
theorem dX9_fault_4 : decode cX9_fault 4 = .ok (.ireturn, 1) := by decide +kernel
theorem dX9_minds_0 : decode cX9_minds 0 = .ok (.aload_n 0, 1) := by decide +kernel
theorem dX9_minds_1 : decode cX9_minds 1 = .ok (.getfield 131, 3) := by decide +kernel
theorem dX9_minds_4 : decode cX9_minds 4 = .ok (.bipush 24, 2) := by decide +kernel
theorem dX9_minds_6 : decode cX9_minds 6 = .ok (.if_icmp .ne 51, 3) := by decide +kernel
theorem dX9_minds_9 : decode cX9_minds 9 = .ok (.iconst 0, 1) := by decide +kernel
theorem dX9_minds_10 : decode cX9_minds 10 = .ok (.istore_n 1, 1) := by decide +kernel
theorem dX9_minds_11 : decode cX9_minds 11 = .ok (.iload_n 1, 1) := by decide +kernel
theorem dX9_minds_12 : decode cX9_minds 12 = .ok (.sipush 1909, 3) := by decide +kernel
theorem dX9_minds_15 : decode cX9_minds 15 = .ok (.if_icmp .ge 32, 3) := by decide +kernel
theorem dX9_minds_18 : decode cX9_minds 18 = .ok (.aload_n 0, 1) := by decide +kernel
theorem dX9_minds_19 : decode cX9_minds 19 = .ok (.getfield 7, 3) := by decide +kernel
theorem dX9_minds_22 : decode cX9_minds 22 = .ok (.sipush 332, 3) := by decide +kernel
theorem dX9_minds_25 : decode cX9_minds 25 = .ok (.iload_n 1, 1) := by decide +kernel
theorem dX9_minds_26 : decode cX9_minds 26 = .ok (.iadd, 1) := by decide +kernel
theorem dX9_minds_27 : decode cX9_minds 27 = .ok (.aload_n 0, 1) := by decide +kernel
theorem dX9_minds_28 : decode cX9_minds 28 = .ok (.getfield 7, 3) := by decide +kernel
theorem dX9_minds_31 : decode cX9_minds 31 = .ok (.sipush 332, 3) := by decide +kernel
theorem dX9_minds_34 : decode cX9_minds 34 = .ok (.iload_n 1, 1) := by decide +kernel
theorem dX9_minds_35 : decode cX9_minds 35 = .ok (.iadd, 1) := by decide +kernel
theorem dX9_minds_36 : decode cX9_minds 36 = .ok (.bipush 83, 2) := by decide +kernel
theorem dX9_minds_38 : decode cX9_minds 38 = .ok (.iadd, 1) := by decide +kernel
theorem dX9_minds_39 : decode cX9_minds 39 = .ok (.iaload, 1) := by decide +kernel
theorem dX9_minds_40 : decode cX9_minds 40 = .ok (.iastore, 1) := by decide +kernel
theorem dX9_minds_41 : decode cX9_minds 41 = .ok (.iinc 1 1, 3) := by decide +kernel
theorem dX9_minds_44 : decode cX9_minds 44 = .ok (.goto (-33), 3) := by decide +kernel
theorem dX9_minds_47 : decode cX9_minds 47 = .ok (.aload_n 0, 1) := by decide +kernel
theorem dX9_minds_48 : decode cX9_minds 48 = .ok (.dup, 1) := by decide +kernel
theorem dX9_minds_49 : decode cX9_minds 49 = .ok (.getfield 131, 3) := by decide +kernel
theorem dX9_minds_52 : decode cX9_minds 52 = .ok (.iconst 1, 1) := by decide +kernel
theorem dX9_minds_53 : decode cX9_minds 53 = .ok (.isub, 1) := by decide +kernel
theorem dX9_minds_54 : decode cX9_minds 54 = .ok (.putfield 131, 3) := by decide +kernel
theorem dX9_minds_57 : decode cX9_minds 57 = .ok (.aload_n 0, 1) := by decide +kernel
theorem dX9_minds_58 : decode cX9_minds 58 = .ok (.iconst 0, 1) := by decide +kernel
theorem dX9_minds_59 : decode cX9_minds 59 = .ok (.sipush 332, 3) := by decide +kernel
theorem dX9_minds_62 : decode cX9_minds 62 = .ok (.bipush 83, 2) := by decide +kernel
theorem dX9_minds_64 : decode cX9_minds 64 = .ok (.aload_n 0, 1) := by decide +kernel
theorem dX9_minds_65 : decode cX9_minds 65 = .ok (.getfield 131, 3) := by decide +kernel
theorem dX9_minds_68 : decode cX9_minds 68 = .ok (.imul, 1) := by decide +kernel
theorem dX9_minds_69 : decode cX9_minds 69 = .ok (.iadd, 1) := by decide +kernel
theorem dX9_minds_70 : decode cX9_minds 70 = .ok (.invokevirtual 127, 3) := by decide +kernel
theorem dX9_minds_73 : decode cX9_minds 73 = .ok (.aload_n 0, 1) := by decide +kernel
theorem dX9_minds_74 : decode cX9_minds 74 = .ok (.dup, 1) := by decide +kernel
theorem dX9_minds_75 : decode cX9_minds 75 = .ok (.getfield 131, 3) := by decide +kernel
theorem dX9_minds_78 : decode cX9_minds 78 = .ok (.iconst 1, 1) := by decide +kernel
theorem dX9_minds_79 : decode cX9_minds 79 = .ok (.iadd, 1) := by decide +kernel
theorem dX9_minds_80 : decode cX9_minds 80 = .ok (.putfield 131, 3) := by decide +kernel
theorem dX9_minds_83 : decode cX9_minds 83 = .ok (.return_, 1) := by decide +kernel
theorem dX9_hide_0 : decode cX9_hide 0 = .ok (.aload_n 0, 1) := by decide +kernel
theorem dX9_hide_1 : decode cX9_hide 1 = .ok (.iload_n 1, 1) := by decide +kernel
theorem dX9_hide_2 : decode cX9_hide 2 = .ok (.invokevirtual 134, 3) := by decide +kernel
theorem dX9_hide_5 : decode cX9_hide 5 = .ok (.ifCond .eq 13, 3) := by decide +kernel
theorem dX9_hide_8 : decode cX9_hide 8 = .ok (.iload_n 2, 1) := by decide +kernel
theorem dX9_hide_9 : decode cX9_hide 9 = .ok (.i2l, 1) := by decide +kernel
theorem dX9_hide_10 : decode cX9_hide 10 = .ok (.lconst 0, 1) := by decide +kernel
theorem dX9_hide_11 : decode cX9_hide 11 = .ok (.lconst 1, 1) := by decide +kernel
theorem dX9_hide_12 : decode cX9_hide 12 = .ok (.invokestatic 48, 3) := by decide +kernel
theorem dX9_hide_15 : decode cX9_hide 15 = .ok (.ifCond .ne 6, 3) := by decide +kernel
theorem dX9_hide_18 : decode cX9_hide 18 = .ok (.ldc 65, 2) := by decide +kernel
theorem dX9_hide_20 : decode cX9_hide 20 = .ok (.ireturn, 1) := by decide +kernel
theorem dX9_hide_21 : decode cX9_hide 21 = .ok (.aload_n 0, 1) := by decide +kernel
theorem dX9_hide_22 : decode cX9_hide 22 = .ok (.getfield 7, 3) := by decide +kernel
theorem dX9_hide_25 : decode cX9_hide 25 = .ok (.iconst 2, 1) := by decide +kernel
theorem dX9_hide_26 : decode cX9_hide 26 = .ok (.iaload, 1) := by decide +kernel
theorem dX9_hide_27 : decode cX9_hide 27 = .ok (.iload_n 1, 1) := by decide +kernel
theorem dX9_hide_28 : decode cX9_hide 28 = .ok (.ishr, 1) := by decide +kernel
theorem dX9_hide_29 : decode cX9_hide 29 = .ok (.iconst 1, 1) := by decide +kernel
theorem dX9_hide_30 : decode cX9_hide 30 = .ok (.iand, 1) := by decide +kernel
theorem dX9_hide_31 : decode cX9_hide 31 = .ok (.iload_n 2, 1) := by decide +kernel
theorem dX9_hide_32 : decode cX9_hide 32 = .ok (.if_icmp .ne 6, 3) := by decide +kernel
theorem dX9_hide_35 : decode cX9_hide 35 = .ok (.ldc 137, 2) := by decide +kernel
theorem dX9_hide_37 : decode cX9_hide 37 = .ok (.ireturn, 1) := by decide +kernel
theorem dX9_hide_38 : decode cX9_hide 38 = .ok (.aload_n 0, 1) := by decide +kernel
theorem dX9_hide_39 : decode cX9_hide 39 = .ok (.invokevirtual 138, 3) := by decide +kernel
theorem dX9_hide_42 : decode cX9_hide 42 = .ok (.aload_n 0, 1) := by decide +kernel
theorem dX9_hide_43 : decode cX9_hide 43 = .ok (.getfield 7, 3) := by decide +kernel
theorem dX9_hide_46 : decode cX9_hide 46 = .ok (.iconst 2, 1) := by decide +kernel
theorem dX9_hide_47 : decode cX9_hide 47 = .ok (.dup2, 1) := by decide +kernel
theorem dX9_hide_48 : decode cX9_hide 48 = .ok (.iaload, 1) := by decide +kernel
theorem dX9_hide_49 : decode cX9_hide 49 = .ok (.iconst 1, 1) := by decide +kernel
theorem dX9_hide_50 : decode cX9_hide 50 = .ok (.iload_n 1, 1) := by decide +kernel
theorem dX9_hide_51 : decode cX9_hide 51 = .ok (.ishl, 1) := by decide +kernel
theorem dX9_hide_52 : decode cX9_hide 52 = .ok (.ixor, 1) := by decide +kernel
theorem dX9_hide_53 : decode cX9_hide 53 = .ok (.iastore, 1) := by decide +kernel
theorem dX9_hide_54 : decode cX9_hide 54 = .ok (.aload_n 0, 1) := by decide +kernel
theorem dX9_hide_55 : decode cX9_hide 55 = .ok (.getfield 7, 3) := by decide +kernel
theorem dX9_hide_58 : decode cX9_hide 58 = .ok (.iconst 2, 1) := by decide +kernel
theorem dX9_hide_59 : decode cX9_hide 59 = .ok (.iaload, 1) := by decide +kernel
theorem dX9_hide_60 : decode cX9_hide 60 = .ok (.ireturn, 1) := by decide +kernel
theorem dX9_cost_0 : decode cX9_cost 0 = .ok (.aload_n 0, 1) := by decide +kernel
theorem dX9_cost_1 : decode cX9_cost 1 = .ok (.iload_n 1, 1) := by decide +kernel
theorem dX9_cost_2 : decode cX9_cost 2 = .ok (.invokevirtual 134, 3) := by decide +kernel
theorem dX9_cost_5 : decode cX9_cost 5 = .ok (.ifCond .eq 15, 3) := by decide +kernel
theorem dX9_cost_8 : decode cX9_cost 8 = .ok (.iload_n 2, 1) := by decide +kernel
theorem dX9_cost_9 : decode cX9_cost 9 = .ok (.i2l, 1) := by decide +kernel
theorem dX9_cost_10 : decode cX9_cost 10 = .ok (.lconst 1, 1) := by decide +kernel
theorem dX9_cost_11 : decode cX9_cost 11 = .ok (.ldc2_w 141, 3) := by decide +kernel
theorem dX9_cost_14 : decode cX9_cost 14 = .ok (.invokestatic 48, 3) := by decide +kernel
theorem dX9_cost_17 : decode cX9_cost 17 = .ok (.ifCond .ne 6, 3) := by decide +kernel
theorem dX9_cost_20 : decode cX9_cost 20 = .ok (.ldc 65, 2) := by decide +kernel
theorem dX9_cost_22 : decode cX9_cost 22 = .ok (.ireturn, 1) := by decide +kernel
theorem dX9_cost_23 : decode cX9_cost 23 = .ok (.aload_n 0, 1) := by decide +kernel
theorem dX9_cost_24 : decode cX9_cost 24 = .ok (.invokevirtual 138, 3) := by decide +kernel
theorem dX9_cost_27 : decode cX9_cost 27 = .ok (.aload_n 0, 1) := by decide +kernel
theorem dX9_cost_28 : decode cX9_cost 28 = .ok (.getfield 7, 3) := by decide +kernel
theorem dX9_cost_31 : decode cX9_cost 31 = .ok (.bipush 35, 2) := by decide +kernel
theorem dX9_cost_33 : decode cX9_cost 33 = .ok (.iload_n 1, 1) := by decide +kernel
theorem dX9_cost_34 : decode cX9_cost 34 = .ok (.iadd, 1) := by decide +kernel
theorem dX9_cost_35 : decode cX9_cost 35 = .ok (.iaload, 1) := by decide +kernel
theorem dX9_cost_36 : decode cX9_cost 36 = .ok (.istore_n 3, 1) := by decide +kernel
theorem dX9_cost_37 : decode cX9_cost 37 = .ok (.aload_n 0, 1) := by decide +kernel
theorem dX9_cost_38 : decode cX9_cost 38 = .ok (.getfield 7, 3) := by decide +kernel
theorem dX9_cost_41 : decode cX9_cost 41 = .ok (.bipush 35, 2) := by decide +kernel
theorem dX9_cost_43 : decode cX9_cost 43 = .ok (.iload_n 1, 1) := by decide +kernel
theorem dX9_cost_44 : decode cX9_cost 44 = .ok (.iadd, 1) := by decide +kernel
theorem dX9_cost_45 : decode cX9_cost 45 = .ok (.iload_n 2, 1) := by decide +kernel
theorem dX9_cost_46 : decode cX9_cost 46 = .ok (.iastore, 1) := by decide +kernel
theorem dX9_cost_47 : decode cX9_cost 47 = .ok (.iload_n 3, 1) := by decide +kernel
theorem dX9_cost_48 : decode cX9_cost 48 = .ok (.ireturn, 1) := by decide +kernel
theorem dX9_above_0 : decode cX9_above 0 = .ok (.aload_n 0, 1) := by decide +kernel
theorem dX9_above_1 : decode cX9_above 1 = .ok (.iload_n 1, 1) := by decide +kernel
theorem dX9_above_2 : decode cX9_above 2 = .ok (.invokevirtual 143, 3) := by decide +kernel
theorem dX9_above_5 : decode cX9_above 5 = .ok (.ifCond .eq 14, 3) := by decide +kernel
theorem dX9_above_8 : decode cX9_above 8 = .ok (.iload_n 2, 1) := by decide +kernel
theorem dX9_above_9 : decode cX9_above 9 = .ok (.i2l, 1) := by decide +kernel
theorem dX9_above_10 : decode cX9_above 10 = .ok (.lconst 0, 1) := by decide +kernel
theorem dX9_above_11 : decode cX9_above 11 = .ok (.iload_n 1, 1) := by decide +kernel
theorem dX9_above_12 : decode cX9_above 12 = .ok (.i2l, 1) := by decide +kernel
theorem dX9_above_13 : decode cX9_above 13 = .ok (.invokestatic 48, 3) := by decide +kernel
theorem dX9_above_16 : decode cX9_above 16 = .ok (.ifCond .ne 6, 3) := by decide +kernel
theorem dX9_above_19 : decode cX9_above 19 = .ok (.ldc 65, 2) := by decide +kernel
theorem dX9_above_21 : decode cX9_above 21 = .ok (.ireturn, 1) := by decide +kernel
theorem dX9_above_22 : decode cX9_above 22 = .ok (.aload_n 0, 1) := by decide +kernel
theorem dX9_above_23 : decode cX9_above 23 = .ok (.invokevirtual 138, 3) := by decide +kernel
theorem dX9_above_26 : decode cX9_above 26 = .ok (.aload_n 0, 1) := by decide +kernel
theorem dX9_above_27 : decode cX9_above 27 = .ok (.getfield 7, 3) := by decide +kernel
theorem dX9_above_30 : decode cX9_above 30 = .ok (.iconst 3, 1) := by decide +kernel
theorem dX9_above_31 : decode cX9_above 31 = .ok (.iload_n 1, 1) := by decide +kernel
theorem dX9_above_32 : decode cX9_above 32 = .ok (.iadd, 1) := by decide +kernel
theorem dX9_above_33 : decode cX9_above 33 = .ok (.iaload, 1) := by decide +kernel
theorem dX9_above_34 : decode cX9_above 34 = .ok (.istore_n 3, 1) := by decide +kernel
theorem dX9_above_35 : decode cX9_above 35 = .ok (.aload_n 0, 1) := by decide +kernel
theorem dX9_above_36 : decode cX9_above 36 = .ok (.getfield 7, 3) := by decide +kernel
theorem dX9_above_39 : decode cX9_above 39 = .ok (.iconst 3, 1) := by decide +kernel
theorem dX9_above_40 : decode cX9_above 40 = .ok (.iload_n 1, 1) := by decide +kernel
theorem dX9_above_41 : decode cX9_above 41 = .ok (.iadd, 1) := by decide +kernel
theorem dX9_above_42 : decode cX9_above 42 = .ok (.iload_n 2, 1) := by decide +kernel
theorem dX9_above_43 : decode cX9_above 43 = .ok (.iastore, 1) := by decide +kernel
theorem dX9_above_44 : decode cX9_above 44 = .ok (.iload_n 3, 1) := by decide +kernel
theorem dX9_above_45 : decode cX9_above 45 = .ok (.ireturn, 1) := by decide +kernel
theorem dX9_undo_0 : decode cX9_undo 0 = .ok (.aload_n 0, 1) := by decide +kernel
theorem dX9_undo_1 : decode cX9_undo 1 = .ok (.getfield 131, 3) := by decide +kernel
theorem dX9_undo_4 : decode cX9_undo 4 = .ok (.ifCond .ne 6, 3) := by decide +kernel
theorem dX9_undo_7 : decode cX9_undo 7 = .ok (.ldc 137, 2) := by decide +kernel
theorem dX9_undo_9 : decode cX9_undo 9 = .ok (.ireturn, 1) := by decide +kernel
theorem dX9_undo_10 : decode cX9_undo 10 = .ok (.aload_n 0, 1) := by decide +kernel
theorem dX9_undo_11 : decode cX9_undo 11 = .ok (.dup, 1) := by decide +kernel
theorem dX9_undo_12 : decode cX9_undo 12 = .ok (.getfield 131, 3) := by decide +kernel
theorem dX9_undo_15 : decode cX9_undo 15 = .ok (.iconst 1, 1) := by decide +kernel
theorem dX9_undo_16 : decode cX9_undo 16 = .ok (.isub, 1) := by decide +kernel
theorem dX9_undo_17 : decode cX9_undo 17 = .ok (.putfield 131, 3) := by decide +kernel
theorem dX9_undo_20 : decode cX9_undo 20 = .ok (.aload_n 0, 1) := by decide +kernel
theorem dX9_undo_21 : decode cX9_undo 21 = .ok (.sipush 332, 3) := by decide +kernel
theorem dX9_undo_24 : decode cX9_undo 24 = .ok (.bipush 83, 2) := by decide +kernel
theorem dX9_undo_26 : decode cX9_undo 26 = .ok (.aload_n 0, 1) := by decide +kernel
theorem dX9_undo_27 : decode cX9_undo 27 = .ok (.getfield 131, 3) := by decide +kernel
theorem dX9_undo_30 : decode cX9_undo 30 = .ok (.imul, 1) := by decide +kernel
theorem dX9_undo_31 : decode cX9_undo 31 = .ok (.iadd, 1) := by decide +kernel
theorem dX9_undo_32 : decode cX9_undo 32 = .ok (.iconst 0, 1) := by decide +kernel
theorem dX9_undo_33 : decode cX9_undo 33 = .ok (.invokevirtual 127, 3) := by decide +kernel
theorem dX9_undo_36 : decode cX9_undo 36 = .ok (.aload_n 0, 1) := by decide +kernel
theorem dX9_undo_37 : decode cX9_undo 37 = .ok (.getfield 131, 3) := by decide +kernel
theorem dX9_undo_40 : decode cX9_undo 40 = .ok (.ireturn, 1) := by decide +kernel
theorem dX9_isOf_0 : decode cX9_isOf 0 = .ok (.iload_n 1, 1) := by decide +kernel
theorem dX9_isOf_1 : decode cX9_isOf 1 = .ok (.istore_n 3, 1) := by decide +kernel
theorem dX9_isOf_2 : decode cX9_isOf 2 = .ok (.iload_n 3, 1) := by decide +kernel
theorem dX9_isOf_3 : decode cX9_isOf 3 = .ok (.iload_n 2, 1) := by decide +kernel
theorem dX9_isOf_4 : decode cX9_isOf 4 = .ok (.if_icmp .eq 27, 3) := by decide +kernel
theorem dX9_isOf_7 : decode cX9_isOf 7 = .ok (.aload_n 0, 1) := by decide +kernel
theorem dX9_isOf_8 : decode cX9_isOf 8 = .ok (.getfield 7, 3) := by decide +kernel
theorem dX9_isOf_11 : decode cX9_isOf 11 = .ok (.iconst 3, 1) := by decide +kernel
theorem dX9_isOf_12 : decode cX9_isOf 12 = .ok (.iload_n 3, 1) := by decide +kernel
theorem dX9_isOf_13 : decode cX9_isOf 13 = .ok (.iadd, 1) := by decide +kernel
theorem dX9_isOf_14 : decode cX9_isOf 14 = .ok (.iaload, 1) := by decide +kernel
theorem dX9_isOf_15 : decode cX9_isOf 15 = .ok (.iload_n 3, 1) := by decide +kernel
theorem dX9_isOf_16 : decode cX9_isOf 16 = .ok (.if_icmp .eq 15, 3) := by decide +kernel
theorem dX9_isOf_19 : decode cX9_isOf 19 = .ok (.aload_n 0, 1) := by decide +kernel
theorem dX9_isOf_20 : decode cX9_isOf 20 = .ok (.getfield 7, 3) := by decide +kernel
theorem dX9_isOf_23 : decode cX9_isOf 23 = .ok (.iconst 3, 1) := by decide +kernel
theorem dX9_isOf_24 : decode cX9_isOf 24 = .ok (.iload_n 3, 1) := by decide +kernel
theorem dX9_isOf_25 : decode cX9_isOf 25 = .ok (.iadd, 1) := by decide +kernel
theorem dX9_isOf_26 : decode cX9_isOf 26 = .ok (.iaload, 1) := by decide +kernel
theorem dX9_isOf_27 : decode cX9_isOf 27 = .ok (.istore_n 3, 1) := by decide +kernel
theorem dX9_isOf_28 : decode cX9_isOf 28 = .ok (.goto (-26), 3) := by decide +kernel
theorem dX9_isOf_31 : decode cX9_isOf 31 = .ok (.iload_n 3, 1) := by decide +kernel
theorem dX9_isOf_32 : decode cX9_isOf 32 = .ok (.iload_n 2, 1) := by decide +kernel
theorem dX9_isOf_33 : decode cX9_isOf 33 = .ok (.if_icmp .ne 7, 3) := by decide +kernel
theorem dX9_isOf_36 : decode cX9_isOf 36 = .ok (.iconst 1, 1) := by decide +kernel
theorem dX9_isOf_37 : decode cX9_isOf 37 = .ok (.goto 4, 3) := by decide +kernel
theorem dX9_isOf_40 : decode cX9_isOf 40 = .ok (.iconst 0, 1) := by decide +kernel
theorem dX9_isOf_41 : decode cX9_isOf 41 = .ok (.ireturn, 1) := by decide +kernel
theorem dX9_priceOf_0 : decode cX9_priceOf 0 = .ok (.aload_n 0, 1) := by decide +kernel
theorem dX9_priceOf_1 : decode cX9_priceOf 1 = .ok (.getfield 7, 3) := by decide +kernel
theorem dX9_priceOf_4 : decode cX9_priceOf 4 = .ok (.bipush 35, 2) := by decide +kernel
theorem dX9_priceOf_6 : decode cX9_priceOf 6 = .ok (.iload_n 1, 1) := by decide +kernel
theorem dX9_priceOf_7 : decode cX9_priceOf 7 = .ok (.iadd, 1) := by decide +kernel
theorem dX9_priceOf_8 : decode cX9_priceOf 8 = .ok (.iaload, 1) := by decide +kernel
theorem dX9_priceOf_9 : decode cX9_priceOf 9 = .ok (.istore_n 2, 1) := by decide +kernel
theorem dX9_priceOf_10 : decode cX9_priceOf 10 = .ok (.aload_n 0, 1) := by decide +kernel
theorem dX9_priceOf_11 : decode cX9_priceOf 11 = .ok (.getfield 7, 3) := by decide +kernel
theorem dX9_priceOf_14 : decode cX9_priceOf 14 = .ok (.bipush 11, 2) := by decide +kernel
theorem dX9_priceOf_16 : decode cX9_priceOf 16 = .ok (.iload_n 1, 1) := by decide +kernel
theorem dX9_priceOf_17 : decode cX9_priceOf 17 = .ok (.iadd, 1) := by decide +kernel
theorem dX9_priceOf_18 : decode cX9_priceOf 18 = .ok (.iaload, 1) := by decide +kernel
theorem dX9_priceOf_19 : decode cX9_priceOf 19 = .ok (.istore_n 3, 1) := by decide +kernel
theorem dX9_priceOf_20 : decode cX9_priceOf 20 = .ok (.iload_n 3, 1) := by decide +kernel
theorem dX9_priceOf_21 : decode cX9_priceOf 21 = .ok (.iconst 2, 1) := by decide +kernel
theorem dX9_priceOf_22 : decode cX9_priceOf 22 = .ok (.if_icmp .ne 9, 3) := by decide +kernel
theorem dX9_priceOf_25 : decode cX9_priceOf 25 = .ok (.iload_n 2, 1) := by decide +kernel
theorem dX9_priceOf_26 : decode cX9_priceOf 26 = .ok (.iconst 2, 1) := by decide +kernel
theorem dX9_priceOf_27 : decode cX9_priceOf 27 = .ok (.iadd, 1) := by decide +kernel
theorem dX9_priceOf_28 : decode cX9_priceOf 28 = .ok (.goto 34, 3) := by decide +kernel
theorem dX9_priceOf_31 : decode cX9_priceOf 31 = .ok (.iload_n 3, 1) := by decide +kernel
theorem dX9_priceOf_32 : decode cX9_priceOf 32 = .ok (.iconst 3, 1) := by decide +kernel
theorem dX9_priceOf_33 : decode cX9_priceOf 33 = .ok (.if_icmp .ne 9, 3) := by decide +kernel
theorem dX9_priceOf_36 : decode cX9_priceOf 36 = .ok (.iconst 3, 1) := by decide +kernel
theorem dX9_priceOf_37 : decode cX9_priceOf 37 = .ok (.iload_n 2, 1) := by decide +kernel
theorem dX9_priceOf_38 : decode cX9_priceOf 38 = .ok (.imul, 1) := by decide +kernel
theorem dX9_priceOf_39 : decode cX9_priceOf 39 = .ok (.goto 23, 3) := by decide +kernel
theorem dX9_priceOf_42 : decode cX9_priceOf 42 = .ok (.iload_n 3, 1) := by decide +kernel
theorem dX9_priceOf_43 : decode cX9_priceOf 43 = .ok (.iconst 5, 1) := by decide +kernel
theorem dX9_priceOf_44 : decode cX9_priceOf 44 = .ok (.if_icmp .ne 17, 3) := by decide +kernel
theorem dX9_priceOf_47 : decode cX9_priceOf 47 = .ok (.iload_n 2, 1) := by decide +kernel
theorem dX9_priceOf_48 : decode cX9_priceOf 48 = .ok (.aload_n 0, 1) := by decide +kernel
theorem dX9_priceOf_49 : decode cX9_priceOf 49 = .ok (.getfield 7, 3) := by decide +kernel
theorem dX9_priceOf_52 : decode cX9_priceOf 52 = .ok (.bipush 47, 2) := by decide +kernel
theorem dX9_priceOf_54 : decode cX9_priceOf 54 = .ok (.iload_n 1, 1) := by decide +kernel
theorem dX9_priceOf_55 : decode cX9_priceOf 55 = .ok (.iadd, 1) := by decide +kernel
theorem dX9_priceOf_56 : decode cX9_priceOf 56 = .ok (.iaload, 1) := by decide +kernel
theorem dX9_priceOf_57 : decode cX9_priceOf 57 = .ok (.iadd, 1) := by decide +kernel
theorem dX9_priceOf_58 : decode cX9_priceOf 58 = .ok (.goto 4, 3) := by decide +kernel
theorem dX9_priceOf_61 : decode cX9_priceOf 61 = .ok (.iload_n 2, 1) := by decide +kernel
theorem dX9_priceOf_62 : decode cX9_priceOf 62 = .ok (.ireturn, 1) := by decide +kernel
theorem dX9_member_0 : decode cX9_member 0 = .ok (.aload_n 0, 1) := by decide +kernel
theorem dX9_member_1 : decode cX9_member 1 = .ok (.iload_n 1, 1) := by decide +kernel
theorem dX9_member_2 : decode cX9_member 2 = .ok (.invokevirtual 134, 3) := by decide +kernel
theorem dX9_member_5 : decode cX9_member 5 = .ok (.ifCond .ne 6, 3) := by decide +kernel
theorem dX9_member_8 : decode cX9_member 8 = .ok (.ldc 65, 2) := by decide +kernel
theorem dX9_member_10 : decode cX9_member 10 = .ok (.ireturn, 1) := by decide +kernel
theorem dX9_member_11 : decode cX9_member 11 = .ok (.iload_n 2, 1) := by decide +kernel
theorem dX9_member_12 : decode cX9_member 12 = .ok (.tableswitch 128 0 6 #[44, 54, 64, 70, 80, 80, 117], 44) := by decide +kernel
theorem dX9_member_56 : decode cX9_member 56 = .ok (.aload_n 0, 1) := by decide +kernel
theorem dX9_member_57 : decode cX9_member 57 = .ok (.getfield 7, 3) := by decide +kernel
theorem dX9_member_60 : decode cX9_member 60 = .ok (.bipush 23, 2) := by decide +kernel
theorem dX9_member_62 : decode cX9_member 62 = .ok (.iload_n 1, 1) := by decide +kernel
theorem dX9_member_63 : decode cX9_member 63 = .ok (.iadd, 1) := by decide +kernel
theorem dX9_member_64 : decode cX9_member 64 = .ok (.iaload, 1) := by decide +kernel
theorem dX9_member_65 : decode cX9_member 65 = .ok (.ireturn, 1) := by decide +kernel
theorem dX9_member_66 : decode cX9_member 66 = .ok (.aload_n 0, 1) := by decide +kernel
theorem dX9_member_67 : decode cX9_member 67 = .ok (.getfield 7, 3) := by decide +kernel
theorem dX9_member_70 : decode cX9_member 70 = .ok (.bipush 35, 2) := by decide +kernel
theorem dX9_member_72 : decode cX9_member 72 = .ok (.iload_n 1, 1) := by decide +kernel
theorem dX9_member_73 : decode cX9_member 73 = .ok (.iadd, 1) := by decide +kernel
theorem dX9_member_74 : decode cX9_member 74 = .ok (.iaload, 1) := by decide +kernel
theorem dX9_member_75 : decode cX9_member 75 = .ok (.ireturn, 1) := by decide +kernel
theorem dX9_member_76 : decode cX9_member 76 = .ok (.aload_n 0, 1) := by decide +kernel
theorem dX9_member_77 : decode cX9_member 77 = .ok (.iload_n 1, 1) := by decide +kernel
theorem dX9_member_78 : decode cX9_member 78 = .ok (.invokevirtual 146, 3) := by decide +kernel
theorem dX9_member_81 : decode cX9_member 81 = .ok (.ireturn, 1) := by decide +kernel
theorem dX9_member_82 : decode cX9_member 82 = .ok (.aload_n 0, 1) := by decide +kernel
theorem dX9_member_83 : decode cX9_member 83 = .ok (.getfield 7, 3) := by decide +kernel
theorem dX9_member_86 : decode cX9_member 86 = .ok (.bipush 47, 2) := by decide +kernel
theorem dX9_member_88 : decode cX9_member 88 = .ok (.iload_n 1, 1) := by decide +kernel
theorem dX9_member_89 : decode cX9_member 89 = .ok (.iadd, 1) := by decide +kernel
theorem dX9_member_90 : decode cX9_member 90 = .ok (.iaload, 1) := by decide +kernel
theorem dX9_member_91 : decode cX9_member 91 = .ok (.ireturn, 1) := by decide +kernel
theorem dX9_member_92 : decode cX9_member 92 = .ok (.aload_n 0, 1) := by decide +kernel
theorem dX9_member_93 : decode cX9_member 93 = .ok (.getfield 7, 3) := by decide +kernel
theorem dX9_member_96 : decode cX9_member 96 = .ok (.bipush 47, 2) := by decide +kernel
theorem dX9_member_98 : decode cX9_member 98 = .ok (.iload_n 1, 1) := by decide +kernel
theorem dX9_member_99 : decode cX9_member 99 = .ok (.iadd, 1) := by decide +kernel
theorem dX9_member_100 : decode cX9_member 100 = .ok (.iaload, 1) := by decide +kernel
theorem dX9_member_101 : decode cX9_member 101 = .ok (.iload_n 2, 1) := by decide +kernel
theorem dX9_member_102 : decode cX9_member 102 = .ok (.iconst 4, 1) := by decide +kernel
theorem dX9_member_103 : decode cX9_member 103 = .ok (.isub, 1) := by decide +kernel
theorem dX9_member_104 : decode cX9_member 104 = .ok (.if_icmp .le 22, 3) := by decide +kernel
theorem dX9_member_107 : decode cX9_member 107 = .ok (.aload_n 0, 1) := by decide +kernel
theorem dX9_member_108 : decode cX9_member 108 = .ok (.getfield 7, 3) := by decide +kernel
theorem dX9_member_111 : decode cX9_member 111 = .ok (.bipush 59, 2) := by decide +kernel
theorem dX9_member_113 : decode cX9_member 113 = .ok (.bipush 12, 2) := by decide +kernel
theorem dX9_member_115 : decode cX9_member 115 = .ok (.iload_n 2, 1) := by decide +kernel
theorem dX9_member_116 : decode cX9_member 116 = .ok (.iconst 4, 1) := by decide +kernel
theorem dX9_member_117 : decode cX9_member 117 = .ok (.isub, 1) := by decide +kernel
theorem dX9_member_118 : decode cX9_member 118 = .ok (.imul, 1) := by decide +kernel
theorem dX9_member_119 : decode cX9_member 119 = .ok (.iadd, 1) := by decide +kernel
theorem dX9_member_120 : decode cX9_member 120 = .ok (.iload_n 1, 1) := by decide +kernel
theorem dX9_member_121 : decode cX9_member 121 = .ok (.iadd, 1) := by decide +kernel
theorem dX9_member_122 : decode cX9_member 122 = .ok (.iaload, 1) := by decide +kernel
theorem dX9_member_123 : decode cX9_member 123 = .ok (.goto 5, 3) := by decide +kernel
theorem dX9_member_126 : decode cX9_member 126 = .ok (.ldc 149, 2) := by decide +kernel
theorem dX9_member_128 : decode cX9_member 128 = .ok (.ireturn, 1) := by decide +kernel
theorem dX9_member_129 : decode cX9_member 129 = .ok (.aload_n 0, 1) := by decide +kernel
theorem dX9_member_130 : decode cX9_member 130 = .ok (.getfield 7, 3) := by decide +kernel
theorem dX9_member_133 : decode cX9_member 133 = .ok (.iconst 2, 1) := by decide +kernel
theorem dX9_member_134 : decode cX9_member 134 = .ok (.iaload, 1) := by decide +kernel
theorem dX9_member_135 : decode cX9_member 135 = .ok (.iload_n 1, 1) := by decide +kernel
theorem dX9_member_136 : decode cX9_member 136 = .ok (.ishr, 1) := by decide +kernel
theorem dX9_member_137 : decode cX9_member 137 = .ok (.iconst 1, 1) := by decide +kernel
theorem dX9_member_138 : decode cX9_member 138 = .ok (.iand, 1) := by decide +kernel
theorem dX9_member_139 : decode cX9_member 139 = .ok (.ireturn, 1) := by decide +kernel
theorem dX9_member_140 : decode cX9_member 140 = .ok (.ldc 65, 2) := by decide +kernel
theorem dX9_member_142 : decode cX9_member 142 = .ok (.ireturn, 1) := by decide +kernel
theorem dX9_typesOf_0 : decode cX9_typesOf 0 = .ok (.iconst 0, 1) := by decide +kernel
theorem dX9_typesOf_1 : decode cX9_typesOf 1 = .ok (.istore_n 3, 1) := by decide +kernel
theorem dX9_typesOf_2 : decode cX9_typesOf 2 = .ok (.iconst 0, 1) := by decide +kernel
theorem dX9_typesOf_3 : decode cX9_typesOf 3 = .ok (.istore 4, 2) := by decide +kernel
theorem dX9_typesOf_5 : decode cX9_typesOf 5 = .ok (.iload 4, 2) := by decide +kernel
theorem dX9_typesOf_7 : decode cX9_typesOf 7 = .ok (.aload_n 0, 1) := by decide +kernel
theorem dX9_typesOf_8 : decode cX9_typesOf 8 = .ok (.getfield 7, 3) := by decide +kernel
theorem dX9_typesOf_11 : decode cX9_typesOf 11 = .ok (.iconst 0, 1) := by decide +kernel
theorem dX9_typesOf_12 : decode cX9_typesOf 12 = .ok (.iaload, 1) := by decide +kernel
theorem dX9_typesOf_13 : decode cX9_typesOf 13 = .ok (.if_icmp .ge 47, 3) := by decide +kernel
theorem dX9_typesOf_16 : decode cX9_typesOf 16 = .ok (.iload_n 3, 1) := by decide +kernel
theorem dX9_typesOf_17 : decode cX9_typesOf 17 = .ok (.iload_n 2, 1) := by decide +kernel
theorem dX9_typesOf_18 : decode cX9_typesOf 18 = .ok (.ifCond .eq 16, 3) := by decide +kernel
theorem dX9_typesOf_21 : decode cX9_typesOf 21 = .ok (.aload_n 0, 1) := by decide +kernel
theorem dX9_typesOf_22 : decode cX9_typesOf 22 = .ok (.iload 4, 2) := by decide +kernel
theorem dX9_typesOf_24 : decode cX9_typesOf 24 = .ok (.iload_n 1, 1) := by decide +kernel
theorem dX9_typesOf_25 : decode cX9_typesOf 25 = .ok (.invokevirtual 150, 3) := by decide +kernel
theorem dX9_typesOf_28 : decode cX9_typesOf 28 = .ok (.ifCond .eq 23, 3) := by decide +kernel
theorem dX9_typesOf_31 : decode cX9_typesOf 31 = .ok (.goto 13, 3) := by decide +kernel
theorem dX9_typesOf_34 : decode cX9_typesOf 34 = .ok (.aload_n 0, 1) := by decide +kernel
theorem dX9_typesOf_35 : decode cX9_typesOf 35 = .ok (.iload_n 1, 1) := by decide +kernel
theorem dX9_typesOf_36 : decode cX9_typesOf 36 = .ok (.iload 4, 2) := by decide +kernel
theorem dX9_typesOf_38 : decode cX9_typesOf 38 = .ok (.invokevirtual 150, 3) := by decide +kernel
theorem dX9_typesOf_41 : decode cX9_typesOf 41 = .ok (.ifCond .eq 10, 3) := by decide +kernel
theorem dX9_typesOf_44 : decode cX9_typesOf 44 = .ok (.iconst 1, 1) := by decide +kernel
theorem dX9_typesOf_45 : decode cX9_typesOf 45 = .ok (.iload 4, 2) := by decide +kernel
theorem dX9_typesOf_47 : decode cX9_typesOf 47 = .ok (.ishl, 1) := by decide +kernel
theorem dX9_typesOf_48 : decode cX9_typesOf 48 = .ok (.goto 4, 3) := by decide +kernel
theorem dX9_typesOf_51 : decode cX9_typesOf 51 = .ok (.iconst 0, 1) := by decide +kernel
theorem dX9_typesOf_52 : decode cX9_typesOf 52 = .ok (.ior, 1) := by decide +kernel
theorem dX9_typesOf_53 : decode cX9_typesOf 53 = .ok (.istore_n 3, 1) := by decide +kernel
theorem dX9_typesOf_54 : decode cX9_typesOf 54 = .ok (.iinc 4 1, 3) := by decide +kernel
theorem dX9_typesOf_57 : decode cX9_typesOf 57 = .ok (.goto (-52), 3) := by decide +kernel
theorem dX9_typesOf_60 : decode cX9_typesOf 60 = .ok (.iload_n 3, 1) := by decide +kernel
theorem dX9_typesOf_61 : decode cX9_typesOf 61 = .ok (.ireturn, 1) := by decide +kernel
theorem dX9_givers_0 : decode cX9_givers 0 = .ok (.iconst 0, 1) := by decide +kernel
theorem dX9_givers_1 : decode cX9_givers 1 = .ok (.istore_n 2, 1) := by decide +kernel
theorem dX9_givers_2 : decode cX9_givers 2 = .ok (.iconst 0, 1) := by decide +kernel
theorem dX9_givers_3 : decode cX9_givers 3 = .ok (.istore_n 3, 1) := by decide +kernel
theorem dX9_givers_4 : decode cX9_givers 4 = .ok (.iload_n 3, 1) := by decide +kernel
theorem dX9_givers_5 : decode cX9_givers 5 = .ok (.aload_n 0, 1) := by decide +kernel
theorem dX9_givers_6 : decode cX9_givers 6 = .ok (.getfield 7, 3) := by decide +kernel
theorem dX9_givers_9 : decode cX9_givers 9 = .ok (.iconst 1, 1) := by decide +kernel
theorem dX9_givers_10 : decode cX9_givers 10 = .ok (.iaload, 1) := by decide +kernel
theorem dX9_givers_11 : decode cX9_givers 11 = .ok (.if_icmp .ge 36, 3) := by decide +kernel
theorem dX9_givers_14 : decode cX9_givers 14 = .ok (.iload_n 2, 1) := by decide +kernel
theorem dX9_givers_15 : decode cX9_givers 15 = .ok (.aload_n 0, 1) := by decide +kernel
theorem dX9_givers_16 : decode cX9_givers 16 = .ok (.aload_n 0, 1) := by decide +kernel
theorem dX9_givers_17 : decode cX9_givers 17 = .ok (.getfield 7, 3) := by decide +kernel
theorem dX9_givers_20 : decode cX9_givers 20 = .ok (.bipush 23, 2) := by decide +kernel
theorem dX9_givers_22 : decode cX9_givers 22 = .ok (.iload_n 3, 1) := by decide +kernel
theorem dX9_givers_23 : decode cX9_givers 23 = .ok (.iadd, 1) := by decide +kernel
theorem dX9_givers_24 : decode cX9_givers 24 = .ok (.iaload, 1) := by decide +kernel
theorem dX9_givers_25 : decode cX9_givers 25 = .ok (.iload_n 1, 1) := by decide +kernel
theorem dX9_givers_26 : decode cX9_givers 26 = .ok (.invokevirtual 150, 3) := by decide +kernel
theorem dX9_givers_29 : decode cX9_givers 29 = .ok (.ifCond .eq 9, 3) := by decide +kernel
theorem dX9_givers_32 : decode cX9_givers 32 = .ok (.iconst 1, 1) := by decide +kernel
theorem dX9_givers_33 : decode cX9_givers 33 = .ok (.iload_n 3, 1) := by decide +kernel
theorem dX9_givers_34 : decode cX9_givers 34 = .ok (.ishl, 1) := by decide +kernel
theorem dX9_givers_35 : decode cX9_givers 35 = .ok (.goto 4, 3) := by decide +kernel
theorem dX9_givers_38 : decode cX9_givers 38 = .ok (.iconst 0, 1) := by decide +kernel
theorem dX9_givers_39 : decode cX9_givers 39 = .ok (.ior, 1) := by decide +kernel
theorem dX9_givers_40 : decode cX9_givers 40 = .ok (.istore_n 2, 1) := by decide +kernel
theorem dX9_givers_41 : decode cX9_givers 41 = .ok (.iinc 3 1, 3) := by decide +kernel
theorem dX9_givers_44 : decode cX9_givers 44 = .ok (.goto (-40), 3) := by decide +kernel
theorem dX9_givers_47 : decode cX9_givers 47 = .ok (.iload_n 2, 1) := by decide +kernel
theorem dX9_givers_48 : decode cX9_givers 48 = .ok (.ireturn, 1) := by decide +kernel
theorem dX9_type_0 : decode cX9_type 0 = .ok (.aload_n 0, 1) := by decide +kernel
theorem dX9_type_1 : decode cX9_type 1 = .ok (.iload_n 1, 1) := by decide +kernel
theorem dX9_type_2 : decode cX9_type 2 = .ok (.invokevirtual 143, 3) := by decide +kernel
theorem dX9_type_5 : decode cX9_type 5 = .ok (.ifCond .ne 6, 3) := by decide +kernel
theorem dX9_type_8 : decode cX9_type 8 = .ok (.ldc 65, 2) := by decide +kernel
theorem dX9_type_10 : decode cX9_type 10 = .ok (.ireturn, 1) := by decide +kernel
theorem dX9_type_11 : decode cX9_type 11 = .ok (.iload_n 2, 1) := by decide +kernel
theorem dX9_type_12 : decode cX9_type 12 = .ok (.tableswitch 61 0 3 #[32, 41, 48, 55], 32) := by decide +kernel
theorem dX9_type_44 : decode cX9_type 44 = .ok (.aload_n 0, 1) := by decide +kernel
theorem dX9_type_45 : decode cX9_type 45 = .ok (.getfield 7, 3) := by decide +kernel
theorem dX9_type_48 : decode cX9_type 48 = .ok (.iconst 3, 1) := by decide +kernel
theorem dX9_type_49 : decode cX9_type 49 = .ok (.iload_n 1, 1) := by decide +kernel
theorem dX9_type_50 : decode cX9_type 50 = .ok (.iadd, 1) := by decide +kernel
theorem dX9_type_51 : decode cX9_type 51 = .ok (.iaload, 1) := by decide +kernel
theorem dX9_type_52 : decode cX9_type 52 = .ok (.ireturn, 1) := by decide +kernel
theorem dX9_type_53 : decode cX9_type 53 = .ok (.aload_n 0, 1) := by decide +kernel
theorem dX9_type_54 : decode cX9_type 54 = .ok (.iload_n 1, 1) := by decide +kernel
theorem dX9_type_55 : decode cX9_type 55 = .ok (.iconst 0, 1) := by decide +kernel
theorem dX9_type_56 : decode cX9_type 56 = .ok (.invokevirtual 153, 3) := by decide +kernel
theorem dX9_type_59 : decode cX9_type 59 = .ok (.ireturn, 1) := by decide +kernel
theorem dX9_type_60 : decode cX9_type 60 = .ok (.aload_n 0, 1) := by decide +kernel
theorem dX9_type_61 : decode cX9_type 61 = .ok (.iload_n 1, 1) := by decide +kernel
theorem dX9_type_62 : decode cX9_type 62 = .ok (.iconst 1, 1) := by decide +kernel
theorem dX9_type_63 : decode cX9_type 63 = .ok (.invokevirtual 153, 3) := by decide +kernel
theorem dX9_type_66 : decode cX9_type 66 = .ok (.ireturn, 1) := by decide +kernel
theorem dX9_type_67 : decode cX9_type 67 = .ok (.aload_n 0, 1) := by decide +kernel
theorem dX9_type_68 : decode cX9_type 68 = .ok (.iload_n 1, 1) := by decide +kernel
theorem dX9_type_69 : decode cX9_type 69 = .ok (.invokevirtual 157, 3) := by decide +kernel
theorem dX9_type_72 : decode cX9_type 72 = .ok (.ireturn, 1) := by decide +kernel
theorem dX9_type_73 : decode cX9_type 73 = .ok (.ldc 65, 2) := by decide +kernel
theorem dX9_type_75 : decode cX9_type 75 = .ok (.ireturn, 1) := by decide +kernel
theorem dX9_cut_0 : decode cX9_cut 0 = .ok (.lload_n 0, 1) := by decide +kernel
theorem dX9_cut_1 : decode cX9_cut 1 = .ok (.ldc2_w 160, 3) := by decide +kernel
theorem dX9_cut_4 : decode cX9_cut 4 = .ok (.lcmp, 1) := by decide +kernel
theorem dX9_cut_5 : decode cX9_cut 5 = .ok (.ifCond .le 9, 3) := by decide +kernel
theorem dX9_cut_8 : decode cX9_cut 8 = .ok (.ldc2_w 160, 3) := by decide +kernel
theorem dX9_cut_11 : decode cX9_cut 11 = .ok (.goto 4, 3) := by decide +kernel
theorem dX9_cut_14 : decode cX9_cut 14 = .ok (.lload_n 0, 1) := by decide +kernel
theorem dX9_cut_15 : decode cX9_cut 15 = .ok (.lreturn, 1) := by decide +kernel
theorem dX9_headed_0 : decode cX9_headed 0 = .ok (.iload_n 2, 1) := by decide +kernel
theorem dX9_headed_1 : decode cX9_headed 1 = .ok (.aload_n 0, 1) := by decide +kernel
theorem dX9_headed_2 : decode cX9_headed 2 = .ok (.iload_n 1, 1) := by decide +kernel
theorem dX9_headed_3 : decode cX9_headed 3 = .ok (.invokevirtual 146, 3) := by decide +kernel
theorem dX9_headed_6 : decode cX9_headed 6 = .ok (.isub, 1) := by decide +kernel
theorem dX9_headed_7 : decode cX9_headed 7 = .ok (.istore_n 3, 1) := by decide +kernel
theorem dX9_headed_8 : decode cX9_headed 8 = .ok (.iload_n 3, 1) := by decide +kernel
theorem dX9_headed_9 : decode cX9_headed 9 = .ok (.ifCond .lt 15, 3) := by decide +kernel
theorem dX9_headed_12 : decode cX9_headed 12 = .ok (.aload_n 0, 1) := by decide +kernel
theorem dX9_headed_13 : decode cX9_headed 13 = .ok (.getfield 7, 3) := by decide +kernel
theorem dX9_headed_16 : decode cX9_headed 16 = .ok (.bipush 47, 2) := by decide +kernel
theorem dX9_headed_18 : decode cX9_headed 18 = .ok (.iload_n 1, 1) := by decide +kernel
theorem dX9_headed_19 : decode cX9_headed 19 = .ok (.iadd, 1) := by decide +kernel
theorem dX9_headed_20 : decode cX9_headed 20 = .ok (.iaload, 1) := by decide +kernel
theorem dX9_headed_21 : decode cX9_headed 21 = .ok (.ifCond .ne 13, 3) := by decide +kernel
theorem dX9_headed_24 : decode cX9_headed 24 = .ok (.iload_n 3, 1) := by decide +kernel
theorem dX9_headed_25 : decode cX9_headed 25 = .ok (.ifCond .ne 7, 3) := by decide +kernel
theorem dX9_headed_28 : decode cX9_headed 28 = .ok (.lconst 1, 1) := by decide +kernel
theorem dX9_headed_29 : decode cX9_headed 29 = .ok (.goto 4, 3) := by decide +kernel
theorem dX9_headed_32 : decode cX9_headed 32 = .ok (.lconst 0, 1) := by decide +kernel
theorem dX9_headed_33 : decode cX9_headed 33 = .ok (.lreturn, 1) := by decide +kernel
theorem dX9_headed_34 : decode cX9_headed 34 = .ok (.aload_n 0, 1) := by decide +kernel
theorem dX9_headed_35 : decode cX9_headed 35 = .ok (.getfield 7, 3) := by decide +kernel
theorem dX9_headed_38 : decode cX9_headed 38 = .ok (.bipush 59, 2) := by decide +kernel
theorem dX9_headed_40 : decode cX9_headed 40 = .ok (.iload_n 1, 1) := by decide +kernel
theorem dX9_headed_41 : decode cX9_headed 41 = .ok (.iadd, 1) := by decide +kernel
theorem dX9_headed_42 : decode cX9_headed 42 = .ok (.iaload, 1) := by decide +kernel
theorem dX9_headed_43 : decode cX9_headed 43 = .ok (.istore 4, 2) := by decide +kernel
theorem dX9_headed_45 : decode cX9_headed 45 = .ok (.aload_n 0, 1) := by decide +kernel
theorem dX9_headed_46 : decode cX9_headed 46 = .ok (.getfield 7, 3) := by decide +kernel
theorem dX9_headed_49 : decode cX9_headed 49 = .ok (.bipush 47, 2) := by decide +kernel
theorem dX9_headed_51 : decode cX9_headed 51 = .ok (.iload_n 1, 1) := by decide +kernel
theorem dX9_headed_52 : decode cX9_headed 52 = .ok (.iadd, 1) := by decide +kernel
theorem dX9_headed_53 : decode cX9_headed 53 = .ok (.iaload, 1) := by decide +kernel
theorem dX9_headed_54 : decode cX9_headed 54 = .ok (.iconst 1, 1) := by decide +kernel
theorem dX9_headed_55 : decode cX9_headed 55 = .ok (.if_icmp .ne 16, 3) := by decide +kernel
theorem dX9_headed_58 : decode cX9_headed 58 = .ok (.aload_n 0, 1) := by decide +kernel
theorem dX9_headed_59 : decode cX9_headed 59 = .ok (.getfield 28, 3) := by decide +kernel
theorem dX9_headed_62 : decode cX9_headed 62 = .ok (.bipush 25, 2) := by decide +kernel
theorem dX9_headed_64 : decode cX9_headed 64 = .ok (.iload 4, 2) := by decide +kernel
theorem dX9_headed_66 : decode cX9_headed 66 = .ok (.imul, 1) := by decide +kernel
theorem dX9_headed_67 : decode cX9_headed 67 = .ok (.iload_n 3, 1) := by decide +kernel
theorem dX9_headed_68 : decode cX9_headed 68 = .ok (.iadd, 1) := by decide +kernel
theorem dX9_headed_69 : decode cX9_headed 69 = .ok (.laload, 1) := by decide +kernel
theorem dX9_headed_70 : decode cX9_headed 70 = .ok (.lreturn, 1) := by decide +kernel
theorem dX9_headed_71 : decode cX9_headed 71 = .ok (.aload_n 0, 1) := by decide +kernel
theorem dX9_headed_72 : decode cX9_headed 72 = .ok (.getfield 7, 3) := by decide +kernel
theorem dX9_headed_75 : decode cX9_headed 75 = .ok (.bipush 71, 2) := by decide +kernel
theorem dX9_headed_77 : decode cX9_headed 77 = .ok (.iload_n 1, 1) := by decide +kernel
theorem dX9_headed_78 : decode cX9_headed 78 = .ok (.iadd, 1) := by decide +kernel
theorem dX9_headed_79 : decode cX9_headed 79 = .ok (.iaload, 1) := by decide +kernel
theorem dX9_headed_80 : decode cX9_headed 80 = .ok (.istore 5, 2) := by decide +kernel
theorem dX9_headed_82 : decode cX9_headed 82 = .ok (.lconst 0, 1) := by decide +kernel
theorem dX9_headed_83 : decode cX9_headed 83 = .ok (.lstore 6, 2) := by decide +kernel
theorem dX9_headed_85 : decode cX9_headed 85 = .ok (.iconst 1, 1) := by decide +kernel
theorem dX9_headed_86 : decode cX9_headed 86 = .ok (.istore 8, 2) := by decide +kernel
theorem dX9_headed_88 : decode cX9_headed 88 = .ok (.iload 8, 2) := by decide +kernel
theorem dX9_headed_90 : decode cX9_headed 90 = .ok (.iload_n 3, 1) := by decide +kernel
theorem dX9_headed_91 : decode cX9_headed 91 = .ok (.if_icmp .ge 49, 3) := by decide +kernel
theorem dX9_headed_94 : decode cX9_headed 94 = .ok (.lload 6, 2) := by decide +kernel
theorem dX9_headed_96 : decode cX9_headed 96 = .ok (.aload_n 0, 1) := by decide +kernel
theorem dX9_headed_97 : decode cX9_headed 97 = .ok (.getfield 28, 3) := by decide +kernel
theorem dX9_headed_100 : decode cX9_headed 100 = .ok (.bipush 25, 2) := by decide +kernel
theorem dX9_headed_102 : decode cX9_headed 102 = .ok (.iload 4, 2) := by decide +kernel
theorem dX9_headed_104 : decode cX9_headed 104 = .ok (.imul, 1) := by decide +kernel
theorem dX9_headed_105 : decode cX9_headed 105 = .ok (.iload 8, 2) := by decide +kernel
theorem dX9_headed_107 : decode cX9_headed 107 = .ok (.iadd, 1) := by decide +kernel
theorem dX9_headed_108 : decode cX9_headed 108 = .ok (.laload, 1) := by decide +kernel
theorem dX9_headed_109 : decode cX9_headed 109 = .ok (.aload_n 0, 1) := by decide +kernel
theorem dX9_headed_110 : decode cX9_headed 110 = .ok (.getfield 28, 3) := by decide +kernel
theorem dX9_headed_113 : decode cX9_headed 113 = .ok (.bipush 25, 2) := by decide +kernel
theorem dX9_headed_115 : decode cX9_headed 115 = .ok (.iload 5, 2) := by decide +kernel
theorem dX9_headed_117 : decode cX9_headed 117 = .ok (.imul, 1) := by decide +kernel
theorem dX9_headed_118 : decode cX9_headed 118 = .ok (.iload_n 3, 1) := by decide +kernel
theorem dX9_headed_119 : decode cX9_headed 119 = .ok (.iadd, 1) := by decide +kernel
theorem dX9_headed_120 : decode cX9_headed 120 = .ok (.iload 8, 2) := by decide +kernel
theorem dX9_headed_122 : decode cX9_headed 122 = .ok (.isub, 1) := by decide +kernel
theorem dX9_headed_123 : decode cX9_headed 123 = .ok (.laload, 1) := by decide +kernel
theorem dX9_headed_124 : decode cX9_headed 124 = .ok (.lmul, 1) := by decide +kernel
theorem dX9_headed_125 : decode cX9_headed 125 = .ok (.invokestatic 162, 3) := by decide +kernel
theorem dX9_headed_128 : decode cX9_headed 128 = .ok (.ladd, 1) := by decide +kernel
theorem dX9_headed_129 : decode cX9_headed 129 = .ok (.invokestatic 162, 3) := by decide +kernel
theorem dX9_headed_132 : decode cX9_headed 132 = .ok (.lstore 6, 2) := by decide +kernel
theorem dX9_headed_134 : decode cX9_headed 134 = .ok (.iinc 8 1, 3) := by decide +kernel
theorem dX9_headed_137 : decode cX9_headed 137 = .ok (.goto (-49), 3) := by decide +kernel
theorem dX9_headed_140 : decode cX9_headed 140 = .ok (.lload 6, 2) := by decide +kernel
theorem dX9_headed_142 : decode cX9_headed 142 = .ok (.lreturn, 1) := by decide +kernel
theorem dX9_layWays_0 : decode cX9_layWays 0 = .ok (.iconst 0, 1) := by decide +kernel
theorem dX9_layWays_1 : decode cX9_layWays 1 = .ok (.istore_n 2, 1) := by decide +kernel
theorem dX9_layWays_2 : decode cX9_layWays 2 = .ok (.iload_n 2, 1) := by decide +kernel
theorem dX9_layWays_3 : decode cX9_layWays 3 = .ok (.sipush 200, 3) := by decide +kernel
theorem dX9_layWays_6 : decode cX9_layWays 6 = .ok (.if_icmp .ge 16, 3) := by decide +kernel
theorem dX9_layWays_9 : decode cX9_layWays 9 = .ok (.aload_n 0, 1) := by decide +kernel
theorem dX9_layWays_10 : decode cX9_layWays 10 = .ok (.getfield 28, 3) := by decide +kernel
theorem dX9_layWays_13 : decode cX9_layWays 13 = .ok (.iload_n 2, 1) := by decide +kernel
theorem dX9_layWays_14 : decode cX9_layWays 14 = .ok (.lconst 0, 1) := by decide +kernel
theorem dX9_layWays_15 : decode cX9_layWays 15 = .ok (.lastore, 1) := by decide +kernel
theorem dX9_layWays_16 : decode cX9_layWays 16 = .ok (.iinc 2 1, 3) := by decide +kernel
theorem dX9_layWays_19 : decode cX9_layWays 19 = .ok (.goto (-17), 3) := by decide +kernel
theorem dX9_layWays_22 : decode cX9_layWays 22 = .ok (.iconst 1, 1) := by decide +kernel
theorem dX9_layWays_23 : decode cX9_layWays 23 = .ok (.istore_n 2, 1) := by decide +kernel
theorem dX9_layWays_24 : decode cX9_layWays 24 = .ok (.iload_n 2, 1) := by decide +kernel
theorem dX9_layWays_25 : decode cX9_layWays 25 = .ok (.bipush 24, 2) := by decide +kernel
theorem dX9_layWays_27 : decode cX9_layWays 27 = .ok (.if_icmp .gt 137, 3) := by decide +kernel
theorem dX9_layWays_30 : decode cX9_layWays 30 = .ok (.iconst 0, 1) := by decide +kernel
theorem dX9_layWays_31 : decode cX9_layWays 31 = .ok (.istore_n 3, 1) := by decide +kernel
theorem dX9_layWays_32 : decode cX9_layWays 32 = .ok (.iload_n 3, 1) := by decide +kernel
theorem dX9_layWays_33 : decode cX9_layWays 33 = .ok (.aload_n 0, 1) := by decide +kernel
theorem dX9_layWays_34 : decode cX9_layWays 34 = .ok (.getfield 7, 3) := by decide +kernel
theorem dX9_layWays_37 : decode cX9_layWays 37 = .ok (.iconst 1, 1) := by decide +kernel
theorem dX9_layWays_38 : decode cX9_layWays 38 = .ok (.iaload, 1) := by decide +kernel
theorem dX9_layWays_39 : decode cX9_layWays 39 = .ok (.if_icmp .ge 119, 3) := by decide +kernel
theorem dX9_layWays_42 : decode cX9_layWays 42 = .ok (.iload_n 1, 1) := by decide +kernel
theorem dX9_layWays_43 : decode cX9_layWays 43 = .ok (.iload_n 3, 1) := by decide +kernel
theorem dX9_layWays_44 : decode cX9_layWays 44 = .ok (.invokestatic 166, 3) := by decide +kernel
theorem dX9_layWays_47 : decode cX9_layWays 47 = .ok (.ifCond .eq 7, 3) := by decide +kernel
theorem dX9_layWays_50 : decode cX9_layWays 50 = .ok (.lconst 0, 1) := by decide +kernel
theorem dX9_layWays_51 : decode cX9_layWays 51 = .ok (.goto 9, 3) := by decide +kernel
theorem dX9_layWays_54 : decode cX9_layWays 54 = .ok (.aload_n 0, 1) := by decide +kernel
theorem dX9_layWays_55 : decode cX9_layWays 55 = .ok (.iload_n 3, 1) := by decide +kernel
theorem dX9_layWays_56 : decode cX9_layWays 56 = .ok (.iload_n 2, 1) := by decide +kernel
theorem dX9_layWays_57 : decode cX9_layWays 57 = .ok (.invokevirtual 169, 3) := by decide +kernel
theorem dX9_layWays_60 : decode cX9_layWays 60 = .ok (.lstore 4, 2) := by decide +kernel
theorem dX9_layWays_62 : decode cX9_layWays 62 = .ok (.iconst 0, 1) := by decide +kernel
theorem dX9_layWays_63 : decode cX9_layWays 63 = .ok (.istore 6, 2) := by decide +kernel
theorem dX9_layWays_65 : decode cX9_layWays 65 = .ok (.iload 6, 2) := by decide +kernel
theorem dX9_layWays_67 : decode cX9_layWays 67 = .ok (.aload_n 0, 1) := by decide +kernel
theorem dX9_layWays_68 : decode cX9_layWays 68 = .ok (.getfield 7, 3) := by decide +kernel
theorem dX9_layWays_71 : decode cX9_layWays 71 = .ok (.iconst 0, 1) := by decide +kernel
theorem dX9_layWays_72 : decode cX9_layWays 72 = .ok (.iaload, 1) := by decide +kernel
theorem dX9_layWays_73 : decode cX9_layWays 73 = .ok (.if_icmp .ge 79, 3) := by decide +kernel
theorem dX9_layWays_76 : decode cX9_layWays 76 = .ok (.lload 4, 2) := by decide +kernel
theorem dX9_layWays_78 : decode cX9_layWays 78 = .ok (.lconst 0, 1) := by decide +kernel
theorem dX9_layWays_79 : decode cX9_layWays 79 = .ok (.lcmp, 1) := by decide +kernel
theorem dX9_layWays_80 : decode cX9_layWays 80 = .ok (.ifCond .le 72, 3) := by decide +kernel
theorem dX9_layWays_83 : decode cX9_layWays 83 = .ok (.aload_n 0, 1) := by decide +kernel
theorem dX9_layWays_84 : decode cX9_layWays 84 = .ok (.getfield 28, 3) := by decide +kernel
theorem dX9_layWays_87 : decode cX9_layWays 87 = .ok (.bipush 25, 2) := by decide +kernel
theorem dX9_layWays_89 : decode cX9_layWays 89 = .ok (.iload 6, 2) := by decide +kernel
theorem dX9_layWays_91 : decode cX9_layWays 91 = .ok (.imul, 1) := by decide +kernel
theorem dX9_layWays_92 : decode cX9_layWays 92 = .ok (.iload_n 2, 1) := by decide +kernel
theorem dX9_layWays_93 : decode cX9_layWays 93 = .ok (.iadd, 1) := by decide +kernel
theorem dX9_layWays_94 : decode cX9_layWays 94 = .ok (.aload_n 0, 1) := by decide +kernel
theorem dX9_layWays_95 : decode cX9_layWays 95 = .ok (.aload_n 0, 1) := by decide +kernel
theorem dX9_layWays_96 : decode cX9_layWays 96 = .ok (.getfield 7, 3) := by decide +kernel
theorem dX9_layWays_99 : decode cX9_layWays 99 = .ok (.bipush 23, 2) := by decide +kernel
theorem dX9_layWays_101 : decode cX9_layWays 101 = .ok (.iload_n 3, 1) := by decide +kernel
theorem dX9_layWays_102 : decode cX9_layWays 102 = .ok (.iadd, 1) := by decide +kernel
theorem dX9_layWays_103 : decode cX9_layWays 103 = .ok (.iaload, 1) := by decide +kernel
theorem dX9_layWays_104 : decode cX9_layWays 104 = .ok (.iload 6, 2) := by decide +kernel
theorem dX9_layWays_106 : decode cX9_layWays 106 = .ok (.invokevirtual 150, 3) := by decide +kernel
theorem dX9_layWays_109 : decode cX9_layWays 109 = .ok (.ifCond .eq 24, 3) := by decide +kernel
theorem dX9_layWays_112 : decode cX9_layWays 112 = .ok (.aload_n 0, 1) := by decide +kernel
theorem dX9_layWays_113 : decode cX9_layWays 113 = .ok (.getfield 28, 3) := by decide +kernel
theorem dX9_layWays_116 : decode cX9_layWays 116 = .ok (.bipush 25, 2) := by decide +kernel
theorem dX9_layWays_118 : decode cX9_layWays 118 = .ok (.iload 6, 2) := by decide +kernel
theorem dX9_layWays_120 : decode cX9_layWays 120 = .ok (.imul, 1) := by decide +kernel
theorem dX9_layWays_121 : decode cX9_layWays 121 = .ok (.iload_n 2, 1) := by decide +kernel
theorem dX9_layWays_122 : decode cX9_layWays 122 = .ok (.iadd, 1) := by decide +kernel
theorem dX9_layWays_123 : decode cX9_layWays 123 = .ok (.laload, 1) := by decide +kernel
end
section
theorem dX9_layWays_124 : decode cX9_layWays 124 = .ok (.lload 4, 2) := by decide +kernel
theorem dX9_layWays_126 : decode cX9_layWays 126 = .ok (.ladd, 1) := by decide +kernel
theorem dX9_layWays_127 : decode cX9_layWays 127 = .ok (.invokestatic 162, 3) := by decide +kernel
theorem dX9_layWays_130 : decode cX9_layWays 130 = .ok (.goto 15, 3) := by decide +kernel
theorem dX9_layWays_133 : decode cX9_layWays 133 = .ok (.aload_n 0, 1) := by decide +kernel
theorem dX9_layWays_134 : decode cX9_layWays 134 = .ok (.getfield 28, 3) := by decide +kernel
theorem dX9_layWays_137 : decode cX9_layWays 137 = .ok (.bipush 25, 2) := by decide +kernel
theorem dX9_layWays_139 : decode cX9_layWays 139 = .ok (.iload 6, 2) := by decide +kernel
theorem dX9_layWays_141 : decode cX9_layWays 141 = .ok (.imul, 1) := by decide +kernel
theorem dX9_layWays_142 : decode cX9_layWays 142 = .ok (.iload_n 2, 1) := by decide +kernel
theorem dX9_layWays_143 : decode cX9_layWays 143 = .ok (.iadd, 1) := by decide +kernel
theorem dX9_layWays_144 : decode cX9_layWays 144 = .ok (.laload, 1) := by decide +kernel
theorem dX9_layWays_145 : decode cX9_layWays 145 = .ok (.lastore, 1) := by decide +kernel
theorem dX9_layWays_146 : decode cX9_layWays 146 = .ok (.iinc 6 1, 3) := by decide +kernel
theorem dX9_layWays_149 : decode cX9_layWays 149 = .ok (.goto (-84), 3) := by decide +kernel
theorem dX9_layWays_152 : decode cX9_layWays 152 = .ok (.iinc 3 1, 3) := by decide +kernel
theorem dX9_layWays_155 : decode cX9_layWays 155 = .ok (.goto (-123), 3) := by decide +kernel
theorem dX9_layWays_158 : decode cX9_layWays 158 = .ok (.iinc 2 1, 3) := by decide +kernel
theorem dX9_layWays_161 : decode cX9_layWays 161 = .ok (.goto (-137), 3) := by decide +kernel
theorem dX9_layWays_164 : decode cX9_layWays 164 = .ok (.return_, 1) := by decide +kernel
theorem dX9_toldOf_0 : decode cX9_toldOf 0 = .ok (.lload_n 1, 1) := by decide +kernel
theorem dX9_toldOf_1 : decode cX9_toldOf 1 = .ok (.ldc2_w 173, 3) := by decide +kernel
theorem dX9_toldOf_4 : decode cX9_toldOf 4 = .ok (.lcmp, 1) := by decide +kernel
theorem dX9_toldOf_5 : decode cX9_toldOf 5 = .ok (.ifCond .le 8, 3) := by decide +kernel
theorem dX9_toldOf_8 : decode cX9_toldOf 8 = .ok (.ldc 175, 2) := by decide +kernel
theorem dX9_toldOf_10 : decode cX9_toldOf 10 = .ok (.goto 5, 3) := by decide +kernel
theorem dX9_toldOf_13 : decode cX9_toldOf 13 = .ok (.lload_n 1, 1) := by decide +kernel
theorem dX9_toldOf_14 : decode cX9_toldOf 14 = .ok (.l2i, 1) := by decide +kernel
theorem dX9_toldOf_15 : decode cX9_toldOf 15 = .ok (.ireturn, 1) := by decide +kernel
theorem dX9_many_0 : decode cX9_many 0 = .ok (.aload_n 0, 1) := by decide +kernel
theorem dX9_many_1 : decode cX9_many 1 = .ok (.iload_n 1, 1) := by decide +kernel
theorem dX9_many_2 : decode cX9_many 2 = .ok (.invokevirtual 143, 3) := by decide +kernel
theorem dX9_many_5 : decode cX9_many 5 = .ok (.ifCond .eq 15, 3) := by decide +kernel
theorem dX9_many_8 : decode cX9_many 8 = .ok (.iload_n 2, 1) := by decide +kernel
theorem dX9_many_9 : decode cX9_many 9 = .ok (.i2l, 1) := by decide +kernel
theorem dX9_many_10 : decode cX9_many 10 = .ok (.lconst 1, 1) := by decide +kernel
theorem dX9_many_11 : decode cX9_many 11 = .ok (.ldc2_w 176, 3) := by decide +kernel
theorem dX9_many_14 : decode cX9_many 14 = .ok (.invokestatic 48, 3) := by decide +kernel
theorem dX9_many_17 : decode cX9_many 17 = .ok (.ifCond .ne 6, 3) := by decide +kernel
theorem dX9_many_20 : decode cX9_many 20 = .ok (.ldc 65, 2) := by decide +kernel
theorem dX9_many_22 : decode cX9_many 22 = .ok (.ireturn, 1) := by decide +kernel
theorem dX9_many_23 : decode cX9_many 23 = .ok (.aload_n 0, 1) := by decide +kernel
theorem dX9_many_24 : decode cX9_many 24 = .ok (.aload_n 0, 1) := by decide +kernel
theorem dX9_many_25 : decode cX9_many 25 = .ok (.getfield 7, 3) := by decide +kernel
theorem dX9_many_28 : decode cX9_many 28 = .ok (.iconst 2, 1) := by decide +kernel
theorem dX9_many_29 : decode cX9_many 29 = .ok (.iaload, 1) := by decide +kernel
theorem dX9_many_30 : decode cX9_many 30 = .ok (.invokevirtual 178, 3) := by decide +kernel
theorem dX9_many_33 : decode cX9_many 33 = .ok (.aload_n 0, 1) := by decide +kernel
theorem dX9_many_34 : decode cX9_many 34 = .ok (.aload_n 0, 1) := by decide +kernel
theorem dX9_many_35 : decode cX9_many 35 = .ok (.getfield 28, 3) := by decide +kernel
theorem dX9_many_38 : decode cX9_many 38 = .ok (.bipush 25, 2) := by decide +kernel
theorem dX9_many_40 : decode cX9_many 40 = .ok (.iload_n 1, 1) := by decide +kernel
theorem dX9_many_41 : decode cX9_many 41 = .ok (.imul, 1) := by decide +kernel
theorem dX9_many_42 : decode cX9_many 42 = .ok (.iload_n 2, 1) := by decide +kernel
theorem dX9_many_43 : decode cX9_many 43 = .ok (.iadd, 1) := by decide +kernel
theorem dX9_many_44 : decode cX9_many 44 = .ok (.laload, 1) := by decide +kernel
theorem dX9_many_45 : decode cX9_many 45 = .ok (.invokevirtual 182, 3) := by decide +kernel
theorem dX9_many_48 : decode cX9_many 48 = .ok (.ireturn, 1) := by decide +kernel
theorem dX9_cheapestOf_0 : decode cX9_cheapestOf 0 = .ok (.iconst 1, 1) := by decide +kernel
theorem dX9_cheapestOf_1 : decode cX9_cheapestOf 1 = .ok (.istore_n 2, 1) := by decide +kernel
theorem dX9_cheapestOf_2 : decode cX9_cheapestOf 2 = .ok (.iload_n 2, 1) := by decide +kernel
theorem dX9_cheapestOf_3 : decode cX9_cheapestOf 3 = .ok (.bipush 24, 2) := by decide +kernel
theorem dX9_cheapestOf_5 : decode cX9_cheapestOf 5 = .ok (.if_icmp .gt 27, 3) := by decide +kernel
theorem dX9_cheapestOf_8 : decode cX9_cheapestOf 8 = .ok (.aload_n 0, 1) := by decide +kernel
theorem dX9_cheapestOf_9 : decode cX9_cheapestOf 9 = .ok (.getfield 28, 3) := by decide +kernel
theorem dX9_cheapestOf_12 : decode cX9_cheapestOf 12 = .ok (.bipush 25, 2) := by decide +kernel
theorem dX9_cheapestOf_14 : decode cX9_cheapestOf 14 = .ok (.iload_n 1, 1) := by decide +kernel
theorem dX9_cheapestOf_15 : decode cX9_cheapestOf 15 = .ok (.imul, 1) := by decide +kernel
theorem dX9_cheapestOf_16 : decode cX9_cheapestOf 16 = .ok (.iload_n 2, 1) := by decide +kernel
theorem dX9_cheapestOf_17 : decode cX9_cheapestOf 17 = .ok (.iadd, 1) := by decide +kernel
theorem dX9_cheapestOf_18 : decode cX9_cheapestOf 18 = .ok (.laload, 1) := by decide +kernel
theorem dX9_cheapestOf_19 : decode cX9_cheapestOf 19 = .ok (.lconst 0, 1) := by decide +kernel
theorem dX9_cheapestOf_20 : decode cX9_cheapestOf 20 = .ok (.lcmp, 1) := by decide +kernel
theorem dX9_cheapestOf_21 : decode cX9_cheapestOf 21 = .ok (.ifCond .le 5, 3) := by decide +kernel
theorem dX9_cheapestOf_24 : decode cX9_cheapestOf 24 = .ok (.iload_n 2, 1) := by decide +kernel
theorem dX9_cheapestOf_25 : decode cX9_cheapestOf 25 = .ok (.ireturn, 1) := by decide +kernel
theorem dX9_cheapestOf_26 : decode cX9_cheapestOf 26 = .ok (.iinc 2 1, 3) := by decide +kernel
theorem dX9_cheapestOf_29 : decode cX9_cheapestOf 29 = .ok (.goto (-27), 3) := by decide +kernel
theorem dX9_cheapestOf_32 : decode cX9_cheapestOf 32 = .ok (.ldc 149, 2) := by decide +kernel
theorem dX9_cheapestOf_34 : decode cX9_cheapestOf 34 = .ok (.ireturn, 1) := by decide +kernel
theorem dX9_cheapest_0 : decode cX9_cheapest 0 = .ok (.aload_n 0, 1) := by decide +kernel
theorem dX9_cheapest_1 : decode cX9_cheapest 1 = .ok (.iload_n 1, 1) := by decide +kernel
theorem dX9_cheapest_2 : decode cX9_cheapest 2 = .ok (.invokevirtual 143, 3) := by decide +kernel
theorem dX9_cheapest_5 : decode cX9_cheapest 5 = .ok (.ifCond .ne 6, 3) := by decide +kernel
theorem dX9_cheapest_8 : decode cX9_cheapest 8 = .ok (.ldc 65, 2) := by decide +kernel
theorem dX9_cheapest_10 : decode cX9_cheapest 10 = .ok (.ireturn, 1) := by decide +kernel
theorem dX9_cheapest_11 : decode cX9_cheapest 11 = .ok (.aload_n 0, 1) := by decide +kernel
theorem dX9_cheapest_12 : decode cX9_cheapest 12 = .ok (.aload_n 0, 1) := by decide +kernel
theorem dX9_cheapest_13 : decode cX9_cheapest 13 = .ok (.getfield 7, 3) := by decide +kernel
theorem dX9_cheapest_16 : decode cX9_cheapest 16 = .ok (.iconst 2, 1) := by decide +kernel
theorem dX9_cheapest_17 : decode cX9_cheapest 17 = .ok (.iaload, 1) := by decide +kernel
theorem dX9_cheapest_18 : decode cX9_cheapest 18 = .ok (.invokevirtual 178, 3) := by decide +kernel
theorem dX9_cheapest_21 : decode cX9_cheapest 21 = .ok (.aload_n 0, 1) := by decide +kernel
theorem dX9_cheapest_22 : decode cX9_cheapest 22 = .ok (.iload_n 1, 1) := by decide +kernel
theorem dX9_cheapest_23 : decode cX9_cheapest 23 = .ok (.invokevirtual 186, 3) := by decide +kernel
theorem dX9_cheapest_26 : decode cX9_cheapest 26 = .ok (.ireturn, 1) := by decide +kernel
theorem dX9_await0_0 : decode cX9_await0 0 = .ok (.aload_n 0, 1) := by decide +kernel
theorem dX9_await0_1 : decode cX9_await0 1 = .ok (.getfield 32, 3) := by decide +kernel
theorem dX9_await0_4 : decode cX9_await0 4 = .ok (.aload_n 0, 1) := by decide +kernel
theorem dX9_await0_5 : decode cX9_await0 5 = .ok (.getfield 189, 3) := by decide +kernel
theorem dX9_await0_8 : decode cX9_await0 8 = .ok (.iload_n 1, 1) := by decide +kernel
theorem dX9_await0_9 : decode cX9_await0 9 = .ok (.iastore, 1) := by decide +kernel
theorem dX9_await0_10 : decode cX9_await0 10 = .ok (.aload_n 0, 1) := by decide +kernel
theorem dX9_await0_11 : decode cX9_await0 11 = .ok (.dup, 1) := by decide +kernel
theorem dX9_await0_12 : decode cX9_await0 12 = .ok (.getfield 189, 3) := by decide +kernel
theorem dX9_await0_15 : decode cX9_await0 15 = .ok (.iconst 1, 1) := by decide +kernel
theorem dX9_await0_16 : decode cX9_await0 16 = .ok (.iadd, 1) := by decide +kernel
theorem dX9_await0_17 : decode cX9_await0 17 = .ok (.putfield 189, 3) := by decide +kernel
theorem dX9_await0_20 : decode cX9_await0 20 = .ok (.iconst 0, 1) := by decide +kernel
theorem dX9_await0_21 : decode cX9_await0 21 = .ok (.istore_n 2, 1) := by decide +kernel
theorem dX9_await0_22 : decode cX9_await0 22 = .ok (.iload_n 2, 1) := by decide +kernel
theorem dX9_await0_23 : decode cX9_await0 23 = .ok (.bipush 24, 2) := by decide +kernel
theorem dX9_await0_25 : decode cX9_await0 25 = .ok (.if_icmp .gt 82, 3) := by decide +kernel
theorem dX9_await0_28 : decode cX9_await0 28 = .ok (.lconst 0, 1) := by decide +kernel
theorem dX9_await0_29 : decode cX9_await0 29 = .ok (.lstore_n 3, 1) := by decide +kernel
theorem dX9_await0_30 : decode cX9_await0 30 = .ok (.iconst 1, 1) := by decide +kernel
theorem dX9_await0_31 : decode cX9_await0 31 = .ok (.istore 5, 2) := by decide +kernel
theorem dX9_await0_33 : decode cX9_await0 33 = .ok (.iload 5, 2) := by decide +kernel
theorem dX9_await0_35 : decode cX9_await0 35 = .ok (.iload_n 2, 1) := by decide +kernel
theorem dX9_await0_36 : decode cX9_await0 36 = .ok (.if_icmp .gt 50, 3) := by decide +kernel
theorem dX9_await0_39 : decode cX9_await0 39 = .ok (.lload_n 3, 1) := by decide +kernel
theorem dX9_await0_40 : decode cX9_await0 40 = .ok (.aload_n 0, 1) := by decide +kernel
theorem dX9_await0_41 : decode cX9_await0 41 = .ok (.getfield 28, 3) := by decide +kernel
theorem dX9_await0_44 : decode cX9_await0 44 = .ok (.bipush 25, 2) := by decide +kernel
theorem dX9_await0_46 : decode cX9_await0 46 = .ok (.iload_n 1, 1) := by decide +kernel
theorem dX9_await0_47 : decode cX9_await0 47 = .ok (.imul, 1) := by decide +kernel
theorem dX9_await0_48 : decode cX9_await0 48 = .ok (.iload 5, 2) := by decide +kernel
theorem dX9_await0_50 : decode cX9_await0 50 = .ok (.iadd, 1) := by decide +kernel
theorem dX9_await0_51 : decode cX9_await0 51 = .ok (.laload, 1) := by decide +kernel
theorem dX9_await0_52 : decode cX9_await0 52 = .ok (.aload_n 0, 1) := by decide +kernel
theorem dX9_await0_53 : decode cX9_await0 53 = .ok (.getfield 35, 3) := by decide +kernel
theorem dX9_await0_56 : decode cX9_await0 56 = .ok (.bipush 25, 2) := by decide +kernel
theorem dX9_await0_58 : decode cX9_await0 58 = .ok (.aload_n 0, 1) := by decide +kernel
theorem dX9_await0_59 : decode cX9_await0 59 = .ok (.getfield 189, 3) := by decide +kernel
theorem dX9_await0_62 : decode cX9_await0 62 = .ok (.iconst 1, 1) := by decide +kernel
theorem dX9_await0_63 : decode cX9_await0 63 = .ok (.isub, 1) := by decide +kernel
theorem dX9_await0_64 : decode cX9_await0 64 = .ok (.imul, 1) := by decide +kernel
theorem dX9_await0_65 : decode cX9_await0 65 = .ok (.iload_n 2, 1) := by decide +kernel
theorem dX9_await0_66 : decode cX9_await0 66 = .ok (.iadd, 1) := by decide +kernel
theorem dX9_await0_67 : decode cX9_await0 67 = .ok (.iload 5, 2) := by decide +kernel
theorem dX9_await0_69 : decode cX9_await0 69 = .ok (.isub, 1) := by decide +kernel
theorem dX9_await0_70 : decode cX9_await0 70 = .ok (.laload, 1) := by decide +kernel
theorem dX9_await0_71 : decode cX9_await0 71 = .ok (.lmul, 1) := by decide +kernel
theorem dX9_await0_72 : decode cX9_await0 72 = .ok (.invokestatic 162, 3) := by decide +kernel
theorem dX9_await0_75 : decode cX9_await0 75 = .ok (.ladd, 1) := by decide +kernel
theorem dX9_await0_76 : decode cX9_await0 76 = .ok (.invokestatic 162, 3) := by decide +kernel
theorem dX9_await0_79 : decode cX9_await0 79 = .ok (.lstore_n 3, 1) := by decide +kernel
theorem dX9_await0_80 : decode cX9_await0 80 = .ok (.iinc 5 1, 3) := by decide +kernel
theorem dX9_await0_83 : decode cX9_await0 83 = .ok (.goto (-50), 3) := by decide +kernel
theorem dX9_await0_86 : decode cX9_await0 86 = .ok (.aload_n 0, 1) := by decide +kernel
theorem dX9_await0_87 : decode cX9_await0 87 = .ok (.getfield 35, 3) := by decide +kernel
theorem dX9_await0_90 : decode cX9_await0 90 = .ok (.bipush 25, 2) := by decide +kernel
theorem dX9_await0_92 : decode cX9_await0 92 = .ok (.aload_n 0, 1) := by decide +kernel
theorem dX9_await0_93 : decode cX9_await0 93 = .ok (.getfield 189, 3) := by decide +kernel
theorem dX9_await0_96 : decode cX9_await0 96 = .ok (.imul, 1) := by decide +kernel
theorem dX9_await0_97 : decode cX9_await0 97 = .ok (.iload_n 2, 1) := by decide +kernel
theorem dX9_await0_98 : decode cX9_await0 98 = .ok (.iadd, 1) := by decide +kernel
theorem dX9_await0_99 : decode cX9_await0 99 = .ok (.lload_n 3, 1) := by decide +kernel
theorem dX9_await0_100 : decode cX9_await0 100 = .ok (.lastore, 1) := by decide +kernel
theorem dX9_await0_101 : decode cX9_await0 101 = .ok (.iinc 2 1, 3) := by decide +kernel
theorem dX9_await0_104 : decode cX9_await0 104 = .ok (.goto (-82), 3) := by decide +kernel
theorem dX9_await0_107 : decode cX9_await0 107 = .ok (.return_, 1) := by decide +kernel
theorem dX9_awaitsFirst_0 : decode cX9_awaitsFirst 0 = .ok (.aload_n 0, 1) := by decide +kernel
theorem dX9_awaitsFirst_1 : decode cX9_awaitsFirst 1 = .ok (.iconst 0, 1) := by decide +kernel
theorem dX9_awaitsFirst_2 : decode cX9_awaitsFirst 2 = .ok (.putfield 189, 3) := by decide +kernel
theorem dX9_awaitsFirst_5 : decode cX9_awaitsFirst 5 = .ok (.iconst 0, 1) := by decide +kernel
theorem dX9_awaitsFirst_6 : decode cX9_awaitsFirst 6 = .ok (.istore_n 2, 1) := by decide +kernel
theorem dX9_awaitsFirst_7 : decode cX9_awaitsFirst 7 = .ok (.iload_n 2, 1) := by decide +kernel
theorem dX9_awaitsFirst_8 : decode cX9_awaitsFirst 8 = .ok (.bipush 24, 2) := by decide +kernel
theorem dX9_awaitsFirst_10 : decode cX9_awaitsFirst 10 = .ok (.if_icmp .gt 24, 3) := by decide +kernel
theorem dX9_awaitsFirst_13 : decode cX9_awaitsFirst 13 = .ok (.aload_n 0, 1) := by decide +kernel
theorem dX9_awaitsFirst_14 : decode cX9_awaitsFirst 14 = .ok (.getfield 35, 3) := by decide +kernel
theorem dX9_awaitsFirst_17 : decode cX9_awaitsFirst 17 = .ok (.iload_n 2, 1) := by decide +kernel
theorem dX9_awaitsFirst_18 : decode cX9_awaitsFirst 18 = .ok (.iload_n 2, 1) := by decide +kernel
theorem dX9_awaitsFirst_19 : decode cX9_awaitsFirst 19 = .ok (.ifCond .ne 7, 3) := by decide +kernel
theorem dX9_awaitsFirst_22 : decode cX9_awaitsFirst 22 = .ok (.lconst 1, 1) := by decide +kernel
theorem dX9_awaitsFirst_23 : decode cX9_awaitsFirst 23 = .ok (.goto 4, 3) := by decide +kernel
theorem dX9_awaitsFirst_26 : decode cX9_awaitsFirst 26 = .ok (.lconst 0, 1) := by decide +kernel
theorem dX9_awaitsFirst_27 : decode cX9_awaitsFirst 27 = .ok (.lastore, 1) := by decide +kernel
theorem dX9_awaitsFirst_28 : decode cX9_awaitsFirst 28 = .ok (.iinc 2 1, 3) := by decide +kernel
theorem dX9_awaitsFirst_31 : decode cX9_awaitsFirst 31 = .ok (.goto (-24), 3) := by decide +kernel
theorem dX9_awaitsFirst_34 : decode cX9_awaitsFirst 34 = .ok (.aload_n 0, 1) := by decide +kernel
theorem dX9_awaitsFirst_35 : decode cX9_awaitsFirst 35 = .ok (.iload_n 1, 1) := by decide +kernel
theorem dX9_awaitsFirst_36 : decode cX9_awaitsFirst 36 = .ok (.invokevirtual 192, 3) := by decide +kernel
theorem dX9_awaitsFirst_39 : decode cX9_awaitsFirst 39 = .ok (.return_, 1) := by decide +kernel
theorem dX9_gives_0 : decode cX9_gives 0 = .ok (.aload_n 0, 1) := by decide +kernel
theorem dX9_gives_1 : decode cX9_gives 1 = .ok (.dup, 1) := by decide +kernel
theorem dX9_gives_2 : decode cX9_gives 2 = .ok (.getfield 189, 3) := by decide +kernel
theorem dX9_gives_5 : decode cX9_gives 5 = .ok (.iconst 1, 1) := by decide +kernel
theorem dX9_gives_6 : decode cX9_gives 6 = .ok (.isub, 1) := by decide +kernel
theorem dX9_gives_7 : decode cX9_gives 7 = .ok (.putfield 189, 3) := by decide +kernel
theorem dX9_gives_10 : decode cX9_gives 10 = .ok (.aload_n 0, 1) := by decide +kernel
theorem dX9_gives_11 : decode cX9_gives 11 = .ok (.getfield 7, 3) := by decide +kernel
theorem dX9_gives_14 : decode cX9_gives 14 = .ok (.bipush 47, 2) := by decide +kernel
theorem dX9_gives_16 : decode cX9_gives 16 = .ok (.iload_n 1, 1) := by decide +kernel
theorem dX9_gives_17 : decode cX9_gives 17 = .ok (.iadd, 1) := by decide +kernel
theorem dX9_gives_18 : decode cX9_gives 18 = .ok (.iaload, 1) := by decide +kernel
theorem dX9_gives_19 : decode cX9_gives 19 = .ok (.iconst 1, 1) := by decide +kernel
theorem dX9_gives_20 : decode cX9_gives 20 = .ok (.isub, 1) := by decide +kernel
theorem dX9_gives_21 : decode cX9_gives 21 = .ok (.istore_n 2, 1) := by decide +kernel
theorem dX9_gives_22 : decode cX9_gives 22 = .ok (.iload_n 2, 1) := by decide +kernel
theorem dX9_gives_23 : decode cX9_gives 23 = .ok (.ifCond .lt 27, 3) := by decide +kernel
theorem dX9_gives_26 : decode cX9_gives 26 = .ok (.aload_n 0, 1) := by decide +kernel
theorem dX9_gives_27 : decode cX9_gives 27 = .ok (.aload_n 0, 1) := by decide +kernel
theorem dX9_gives_28 : decode cX9_gives 28 = .ok (.getfield 7, 3) := by decide +kernel
theorem dX9_gives_31 : decode cX9_gives 31 = .ok (.bipush 59, 2) := by decide +kernel
theorem dX9_gives_33 : decode cX9_gives 33 = .ok (.bipush 12, 2) := by decide +kernel
theorem dX9_gives_35 : decode cX9_gives 35 = .ok (.iload_n 2, 1) := by decide +kernel
theorem dX9_gives_36 : decode cX9_gives 36 = .ok (.imul, 1) := by decide +kernel
theorem dX9_gives_37 : decode cX9_gives 37 = .ok (.iadd, 1) := by decide +kernel
theorem dX9_gives_38 : decode cX9_gives 38 = .ok (.iload_n 1, 1) := by decide +kernel
theorem dX9_gives_39 : decode cX9_gives 39 = .ok (.iadd, 1) := by decide +kernel
theorem dX9_gives_40 : decode cX9_gives 40 = .ok (.iaload, 1) := by decide +kernel
theorem dX9_gives_41 : decode cX9_gives 41 = .ok (.invokevirtual 192, 3) := by decide +kernel
theorem dX9_gives_44 : decode cX9_gives 44 = .ok (.iinc 2 (-1), 3) := by decide +kernel
theorem dX9_gives_47 : decode cX9_gives 47 = .ok (.goto (-25), 3) := by decide +kernel
theorem dX9_gives_50 : decode cX9_gives 50 = .ok (.return_, 1) := by decide +kernel
theorem dX9_goesOn_0 : decode cX9_goesOn 0 = .ok (.iload_n 2, 1) := by decide +kernel
theorem dX9_goesOn_1 : decode cX9_goesOn 1 = .ok (.aload_n 0, 1) := by decide +kernel
theorem dX9_goesOn_2 : decode cX9_goesOn 2 = .ok (.iload_n 1, 1) := by decide +kernel
theorem dX9_goesOn_3 : decode cX9_goesOn 3 = .ok (.invokevirtual 146, 3) := by decide +kernel
theorem dX9_goesOn_6 : decode cX9_goesOn 6 = .ok (.isub, 1) := by decide +kernel
theorem dX9_goesOn_7 : decode cX9_goesOn 7 = .ok (.istore_n 3, 1) := by decide +kernel
theorem dX9_goesOn_8 : decode cX9_goesOn 8 = .ok (.aload_n 0, 1) := by decide +kernel
theorem dX9_goesOn_9 : decode cX9_goesOn 9 = .ok (.getfield 32, 3) := by decide +kernel
theorem dX9_goesOn_12 : decode cX9_goesOn 12 = .ok (.aload_n 0, 1) := by decide +kernel
theorem dX9_goesOn_13 : decode cX9_goesOn 13 = .ok (.getfield 189, 3) := by decide +kernel
theorem dX9_goesOn_16 : decode cX9_goesOn 16 = .ok (.iconst 1, 1) := by decide +kernel
theorem dX9_goesOn_17 : decode cX9_goesOn 17 = .ok (.isub, 1) := by decide +kernel
theorem dX9_goesOn_18 : decode cX9_goesOn 18 = .ok (.iaload, 1) := by decide +kernel
theorem dX9_goesOn_19 : decode cX9_goesOn 19 = .ok (.istore 4, 2) := by decide +kernel
theorem dX9_goesOn_21 : decode cX9_goesOn 21 = .ok (.iload_n 3, 1) := by decide +kernel
theorem dX9_goesOn_22 : decode cX9_goesOn 22 = .ok (.ifCond .lt 34, 3) := by decide +kernel
theorem dX9_goesOn_25 : decode cX9_goesOn 25 = .ok (.aload_n 0, 1) := by decide +kernel
theorem dX9_goesOn_26 : decode cX9_goesOn 26 = .ok (.getfield 7, 3) := by decide +kernel
theorem dX9_goesOn_29 : decode cX9_goesOn 29 = .ok (.iconst 2, 1) := by decide +kernel
theorem dX9_goesOn_30 : decode cX9_goesOn 30 = .ok (.iaload, 1) := by decide +kernel
theorem dX9_goesOn_31 : decode cX9_goesOn 31 = .ok (.iload_n 1, 1) := by decide +kernel
theorem dX9_goesOn_32 : decode cX9_goesOn 32 = .ok (.invokestatic 166, 3) := by decide +kernel
theorem dX9_goesOn_35 : decode cX9_goesOn 35 = .ok (.ifCond .ne 21, 3) := by decide +kernel
theorem dX9_goesOn_38 : decode cX9_goesOn 38 = .ok (.aload_n 0, 1) := by decide +kernel
theorem dX9_goesOn_39 : decode cX9_goesOn 39 = .ok (.aload_n 0, 1) := by decide +kernel
theorem dX9_goesOn_40 : decode cX9_goesOn 40 = .ok (.getfield 7, 3) := by decide +kernel
theorem dX9_goesOn_43 : decode cX9_goesOn 43 = .ok (.bipush 23, 2) := by decide +kernel
theorem dX9_goesOn_45 : decode cX9_goesOn 45 = .ok (.iload_n 1, 1) := by decide +kernel
theorem dX9_goesOn_46 : decode cX9_goesOn 46 = .ok (.iadd, 1) := by decide +kernel
theorem dX9_goesOn_47 : decode cX9_goesOn 47 = .ok (.iaload, 1) := by decide +kernel
theorem dX9_goesOn_48 : decode cX9_goesOn 48 = .ok (.iload 4, 2) := by decide +kernel
theorem dX9_goesOn_50 : decode cX9_goesOn 50 = .ok (.invokevirtual 150, 3) := by decide +kernel
theorem dX9_goesOn_53 : decode cX9_goesOn 53 = .ok (.ifCond .ne 5, 3) := by decide +kernel
theorem dX9_goesOn_56 : decode cX9_goesOn 56 = .ok (.lconst 0, 1) := by decide +kernel
theorem dX9_goesOn_57 : decode cX9_goesOn 57 = .ok (.lreturn, 1) := by decide +kernel
theorem dX9_goesOn_58 : decode cX9_goesOn 58 = .ok (.aload_n 0, 1) := by decide +kernel
theorem dX9_goesOn_59 : decode cX9_goesOn 59 = .ok (.iload_n 1, 1) := by decide +kernel
theorem dX9_goesOn_60 : decode cX9_goesOn 60 = .ok (.invokevirtual 195, 3) := by decide +kernel
theorem dX9_goesOn_63 : decode cX9_goesOn 63 = .ok (.aload_n 0, 1) := by decide +kernel
theorem dX9_goesOn_64 : decode cX9_goesOn 64 = .ok (.getfield 35, 3) := by decide +kernel
theorem dX9_goesOn_67 : decode cX9_goesOn 67 = .ok (.bipush 25, 2) := by decide +kernel
theorem dX9_goesOn_69 : decode cX9_goesOn 69 = .ok (.aload_n 0, 1) := by decide +kernel
theorem dX9_goesOn_70 : decode cX9_goesOn 70 = .ok (.getfield 189, 3) := by decide +kernel
theorem dX9_goesOn_73 : decode cX9_goesOn 73 = .ok (.imul, 1) := by decide +kernel
theorem dX9_goesOn_74 : decode cX9_goesOn 74 = .ok (.iload_n 3, 1) := by decide +kernel
theorem dX9_goesOn_75 : decode cX9_goesOn 75 = .ok (.iadd, 1) := by decide +kernel
theorem dX9_goesOn_76 : decode cX9_goesOn 76 = .ok (.laload, 1) := by decide +kernel
theorem dX9_goesOn_77 : decode cX9_goesOn 77 = .ok (.lstore 5, 2) := by decide +kernel
theorem dX9_goesOn_79 : decode cX9_goesOn 79 = .ok (.aload_n 0, 1) := by decide +kernel
theorem dX9_goesOn_80 : decode cX9_goesOn 80 = .ok (.dup, 1) := by decide +kernel
theorem dX9_goesOn_81 : decode cX9_goesOn 81 = .ok (.getfield 189, 3) := by decide +kernel
theorem dX9_goesOn_84 : decode cX9_goesOn 84 = .ok (.aload_n 0, 1) := by decide +kernel
theorem dX9_goesOn_85 : decode cX9_goesOn 85 = .ok (.getfield 7, 3) := by decide +kernel
theorem dX9_goesOn_88 : decode cX9_goesOn 88 = .ok (.bipush 47, 2) := by decide +kernel
theorem dX9_goesOn_90 : decode cX9_goesOn 90 = .ok (.iload_n 1, 1) := by decide +kernel
theorem dX9_goesOn_91 : decode cX9_goesOn 91 = .ok (.iadd, 1) := by decide +kernel
theorem dX9_goesOn_92 : decode cX9_goesOn 92 = .ok (.iaload, 1) := by decide +kernel
theorem dX9_goesOn_93 : decode cX9_goesOn 93 = .ok (.isub, 1) := by decide +kernel
theorem dX9_goesOn_94 : decode cX9_goesOn 94 = .ok (.putfield 189, 3) := by decide +kernel
theorem dX9_goesOn_97 : decode cX9_goesOn 97 = .ok (.aload_n 0, 1) := by decide +kernel
theorem dX9_goesOn_98 : decode cX9_goesOn 98 = .ok (.iload 4, 2) := by decide +kernel
theorem dX9_goesOn_100 : decode cX9_goesOn 100 = .ok (.invokevirtual 192, 3) := by decide +kernel
theorem dX9_goesOn_103 : decode cX9_goesOn 103 = .ok (.lload 5, 2) := by decide +kernel
theorem dX9_goesOn_105 : decode cX9_goesOn 105 = .ok (.lreturn, 1) := by decide +kernel
theorem dX9_laysCode_0 : decode cX9_laysCode 0 = .ok (.iload_n 2, 1) := by decide +kernel
theorem dX9_laysCode_1 : decode cX9_laysCode 1 = .ok (.i2l, 1) := by decide +kernel
theorem dX9_laysCode_2 : decode cX9_laysCode 2 = .ok (.lstore_n 3, 1) := by decide +kernel
theorem dX9_laysCode_3 : decode cX9_laysCode 3 = .ok (.iconst 1, 1) := by decide +kernel
theorem dX9_laysCode_4 : decode cX9_laysCode 4 = .ok (.istore 5, 2) := by decide +kernel
theorem dX9_laysCode_6 : decode cX9_laysCode 6 = .ok (.iload 5, 2) := by decide +kernel
theorem dX9_laysCode_8 : decode cX9_laysCode 8 = .ok (.bipush 24, 2) := by decide +kernel
theorem dX9_laysCode_10 : decode cX9_laysCode 10 = .ok (.if_icmp .gt 41, 3) := by decide +kernel
theorem dX9_laysCode_13 : decode cX9_laysCode 13 = .ok (.lload_n 3, 1) := by decide +kernel
theorem dX9_laysCode_14 : decode cX9_laysCode 14 = .ok (.aload_n 0, 1) := by decide +kernel
theorem dX9_laysCode_15 : decode cX9_laysCode 15 = .ok (.getfield 28, 3) := by decide +kernel
theorem dX9_laysCode_18 : decode cX9_laysCode 18 = .ok (.bipush 25, 2) := by decide +kernel
theorem dX9_laysCode_20 : decode cX9_laysCode 20 = .ok (.iload_n 1, 1) := by decide +kernel
theorem dX9_laysCode_21 : decode cX9_laysCode 21 = .ok (.imul, 1) := by decide +kernel
theorem dX9_laysCode_22 : decode cX9_laysCode 22 = .ok (.iload 5, 2) := by decide +kernel
theorem dX9_laysCode_24 : decode cX9_laysCode 24 = .ok (.iadd, 1) := by decide +kernel
theorem dX9_laysCode_25 : decode cX9_laysCode 25 = .ok (.laload, 1) := by decide +kernel
theorem dX9_laysCode_26 : decode cX9_laysCode 26 = .ok (.lcmp, 1) := by decide +kernel
theorem dX9_laysCode_27 : decode cX9_laysCode 27 = .ok (.ifCond .lt 24, 3) := by decide +kernel
theorem dX9_laysCode_30 : decode cX9_laysCode 30 = .ok (.lload_n 3, 1) := by decide +kernel
theorem dX9_laysCode_31 : decode cX9_laysCode 31 = .ok (.aload_n 0, 1) := by decide +kernel
theorem dX9_laysCode_32 : decode cX9_laysCode 32 = .ok (.getfield 28, 3) := by decide +kernel
theorem dX9_laysCode_35 : decode cX9_laysCode 35 = .ok (.bipush 25, 2) := by decide +kernel
theorem dX9_laysCode_37 : decode cX9_laysCode 37 = .ok (.iload_n 1, 1) := by decide +kernel
theorem dX9_laysCode_38 : decode cX9_laysCode 38 = .ok (.imul, 1) := by decide +kernel
theorem dX9_laysCode_39 : decode cX9_laysCode 39 = .ok (.iload 5, 2) := by decide +kernel
theorem dX9_laysCode_41 : decode cX9_laysCode 41 = .ok (.iadd, 1) := by decide +kernel
theorem dX9_laysCode_42 : decode cX9_laysCode 42 = .ok (.laload, 1) := by decide +kernel
theorem dX9_laysCode_43 : decode cX9_laysCode 43 = .ok (.lsub, 1) := by decide +kernel
theorem dX9_laysCode_44 : decode cX9_laysCode 44 = .ok (.lstore_n 3, 1) := by decide +kernel
theorem dX9_laysCode_45 : decode cX9_laysCode 45 = .ok (.iinc 5 1, 3) := by decide +kernel
theorem dX9_laysCode_48 : decode cX9_laysCode 48 = .ok (.goto (-42), 3) := by decide +kernel
theorem dX9_laysCode_51 : decode cX9_laysCode 51 = .ok (.aload_n 0, 1) := by decide +kernel
theorem dX9_laysCode_52 : decode cX9_laysCode 52 = .ok (.iconst 0, 1) := by decide +kernel
theorem dX9_laysCode_53 : decode cX9_laysCode 53 = .ok (.putfield 198, 3) := by decide +kernel
theorem dX9_laysCode_56 : decode cX9_laysCode 56 = .ok (.aload_n 0, 1) := by decide +kernel
theorem dX9_laysCode_57 : decode cX9_laysCode 57 = .ok (.iload 5, 2) := by decide +kernel
theorem dX9_laysCode_59 : decode cX9_laysCode 59 = .ok (.putfield 201, 3) := by decide +kernel
theorem dX9_laysCode_62 : decode cX9_laysCode 62 = .ok (.iload 5, 2) := by decide +kernel
theorem dX9_laysCode_64 : decode cX9_laysCode 64 = .ok (.bipush 24, 2) := by decide +kernel
theorem dX9_laysCode_66 : decode cX9_laysCode 66 = .ok (.if_icmp .le 5, 3) := by decide +kernel
theorem dX9_laysCode_69 : decode cX9_laysCode 69 = .ok (.iconst 0, 1) := by decide +kernel
theorem dX9_laysCode_70 : decode cX9_laysCode 70 = .ok (.ireturn, 1) := by decide +kernel
theorem dX9_laysCode_71 : decode cX9_laysCode 71 = .ok (.aload_n 0, 1) := by decide +kernel
theorem dX9_laysCode_72 : decode cX9_laysCode 72 = .ok (.iload_n 1, 1) := by decide +kernel
theorem dX9_laysCode_73 : decode cX9_laysCode 73 = .ok (.invokevirtual 204, 3) := by decide +kernel
theorem dX9_laysCode_76 : decode cX9_laysCode 76 = .ok (.iload 5, 2) := by decide +kernel
theorem dX9_laysCode_78 : decode cX9_laysCode 78 = .ok (.istore 6, 2) := by decide +kernel
theorem dX9_laysCode_80 : decode cX9_laysCode 80 = .ok (.aload_n 0, 1) := by decide +kernel
theorem dX9_laysCode_81 : decode cX9_laysCode 81 = .ok (.getfield 189, 3) := by decide +kernel
theorem dX9_laysCode_84 : decode cX9_laysCode 84 = .ok (.ifCond .le 85, 3) := by decide +kernel
theorem dX9_laysCode_87 : decode cX9_laysCode 87 = .ok (.iconst 0, 1) := by decide +kernel
theorem dX9_laysCode_88 : decode cX9_laysCode 88 = .ok (.istore 7, 2) := by decide +kernel
theorem dX9_laysCode_90 : decode cX9_laysCode 90 = .ok (.aload_n 0, 1) := by decide +kernel
theorem dX9_laysCode_91 : decode cX9_laysCode 91 = .ok (.iload 7, 2) := by decide +kernel
theorem dX9_laysCode_93 : decode cX9_laysCode 93 = .ok (.iload 6, 2) := by decide +kernel
theorem dX9_laysCode_95 : decode cX9_laysCode 95 = .ok (.invokevirtual 207, 3) := by decide +kernel
theorem dX9_laysCode_98 : decode cX9_laysCode 98 = .ok (.lstore 8, 2) := by decide +kernel
theorem dX9_laysCode_100 : decode cX9_laysCode 100 = .ok (.lload_n 3, 1) := by decide +kernel
theorem dX9_laysCode_101 : decode cX9_laysCode 101 = .ok (.lload 8, 2) := by decide +kernel
theorem dX9_laysCode_103 : decode cX9_laysCode 103 = .ok (.lcmp, 1) := by decide +kernel
theorem dX9_laysCode_104 : decode cX9_laysCode 104 = .ok (.ifCond .lt 24, 3) := by decide +kernel
theorem dX9_laysCode_107 : decode cX9_laysCode 107 = .ok (.lload_n 3, 1) := by decide +kernel
theorem dX9_laysCode_108 : decode cX9_laysCode 108 = .ok (.lload 8, 2) := by decide +kernel
theorem dX9_laysCode_110 : decode cX9_laysCode 110 = .ok (.lsub, 1) := by decide +kernel
theorem dX9_laysCode_111 : decode cX9_laysCode 111 = .ok (.lstore_n 3, 1) := by decide +kernel
theorem dX9_laysCode_112 : decode cX9_laysCode 112 = .ok (.iinc 7 1, 3) := by decide +kernel
theorem dX9_laysCode_115 : decode cX9_laysCode 115 = .ok (.aload_n 0, 1) := by decide +kernel
theorem dX9_laysCode_116 : decode cX9_laysCode 116 = .ok (.iload 7, 2) := by decide +kernel
theorem dX9_laysCode_118 : decode cX9_laysCode 118 = .ok (.iload 6, 2) := by decide +kernel
theorem dX9_laysCode_120 : decode cX9_laysCode 120 = .ok (.invokevirtual 207, 3) := by decide +kernel
theorem dX9_laysCode_123 : decode cX9_laysCode 123 = .ok (.lstore 8, 2) := by decide +kernel
theorem dX9_laysCode_125 : decode cX9_laysCode 125 = .ok (.goto (-25), 3) := by decide +kernel
theorem dX9_laysCode_128 : decode cX9_laysCode 128 = .ok (.aload_n 0, 1) := by decide +kernel
theorem dX9_laysCode_129 : decode cX9_laysCode 129 = .ok (.getfield 38, 3) := by decide +kernel
theorem dX9_laysCode_132 : decode cX9_laysCode 132 = .ok (.aload_n 0, 1) := by decide +kernel
theorem dX9_laysCode_133 : decode cX9_laysCode 133 = .ok (.getfield 198, 3) := by decide +kernel
theorem dX9_laysCode_136 : decode cX9_laysCode 136 = .ok (.iload 7, 2) := by decide +kernel
theorem dX9_laysCode_138 : decode cX9_laysCode 138 = .ok (.iastore, 1) := by decide +kernel
theorem dX9_laysCode_139 : decode cX9_laysCode 139 = .ok (.aload_n 0, 1) := by decide +kernel
theorem dX9_laysCode_140 : decode cX9_laysCode 140 = .ok (.dup, 1) := by decide +kernel
theorem dX9_laysCode_141 : decode cX9_laysCode 141 = .ok (.getfield 198, 3) := by decide +kernel
theorem dX9_laysCode_144 : decode cX9_laysCode 144 = .ok (.iconst 1, 1) := by decide +kernel
theorem dX9_laysCode_145 : decode cX9_laysCode 145 = .ok (.iadd, 1) := by decide +kernel
theorem dX9_laysCode_146 : decode cX9_laysCode 146 = .ok (.putfield 198, 3) := by decide +kernel
theorem dX9_laysCode_149 : decode cX9_laysCode 149 = .ok (.iload 6, 2) := by decide +kernel
theorem dX9_laysCode_151 : decode cX9_laysCode 151 = .ok (.aload_n 0, 1) := by decide +kernel
theorem dX9_laysCode_152 : decode cX9_laysCode 152 = .ok (.iload 7, 2) := by decide +kernel
theorem dX9_laysCode_154 : decode cX9_laysCode 154 = .ok (.invokevirtual 146, 3) := by decide +kernel
theorem dX9_laysCode_157 : decode cX9_laysCode 157 = .ok (.isub, 1) := by decide +kernel
theorem dX9_laysCode_158 : decode cX9_laysCode 158 = .ok (.istore 6, 2) := by decide +kernel
theorem dX9_laysCode_160 : decode cX9_laysCode 160 = .ok (.aload_n 0, 1) := by decide +kernel
theorem dX9_laysCode_161 : decode cX9_laysCode 161 = .ok (.iload 7, 2) := by decide +kernel
theorem dX9_laysCode_163 : decode cX9_laysCode 163 = .ok (.invokevirtual 195, 3) := by decide +kernel
theorem dX9_laysCode_166 : decode cX9_laysCode 166 = .ok (.goto (-86), 3) := by decide +kernel
theorem dX9_laysCode_169 : decode cX9_laysCode 169 = .ok (.iconst 1, 1) := by decide +kernel
theorem dX9_laysCode_170 : decode cX9_laysCode 170 = .ok (.ireturn, 1) := by decide +kernel
theorem dX9_listed_0 : decode cX9_listed 0 = .ok (.aload_n 0, 1) := by decide +kernel
theorem dX9_listed_1 : decode cX9_listed 1 = .ok (.iload_n 1, 1) := by decide +kernel
theorem dX9_listed_2 : decode cX9_listed 2 = .ok (.invokevirtual 143, 3) := by decide +kernel
theorem dX9_listed_5 : decode cX9_listed 5 = .ok (.ifCond .eq 20, 3) := by decide +kernel
theorem dX9_listed_8 : decode cX9_listed 8 = .ok (.iload_n 2, 1) := by decide +kernel
theorem dX9_listed_9 : decode cX9_listed 9 = .ok (.i2l, 1) := by decide +kernel
theorem dX9_listed_10 : decode cX9_listed 10 = .ok (.lconst 0, 1) := by decide +kernel
theorem dX9_listed_11 : decode cX9_listed 11 = .ok (.ldc2_w 210, 3) := by decide +kernel
theorem dX9_listed_14 : decode cX9_listed 14 = .ok (.invokestatic 48, 3) := by decide +kernel
theorem dX9_listed_17 : decode cX9_listed 17 = .ok (.ifCond .eq 8, 3) := by decide +kernel
theorem dX9_listed_20 : decode cX9_listed 20 = .ok (.iload_n 3, 1) := by decide +kernel
theorem dX9_listed_21 : decode cX9_listed 21 = .ok (.iconst (-1), 1) := by decide +kernel
theorem dX9_listed_22 : decode cX9_listed 22 = .ok (.if_icmp .ge 6, 3) := by decide +kernel
theorem dX9_listed_25 : decode cX9_listed 25 = .ok (.ldc 65, 2) := by decide +kernel
theorem dX9_listed_27 : decode cX9_listed 27 = .ok (.ireturn, 1) := by decide +kernel
theorem dX9_listed_28 : decode cX9_listed 28 = .ok (.aload_n 0, 1) := by decide +kernel
theorem dX9_listed_29 : decode cX9_listed 29 = .ok (.aload_n 0, 1) := by decide +kernel
theorem dX9_listed_30 : decode cX9_listed 30 = .ok (.getfield 7, 3) := by decide +kernel
theorem dX9_listed_33 : decode cX9_listed 33 = .ok (.iconst 2, 1) := by decide +kernel
theorem dX9_listed_34 : decode cX9_listed 34 = .ok (.iaload, 1) := by decide +kernel
theorem dX9_listed_35 : decode cX9_listed 35 = .ok (.invokevirtual 178, 3) := by decide +kernel
theorem dX9_listed_38 : decode cX9_listed 38 = .ok (.aload_n 0, 1) := by decide +kernel
theorem dX9_listed_39 : decode cX9_listed 39 = .ok (.iload_n 1, 1) := by decide +kernel
theorem dX9_listed_40 : decode cX9_listed 40 = .ok (.iload_n 2, 1) := by decide +kernel
theorem dX9_listed_41 : decode cX9_listed 41 = .ok (.invokevirtual 212, 3) := by decide +kernel
theorem dX9_listed_44 : decode cX9_listed 44 = .ok (.ifCond .ne 6, 3) := by decide +kernel
theorem dX9_listed_47 : decode cX9_listed 47 = .ok (.ldc 149, 2) := by decide +kernel
theorem dX9_listed_49 : decode cX9_listed 49 = .ok (.ireturn, 1) := by decide +kernel
theorem dX9_listed_50 : decode cX9_listed 50 = .ok (.iload_n 3, 1) := by decide +kernel
theorem dX9_listed_51 : decode cX9_listed 51 = .ok (.iconst (-1), 1) := by decide +kernel
theorem dX9_listed_52 : decode cX9_listed 52 = .ok (.if_icmp .ne 10, 3) := by decide +kernel
theorem dX9_listed_55 : decode cX9_listed 55 = .ok (.aload_n 0, 1) := by decide +kernel
theorem dX9_listed_56 : decode cX9_listed 56 = .ok (.getfield 201, 3) := by decide +kernel
theorem dX9_listed_59 : decode cX9_listed 59 = .ok (.goto 22, 3) := by decide +kernel
theorem dX9_listed_62 : decode cX9_listed 62 = .ok (.iload_n 3, 1) := by decide +kernel
theorem dX9_listed_63 : decode cX9_listed 63 = .ok (.aload_n 0, 1) := by decide +kernel
theorem dX9_listed_64 : decode cX9_listed 64 = .ok (.getfield 198, 3) := by decide +kernel
theorem dX9_listed_67 : decode cX9_listed 67 = .ok (.if_icmp .ge 12, 3) := by decide +kernel
theorem dX9_listed_70 : decode cX9_listed 70 = .ok (.aload_n 0, 1) := by decide +kernel
theorem dX9_listed_71 : decode cX9_listed 71 = .ok (.getfield 38, 3) := by decide +kernel
theorem dX9_listed_74 : decode cX9_listed 74 = .ok (.iload_n 3, 1) := by decide +kernel
theorem dX9_listed_75 : decode cX9_listed 75 = .ok (.iaload, 1) := by decide +kernel
theorem dX9_listed_76 : decode cX9_listed 76 = .ok (.goto 5, 3) := by decide +kernel
theorem dX9_listed_79 : decode cX9_listed 79 = .ok (.ldc 149, 2) := by decide +kernel
theorem dX9_listed_81 : decode cX9_listed 81 = .ok (.ireturn, 1) := by decide +kernel
theorem dX9_isWhole_0 : decode cX9_isWhole 0 = .ok (.iconst 0, 1) := by decide +kernel
theorem dX9_isWhole_1 : decode cX9_isWhole 1 = .ok (.istore_n 3, 1) := by decide +kernel
theorem dX9_isWhole_2 : decode cX9_isWhole 2 = .ok (.iconst 1, 1) := by decide +kernel
theorem dX9_isWhole_3 : decode cX9_isWhole 3 = .ok (.istore 4, 2) := by decide +kernel
theorem dX9_isWhole_5 : decode cX9_isWhole 5 = .ok (.aload_n 0, 1) := by decide +kernel
theorem dX9_isWhole_6 : decode cX9_isWhole 6 = .ok (.iconst 0, 1) := by decide +kernel
theorem dX9_isWhole_7 : decode cX9_isWhole 7 = .ok (.putfield 201, 3) := by decide +kernel
theorem dX9_isWhole_10 : decode cX9_isWhole 10 = .ok (.iconst 0, 1) := by decide +kernel
theorem dX9_isWhole_11 : decode cX9_isWhole 11 = .ok (.istore 5, 2) := by decide +kernel
theorem dX9_isWhole_13 : decode cX9_isWhole 13 = .ok (.iload 5, 2) := by decide +kernel
theorem dX9_isWhole_15 : decode cX9_isWhole 15 = .ok (.iload_n 2, 1) := by decide +kernel
theorem dX9_isWhole_16 : decode cX9_isWhole 16 = .ok (.if_icmp .ge 172, 3) := by decide +kernel
theorem dX9_isWhole_19 : decode cX9_isWhole 19 = .ok (.iload 4, 2) := by decide +kernel
theorem dX9_isWhole_21 : decode cX9_isWhole 21 = .ok (.ifCond .eq 167, 3) := by decide +kernel
theorem dX9_isWhole_24 : decode cX9_isWhole 24 = .ok (.aload_n 0, 1) := by decide +kernel
theorem dX9_isWhole_25 : decode cX9_isWhole 25 = .ok (.getfield 22, 3) := by decide +kernel
theorem dX9_isWhole_28 : decode cX9_isWhole 28 = .ok (.iload_n 1, 1) := by decide +kernel
theorem dX9_isWhole_29 : decode cX9_isWhole 29 = .ok (.iload 5, 2) := by decide +kernel
theorem dX9_isWhole_31 : decode cX9_isWhole 31 = .ok (.iadd, 1) := by decide +kernel
theorem dX9_isWhole_32 : decode cX9_isWhole 32 = .ok (.iaload, 1) := by decide +kernel
theorem dX9_isWhole_33 : decode cX9_isWhole 33 = .ok (.istore 6, 2) := by decide +kernel
theorem dX9_isWhole_35 : decode cX9_isWhole 35 = .ok (.aload_n 0, 1) := by decide +kernel
theorem dX9_isWhole_36 : decode cX9_isWhole 36 = .ok (.iload 6, 2) := by decide +kernel
theorem dX9_isWhole_38 : decode cX9_isWhole 38 = .ok (.invokevirtual 134, 3) := by decide +kernel
theorem dX9_isWhole_41 : decode cX9_isWhole 41 = .ok (.ifCond .eq 55, 3) := by decide +kernel
theorem dX9_isWhole_44 : decode cX9_isWhole 44 = .ok (.aload_n 0, 1) := by decide +kernel
theorem dX9_isWhole_45 : decode cX9_isWhole 45 = .ok (.getfield 7, 3) := by decide +kernel
theorem dX9_isWhole_48 : decode cX9_isWhole 48 = .ok (.iconst 2, 1) := by decide +kernel
theorem dX9_isWhole_49 : decode cX9_isWhole 49 = .ok (.iaload, 1) := by decide +kernel
theorem dX9_isWhole_50 : decode cX9_isWhole 50 = .ok (.iload 6, 2) := by decide +kernel
theorem dX9_isWhole_52 : decode cX9_isWhole 52 = .ok (.invokestatic 166, 3) := by decide +kernel
theorem dX9_isWhole_55 : decode cX9_isWhole 55 = .ok (.ifCond .ne 41, 3) := by decide +kernel
theorem dX9_isWhole_58 : decode cX9_isWhole 58 = .ok (.iload 5, 2) := by decide +kernel
theorem dX9_isWhole_60 : decode cX9_isWhole 60 = .ok (.ifCond .eq 32, 3) := by decide +kernel
theorem dX9_isWhole_63 : decode cX9_isWhole 63 = .ok (.iload_n 3, 1) := by decide +kernel
theorem dX9_isWhole_64 : decode cX9_isWhole 64 = .ok (.ifCond .le 32, 3) := by decide +kernel
theorem dX9_isWhole_67 : decode cX9_isWhole 67 = .ok (.aload_n 0, 1) := by decide +kernel
theorem dX9_isWhole_68 : decode cX9_isWhole 68 = .ok (.aload_n 0, 1) := by decide +kernel
theorem dX9_isWhole_69 : decode cX9_isWhole 69 = .ok (.getfield 7, 3) := by decide +kernel
theorem dX9_isWhole_72 : decode cX9_isWhole 72 = .ok (.bipush 23, 2) := by decide +kernel
theorem dX9_isWhole_74 : decode cX9_isWhole 74 = .ok (.iload 6, 2) := by decide +kernel
theorem dX9_isWhole_76 : decode cX9_isWhole 76 = .ok (.iadd, 1) := by decide +kernel
theorem dX9_isWhole_77 : decode cX9_isWhole 77 = .ok (.iaload, 1) := by decide +kernel
theorem dX9_isWhole_78 : decode cX9_isWhole 78 = .ok (.aload_n 0, 1) := by decide +kernel
theorem dX9_isWhole_79 : decode cX9_isWhole 79 = .ok (.getfield 32, 3) := by decide +kernel
theorem dX9_isWhole_82 : decode cX9_isWhole 82 = .ok (.iload_n 3, 1) := by decide +kernel
theorem dX9_isWhole_83 : decode cX9_isWhole 83 = .ok (.iconst 1, 1) := by decide +kernel
theorem dX9_isWhole_84 : decode cX9_isWhole 84 = .ok (.isub, 1) := by decide +kernel
theorem dX9_isWhole_85 : decode cX9_isWhole 85 = .ok (.iaload, 1) := by decide +kernel
theorem dX9_isWhole_86 : decode cX9_isWhole 86 = .ok (.invokevirtual 150, 3) := by decide +kernel
theorem dX9_isWhole_89 : decode cX9_isWhole 89 = .ok (.ifCond .eq 7, 3) := by decide +kernel
theorem dX9_isWhole_92 : decode cX9_isWhole 92 = .ok (.iconst 1, 1) := by decide +kernel
theorem dX9_isWhole_93 : decode cX9_isWhole 93 = .ok (.goto 4, 3) := by decide +kernel
theorem dX9_isWhole_96 : decode cX9_isWhole 96 = .ok (.iconst 0, 1) := by decide +kernel
theorem dX9_isWhole_97 : decode cX9_isWhole 97 = .ok (.istore 4, 2) := by decide +kernel
theorem dX9_isWhole_99 : decode cX9_isWhole 99 = .ok (.iload 4, 2) := by decide +kernel
theorem dX9_isWhole_101 : decode cX9_isWhole 101 = .ok (.ifCond .eq 81, 3) := by decide +kernel
theorem dX9_isWhole_104 : decode cX9_isWhole 104 = .ok (.iload_n 3, 1) := by decide +kernel
theorem dX9_isWhole_105 : decode cX9_isWhole 105 = .ok (.iload 5, 2) := by decide +kernel
theorem dX9_isWhole_107 : decode cX9_isWhole 107 = .ok (.ifCond .ne 7, 3) := by decide +kernel
theorem dX9_isWhole_110 : decode cX9_isWhole 110 = .ok (.iconst 0, 1) := by decide +kernel
theorem dX9_isWhole_111 : decode cX9_isWhole 111 = .ok (.goto 4, 3) := by decide +kernel
theorem dX9_isWhole_114 : decode cX9_isWhole 114 = .ok (.iconst 1, 1) := by decide +kernel
theorem dX9_isWhole_115 : decode cX9_isWhole 115 = .ok (.isub, 1) := by decide +kernel
theorem dX9_isWhole_116 : decode cX9_isWhole 116 = .ok (.istore_n 3, 1) := by decide +kernel
theorem dX9_isWhole_117 : decode cX9_isWhole 117 = .ok (.aload_n 0, 1) := by decide +kernel
theorem dX9_isWhole_118 : decode cX9_isWhole 118 = .ok (.dup, 1) := by decide +kernel
theorem dX9_isWhole_119 : decode cX9_isWhole 119 = .ok (.getfield 201, 3) := by decide +kernel
theorem dX9_isWhole_122 : decode cX9_isWhole 122 = .ok (.aload_n 0, 1) := by decide +kernel
theorem dX9_isWhole_123 : decode cX9_isWhole 123 = .ok (.iload 6, 2) := by decide +kernel
theorem dX9_isWhole_125 : decode cX9_isWhole 125 = .ok (.invokevirtual 146, 3) := by decide +kernel
theorem dX9_isWhole_128 : decode cX9_isWhole 128 = .ok (.iadd, 1) := by decide +kernel
theorem dX9_isWhole_129 : decode cX9_isWhole 129 = .ok (.putfield 201, 3) := by decide +kernel
theorem dX9_isWhole_132 : decode cX9_isWhole 132 = .ok (.aload_n 0, 1) := by decide +kernel
theorem dX9_isWhole_133 : decode cX9_isWhole 133 = .ok (.getfield 7, 3) := by decide +kernel
theorem dX9_isWhole_136 : decode cX9_isWhole 136 = .ok (.bipush 47, 2) := by decide +kernel
theorem dX9_isWhole_138 : decode cX9_isWhole 138 = .ok (.iload 6, 2) := by decide +kernel
theorem dX9_isWhole_140 : decode cX9_isWhole 140 = .ok (.iadd, 1) := by decide +kernel
theorem dX9_isWhole_141 : decode cX9_isWhole 141 = .ok (.iaload, 1) := by decide +kernel
theorem dX9_isWhole_142 : decode cX9_isWhole 142 = .ok (.iconst 1, 1) := by decide +kernel
theorem dX9_isWhole_143 : decode cX9_isWhole 143 = .ok (.isub, 1) := by decide +kernel
theorem dX9_isWhole_144 : decode cX9_isWhole 144 = .ok (.istore 7, 2) := by decide +kernel
theorem dX9_isWhole_146 : decode cX9_isWhole 146 = .ok (.iload 7, 2) := by decide +kernel
theorem dX9_isWhole_148 : decode cX9_isWhole 148 = .ok (.ifCond .lt 34, 3) := by decide +kernel
theorem dX9_isWhole_151 : decode cX9_isWhole 151 = .ok (.aload_n 0, 1) := by decide +kernel
theorem dX9_isWhole_152 : decode cX9_isWhole 152 = .ok (.getfield 32, 3) := by decide +kernel
theorem dX9_isWhole_155 : decode cX9_isWhole 155 = .ok (.iload_n 3, 1) := by decide +kernel
theorem dX9_isWhole_156 : decode cX9_isWhole 156 = .ok (.aload_n 0, 1) := by decide +kernel
theorem dX9_isWhole_157 : decode cX9_isWhole 157 = .ok (.getfield 7, 3) := by decide +kernel
theorem dX9_isWhole_160 : decode cX9_isWhole 160 = .ok (.bipush 59, 2) := by decide +kernel
theorem dX9_isWhole_162 : decode cX9_isWhole 162 = .ok (.bipush 12, 2) := by decide +kernel
theorem dX9_isWhole_164 : decode cX9_isWhole 164 = .ok (.iload 7, 2) := by decide +kernel
theorem dX9_isWhole_166 : decode cX9_isWhole 166 = .ok (.imul, 1) := by decide +kernel
theorem dX9_isWhole_167 : decode cX9_isWhole 167 = .ok (.iadd, 1) := by decide +kernel
theorem dX9_isWhole_168 : decode cX9_isWhole 168 = .ok (.iload 6, 2) := by decide +kernel
theorem dX9_isWhole_170 : decode cX9_isWhole 170 = .ok (.iadd, 1) := by decide +kernel
theorem dX9_isWhole_171 : decode cX9_isWhole 171 = .ok (.iaload, 1) := by decide +kernel
theorem dX9_isWhole_172 : decode cX9_isWhole 172 = .ok (.iastore, 1) := by decide +kernel
theorem dX9_isWhole_173 : decode cX9_isWhole 173 = .ok (.iinc 3 1, 3) := by decide +kernel
theorem dX9_isWhole_176 : decode cX9_isWhole 176 = .ok (.iinc 7 (-1), 3) := by decide +kernel
theorem dX9_isWhole_179 : decode cX9_isWhole 179 = .ok (.goto (-33), 3) := by decide +kernel
theorem dX9_isWhole_182 : decode cX9_isWhole 182 = .ok (.iinc 5 1, 3) := by decide +kernel
theorem dX9_isWhole_185 : decode cX9_isWhole 185 = .ok (.goto (-172), 3) := by decide +kernel
theorem dX9_isWhole_188 : decode cX9_isWhole 188 = .ok (.iload 4, 2) := by decide +kernel
theorem dX9_isWhole_190 : decode cX9_isWhole 190 = .ok (.ifCond .eq 11, 3) := by decide +kernel
theorem dX9_isWhole_193 : decode cX9_isWhole 193 = .ok (.iload_n 3, 1) := by decide +kernel
theorem dX9_isWhole_194 : decode cX9_isWhole 194 = .ok (.ifCond .ne 7, 3) := by decide +kernel
theorem dX9_isWhole_197 : decode cX9_isWhole 197 = .ok (.iconst 1, 1) := by decide +kernel
theorem dX9_isWhole_198 : decode cX9_isWhole 198 = .ok (.goto 4, 3) := by decide +kernel
theorem dX9_isWhole_201 : decode cX9_isWhole 201 = .ok (.iconst 0, 1) := by decide +kernel
theorem dX9_isWhole_202 : decode cX9_isWhole 202 = .ok (.ireturn, 1) := by decide +kernel
theorem dX9_word_0 : decode cX9_word 0 = .ok (.iload_n 1, 1) := by decide +kernel
theorem dX9_word_1 : decode cX9_word 1 = .ok (.invokestatic 59, 3) := by decide +kernel
theorem dX9_word_4 : decode cX9_word 4 = .ok (.ifCond .eq 26, 3) := by decide +kernel
theorem dX9_word_7 : decode cX9_word 7 = .ok (.iload_n 3, 1) := by decide +kernel
theorem dX9_word_8 : decode cX9_word 8 = .ok (.i2l, 1) := by decide +kernel
theorem dX9_word_9 : decode cX9_word 9 = .ok (.lconst 1, 1) := by decide +kernel
theorem dX9_word_10 : decode cX9_word 10 = .ok (.ldc2_w 176, 3) := by decide +kernel
theorem dX9_word_13 : decode cX9_word 13 = .ok (.invokestatic 48, 3) := by decide +kernel
theorem dX9_word_16 : decode cX9_word 16 = .ok (.ifCond .eq 14, 3) := by decide +kernel
theorem dX9_word_19 : decode cX9_word 19 = .ok (.iload 4, 2) := by decide +kernel
theorem dX9_word_21 : decode cX9_word 21 = .ok (.i2l, 1) := by decide +kernel
theorem dX9_word_22 : decode cX9_word 22 = .ok (.lconst 0, 1) := by decide +kernel
theorem dX9_word_23 : decode cX9_word 23 = .ok (.lconst 1, 1) := by decide +kernel
theorem dX9_word_24 : decode cX9_word 24 = .ok (.invokestatic 48, 3) := by decide +kernel
theorem dX9_word_27 : decode cX9_word 27 = .ok (.ifCond .ne 6, 3) := by decide +kernel
theorem dX9_word_30 : decode cX9_word 30 = .ok (.ldc 65, 2) := by decide +kernel
theorem dX9_word_32 : decode cX9_word 32 = .ok (.ireturn, 1) := by decide +kernel
theorem dX9_word_33 : decode cX9_word 33 = .ok (.aload_n 0, 1) := by decide +kernel
theorem dX9_word_34 : decode cX9_word 34 = .ok (.invokevirtual 215, 3) := by decide +kernel
theorem dX9_word_37 : decode cX9_word 37 = .ok (.ifCond .ne 6, 3) := by decide +kernel
theorem dX9_word_40 : decode cX9_word 40 = .ok (.ldc 137, 2) := by decide +kernel
theorem dX9_word_42 : decode cX9_word 42 = .ok (.ireturn, 1) := by decide +kernel
theorem dX9_word_43 : decode cX9_word 43 = .ok (.aload_n 0, 1) := by decide +kernel
theorem dX9_word_44 : decode cX9_word 44 = .ok (.iload_n 1, 1) := by decide +kernel
theorem dX9_word_45 : decode cX9_word 45 = .ok (.iload_n 2, 1) := by decide +kernel
theorem dX9_word_46 : decode cX9_word 46 = .ok (.iload_n 3, 1) := by decide +kernel
theorem dX9_word_47 : decode cX9_word 47 = .ok (.invokevirtual 70, 3) := by decide +kernel
theorem dX9_word_50 : decode cX9_word 50 = .ok (.istore 5, 2) := by decide +kernel
theorem dX9_word_52 : decode cX9_word 52 = .ok (.iload 5, 2) := by decide +kernel
theorem dX9_word_54 : decode cX9_word 54 = .ok (.ifCond .le 10, 3) := by decide +kernel
theorem dX9_word_57 : decode cX9_word 57 = .ok (.aload_n 0, 1) := by decide +kernel
theorem dX9_word_58 : decode cX9_word 58 = .ok (.iload 5, 2) := by decide +kernel
theorem dX9_word_60 : decode cX9_word 60 = .ok (.invokevirtual 66, 3) := by decide +kernel
theorem dX9_word_63 : decode cX9_word 63 = .ok (.ireturn, 1) := by decide +kernel
theorem dX9_word_64 : decode cX9_word 64 = .ok (.aload_n 0, 1) := by decide +kernel
theorem dX9_word_65 : decode cX9_word 65 = .ok (.iconst 0, 1) := by decide +kernel
theorem dX9_word_66 : decode cX9_word 66 = .ok (.putfield 54, 3) := by decide +kernel
theorem dX9_word_69 : decode cX9_word 69 = .ok (.aload_n 0, 1) := by decide +kernel
theorem dX9_word_70 : decode cX9_word 70 = .ok (.bipush 40, 2) := by decide +kernel
theorem dX9_word_72 : decode cX9_word 72 = .ok (.iload_n 1, 1) := by decide +kernel
theorem dX9_word_73 : decode cX9_word 73 = .ok (.imul, 1) := by decide +kernel
theorem dX9_word_74 : decode cX9_word 74 = .ok (.iload_n 2, 1) := by decide +kernel
theorem dX9_word_75 : decode cX9_word 75 = .ok (.iadd, 1) := by decide +kernel
theorem dX9_word_76 : decode cX9_word 76 = .ok (.iload_n 3, 1) := by decide +kernel
theorem dX9_word_77 : decode cX9_word 77 = .ok (.invokevirtual 218, 3) := by decide +kernel
theorem dX9_word_80 : decode cX9_word 80 = .ok (.ifCond .ne 6, 3) := by decide +kernel
theorem dX9_word_83 : decode cX9_word 83 = .ok (.ldc 149, 2) := by decide +kernel
theorem dX9_word_85 : decode cX9_word 85 = .ok (.ireturn, 1) := by decide +kernel
theorem dX9_word_86 : decode cX9_word 86 = .ok (.iload 4, 2) := by decide +kernel
theorem dX9_word_88 : decode cX9_word 88 = .ok (.ifCond .ne 25, 3) := by decide +kernel
theorem dX9_word_91 : decode cX9_word 91 = .ok (.aload_n 0, 1) := by decide +kernel
theorem dX9_word_92 : decode cX9_word 92 = .ok (.getfield 7, 3) := by decide +kernel
theorem dX9_word_95 : decode cX9_word 95 = .ok (.bipush 23, 2) := by decide +kernel
theorem dX9_word_97 : decode cX9_word 97 = .ok (.aload_n 0, 1) := by decide +kernel
theorem dX9_word_98 : decode cX9_word 98 = .ok (.getfield 22, 3) := by decide +kernel
theorem dX9_word_101 : decode cX9_word 101 = .ok (.bipush 40, 2) := by decide +kernel
theorem dX9_word_103 : decode cX9_word 103 = .ok (.iload_n 1, 1) := by decide +kernel
theorem dX9_word_104 : decode cX9_word 104 = .ok (.imul, 1) := by decide +kernel
theorem dX9_word_105 : decode cX9_word 105 = .ok (.iload_n 2, 1) := by decide +kernel
theorem dX9_word_106 : decode cX9_word 106 = .ok (.iadd, 1) := by decide +kernel
theorem dX9_word_107 : decode cX9_word 107 = .ok (.iaload, 1) := by decide +kernel
theorem dX9_word_108 : decode cX9_word 108 = .ok (.iadd, 1) := by decide +kernel
theorem dX9_word_109 : decode cX9_word 109 = .ok (.iaload, 1) := by decide +kernel
theorem dX9_word_110 : decode cX9_word 110 = .ok (.goto 7, 3) := by decide +kernel
theorem dX9_word_113 : decode cX9_word 113 = .ok (.aload_n 0, 1) := by decide +kernel
theorem dX9_word_114 : decode cX9_word 114 = .ok (.getfield 201, 3) := by decide +kernel
theorem dX9_word_117 : decode cX9_word 117 = .ok (.ireturn, 1) := by decide +kernel
theorem dX9_placeOf_0 : decode cX9_placeOf 0 = .ok (.lconst 0, 1) := by decide +kernel
theorem dX9_placeOf_1 : decode cX9_placeOf 1 = .ok (.lstore 4, 2) := by decide +kernel
theorem dX9_placeOf_3 : decode cX9_placeOf 3 = .ok (.iconst 1, 1) := by decide +kernel
theorem dX9_placeOf_4 : decode cX9_placeOf 4 = .ok (.istore 6, 2) := by decide +kernel
theorem dX9_placeOf_6 : decode cX9_placeOf 6 = .ok (.iload 6, 2) := by decide +kernel
theorem dX9_placeOf_8 : decode cX9_placeOf 8 = .ok (.aload_n 0, 1) := by decide +kernel
theorem dX9_placeOf_9 : decode cX9_placeOf 9 = .ok (.getfield 201, 3) := by decide +kernel
theorem dX9_placeOf_12 : decode cX9_placeOf 12 = .ok (.if_icmp .ge 29, 3) := by decide +kernel
theorem dX9_placeOf_15 : decode cX9_placeOf 15 = .ok (.lload 4, 2) := by decide +kernel
theorem dX9_placeOf_17 : decode cX9_placeOf 17 = .ok (.aload_n 0, 1) := by decide +kernel
theorem dX9_placeOf_18 : decode cX9_placeOf 18 = .ok (.getfield 28, 3) := by decide +kernel
theorem dX9_placeOf_21 : decode cX9_placeOf 21 = .ok (.bipush 25, 2) := by decide +kernel
theorem dX9_placeOf_23 : decode cX9_placeOf 23 = .ok (.iload_n 1, 1) := by decide +kernel
theorem dX9_placeOf_24 : decode cX9_placeOf 24 = .ok (.imul, 1) := by decide +kernel
theorem dX9_placeOf_25 : decode cX9_placeOf 25 = .ok (.iload 6, 2) := by decide +kernel
theorem dX9_placeOf_27 : decode cX9_placeOf 27 = .ok (.iadd, 1) := by decide +kernel
theorem dX9_placeOf_28 : decode cX9_placeOf 28 = .ok (.laload, 1) := by decide +kernel
theorem dX9_placeOf_29 : decode cX9_placeOf 29 = .ok (.ladd, 1) := by decide +kernel
theorem dX9_placeOf_30 : decode cX9_placeOf 30 = .ok (.invokestatic 162, 3) := by decide +kernel
theorem dX9_placeOf_33 : decode cX9_placeOf 33 = .ok (.lstore 4, 2) := by decide +kernel
theorem dX9_placeOf_35 : decode cX9_placeOf 35 = .ok (.iinc 6 1, 3) := by decide +kernel
theorem dX9_placeOf_38 : decode cX9_placeOf 38 = .ok (.goto (-32), 3) := by decide +kernel
theorem dX9_placeOf_41 : decode cX9_placeOf 41 = .ok (.aload_n 0, 1) := by decide +kernel
theorem dX9_placeOf_42 : decode cX9_placeOf 42 = .ok (.getfield 201, 3) := by decide +kernel
theorem dX9_placeOf_45 : decode cX9_placeOf 45 = .ok (.istore 6, 2) := by decide +kernel
theorem dX9_placeOf_47 : decode cX9_placeOf 47 = .ok (.aload_n 0, 1) := by decide +kernel
theorem dX9_placeOf_48 : decode cX9_placeOf 48 = .ok (.iload_n 1, 1) := by decide +kernel
theorem dX9_placeOf_49 : decode cX9_placeOf 49 = .ok (.invokevirtual 204, 3) := by decide +kernel
theorem dX9_placeOf_52 : decode cX9_placeOf 52 = .ok (.iconst 0, 1) := by decide +kernel
theorem dX9_placeOf_53 : decode cX9_placeOf 53 = .ok (.istore 7, 2) := by decide +kernel
theorem dX9_placeOf_55 : decode cX9_placeOf 55 = .ok (.iload 7, 2) := by decide +kernel
theorem dX9_placeOf_57 : decode cX9_placeOf 57 = .ok (.iload_n 3, 1) := by decide +kernel
theorem dX9_placeOf_58 : decode cX9_placeOf 58 = .ok (.if_icmp .ge 69, 3) := by decide +kernel
theorem dX9_placeOf_61 : decode cX9_placeOf 61 = .ok (.aload_n 0, 1) := by decide +kernel
theorem dX9_placeOf_62 : decode cX9_placeOf 62 = .ok (.getfield 22, 3) := by decide +kernel
theorem dX9_placeOf_65 : decode cX9_placeOf 65 = .ok (.iload_n 2, 1) := by decide +kernel
theorem dX9_placeOf_66 : decode cX9_placeOf 66 = .ok (.iload 7, 2) := by decide +kernel
theorem dX9_placeOf_68 : decode cX9_placeOf 68 = .ok (.iadd, 1) := by decide +kernel
theorem dX9_placeOf_69 : decode cX9_placeOf 69 = .ok (.iaload, 1) := by decide +kernel
theorem dX9_placeOf_70 : decode cX9_placeOf 70 = .ok (.istore 8, 2) := by decide +kernel
theorem dX9_placeOf_72 : decode cX9_placeOf 72 = .ok (.iconst 0, 1) := by decide +kernel
theorem dX9_placeOf_73 : decode cX9_placeOf 73 = .ok (.istore 9, 2) := by decide +kernel
theorem dX9_placeOf_75 : decode cX9_placeOf 75 = .ok (.iload 9, 2) := by decide +kernel
theorem dX9_placeOf_77 : decode cX9_placeOf 77 = .ok (.iload 8, 2) := by decide +kernel
theorem dX9_placeOf_79 : decode cX9_placeOf 79 = .ok (.if_icmp .ge 25, 3) := by decide +kernel
theorem dX9_placeOf_82 : decode cX9_placeOf 82 = .ok (.lload 4, 2) := by decide +kernel
theorem dX9_placeOf_84 : decode cX9_placeOf 84 = .ok (.aload_n 0, 1) := by decide +kernel
theorem dX9_placeOf_85 : decode cX9_placeOf 85 = .ok (.iload 9, 2) := by decide +kernel
theorem dX9_placeOf_87 : decode cX9_placeOf 87 = .ok (.iload 6, 2) := by decide +kernel
theorem dX9_placeOf_89 : decode cX9_placeOf 89 = .ok (.invokevirtual 207, 3) := by decide +kernel
theorem dX9_placeOf_92 : decode cX9_placeOf 92 = .ok (.ladd, 1) := by decide +kernel
theorem dX9_placeOf_93 : decode cX9_placeOf 93 = .ok (.invokestatic 162, 3) := by decide +kernel
theorem dX9_placeOf_96 : decode cX9_placeOf 96 = .ok (.lstore 4, 2) := by decide +kernel
theorem dX9_placeOf_98 : decode cX9_placeOf 98 = .ok (.iinc 9 1, 3) := by decide +kernel
theorem dX9_placeOf_101 : decode cX9_placeOf 101 = .ok (.goto (-26), 3) := by decide +kernel
theorem dX9_placeOf_104 : decode cX9_placeOf 104 = .ok (.iload 6, 2) := by decide +kernel
theorem dX9_placeOf_106 : decode cX9_placeOf 106 = .ok (.aload_n 0, 1) := by decide +kernel
theorem dX9_placeOf_107 : decode cX9_placeOf 107 = .ok (.iload 8, 2) := by decide +kernel
theorem dX9_placeOf_109 : decode cX9_placeOf 109 = .ok (.invokevirtual 146, 3) := by decide +kernel
theorem dX9_placeOf_112 : decode cX9_placeOf 112 = .ok (.isub, 1) := by decide +kernel
theorem dX9_placeOf_113 : decode cX9_placeOf 113 = .ok (.istore 6, 2) := by decide +kernel
theorem dX9_placeOf_115 : decode cX9_placeOf 115 = .ok (.aload_n 0, 1) := by decide +kernel
theorem dX9_placeOf_116 : decode cX9_placeOf 116 = .ok (.iload 8, 2) := by decide +kernel
theorem dX9_placeOf_118 : decode cX9_placeOf 118 = .ok (.invokevirtual 195, 3) := by decide +kernel
theorem dX9_placeOf_121 : decode cX9_placeOf 121 = .ok (.iinc 7 1, 3) := by decide +kernel
theorem dX9_placeOf_124 : decode cX9_placeOf 124 = .ok (.goto (-69), 3) := by decide +kernel
theorem dX9_placeOf_127 : decode cX9_placeOf 127 = .ok (.lload 4, 2) := by decide +kernel
theorem dX9_placeOf_129 : decode cX9_placeOf 129 = .ok (.lreturn, 1) := by decide +kernel
theorem dX9_place_0 : decode cX9_place 0 = .ok (.aload_n 0, 1) := by decide +kernel
theorem dX9_place_1 : decode cX9_place 1 = .ok (.iload_n 1, 1) := by decide +kernel
theorem dX9_place_2 : decode cX9_place 2 = .ok (.invokevirtual 143, 3) := by decide +kernel
theorem dX9_place_5 : decode cX9_place 5 = .ok (.ifCond .eq 22, 3) := by decide +kernel
theorem dX9_place_8 : decode cX9_place 8 = .ok (.iload_n 2, 1) := by decide +kernel
theorem dX9_place_9 : decode cX9_place 9 = .ok (.invokestatic 59, 3) := by decide +kernel
theorem dX9_place_12 : decode cX9_place 12 = .ok (.ifCond .eq 15, 3) := by decide +kernel
theorem dX9_place_15 : decode cX9_place 15 = .ok (.iload_n 3, 1) := by decide +kernel
theorem dX9_place_16 : decode cX9_place 16 = .ok (.i2l, 1) := by decide +kernel
theorem dX9_place_17 : decode cX9_place 17 = .ok (.lconst 1, 1) := by decide +kernel
theorem dX9_place_18 : decode cX9_place 18 = .ok (.ldc2_w 176, 3) := by decide +kernel
theorem dX9_place_21 : decode cX9_place 21 = .ok (.invokestatic 48, 3) := by decide +kernel
theorem dX9_place_24 : decode cX9_place 24 = .ok (.ifCond .ne 6, 3) := by decide +kernel
theorem dX9_place_27 : decode cX9_place 27 = .ok (.ldc 65, 2) := by decide +kernel
theorem dX9_place_29 : decode cX9_place 29 = .ok (.ireturn, 1) := by decide +kernel
theorem dX9_place_30 : decode cX9_place 30 = .ok (.aload_n 0, 1) := by decide +kernel
theorem dX9_place_31 : decode cX9_place 31 = .ok (.iload_n 2, 1) := by decide +kernel
theorem dX9_place_32 : decode cX9_place 32 = .ok (.iconst 0, 1) := by decide +kernel
theorem dX9_place_33 : decode cX9_place 33 = .ok (.iload_n 3, 1) := by decide +kernel
theorem dX9_place_34 : decode cX9_place 34 = .ok (.invokevirtual 70, 3) := by decide +kernel
theorem dX9_place_37 : decode cX9_place 37 = .ok (.istore 4, 2) := by decide +kernel
theorem dX9_place_39 : decode cX9_place 39 = .ok (.iload 4, 2) := by decide +kernel
theorem dX9_place_41 : decode cX9_place 41 = .ok (.ifCond .le 10, 3) := by decide +kernel
theorem dX9_place_44 : decode cX9_place 44 = .ok (.aload_n 0, 1) := by decide +kernel
theorem dX9_place_45 : decode cX9_place 45 = .ok (.iload 4, 2) := by decide +kernel
theorem dX9_place_47 : decode cX9_place 47 = .ok (.invokevirtual 66, 3) := by decide +kernel
theorem dX9_place_50 : decode cX9_place 50 = .ok (.ireturn, 1) := by decide +kernel
theorem dX9_place_51 : decode cX9_place 51 = .ok (.aload_n 0, 1) := by decide +kernel
theorem dX9_place_52 : decode cX9_place 52 = .ok (.iconst 0, 1) := by decide +kernel
theorem dX9_place_53 : decode cX9_place 53 = .ok (.putfield 54, 3) := by decide +kernel
theorem dX9_place_56 : decode cX9_place 56 = .ok (.bipush 40, 2) := by decide +kernel
theorem dX9_place_58 : decode cX9_place 58 = .ok (.iload_n 2, 1) := by decide +kernel
theorem dX9_place_59 : decode cX9_place 59 = .ok (.imul, 1) := by decide +kernel
theorem dX9_place_60 : decode cX9_place 60 = .ok (.istore 5, 2) := by decide +kernel
theorem dX9_place_62 : decode cX9_place 62 = .ok (.aload_n 0, 1) := by decide +kernel
theorem dX9_place_63 : decode cX9_place 63 = .ok (.iload 5, 2) := by decide +kernel
theorem dX9_place_65 : decode cX9_place 65 = .ok (.iload_n 3, 1) := by decide +kernel
theorem dX9_place_66 : decode cX9_place 66 = .ok (.invokevirtual 218, 3) := by decide +kernel
theorem dX9_place_69 : decode cX9_place 69 = .ok (.ifCond .eq 35, 3) := by decide +kernel
theorem dX9_place_72 : decode cX9_place 72 = .ok (.aload_n 0, 1) := by decide +kernel
theorem dX9_place_73 : decode cX9_place 73 = .ok (.getfield 201, 3) := by decide +kernel
theorem dX9_place_76 : decode cX9_place 76 = .ok (.bipush 24, 2) := by decide +kernel
theorem dX9_place_78 : decode cX9_place 78 = .ok (.if_icmp .gt 26, 3) := by decide +kernel
theorem dX9_place_81 : decode cX9_place 81 = .ok (.aload_n 0, 1) := by decide +kernel
theorem dX9_place_82 : decode cX9_place 82 = .ok (.aload_n 0, 1) := by decide +kernel
theorem dX9_place_83 : decode cX9_place 83 = .ok (.getfield 7, 3) := by decide +kernel
theorem dX9_place_86 : decode cX9_place 86 = .ok (.bipush 23, 2) := by decide +kernel
theorem dX9_place_88 : decode cX9_place 88 = .ok (.aload_n 0, 1) := by decide +kernel
theorem dX9_place_89 : decode cX9_place 89 = .ok (.getfield 22, 3) := by decide +kernel
theorem dX9_place_92 : decode cX9_place 92 = .ok (.iload 5, 2) := by decide +kernel
theorem dX9_place_94 : decode cX9_place 94 = .ok (.iaload, 1) := by decide +kernel
theorem dX9_place_95 : decode cX9_place 95 = .ok (.iadd, 1) := by decide +kernel
theorem dX9_place_96 : decode cX9_place 96 = .ok (.iaload, 1) := by decide +kernel
theorem dX9_place_97 : decode cX9_place 97 = .ok (.iload_n 1, 1) := by decide +kernel
theorem dX9_place_98 : decode cX9_place 98 = .ok (.invokevirtual 150, 3) := by decide +kernel
theorem dX9_place_101 : decode cX9_place 101 = .ok (.ifCond .ne 6, 3) := by decide +kernel
theorem dX9_place_104 : decode cX9_place 104 = .ok (.ldc 149, 2) := by decide +kernel
theorem dX9_place_106 : decode cX9_place 106 = .ok (.ireturn, 1) := by decide +kernel
theorem dX9_place_107 : decode cX9_place 107 = .ok (.aload_n 0, 1) := by decide +kernel
theorem dX9_place_108 : decode cX9_place 108 = .ok (.aload_n 0, 1) := by decide +kernel
theorem dX9_place_109 : decode cX9_place 109 = .ok (.getfield 7, 3) := by decide +kernel
theorem dX9_place_112 : decode cX9_place 112 = .ok (.iconst 2, 1) := by decide +kernel
theorem dX9_place_113 : decode cX9_place 113 = .ok (.iaload, 1) := by decide +kernel
theorem dX9_place_114 : decode cX9_place 114 = .ok (.invokevirtual 178, 3) := by decide +kernel
theorem dX9_place_117 : decode cX9_place 117 = .ok (.aload_n 0, 1) := by decide +kernel
theorem dX9_place_118 : decode cX9_place 118 = .ok (.iload_n 1, 1) := by decide +kernel
theorem dX9_place_119 : decode cX9_place 119 = .ok (.iload 5, 2) := by decide +kernel
theorem dX9_place_121 : decode cX9_place 121 = .ok (.iload_n 3, 1) := by decide +kernel
theorem dX9_place_122 : decode cX9_place 122 = .ok (.invokevirtual 221, 3) := by decide +kernel
theorem dX9_place_125 : decode cX9_place 125 = .ok (.lstore 6, 2) := by decide +kernel
theorem dX9_place_127 : decode cX9_place 127 = .ok (.lload 6, 2) := by decide +kernel
theorem dX9_place_129 : decode cX9_place 129 = .ok (.ldc2_w 173, 3) := by decide +kernel
theorem dX9_place_132 : decode cX9_place 132 = .ok (.lcmp, 1) := by decide +kernel
theorem dX9_place_133 : decode cX9_place 133 = .ok (.ifCond .lt 8, 3) := by decide +kernel
theorem dX9_place_136 : decode cX9_place 136 = .ok (.ldc 149, 2) := by decide +kernel
theorem dX9_place_138 : decode cX9_place 138 = .ok (.goto 6, 3) := by decide +kernel
theorem dX9_place_141 : decode cX9_place 141 = .ok (.lload 6, 2) := by decide +kernel
theorem dX9_place_143 : decode cX9_place 143 = .ok (.l2i, 1) := by decide +kernel
theorem dX9_place_144 : decode cX9_place 144 = .ok (.ireturn, 1) := by decide +kernel
theorem dX9_hadBy_0 : decode cX9_hadBy 0 = .ok (.iconst 0, 1) := by decide +kernel
theorem dX9_hadBy_1 : decode cX9_hadBy 1 = .ok (.istore_n 2, 1) := by decide +kernel
theorem dX9_hadBy_2 : decode cX9_hadBy 2 = .ok (.iconst 1, 1) := by decide +kernel
theorem dX9_hadBy_3 : decode cX9_hadBy 3 = .ok (.istore_n 3, 1) := by decide +kernel
theorem dX9_hadBy_4 : decode cX9_hadBy 4 = .ok (.iload_n 3, 1) := by decide +kernel
theorem dX9_hadBy_5 : decode cX9_hadBy 5 = .ok (.ifCond .eq 143, 3) := by decide +kernel
theorem dX9_hadBy_8 : decode cX9_hadBy 8 = .ok (.iload_n 2, 1) := by decide +kernel
theorem dX9_hadBy_9 : decode cX9_hadBy 9 = .ok (.istore 4, 2) := by decide +kernel
theorem dX9_hadBy_11 : decode cX9_hadBy 11 = .ok (.iconst 0, 1) := by decide +kernel
theorem dX9_hadBy_12 : decode cX9_hadBy 12 = .ok (.istore 5, 2) := by decide +kernel
theorem dX9_hadBy_14 : decode cX9_hadBy 14 = .ok (.iload 5, 2) := by decide +kernel
theorem dX9_hadBy_16 : decode cX9_hadBy 16 = .ok (.aload_n 0, 1) := by decide +kernel
theorem dX9_hadBy_17 : decode cX9_hadBy 17 = .ok (.getfield 7, 3) := by decide +kernel
theorem dX9_hadBy_20 : decode cX9_hadBy 20 = .ok (.iconst 1, 1) := by decide +kernel
theorem dX9_hadBy_21 : decode cX9_hadBy 21 = .ok (.iaload, 1) := by decide +kernel
theorem dX9_hadBy_22 : decode cX9_hadBy 22 = .ok (.if_icmp .ge 111, 3) := by decide +kernel
theorem dX9_hadBy_25 : decode cX9_hadBy 25 = .ok (.iload_n 1, 1) := by decide +kernel
theorem dX9_hadBy_26 : decode cX9_hadBy 26 = .ok (.iload 5, 2) := by decide +kernel
theorem dX9_hadBy_28 : decode cX9_hadBy 28 = .ok (.invokestatic 166, 3) := by decide +kernel
theorem dX9_hadBy_31 : decode cX9_hadBy 31 = .ok (.ifCond .ne 7, 3) := by decide +kernel
theorem dX9_hadBy_34 : decode cX9_hadBy 34 = .ok (.iconst 1, 1) := by decide +kernel
theorem dX9_hadBy_35 : decode cX9_hadBy 35 = .ok (.goto 4, 3) := by decide +kernel
theorem dX9_hadBy_38 : decode cX9_hadBy 38 = .ok (.iconst 0, 1) := by decide +kernel
theorem dX9_hadBy_39 : decode cX9_hadBy 39 = .ok (.istore 6, 2) := by decide +kernel
theorem dX9_hadBy_41 : decode cX9_hadBy 41 = .ok (.iconst 0, 1) := by decide +kernel
theorem dX9_hadBy_42 : decode cX9_hadBy 42 = .ok (.istore 7, 2) := by decide +kernel
theorem dX9_hadBy_44 : decode cX9_hadBy 44 = .ok (.iload 7, 2) := by decide +kernel
theorem dX9_hadBy_46 : decode cX9_hadBy 46 = .ok (.aload_n 0, 1) := by decide +kernel
theorem dX9_hadBy_47 : decode cX9_hadBy 47 = .ok (.getfield 7, 3) := by decide +kernel
theorem dX9_hadBy_50 : decode cX9_hadBy 50 = .ok (.bipush 47, 2) := by decide +kernel
theorem dX9_hadBy_52 : decode cX9_hadBy 52 = .ok (.iload 5, 2) := by decide +kernel
theorem dX9_hadBy_54 : decode cX9_hadBy 54 = .ok (.iadd, 1) := by decide +kernel
theorem dX9_hadBy_55 : decode cX9_hadBy 55 = .ok (.iaload, 1) := by decide +kernel
theorem dX9_hadBy_56 : decode cX9_hadBy 56 = .ok (.if_icmp .ge 44, 3) := by decide +kernel
theorem dX9_hadBy_59 : decode cX9_hadBy 59 = .ok (.iload 6, 2) := by decide +kernel
theorem dX9_hadBy_61 : decode cX9_hadBy 61 = .ok (.ifCond .eq 30, 3) := by decide +kernel
theorem dX9_hadBy_64 : decode cX9_hadBy 64 = .ok (.iload_n 2, 1) := by decide +kernel
theorem dX9_hadBy_65 : decode cX9_hadBy 65 = .ok (.aload_n 0, 1) := by decide +kernel
theorem dX9_hadBy_66 : decode cX9_hadBy 66 = .ok (.getfield 7, 3) := by decide +kernel
theorem dX9_hadBy_69 : decode cX9_hadBy 69 = .ok (.bipush 59, 2) := by decide +kernel
theorem dX9_hadBy_71 : decode cX9_hadBy 71 = .ok (.bipush 12, 2) := by decide +kernel
theorem dX9_hadBy_73 : decode cX9_hadBy 73 = .ok (.iload 7, 2) := by decide +kernel
theorem dX9_hadBy_75 : decode cX9_hadBy 75 = .ok (.imul, 1) := by decide +kernel
theorem dX9_hadBy_76 : decode cX9_hadBy 76 = .ok (.iadd, 1) := by decide +kernel
theorem dX9_hadBy_77 : decode cX9_hadBy 77 = .ok (.iload 5, 2) := by decide +kernel
theorem dX9_hadBy_79 : decode cX9_hadBy 79 = .ok (.iadd, 1) := by decide +kernel
theorem dX9_hadBy_80 : decode cX9_hadBy 80 = .ok (.iaload, 1) := by decide +kernel
theorem dX9_hadBy_81 : decode cX9_hadBy 81 = .ok (.invokestatic 166, 3) := by decide +kernel
theorem dX9_hadBy_84 : decode cX9_hadBy 84 = .ok (.ifCond .eq 7, 3) := by decide +kernel
theorem dX9_hadBy_87 : decode cX9_hadBy 87 = .ok (.iconst 1, 1) := by decide +kernel
theorem dX9_hadBy_88 : decode cX9_hadBy 88 = .ok (.goto 4, 3) := by decide +kernel
theorem dX9_hadBy_91 : decode cX9_hadBy 91 = .ok (.iconst 0, 1) := by decide +kernel
theorem dX9_hadBy_92 : decode cX9_hadBy 92 = .ok (.istore 6, 2) := by decide +kernel
theorem dX9_hadBy_94 : decode cX9_hadBy 94 = .ok (.iinc 7 1, 3) := by decide +kernel
theorem dX9_hadBy_97 : decode cX9_hadBy 97 = .ok (.goto (-53), 3) := by decide +kernel
theorem dX9_hadBy_100 : decode cX9_hadBy 100 = .ok (.iload_n 2, 1) := by decide +kernel
theorem dX9_hadBy_101 : decode cX9_hadBy 101 = .ok (.iload 6, 2) := by decide +kernel
theorem dX9_hadBy_103 : decode cX9_hadBy 103 = .ok (.ifCond .eq 21, 3) := by decide +kernel
theorem dX9_hadBy_106 : decode cX9_hadBy 106 = .ok (.aload_n 0, 1) := by decide +kernel
theorem dX9_hadBy_107 : decode cX9_hadBy 107 = .ok (.aload_n 0, 1) := by decide +kernel
theorem dX9_hadBy_108 : decode cX9_hadBy 108 = .ok (.getfield 7, 3) := by decide +kernel
theorem dX9_hadBy_111 : decode cX9_hadBy 111 = .ok (.bipush 23, 2) := by decide +kernel
theorem dX9_hadBy_113 : decode cX9_hadBy 113 = .ok (.iload 5, 2) := by decide +kernel
theorem dX9_hadBy_115 : decode cX9_hadBy 115 = .ok (.iadd, 1) := by decide +kernel
theorem dX9_hadBy_116 : decode cX9_hadBy 116 = .ok (.iaload, 1) := by decide +kernel
theorem dX9_hadBy_117 : decode cX9_hadBy 117 = .ok (.iconst 0, 1) := by decide +kernel
theorem dX9_hadBy_118 : decode cX9_hadBy 118 = .ok (.invokevirtual 153, 3) := by decide +kernel
theorem dX9_hadBy_121 : decode cX9_hadBy 121 = .ok (.goto 4, 3) := by decide +kernel
theorem dX9_hadBy_124 : decode cX9_hadBy 124 = .ok (.iconst 0, 1) := by decide +kernel
theorem dX9_hadBy_125 : decode cX9_hadBy 125 = .ok (.ior, 1) := by decide +kernel
theorem dX9_hadBy_126 : decode cX9_hadBy 126 = .ok (.istore_n 2, 1) := by decide +kernel
theorem dX9_hadBy_127 : decode cX9_hadBy 127 = .ok (.iinc 5 1, 3) := by decide +kernel
theorem dX9_hadBy_130 : decode cX9_hadBy 130 = .ok (.goto (-116), 3) := by decide +kernel
theorem dX9_hadBy_133 : decode cX9_hadBy 133 = .ok (.iload_n 2, 1) := by decide +kernel
theorem dX9_hadBy_134 : decode cX9_hadBy 134 = .ok (.iload 4, 2) := by decide +kernel
theorem dX9_hadBy_136 : decode cX9_hadBy 136 = .ok (.if_icmp .eq 7, 3) := by decide +kernel
theorem dX9_hadBy_139 : decode cX9_hadBy 139 = .ok (.iconst 1, 1) := by decide +kernel
theorem dX9_hadBy_140 : decode cX9_hadBy 140 = .ok (.goto 4, 3) := by decide +kernel
theorem dX9_hadBy_143 : decode cX9_hadBy 143 = .ok (.iconst 0, 1) := by decide +kernel
theorem dX9_hadBy_144 : decode cX9_hadBy 144 = .ok (.istore_n 3, 1) := by decide +kernel
theorem dX9_hadBy_145 : decode cX9_hadBy 145 = .ok (.goto (-141), 3) := by decide +kernel
theorem dX9_hadBy_148 : decode cX9_hadBy 148 = .ok (.iload_n 2, 1) := by decide +kernel
theorem dX9_hadBy_149 : decode cX9_hadBy 149 = .ok (.ireturn, 1) := by decide +kernel
theorem dX9_had_0 : decode cX9_had 0 = .ok (.aload_n 0, 1) := by decide +kernel
theorem dX9_had_1 : decode cX9_had 1 = .ok (.invokevirtual 215, 3) := by decide +kernel
theorem dX9_had_4 : decode cX9_had 4 = .ok (.ifCond .eq 16, 3) := by decide +kernel
theorem dX9_had_7 : decode cX9_had 7 = .ok (.aload_n 0, 1) := by decide +kernel
theorem dX9_had_8 : decode cX9_had 8 = .ok (.aload_n 0, 1) := by decide +kernel
theorem dX9_had_9 : decode cX9_had 9 = .ok (.getfield 7, 3) := by decide +kernel
theorem dX9_had_12 : decode cX9_had 12 = .ok (.iconst 2, 1) := by decide +kernel
theorem dX9_had_13 : decode cX9_had 13 = .ok (.iaload, 1) := by decide +kernel
theorem dX9_had_14 : decode cX9_had 14 = .ok (.invokevirtual 225, 3) := by decide +kernel
theorem dX9_had_17 : decode cX9_had 17 = .ok (.goto 5, 3) := by decide +kernel
theorem dX9_had_20 : decode cX9_had 20 = .ok (.ldc 137, 2) := by decide +kernel
theorem dX9_had_22 : decode cX9_had 22 = .ok (.ireturn, 1) := by decide +kernel
theorem dX9_needed_0 : decode cX9_needed 0 = .ok (.aload_n 0, 1) := by decide +kernel
theorem dX9_needed_1 : decode cX9_needed 1 = .ok (.iload_n 1, 1) := by decide +kernel
theorem dX9_needed_2 : decode cX9_needed 2 = .ok (.invokevirtual 143, 3) := by decide +kernel
theorem dX9_needed_5 : decode cX9_needed 5 = .ok (.ifCond .ne 6, 3) := by decide +kernel
theorem dX9_needed_8 : decode cX9_needed 8 = .ok (.ldc 65, 2) := by decide +kernel
theorem dX9_needed_10 : decode cX9_needed 10 = .ok (.ireturn, 1) := by decide +kernel
theorem dX9_needed_11 : decode cX9_needed 11 = .ok (.iconst 0, 1) := by decide +kernel
theorem dX9_needed_12 : decode cX9_needed 12 = .ok (.istore_n 2, 1) := by decide +kernel
theorem dX9_needed_13 : decode cX9_needed 13 = .ok (.iconst 0, 1) := by decide +kernel
theorem dX9_needed_14 : decode cX9_needed 14 = .ok (.istore_n 3, 1) := by decide +kernel
theorem dX9_needed_15 : decode cX9_needed 15 = .ok (.iload_n 3, 1) := by decide +kernel
theorem dX9_needed_16 : decode cX9_needed 16 = .ok (.aload_n 0, 1) := by decide +kernel
theorem dX9_needed_17 : decode cX9_needed 17 = .ok (.getfield 7, 3) := by decide +kernel
theorem dX9_needed_20 : decode cX9_needed 20 = .ok (.iconst 1, 1) := by decide +kernel
theorem dX9_needed_21 : decode cX9_needed 21 = .ok (.iaload, 1) := by decide +kernel
theorem dX9_needed_22 : decode cX9_needed 22 = .ok (.if_icmp .ge 57, 3) := by decide +kernel
theorem dX9_needed_25 : decode cX9_needed 25 = .ok (.aload_n 0, 1) := by decide +kernel
theorem dX9_needed_26 : decode cX9_needed 26 = .ok (.aload_n 0, 1) := by decide +kernel
theorem dX9_needed_27 : decode cX9_needed 27 = .ok (.getfield 7, 3) := by decide +kernel
theorem dX9_needed_30 : decode cX9_needed 30 = .ok (.iconst 2, 1) := by decide +kernel
theorem dX9_needed_31 : decode cX9_needed 31 = .ok (.iaload, 1) := by decide +kernel
theorem dX9_needed_32 : decode cX9_needed 32 = .ok (.invokevirtual 225, 3) := by decide +kernel
theorem dX9_needed_35 : decode cX9_needed 35 = .ok (.iload_n 1, 1) := by decide +kernel
theorem dX9_needed_36 : decode cX9_needed 36 = .ok (.invokestatic 166, 3) := by decide +kernel
theorem dX9_needed_39 : decode cX9_needed 39 = .ok (.ifCond .eq 40, 3) := by decide +kernel
theorem dX9_needed_42 : decode cX9_needed 42 = .ok (.iload_n 2, 1) := by decide +kernel
theorem dX9_needed_43 : decode cX9_needed 43 = .ok (.aload_n 0, 1) := by decide +kernel
theorem dX9_needed_44 : decode cX9_needed 44 = .ok (.aload_n 0, 1) := by decide +kernel
theorem dX9_needed_45 : decode cX9_needed 45 = .ok (.getfield 7, 3) := by decide +kernel
theorem dX9_needed_48 : decode cX9_needed 48 = .ok (.iconst 2, 1) := by decide +kernel
theorem dX9_needed_49 : decode cX9_needed 49 = .ok (.iaload, 1) := by decide +kernel
theorem dX9_needed_50 : decode cX9_needed 50 = .ok (.iconst 1, 1) := by decide +kernel
theorem dX9_needed_51 : decode cX9_needed 51 = .ok (.iload_n 3, 1) := by decide +kernel
theorem dX9_needed_52 : decode cX9_needed 52 = .ok (.ishl, 1) := by decide +kernel
theorem dX9_needed_53 : decode cX9_needed 53 = .ok (.ior, 1) := by decide +kernel
theorem dX9_needed_54 : decode cX9_needed 54 = .ok (.invokevirtual 225, 3) := by decide +kernel
theorem dX9_needed_57 : decode cX9_needed 57 = .ok (.iload_n 1, 1) := by decide +kernel
theorem dX9_needed_58 : decode cX9_needed 58 = .ok (.invokestatic 166, 3) := by decide +kernel
theorem dX9_needed_61 : decode cX9_needed 61 = .ok (.ifCond .eq 7, 3) := by decide +kernel
theorem dX9_needed_64 : decode cX9_needed 64 = .ok (.iconst 0, 1) := by decide +kernel
theorem dX9_needed_65 : decode cX9_needed 65 = .ok (.goto 6, 3) := by decide +kernel
theorem dX9_needed_68 : decode cX9_needed 68 = .ok (.iconst 1, 1) := by decide +kernel
theorem dX9_needed_69 : decode cX9_needed 69 = .ok (.iload_n 3, 1) := by decide +kernel
theorem dX9_needed_70 : decode cX9_needed 70 = .ok (.ishl, 1) := by decide +kernel
theorem dX9_needed_71 : decode cX9_needed 71 = .ok (.ior, 1) := by decide +kernel
theorem dX9_needed_72 : decode cX9_needed 72 = .ok (.istore_n 2, 1) := by decide +kernel
theorem dX9_needed_73 : decode cX9_needed 73 = .ok (.iinc 3 1, 3) := by decide +kernel
theorem dX9_needed_76 : decode cX9_needed 76 = .ok (.goto (-61), 3) := by decide +kernel
theorem dX9_needed_79 : decode cX9_needed 79 = .ok (.iload_n 2, 1) := by decide +kernel
theorem dX9_needed_80 : decode cX9_needed 80 = .ok (.ireturn, 1) := by decide +kernel
theorem dX9_without_0 : decode cX9_without 0 = .ok (.aload_n 0, 1) := by decide +kernel
theorem dX9_without_1 : decode cX9_without 1 = .ok (.iload_n 1, 1) := by decide +kernel
theorem dX9_without_2 : decode cX9_without 2 = .ok (.invokevirtual 143, 3) := by decide +kernel
theorem dX9_without_5 : decode cX9_without 5 = .ok (.ifCond .eq 11, 3) := by decide +kernel
theorem dX9_without_8 : decode cX9_without 8 = .ok (.aload_n 0, 1) := by decide +kernel
theorem dX9_without_9 : decode cX9_without 9 = .ok (.iload_n 2, 1) := by decide +kernel
theorem dX9_without_10 : decode cX9_without 10 = .ok (.invokevirtual 134, 3) := by decide +kernel
theorem dX9_without_13 : decode cX9_without 13 = .ok (.ifCond .ne 6, 3) := by decide +kernel
theorem dX9_without_16 : decode cX9_without 16 = .ok (.ldc 65, 2) := by decide +kernel
theorem dX9_without_18 : decode cX9_without 18 = .ok (.ireturn, 1) := by decide +kernel
theorem dX9_without_19 : decode cX9_without 19 = .ok (.aload_n 0, 1) := by decide +kernel
theorem dX9_without_20 : decode cX9_without 20 = .ok (.aload_n 0, 1) := by decide +kernel
theorem dX9_without_21 : decode cX9_without 21 = .ok (.getfield 7, 3) := by decide +kernel
theorem dX9_without_24 : decode cX9_without 24 = .ok (.iconst 2, 1) := by decide +kernel
theorem dX9_without_25 : decode cX9_without 25 = .ok (.iaload, 1) := by decide +kernel
theorem dX9_without_26 : decode cX9_without 26 = .ok (.iconst 1, 1) := by decide +kernel
theorem dX9_without_27 : decode cX9_without 27 = .ok (.iload_n 2, 1) := by decide +kernel
theorem dX9_without_28 : decode cX9_without 28 = .ok (.ishl, 1) := by decide +kernel
theorem dX9_without_29 : decode cX9_without 29 = .ok (.ior, 1) := by decide +kernel
theorem dX9_without_30 : decode cX9_without 30 = .ok (.invokevirtual 178, 3) := by decide +kernel
theorem dX9_without_33 : decode cX9_without 33 = .ok (.aload_n 0, 1) := by decide +kernel
theorem dX9_without_34 : decode cX9_without 34 = .ok (.iload_n 1, 1) := by decide +kernel
theorem dX9_without_35 : decode cX9_without 35 = .ok (.invokevirtual 186, 3) := by decide +kernel
theorem dX9_without_38 : decode cX9_without 38 = .ok (.ireturn, 1) := by decide +kernel
theorem dX9_share_0 : decode cX9_share 0 = .ok (.aload_n 0, 1) := by decide +kernel
theorem dX9_share_1 : decode cX9_share 1 = .ok (.iload_n 1, 1) := by decide +kernel
theorem dX9_share_2 : decode cX9_share 2 = .ok (.invokevirtual 134, 3) := by decide +kernel
theorem dX9_share_5 : decode cX9_share 5 = .ok (.ifCond .eq 15, 3) := by decide +kernel
theorem dX9_share_8 : decode cX9_share 8 = .ok (.iload_n 2, 1) := by decide +kernel
theorem dX9_share_9 : decode cX9_share 9 = .ok (.i2l, 1) := by decide +kernel
theorem dX9_share_10 : decode cX9_share 10 = .ok (.lconst 0, 1) := by decide +kernel
theorem dX9_share_11 : decode cX9_share 11 = .ok (.ldc2_w 228, 3) := by decide +kernel
theorem dX9_share_14 : decode cX9_share 14 = .ok (.invokestatic 48, 3) := by decide +kernel
theorem dX9_share_17 : decode cX9_share 17 = .ok (.ifCond .ne 6, 3) := by decide +kernel
theorem dX9_share_20 : decode cX9_share 20 = .ok (.ldc 65, 2) := by decide +kernel
theorem dX9_share_22 : decode cX9_share 22 = .ok (.ireturn, 1) := by decide +kernel
theorem dX9_share_23 : decode cX9_share 23 = .ok (.aload_n 0, 1) := by decide +kernel
theorem dX9_share_24 : decode cX9_share 24 = .ok (.getfield 7, 3) := by decide +kernel
theorem dX9_share_27 : decode cX9_share 27 = .ok (.iconst 2, 1) := by decide +kernel
theorem dX9_share_28 : decode cX9_share 28 = .ok (.iaload, 1) := by decide +kernel
theorem dX9_share_29 : decode cX9_share 29 = .ok (.iload_n 1, 1) := by decide +kernel
theorem dX9_share_30 : decode cX9_share 30 = .ok (.invokestatic 166, 3) := by decide +kernel
theorem dX9_share_33 : decode cX9_share 33 = .ok (.ifCond .eq 5, 3) := by decide +kernel
theorem dX9_share_36 : decode cX9_share 36 = .ok (.iconst 0, 1) := by decide +kernel
theorem dX9_share_37 : decode cX9_share 37 = .ok (.ireturn, 1) := by decide +kernel
theorem dX9_share_38 : decode cX9_share 38 = .ok (.iconst 0, 1) := by decide +kernel
theorem dX9_share_39 : decode cX9_share 39 = .ok (.istore_n 3, 1) := by decide +kernel
theorem dX9_share_40 : decode cX9_share 40 = .ok (.iconst 0, 1) := by decide +kernel
theorem dX9_share_41 : decode cX9_share 41 = .ok (.istore 4, 2) := by decide +kernel
theorem dX9_share_43 : decode cX9_share 43 = .ok (.iload 4, 2) := by decide +kernel
theorem dX9_share_45 : decode cX9_share 45 = .ok (.aload_n 0, 1) := by decide +kernel
theorem dX9_share_46 : decode cX9_share 46 = .ok (.getfield 7, 3) := by decide +kernel
theorem dX9_share_49 : decode cX9_share 49 = .ok (.iconst 1, 1) := by decide +kernel
theorem dX9_share_50 : decode cX9_share 50 = .ok (.iaload, 1) := by decide +kernel
theorem dX9_share_51 : decode cX9_share 51 = .ok (.if_icmp .ge 36, 3) := by decide +kernel
theorem dX9_share_54 : decode cX9_share 54 = .ok (.iload_n 3, 1) := by decide +kernel
theorem dX9_share_55 : decode cX9_share 55 = .ok (.aload_n 0, 1) := by decide +kernel
theorem dX9_share_56 : decode cX9_share 56 = .ok (.getfield 7, 3) := by decide +kernel
theorem dX9_share_59 : decode cX9_share 59 = .ok (.iconst 2, 1) := by decide +kernel
theorem dX9_share_60 : decode cX9_share 60 = .ok (.iaload, 1) := by decide +kernel
theorem dX9_share_61 : decode cX9_share 61 = .ok (.iload 4, 2) := by decide +kernel
theorem dX9_share_63 : decode cX9_share 63 = .ok (.invokestatic 166, 3) := by decide +kernel
theorem dX9_share_66 : decode cX9_share 66 = .ok (.ifCond .eq 7, 3) := by decide +kernel
theorem dX9_share_69 : decode cX9_share 69 = .ok (.iconst 0, 1) := by decide +kernel
theorem dX9_share_70 : decode cX9_share 70 = .ok (.goto 9, 3) := by decide +kernel
theorem dX9_share_73 : decode cX9_share 73 = .ok (.aload_n 0, 1) := by decide +kernel
theorem dX9_share_74 : decode cX9_share 74 = .ok (.iload 4, 2) := by decide +kernel
theorem dX9_share_76 : decode cX9_share 76 = .ok (.invokevirtual 146, 3) := by decide +kernel
theorem dX9_share_79 : decode cX9_share 79 = .ok (.iadd, 1) := by decide +kernel
theorem dX9_share_80 : decode cX9_share 80 = .ok (.istore_n 3, 1) := by decide +kernel
theorem dX9_share_81 : decode cX9_share 81 = .ok (.iinc 4 1, 3) := by decide +kernel
theorem dX9_share_84 : decode cX9_share 84 = .ok (.goto (-41), 3) := by decide +kernel
theorem dX9_share_87 : decode cX9_share 87 = .ok (.iload_n 2, 1) := by decide +kernel
theorem dX9_share_88 : decode cX9_share 88 = .ok (.istore 4, 2) := by decide +kernel
theorem dX9_share_90 : decode cX9_share 90 = .ok (.iconst 0, 1) := by decide +kernel
theorem dX9_share_91 : decode cX9_share 91 = .ok (.istore 5, 2) := by decide +kernel
theorem dX9_share_93 : decode cX9_share 93 = .ok (.iconst 0, 1) := by decide +kernel
theorem dX9_share_94 : decode cX9_share 94 = .ok (.istore 6, 2) := by decide +kernel
theorem dX9_share_96 : decode cX9_share 96 = .ok (.iload 6, 2) := by decide +kernel
theorem dX9_share_98 : decode cX9_share 98 = .ok (.aload_n 0, 1) := by decide +kernel
theorem dX9_share_99 : decode cX9_share 99 = .ok (.getfield 7, 3) := by decide +kernel
theorem dX9_share_102 : decode cX9_share 102 = .ok (.iconst 1, 1) := by decide +kernel
theorem dX9_share_103 : decode cX9_share 103 = .ok (.iaload, 1) := by decide +kernel
theorem dX9_share_104 : decode cX9_share 104 = .ok (.if_icmp .ge 72, 3) := by decide +kernel
theorem dX9_share_107 : decode cX9_share 107 = .ok (.iload 4, 2) := by decide +kernel
theorem dX9_share_109 : decode cX9_share 109 = .ok (.aload_n 0, 1) := by decide +kernel
theorem dX9_share_110 : decode cX9_share 110 = .ok (.getfield 7, 3) := by decide +kernel
theorem dX9_share_113 : decode cX9_share 113 = .ok (.iconst 2, 1) := by decide +kernel
theorem dX9_share_114 : decode cX9_share 114 = .ok (.iaload, 1) := by decide +kernel
theorem dX9_share_115 : decode cX9_share 115 = .ok (.iload 6, 2) := by decide +kernel
theorem dX9_share_117 : decode cX9_share 117 = .ok (.invokestatic 166, 3) := by decide +kernel
theorem dX9_share_120 : decode cX9_share 120 = .ok (.ifCond .eq 7, 3) := by decide +kernel
theorem dX9_share_123 : decode cX9_share 123 = .ok (.iconst 0, 1) := by decide +kernel
theorem dX9_share_124 : decode cX9_share 124 = .ok (.goto 13, 3) := by decide +kernel
theorem dX9_share_127 : decode cX9_share 127 = .ok (.iload_n 2, 1) := by decide +kernel
theorem dX9_share_128 : decode cX9_share 128 = .ok (.aload_n 0, 1) := by decide +kernel
theorem dX9_share_129 : decode cX9_share 129 = .ok (.iload 6, 2) := by decide +kernel
theorem dX9_share_131 : decode cX9_share 131 = .ok (.invokevirtual 146, 3) := by decide +kernel
theorem dX9_share_134 : decode cX9_share 134 = .ok (.imul, 1) := by decide +kernel
theorem dX9_share_135 : decode cX9_share 135 = .ok (.iload_n 3, 1) := by decide +kernel
theorem dX9_share_136 : decode cX9_share 136 = .ok (.idiv, 1) := by decide +kernel
theorem dX9_share_137 : decode cX9_share 137 = .ok (.isub, 1) := by decide +kernel
theorem dX9_share_138 : decode cX9_share 138 = .ok (.istore 4, 2) := by decide +kernel
theorem dX9_share_140 : decode cX9_share 140 = .ok (.iload 5, 2) := by decide +kernel
theorem dX9_share_142 : decode cX9_share 142 = .ok (.iload 6, 2) := by decide +kernel
theorem dX9_share_144 : decode cX9_share 144 = .ok (.iload_n 1, 1) := by decide +kernel
theorem dX9_share_145 : decode cX9_share 145 = .ok (.if_icmp .ge 21, 3) := by decide +kernel
theorem dX9_share_148 : decode cX9_share 148 = .ok (.aload_n 0, 1) := by decide +kernel
theorem dX9_share_149 : decode cX9_share 149 = .ok (.getfield 7, 3) := by decide +kernel
theorem dX9_share_152 : decode cX9_share 152 = .ok (.iconst 2, 1) := by decide +kernel
theorem dX9_share_153 : decode cX9_share 153 = .ok (.iaload, 1) := by decide +kernel
theorem dX9_share_154 : decode cX9_share 154 = .ok (.iload 6, 2) := by decide +kernel
theorem dX9_share_156 : decode cX9_share 156 = .ok (.invokestatic 166, 3) := by decide +kernel
theorem dX9_share_159 : decode cX9_share 159 = .ok (.ifCond .ne 7, 3) := by decide +kernel
theorem dX9_share_162 : decode cX9_share 162 = .ok (.iconst 1, 1) := by decide +kernel
theorem dX9_share_163 : decode cX9_share 163 = .ok (.goto 4, 3) := by decide +kernel
theorem dX9_share_166 : decode cX9_share 166 = .ok (.iconst 0, 1) := by decide +kernel
theorem dX9_share_167 : decode cX9_share 167 = .ok (.iadd, 1) := by decide +kernel
theorem dX9_share_168 : decode cX9_share 168 = .ok (.istore 5, 2) := by decide +kernel
theorem dX9_share_170 : decode cX9_share 170 = .ok (.iinc 6 1, 3) := by decide +kernel
theorem dX9_share_173 : decode cX9_share 173 = .ok (.goto (-77), 3) := by decide +kernel
theorem dX9_share_176 : decode cX9_share 176 = .ok (.iload_n 2, 1) := by decide +kernel
theorem dX9_share_177 : decode cX9_share 177 = .ok (.aload_n 0, 1) := by decide +kernel
theorem dX9_share_178 : decode cX9_share 178 = .ok (.iload_n 1, 1) := by decide +kernel
theorem dX9_share_179 : decode cX9_share 179 = .ok (.invokevirtual 146, 3) := by decide +kernel
theorem dX9_share_182 : decode cX9_share 182 = .ok (.imul, 1) := by decide +kernel
theorem dX9_share_183 : decode cX9_share 183 = .ok (.iload_n 3, 1) := by decide +kernel
theorem dX9_share_184 : decode cX9_share 184 = .ok (.idiv, 1) := by decide +kernel
theorem dX9_share_185 : decode cX9_share 185 = .ok (.iload 5, 2) := by decide +kernel
theorem dX9_share_187 : decode cX9_share 187 = .ok (.iload 4, 2) := by decide +kernel
theorem dX9_share_189 : decode cX9_share 189 = .ok (.if_icmp .ge 7, 3) := by decide +kernel
theorem dX9_share_192 : decode cX9_share 192 = .ok (.iconst 1, 1) := by decide +kernel
theorem dX9_share_193 : decode cX9_share 193 = .ok (.goto 4, 3) := by decide +kernel
theorem dX9_share_196 : decode cX9_share 196 = .ok (.iconst 0, 1) := by decide +kernel
theorem dX9_share_197 : decode cX9_share 197 = .ok (.iadd, 1) := by decide +kernel
theorem dX9_share_198 : decode cX9_share 198 = .ok (.ireturn, 1) := by decide +kernel
theorem dX9_drawn_0 : decode cX9_drawn 0 = .ok (.aload_n 0, 1) := by decide +kernel
theorem dX9_drawn_1 : decode cX9_drawn 1 = .ok (.iload_n 1, 1) := by decide +kernel
theorem dX9_drawn_2 : decode cX9_drawn 2 = .ok (.invokevirtual 143, 3) := by decide +kernel
theorem dX9_drawn_5 : decode cX9_drawn 5 = .ok (.ifCond .eq 38, 3) := by decide +kernel
theorem dX9_drawn_8 : decode cX9_drawn 8 = .ok (.iload_n 2, 1) := by decide +kernel
theorem dX9_drawn_9 : decode cX9_drawn 9 = .ok (.i2l, 1) := by decide +kernel
theorem dX9_drawn_10 : decode cX9_drawn 10 = .ok (.lconst 1, 1) := by decide +kernel
theorem dX9_drawn_11 : decode cX9_drawn 11 = .ok (.ldc2_w 230, 3) := by decide +kernel
theorem dX9_drawn_14 : decode cX9_drawn 14 = .ok (.invokestatic 48, 3) := by decide +kernel
theorem dX9_drawn_17 : decode cX9_drawn 17 = .ok (.ifCond .eq 26, 3) := by decide +kernel
theorem dX9_drawn_20 : decode cX9_drawn 20 = .ok (.iload_n 3, 1) := by decide +kernel
theorem dX9_drawn_21 : decode cX9_drawn 21 = .ok (.i2l, 1) := by decide +kernel
theorem dX9_drawn_22 : decode cX9_drawn 22 = .ok (.lconst 1, 1) := by decide +kernel
theorem dX9_drawn_23 : decode cX9_drawn 23 = .ok (.ldc2_w 232, 3) := by decide +kernel
theorem dX9_drawn_26 : decode cX9_drawn 26 = .ok (.invokestatic 48, 3) := by decide +kernel
theorem dX9_drawn_29 : decode cX9_drawn 29 = .ok (.ifCond .eq 14, 3) := by decide +kernel
theorem dX9_drawn_32 : decode cX9_drawn 32 = .ok (.iload 4, 2) := by decide +kernel
theorem dX9_drawn_34 : decode cX9_drawn 34 = .ok (.i2l, 1) := by decide +kernel
theorem dX9_drawn_35 : decode cX9_drawn 35 = .ok (.lconst 0, 1) := by decide +kernel
theorem dX9_drawn_36 : decode cX9_drawn 36 = .ok (.lconst 1, 1) := by decide +kernel
theorem dX9_drawn_37 : decode cX9_drawn 37 = .ok (.invokestatic 48, 3) := by decide +kernel
theorem dX9_drawn_40 : decode cX9_drawn 40 = .ok (.ifCond .ne 6, 3) := by decide +kernel
theorem dX9_drawn_43 : decode cX9_drawn 43 = .ok (.ldc 65, 2) := by decide +kernel
theorem dX9_drawn_45 : decode cX9_drawn 45 = .ok (.ireturn, 1) := by decide +kernel
theorem dX9_drawn_46 : decode cX9_drawn 46 = .ok (.aload_n 0, 1) := by decide +kernel
theorem dX9_drawn_47 : decode cX9_drawn 47 = .ok (.aload_n 0, 1) := by decide +kernel
theorem dX9_drawn_48 : decode cX9_drawn 48 = .ok (.getfield 7, 3) := by decide +kernel
theorem dX9_drawn_51 : decode cX9_drawn 51 = .ok (.iconst 2, 1) := by decide +kernel
theorem dX9_drawn_52 : decode cX9_drawn 52 = .ok (.iaload, 1) := by decide +kernel
theorem dX9_drawn_53 : decode cX9_drawn 53 = .ok (.invokevirtual 178, 3) := by decide +kernel
theorem dX9_drawn_56 : decode cX9_drawn 56 = .ok (.lconst 0, 1) := by decide +kernel
theorem dX9_drawn_57 : decode cX9_drawn 57 = .ok (.lstore 5, 2) := by decide +kernel
theorem dX9_drawn_59 : decode cX9_drawn 59 = .ok (.iconst 1, 1) := by decide +kernel
theorem dX9_drawn_60 : decode cX9_drawn 60 = .ok (.istore 7, 2) := by decide +kernel
theorem dX9_drawn_62 : decode cX9_drawn 62 = .ok (.iload 7, 2) := by decide +kernel
theorem dX9_drawn_64 : decode cX9_drawn 64 = .ok (.bipush 24, 2) := by decide +kernel
theorem dX9_drawn_66 : decode cX9_drawn 66 = .ok (.if_icmp .gt 29, 3) := by decide +kernel
theorem dX9_drawn_69 : decode cX9_drawn 69 = .ok (.lload 5, 2) := by decide +kernel
theorem dX9_drawn_71 : decode cX9_drawn 71 = .ok (.aload_n 0, 1) := by decide +kernel
theorem dX9_drawn_72 : decode cX9_drawn 72 = .ok (.getfield 28, 3) := by decide +kernel
theorem dX9_drawn_75 : decode cX9_drawn 75 = .ok (.bipush 25, 2) := by decide +kernel
theorem dX9_drawn_77 : decode cX9_drawn 77 = .ok (.iload_n 1, 1) := by decide +kernel
theorem dX9_drawn_78 : decode cX9_drawn 78 = .ok (.imul, 1) := by decide +kernel
theorem dX9_drawn_79 : decode cX9_drawn 79 = .ok (.iload 7, 2) := by decide +kernel
theorem dX9_drawn_81 : decode cX9_drawn 81 = .ok (.iadd, 1) := by decide +kernel
theorem dX9_drawn_82 : decode cX9_drawn 82 = .ok (.laload, 1) := by decide +kernel
theorem dX9_drawn_83 : decode cX9_drawn 83 = .ok (.ladd, 1) := by decide +kernel
theorem dX9_drawn_84 : decode cX9_drawn 84 = .ok (.invokestatic 162, 3) := by decide +kernel
theorem dX9_drawn_87 : decode cX9_drawn 87 = .ok (.lstore 5, 2) := by decide +kernel
theorem dX9_drawn_89 : decode cX9_drawn 89 = .ok (.iinc 7 1, 3) := by decide +kernel
theorem dX9_drawn_92 : decode cX9_drawn 92 = .ok (.goto (-30), 3) := by decide +kernel
theorem dX9_drawn_95 : decode cX9_drawn 95 = .ok (.lload 5, 2) := by decide +kernel
theorem dX9_drawn_97 : decode cX9_drawn 97 = .ok (.lconst 0, 1) := by decide +kernel
theorem dX9_drawn_98 : decode cX9_drawn 98 = .ok (.lcmp, 1) := by decide +kernel
theorem dX9_drawn_99 : decode cX9_drawn 99 = .ok (.ifCond .ne 6, 3) := by decide +kernel
theorem dX9_drawn_102 : decode cX9_drawn 102 = .ok (.ldc 137, 2) := by decide +kernel
theorem dX9_drawn_104 : decode cX9_drawn 104 = .ok (.ireturn, 1) := by decide +kernel
theorem dX9_drawn_105 : decode cX9_drawn 105 = .ok (.aload_n 0, 1) := by decide +kernel
theorem dX9_drawn_106 : decode cX9_drawn 106 = .ok (.lload 5, 2) := by decide +kernel
theorem dX9_drawn_108 : decode cX9_drawn 108 = .ok (.invokevirtual 182, 3) := by decide +kernel
theorem dX9_drawn_111 : decode cX9_drawn 111 = .ok (.istore 7, 2) := by decide +kernel
theorem dX9_drawn_113 : decode cX9_drawn 113 = .ok (.iload_n 3, 1) := by decide +kernel
theorem dX9_drawn_114 : decode cX9_drawn 114 = .ok (.i2l, 1) := by decide +kernel
theorem dX9_drawn_115 : decode cX9_drawn 115 = .ok (.lstore 8, 2) := by decide +kernel
theorem dX9_drawn_117 : decode cX9_drawn 117 = .ok (.iconst 0, 1) := by decide +kernel
theorem dX9_drawn_118 : decode cX9_drawn 118 = .ok (.istore 10, 2) := by decide +kernel
theorem dX9_drawn_120 : decode cX9_drawn 120 = .ok (.iconst 0, 1) := by decide +kernel
theorem dX9_drawn_121 : decode cX9_drawn 121 = .ok (.istore 11, 2) := by decide +kernel
theorem dX9_drawn_123 : decode cX9_drawn 123 = .ok (.iload 11, 2) := by decide +kernel
theorem dX9_drawn_125 : decode cX9_drawn 125 = .ok (.iload_n 2, 1) := by decide +kernel
theorem dX9_drawn_126 : decode cX9_drawn 126 = .ok (.if_icmp .ge 65, 3) := by decide +kernel
theorem dX9_drawn_129 : decode cX9_drawn 129 = .ok (.lload 8, 2) := by decide +kernel
theorem dX9_drawn_131 : decode cX9_drawn 131 = .ok (.ldc2_w 234, 3) := by decide +kernel
theorem dX9_drawn_134 : decode cX9_drawn 134 = .ok (.lmul, 1) := by decide +kernel
theorem dX9_drawn_135 : decode cX9_drawn 135 = .ok (.ldc2_w 236, 3) := by decide +kernel
theorem dX9_drawn_138 : decode cX9_drawn 138 = .ok (.lrem, 1) := by decide +kernel
theorem dX9_drawn_139 : decode cX9_drawn 139 = .ok (.lstore 8, 2) := by decide +kernel
theorem dX9_drawn_141 : decode cX9_drawn 141 = .ok (.aload_n 0, 1) := by decide +kernel
theorem dX9_drawn_142 : decode cX9_drawn 142 = .ok (.iload_n 1, 1) := by decide +kernel
theorem dX9_drawn_143 : decode cX9_drawn 143 = .ok (.lload 8, 2) := by decide +kernel
theorem dX9_drawn_145 : decode cX9_drawn 145 = .ok (.iload 7, 2) := by decide +kernel
theorem dX9_drawn_147 : decode cX9_drawn 147 = .ok (.i2l, 1) := by decide +kernel
theorem dX9_drawn_148 : decode cX9_drawn 148 = .ok (.lrem, 1) := by decide +kernel
theorem dX9_drawn_149 : decode cX9_drawn 149 = .ok (.l2i, 1) := by decide +kernel
theorem dX9_drawn_150 : decode cX9_drawn 150 = .ok (.invokevirtual 212, 3) := by decide +kernel
theorem dX9_drawn_153 : decode cX9_drawn 153 = .ok (.istore 12, 2) := by decide +kernel
theorem dX9_drawn_155 : decode cX9_drawn 155 = .ok (.iload 10, 2) := by decide +kernel
theorem dX9_drawn_157 : decode cX9_drawn 157 = .ok (.iload 12, 2) := by decide +kernel
theorem dX9_drawn_159 : decode cX9_drawn 159 = .ok (.ifCond .ne 7, 3) := by decide +kernel
theorem dX9_drawn_162 : decode cX9_drawn 162 = .ok (.iconst 0, 1) := by decide +kernel
theorem dX9_drawn_163 : decode cX9_drawn 163 = .ok (.goto 19, 3) := by decide +kernel
theorem dX9_drawn_166 : decode cX9_drawn 166 = .ok (.iload 4, 2) := by decide +kernel
theorem dX9_drawn_168 : decode cX9_drawn 168 = .ok (.ifCond .ne 10, 3) := by decide +kernel
theorem dX9_drawn_171 : decode cX9_drawn 171 = .ok (.aload_n 0, 1) := by decide +kernel
theorem dX9_drawn_172 : decode cX9_drawn 172 = .ok (.getfield 201, 3) := by decide +kernel
theorem dX9_drawn_175 : decode cX9_drawn 175 = .ok (.goto 7, 3) := by decide +kernel
theorem dX9_drawn_178 : decode cX9_drawn 178 = .ok (.aload_n 0, 1) := by decide +kernel
theorem dX9_drawn_179 : decode cX9_drawn 179 = .ok (.getfield 198, 3) := by decide +kernel
theorem dX9_drawn_182 : decode cX9_drawn 182 = .ok (.iadd, 1) := by decide +kernel
theorem dX9_drawn_183 : decode cX9_drawn 183 = .ok (.istore 10, 2) := by decide +kernel
theorem dX9_drawn_185 : decode cX9_drawn 185 = .ok (.iinc 11 1, 3) := by decide +kernel
theorem dX9_drawn_188 : decode cX9_drawn 188 = .ok (.goto (-65), 3) := by decide +kernel
theorem dX9_drawn_191 : decode cX9_drawn 191 = .ok (.iload 10, 2) := by decide +kernel
theorem dX9_drawn_193 : decode cX9_drawn 193 = .ok (.ireturn, 1) := by decide +kernel
theorem dX9_image_0 : decode cX9_image 0 = .ok (.iload_n 1, 1) := by decide +kernel
theorem dX9_image_1 : decode cX9_image 1 = .ok (.i2l, 1) := by decide +kernel
theorem dX9_image_2 : decode cX9_image 2 = .ok (.lconst 0, 1) := by decide +kernel
theorem dX9_image_3 : decode cX9_image 3 = .ok (.lconst 1, 1) := by decide +kernel
theorem dX9_image_4 : decode cX9_image 4 = .ok (.invokestatic 48, 3) := by decide +kernel
theorem dX9_image_7 : decode cX9_image 7 = .ok (.ifCond .ne 6, 3) := by decide +kernel
theorem dX9_image_10 : decode cX9_image 10 = .ok (.ldc 65, 2) := by decide +kernel
theorem dX9_image_12 : decode cX9_image 12 = .ok (.ireturn, 1) := by decide +kernel
theorem dX9_image_13 : decode cX9_image 13 = .ok (.aload_n 0, 1) := by decide +kernel
theorem dX9_image_14 : decode cX9_image 14 = .ok (.invokevirtual 215, 3) := by decide +kernel
theorem dX9_image_17 : decode cX9_image 17 = .ok (.ifCond .ne 6, 3) := by decide +kernel
theorem dX9_image_20 : decode cX9_image 20 = .ok (.ldc 137, 2) := by decide +kernel
theorem dX9_image_22 : decode cX9_image 22 = .ok (.ireturn, 1) := by decide +kernel
theorem dX9_image_23 : decode cX9_image 23 = .ok (.aload_n 0, 1) := by decide +kernel
theorem dX9_image_24 : decode cX9_image 24 = .ok (.iconst 0, 1) := by decide +kernel
theorem dX9_image_25 : decode cX9_image 25 = .ok (.sipush 166, 3) := by decide +kernel
theorem dX9_image_28 : decode cX9_image 28 = .ok (.bipush 83, 2) := by decide +kernel
theorem dX9_image_30 : decode cX9_image 30 = .ok (.iload_n 1, 1) := by decide +kernel
theorem dX9_image_31 : decode cX9_image 31 = .ok (.imul, 1) := by decide +kernel
theorem dX9_image_32 : decode cX9_image 32 = .ok (.iadd, 1) := by decide +kernel
theorem dX9_image_33 : decode cX9_image 33 = .ok (.invokevirtual 127, 3) := by decide +kernel
theorem dX9_image_36 : decode cX9_image 36 = .ok (.aload_n 0, 1) := by decide +kernel
theorem dX9_image_37 : decode cX9_image 37 = .ok (.getfield 41, 3) := by decide +kernel
theorem dX9_image_40 : decode cX9_image 40 = .ok (.iload_n 1, 1) := by decide +kernel
theorem dX9_image_41 : decode cX9_image 41 = .ok (.iconst 1, 1) := by decide +kernel
theorem dX9_image_42 : decode cX9_image 42 = .ok (.bastore, 1) := by decide +kernel
theorem dX9_image_43 : decode cX9_image 43 = .ok (.iconst 1, 1) := by decide +kernel
theorem dX9_image_44 : decode cX9_image 44 = .ok (.ireturn, 1) := by decide +kernel
theorem dX9_restore_0 : decode cX9_restore 0 = .ok (.iload_n 1, 1) := by decide +kernel
theorem dX9_restore_1 : decode cX9_restore 1 = .ok (.i2l, 1) := by decide +kernel
theorem dX9_restore_2 : decode cX9_restore 2 = .ok (.lconst 0, 1) := by decide +kernel
theorem dX9_restore_3 : decode cX9_restore 3 = .ok (.lconst 1, 1) := by decide +kernel
theorem dX9_restore_4 : decode cX9_restore 4 = .ok (.invokestatic 48, 3) := by decide +kernel
theorem dX9_restore_7 : decode cX9_restore 7 = .ok (.ifCond .ne 6, 3) := by decide +kernel
theorem dX9_restore_10 : decode cX9_restore 10 = .ok (.ldc 65, 2) := by decide +kernel
theorem dX9_restore_12 : decode cX9_restore 12 = .ok (.ireturn, 1) := by decide +kernel
theorem dX9_restore_13 : decode cX9_restore 13 = .ok (.aload_n 0, 1) := by decide +kernel
theorem dX9_restore_14 : decode cX9_restore 14 = .ok (.getfield 41, 3) := by decide +kernel
theorem dX9_restore_17 : decode cX9_restore 17 = .ok (.iload_n 1, 1) := by decide +kernel
theorem dX9_restore_18 : decode cX9_restore 18 = .ok (.baload, 1) := by decide +kernel
theorem dX9_restore_19 : decode cX9_restore 19 = .ok (.ifCond .ne 6, 3) := by decide +kernel
theorem dX9_restore_22 : decode cX9_restore 22 = .ok (.ldc 137, 2) := by decide +kernel
theorem dX9_restore_24 : decode cX9_restore 24 = .ok (.ireturn, 1) := by decide +kernel
theorem dX9_restore_25 : decode cX9_restore 25 = .ok (.aload_n 0, 1) := by decide +kernel
theorem dX9_restore_26 : decode cX9_restore 26 = .ok (.sipush 166, 3) := by decide +kernel
theorem dX9_restore_29 : decode cX9_restore 29 = .ok (.bipush 83, 2) := by decide +kernel
theorem dX9_restore_31 : decode cX9_restore 31 = .ok (.iload_n 1, 1) := by decide +kernel
theorem dX9_restore_32 : decode cX9_restore 32 = .ok (.imul, 1) := by decide +kernel
theorem dX9_restore_33 : decode cX9_restore 33 = .ok (.iadd, 1) := by decide +kernel
theorem dX9_restore_34 : decode cX9_restore 34 = .ok (.iconst 0, 1) := by decide +kernel
theorem dX9_restore_35 : decode cX9_restore 35 = .ok (.invokevirtual 127, 3) := by decide +kernel
theorem dX9_restore_38 : decode cX9_restore 38 = .ok (.aload_n 0, 1) := by decide +kernel
theorem dX9_restore_39 : decode cX9_restore 39 = .ok (.iconst 0, 1) := by decide +kernel
theorem dX9_restore_40 : decode cX9_restore 40 = .ok (.putfield 131, 3) := by decide +kernel
theorem dX9_restore_43 : decode cX9_restore 43 = .ok (.iconst 1, 1) := by decide +kernel
theorem dX9_restore_44 : decode cX9_restore 44 = .ok (.ireturn, 1) := by decide +kernel
theorem dX9_kind_0 : decode cX9_kind 0 = .ok (.aload_n 0, 1) := by decide +kernel
theorem dX9_kind_1 : decode cX9_kind 1 = .ok (.iload_n 1, 1) := by decide +kernel
theorem dX9_kind_2 : decode cX9_kind 2 = .ok (.invokevirtual 134, 3) := by decide +kernel
theorem dX9_kind_5 : decode cX9_kind 5 = .ok (.ifCond .eq 15, 3) := by decide +kernel
theorem dX9_kind_8 : decode cX9_kind 8 = .ok (.aload_n 0, 1) := by decide +kernel
theorem dX9_kind_9 : decode cX9_kind 9 = .ok (.getfield 7, 3) := by decide +kernel
theorem dX9_kind_12 : decode cX9_kind 12 = .ok (.bipush 11, 2) := by decide +kernel
theorem dX9_kind_14 : decode cX9_kind 14 = .ok (.iload_n 1, 1) := by decide +kernel
theorem dX9_kind_15 : decode cX9_kind 15 = .ok (.iadd, 1) := by decide +kernel
theorem dX9_kind_16 : decode cX9_kind 16 = .ok (.iaload, 1) := by decide +kernel
theorem dX9_kind_17 : decode cX9_kind 17 = .ok (.goto 5, 3) := by decide +kernel
end
section
theorem dX9_kind_20 : decode cX9_kind 20 = .ok (.ldc 65, 2) := by decide +kernel
theorem dX9_kind_22 : decode cX9_kind 22 = .ok (.ireturn, 1) := by decide +kernel
theorem dX9_isA_0 : decode cX9_isA 0 = .ok (.iload_n 1, 1) := by decide +kernel
theorem dX9_isA_1 : decode cX9_isA 1 = .ok (.ifCond .eq 33, 3) := by decide +kernel
theorem dX9_isA_4 : decode cX9_isA 4 = .ok (.iload_n 1, 1) := by decide +kernel
theorem dX9_isA_5 : decode cX9_isA 5 = .ok (.iload_n 0, 1) := by decide +kernel
theorem dX9_isA_6 : decode cX9_isA 6 = .ok (.if_icmp .eq 28, 3) := by decide +kernel
theorem dX9_isA_9 : decode cX9_isA 9 = .ok (.iload_n 1, 1) := by decide +kernel
theorem dX9_isA_10 : decode cX9_isA 10 = .ok (.iconst 1, 1) := by decide +kernel
theorem dX9_isA_11 : decode cX9_isA 11 = .ok (.if_icmp .ne 13, 3) := by decide +kernel
theorem dX9_isA_14 : decode cX9_isA 14 = .ok (.iload_n 0, 1) := by decide +kernel
theorem dX9_isA_15 : decode cX9_isA 15 = .ok (.iconst 2, 1) := by decide +kernel
theorem dX9_isA_16 : decode cX9_isA 16 = .ok (.if_icmp .eq 18, 3) := by decide +kernel
theorem dX9_isA_19 : decode cX9_isA 19 = .ok (.iload_n 0, 1) := by decide +kernel
theorem dX9_isA_20 : decode cX9_isA 20 = .ok (.iconst 3, 1) := by decide +kernel
theorem dX9_isA_21 : decode cX9_isA 21 = .ok (.if_icmp .eq 13, 3) := by decide +kernel
theorem dX9_isA_24 : decode cX9_isA 24 = .ok (.iload_n 1, 1) := by decide +kernel
theorem dX9_isA_25 : decode cX9_isA 25 = .ok (.iconst 4, 1) := by decide +kernel
theorem dX9_isA_26 : decode cX9_isA 26 = .ok (.if_icmp .ne 12, 3) := by decide +kernel
theorem dX9_isA_29 : decode cX9_isA 29 = .ok (.iload_n 0, 1) := by decide +kernel
theorem dX9_isA_30 : decode cX9_isA 30 = .ok (.iconst 5, 1) := by decide +kernel
theorem dX9_isA_31 : decode cX9_isA 31 = .ok (.if_icmp .ne 7, 3) := by decide +kernel
theorem dX9_isA_34 : decode cX9_isA 34 = .ok (.iconst 1, 1) := by decide +kernel
theorem dX9_isA_35 : decode cX9_isA 35 = .ok (.goto 4, 3) := by decide +kernel
theorem dX9_isA_38 : decode cX9_isA 38 = .ok (.iconst 0, 1) := by decide +kernel
theorem dX9_isA_39 : decode cX9_isA 39 = .ok (.ireturn, 1) := by decide +kernel
theorem dX9_as_0 : decode cX9_as 0 = .ok (.aload_n 0, 1) := by decide +kernel
theorem dX9_as_1 : decode cX9_as 1 = .ok (.iload_n 1, 1) := by decide +kernel
theorem dX9_as_2 : decode cX9_as 2 = .ok (.invokevirtual 134, 3) := by decide +kernel
theorem dX9_as_5 : decode cX9_as 5 = .ok (.ifCond .eq 15, 3) := by decide +kernel
theorem dX9_as_8 : decode cX9_as 8 = .ok (.iload_n 2, 1) := by decide +kernel
theorem dX9_as_9 : decode cX9_as 9 = .ok (.i2l, 1) := by decide +kernel
theorem dX9_as_10 : decode cX9_as 10 = .ok (.lconst 0, 1) := by decide +kernel
theorem dX9_as_11 : decode cX9_as 11 = .ok (.ldc2_w 238, 3) := by decide +kernel
theorem dX9_as_14 : decode cX9_as 14 = .ok (.invokestatic 48, 3) := by decide +kernel
theorem dX9_as_17 : decode cX9_as 17 = .ok (.ifCond .ne 6, 3) := by decide +kernel
theorem dX9_as_20 : decode cX9_as 20 = .ok (.ldc 65, 2) := by decide +kernel
theorem dX9_as_22 : decode cX9_as 22 = .ok (.ireturn, 1) := by decide +kernel
theorem dX9_as_23 : decode cX9_as 23 = .ok (.aload_n 0, 1) := by decide +kernel
theorem dX9_as_24 : decode cX9_as 24 = .ok (.getfield 7, 3) := by decide +kernel
theorem dX9_as_27 : decode cX9_as 27 = .ok (.bipush 11, 2) := by decide +kernel
theorem dX9_as_29 : decode cX9_as 29 = .ok (.iload_n 1, 1) := by decide +kernel
theorem dX9_as_30 : decode cX9_as 30 = .ok (.iadd, 1) := by decide +kernel
theorem dX9_as_31 : decode cX9_as 31 = .ok (.iaload, 1) := by decide +kernel
theorem dX9_as_32 : decode cX9_as 32 = .ok (.iload_n 2, 1) := by decide +kernel
theorem dX9_as_33 : decode cX9_as 33 = .ok (.invokestatic 240, 3) := by decide +kernel
theorem dX9_as_36 : decode cX9_as 36 = .ok (.ifCond .ne 9, 3) := by decide +kernel
theorem dX9_as_39 : decode cX9_as 39 = .ok (.aload_n 0, 1) := by decide +kernel
theorem dX9_as_40 : decode cX9_as 40 = .ok (.iconst 3, 1) := by decide +kernel
theorem dX9_as_41 : decode cX9_as 41 = .ok (.invokevirtual 66, 3) := by decide +kernel
theorem dX9_as_44 : decode cX9_as 44 = .ok (.ireturn, 1) := by decide +kernel
theorem dX9_as_45 : decode cX9_as 45 = .ok (.aload_n 0, 1) := by decide +kernel
theorem dX9_as_46 : decode cX9_as 46 = .ok (.iconst 0, 1) := by decide +kernel
theorem dX9_as_47 : decode cX9_as 47 = .ok (.putfield 54, 3) := by decide +kernel
theorem dX9_as_50 : decode cX9_as 50 = .ok (.iload_n 1, 1) := by decide +kernel
theorem dX9_as_51 : decode cX9_as 51 = .ok (.ireturn, 1) := by decide +kernel
theorem dX9_traces_0 : decode cX9_traces 0 = .ok (.aload_n 0, 1) := by decide +kernel
theorem dX9_traces_1 : decode cX9_traces 1 = .ok (.getfield 243, 3) := by decide +kernel
theorem dX9_traces_4 : decode cX9_traces 4 = .ok (.bipush 16, 2) := by decide +kernel
theorem dX9_traces_6 : decode cX9_traces 6 = .ok (.if_icmp .ge 23, 3) := by decide +kernel
theorem dX9_traces_9 : decode cX9_traces 9 = .ok (.aload_n 0, 1) := by decide +kernel
theorem dX9_traces_10 : decode cX9_traces 10 = .ok (.getfield 45, 3) := by decide +kernel
theorem dX9_traces_13 : decode cX9_traces 13 = .ok (.aload_n 0, 1) := by decide +kernel
theorem dX9_traces_14 : decode cX9_traces 14 = .ok (.getfield 243, 3) := by decide +kernel
theorem dX9_traces_17 : decode cX9_traces 17 = .ok (.iload_n 1, 1) := by decide +kernel
theorem dX9_traces_18 : decode cX9_traces 18 = .ok (.iastore, 1) := by decide +kernel
theorem dX9_traces_19 : decode cX9_traces 19 = .ok (.aload_n 0, 1) := by decide +kernel
theorem dX9_traces_20 : decode cX9_traces 20 = .ok (.dup, 1) := by decide +kernel
theorem dX9_traces_21 : decode cX9_traces 21 = .ok (.getfield 243, 3) := by decide +kernel
theorem dX9_traces_24 : decode cX9_traces 24 = .ok (.iconst 1, 1) := by decide +kernel
theorem dX9_traces_25 : decode cX9_traces 25 = .ok (.iadd, 1) := by decide +kernel
theorem dX9_traces_26 : decode cX9_traces 26 = .ok (.putfield 243, 3) := by decide +kernel
theorem dX9_traces_29 : decode cX9_traces 29 = .ok (.return_, 1) := by decide +kernel
theorem dX9_size10_0 : decode cX9_size10 0 = .ok (.aload_n 0, 1) := by decide +kernel
theorem dX9_size10_1 : decode cX9_size10 1 = .ok (.bipush 10, 2) := by decide +kernel
theorem dX9_size10_3 : decode cX9_size10 3 = .ok (.invokevirtual 246, 3) := by decide +kernel
theorem dX9_size10_6 : decode cX9_size10 6 = .ok (.aload_n 0, 1) := by decide +kernel
theorem dX9_size10_7 : decode cX9_size10 7 = .ok (.getfield 7, 3) := by decide +kernel
theorem dX9_size10_10 : decode cX9_size10 10 = .ok (.bipush 35, 2) := by decide +kernel
theorem dX9_size10_12 : decode cX9_size10 12 = .ok (.iload_n 1, 1) := by decide +kernel
theorem dX9_size10_13 : decode cX9_size10 13 = .ok (.iadd, 1) := by decide +kernel
theorem dX9_size10_14 : decode cX9_size10 14 = .ok (.iaload, 1) := by decide +kernel
theorem dX9_size10_15 : decode cX9_size10 15 = .ok (.ireturn, 1) := by decide +kernel
theorem dX9_size11_0 : decode cX9_size11 0 = .ok (.aload_n 0, 1) := by decide +kernel
theorem dX9_size11_1 : decode cX9_size11 1 = .ok (.bipush 11, 2) := by decide +kernel
theorem dX9_size11_3 : decode cX9_size11 3 = .ok (.invokevirtual 246, 3) := by decide +kernel
theorem dX9_size11_6 : decode cX9_size11 6 = .ok (.aload_n 0, 1) := by decide +kernel
theorem dX9_size11_7 : decode cX9_size11 7 = .ok (.iload_n 1, 1) := by decide +kernel
theorem dX9_size11_8 : decode cX9_size11 8 = .ok (.invokevirtual 249, 3) := by decide +kernel
theorem dX9_size11_11 : decode cX9_size11 11 = .ok (.istore_n 2, 1) := by decide +kernel
theorem dX9_size11_12 : decode cX9_size11 12 = .ok (.iload_n 2, 1) := by decide +kernel
theorem dX9_size11_13 : decode cX9_size11 13 = .ok (.aload_n 0, 1) := by decide +kernel
theorem dX9_size11_14 : decode cX9_size11 14 = .ok (.iload_n 1, 1) := by decide +kernel
theorem dX9_size11_15 : decode cX9_size11 15 = .ok (.invokevirtual 252, 3) := by decide +kernel
theorem dX9_size11_18 : decode cX9_size11 18 = .ok (.iadd, 1) := by decide +kernel
theorem dX9_size11_19 : decode cX9_size11 19 = .ok (.ireturn, 1) := by decide +kernel
theorem dX9_size13_0 : decode cX9_size13 0 = .ok (.aload_n 0, 1) := by decide +kernel
theorem dX9_size13_1 : decode cX9_size13 1 = .ok (.bipush 13, 2) := by decide +kernel
theorem dX9_size13_3 : decode cX9_size13 3 = .ok (.invokevirtual 246, 3) := by decide +kernel
theorem dX9_size13_6 : decode cX9_size13 6 = .ok (.aload_n 0, 1) := by decide +kernel
theorem dX9_size13_7 : decode cX9_size13 7 = .ok (.iload_n 1, 1) := by decide +kernel
theorem dX9_size13_8 : decode cX9_size13 8 = .ok (.invokevirtual 249, 3) := by decide +kernel
theorem dX9_size13_11 : decode cX9_size13 11 = .ok (.bipush 100, 2) := by decide +kernel
theorem dX9_size13_13 : decode cX9_size13 13 = .ok (.isub, 1) := by decide +kernel
theorem dX9_size13_14 : decode cX9_size13 14 = .ok (.ireturn, 1) := by decide +kernel
theorem dX9_sizeOf_0 : decode cX9_sizeOf 0 = .ok (.aload_n 0, 1) := by decide +kernel
theorem dX9_sizeOf_1 : decode cX9_sizeOf 1 = .ok (.getfield 7, 3) := by decide +kernel
theorem dX9_sizeOf_4 : decode cX9_sizeOf 4 = .ok (.bipush 11, 2) := by decide +kernel
theorem dX9_sizeOf_6 : decode cX9_sizeOf 6 = .ok (.iload_n 1, 1) := by decide +kernel
theorem dX9_sizeOf_7 : decode cX9_sizeOf 7 = .ok (.iadd, 1) := by decide +kernel
theorem dX9_sizeOf_8 : decode cX9_sizeOf 8 = .ok (.iaload, 1) := by decide +kernel
theorem dX9_sizeOf_9 : decode cX9_sizeOf 9 = .ok (.tableswitch 64 2 5 #[31, 64, 44, 50], 31) := by decide +kernel
theorem dX9_sizeOf_40 : decode cX9_sizeOf 40 = .ok (.aload_n 0, 1) := by decide +kernel
theorem dX9_sizeOf_41 : decode cX9_sizeOf 41 = .ok (.bipush 12, 2) := by decide +kernel
theorem dX9_sizeOf_43 : decode cX9_sizeOf 43 = .ok (.invokevirtual 246, 3) := by decide +kernel
theorem dX9_sizeOf_46 : decode cX9_sizeOf 46 = .ok (.aload_n 0, 1) := by decide +kernel
theorem dX9_sizeOf_47 : decode cX9_sizeOf 47 = .ok (.iload_n 1, 1) := by decide +kernel
theorem dX9_sizeOf_48 : decode cX9_sizeOf 48 = .ok (.invokevirtual 255, 3) := by decide +kernel
theorem dX9_sizeOf_51 : decode cX9_sizeOf 51 = .ok (.ineg, 1) := by decide +kernel
theorem dX9_sizeOf_52 : decode cX9_sizeOf 52 = .ok (.ireturn, 1) := by decide +kernel
theorem dX9_sizeOf_53 : decode cX9_sizeOf 53 = .ok (.aload_n 0, 1) := by decide +kernel
theorem dX9_sizeOf_54 : decode cX9_sizeOf 54 = .ok (.iload_n 1, 1) := by decide +kernel
theorem dX9_sizeOf_55 : decode cX9_sizeOf 55 = .ok (.invokevirtual 258, 3) := by decide +kernel
theorem dX9_sizeOf_58 : decode cX9_sizeOf 58 = .ok (.ireturn, 1) := by decide +kernel
theorem dX9_sizeOf_59 : decode cX9_sizeOf 59 = .ok (.aload_n 0, 1) := by decide +kernel
theorem dX9_sizeOf_60 : decode cX9_sizeOf 60 = .ok (.bipush 14, 2) := by decide +kernel
theorem dX9_sizeOf_62 : decode cX9_sizeOf 62 = .ok (.invokevirtual 246, 3) := by decide +kernel
theorem dX9_sizeOf_65 : decode cX9_sizeOf 65 = .ok (.iconst 2, 1) := by decide +kernel
theorem dX9_sizeOf_66 : decode cX9_sizeOf 66 = .ok (.aload_n 0, 1) := by decide +kernel
theorem dX9_sizeOf_67 : decode cX9_sizeOf 67 = .ok (.iload_n 1, 1) := by decide +kernel
theorem dX9_sizeOf_68 : decode cX9_sizeOf 68 = .ok (.invokevirtual 258, 3) := by decide +kernel
theorem dX9_sizeOf_71 : decode cX9_sizeOf 71 = .ok (.imul, 1) := by decide +kernel
theorem dX9_sizeOf_72 : decode cX9_sizeOf 72 = .ok (.ireturn, 1) := by decide +kernel
theorem dX9_sizeOf_73 : decode cX9_sizeOf 73 = .ok (.aload_n 0, 1) := by decide +kernel
theorem dX9_sizeOf_74 : decode cX9_sizeOf 74 = .ok (.iload_n 1, 1) := by decide +kernel
theorem dX9_sizeOf_75 : decode cX9_sizeOf 75 = .ok (.invokevirtual 255, 3) := by decide +kernel
theorem dX9_sizeOf_78 : decode cX9_sizeOf 78 = .ok (.ireturn, 1) := by decide +kernel
theorem dX9_mark20_0 : decode cX9_mark20 0 = .ok (.aload_n 0, 1) := by decide +kernel
theorem dX9_mark20_1 : decode cX9_mark20 1 = .ok (.bipush 20, 2) := by decide +kernel
theorem dX9_mark20_3 : decode cX9_mark20 3 = .ok (.invokevirtual 246, 3) := by decide +kernel
theorem dX9_mark20_6 : decode cX9_mark20 6 = .ok (.iload_n 1, 1) := by decide +kernel
theorem dX9_mark20_7 : decode cX9_mark20 7 = .ok (.ireturn, 1) := by decide +kernel
theorem dX9_mark21_0 : decode cX9_mark21 0 = .ok (.aload_n 0, 1) := by decide +kernel
theorem dX9_mark21_1 : decode cX9_mark21 1 = .ok (.bipush 21, 2) := by decide +kernel
theorem dX9_mark21_3 : decode cX9_mark21 3 = .ok (.invokevirtual 246, 3) := by decide +kernel
theorem dX9_mark21_6 : decode cX9_mark21 6 = .ok (.aload_n 0, 1) := by decide +kernel
theorem dX9_mark21_7 : decode cX9_mark21 7 = .ok (.iload_n 1, 1) := by decide +kernel
theorem dX9_mark21_8 : decode cX9_mark21 8 = .ok (.invokevirtual 261, 3) := by decide +kernel
theorem dX9_mark21_11 : decode cX9_mark21 11 = .ok (.aload_n 0, 1) := by decide +kernel
theorem dX9_mark21_12 : decode cX9_mark21 12 = .ok (.getfield 7, 3) := by decide +kernel
theorem dX9_mark21_15 : decode cX9_mark21 15 = .ok (.bipush 23, 2) := by decide +kernel
theorem dX9_mark21_17 : decode cX9_mark21 17 = .ok (.iload_n 1, 1) := by decide +kernel
theorem dX9_mark21_18 : decode cX9_mark21 18 = .ok (.iadd, 1) := by decide +kernel
theorem dX9_mark21_19 : decode cX9_mark21 19 = .ok (.iaload, 1) := by decide +kernel
theorem dX9_mark21_20 : decode cX9_mark21 20 = .ok (.iadd, 1) := by decide +kernel
theorem dX9_mark21_21 : decode cX9_mark21 21 = .ok (.ireturn, 1) := by decide +kernel
theorem dX9_markOf_0 : decode cX9_markOf 0 = .ok (.aload_n 0, 1) := by decide +kernel
theorem dX9_markOf_1 : decode cX9_markOf 1 = .ok (.getfield 7, 3) := by decide +kernel
theorem dX9_markOf_4 : decode cX9_markOf 4 = .ok (.bipush 11, 2) := by decide +kernel
theorem dX9_markOf_6 : decode cX9_markOf 6 = .ok (.iload_n 1, 1) := by decide +kernel
theorem dX9_markOf_7 : decode cX9_markOf 7 = .ok (.iadd, 1) := by decide +kernel
theorem dX9_markOf_8 : decode cX9_markOf 8 = .ok (.iaload, 1) := by decide +kernel
theorem dX9_markOf_9 : decode cX9_markOf 9 = .ok (.lookupswitch 57 #[(2, 27), (3, 41)], 27) := by decide +kernel
theorem dX9_markOf_36 : decode cX9_markOf 36 = .ok (.aload_n 0, 1) := by decide +kernel
theorem dX9_markOf_37 : decode cX9_markOf 37 = .ok (.bipush 24, 2) := by decide +kernel
theorem dX9_markOf_39 : decode cX9_markOf 39 = .ok (.invokevirtual 246, 3) := by decide +kernel
theorem dX9_markOf_42 : decode cX9_markOf 42 = .ok (.iconst 2, 1) := by decide +kernel
theorem dX9_markOf_43 : decode cX9_markOf 43 = .ok (.aload_n 0, 1) := by decide +kernel
theorem dX9_markOf_44 : decode cX9_markOf 44 = .ok (.iload_n 1, 1) := by decide +kernel
theorem dX9_markOf_45 : decode cX9_markOf 45 = .ok (.invokevirtual 264, 3) := by decide +kernel
theorem dX9_markOf_48 : decode cX9_markOf 48 = .ok (.imul, 1) := by decide +kernel
theorem dX9_markOf_49 : decode cX9_markOf 49 = .ok (.ireturn, 1) := by decide +kernel
theorem dX9_markOf_50 : decode cX9_markOf 50 = .ok (.aload_n 0, 1) := by decide +kernel
theorem dX9_markOf_51 : decode cX9_markOf 51 = .ok (.bipush 22, 2) := by decide +kernel
theorem dX9_markOf_53 : decode cX9_markOf 53 = .ok (.invokevirtual 246, 3) := by decide +kernel
theorem dX9_markOf_56 : decode cX9_markOf 56 = .ok (.aload_n 0, 1) := by decide +kernel
theorem dX9_markOf_57 : decode cX9_markOf 57 = .ok (.iload_n 1, 1) := by decide +kernel
theorem dX9_markOf_58 : decode cX9_markOf 58 = .ok (.invokevirtual 264, 3) := by decide +kernel
theorem dX9_markOf_61 : decode cX9_markOf 61 = .ok (.sipush 1000, 3) := by decide +kernel
theorem dX9_markOf_64 : decode cX9_markOf 64 = .ok (.isub, 1) := by decide +kernel
theorem dX9_markOf_65 : decode cX9_markOf 65 = .ok (.ireturn, 1) := by decide +kernel
theorem dX9_markOf_66 : decode cX9_markOf 66 = .ok (.aload_n 0, 1) := by decide +kernel
theorem dX9_markOf_67 : decode cX9_markOf 67 = .ok (.iload_n 1, 1) := by decide +kernel
theorem dX9_markOf_68 : decode cX9_markOf 68 = .ok (.invokevirtual 264, 3) := by decide +kernel
theorem dX9_markOf_71 : decode cX9_markOf 71 = .ok (.ireturn, 1) := by decide +kernel
theorem dX9_mark23_0 : decode cX9_mark23 0 = .ok (.aload_n 0, 1) := by decide +kernel
theorem dX9_mark23_1 : decode cX9_mark23 1 = .ok (.bipush 23, 2) := by decide +kernel
theorem dX9_mark23_3 : decode cX9_mark23 3 = .ok (.invokevirtual 246, 3) := by decide +kernel
theorem dX9_mark23_6 : decode cX9_mark23 6 = .ok (.aload_n 0, 1) := by decide +kernel
theorem dX9_mark23_7 : decode cX9_mark23 7 = .ok (.iload_n 1, 1) := by decide +kernel
theorem dX9_mark23_8 : decode cX9_mark23 8 = .ok (.invokevirtual 261, 3) := by decide +kernel
theorem dX9_mark23_11 : decode cX9_mark23 11 = .ok (.istore_n 2, 1) := by decide +kernel
theorem dX9_mark23_12 : decode cX9_mark23 12 = .ok (.iload_n 2, 1) := by decide +kernel
theorem dX9_mark23_13 : decode cX9_mark23 13 = .ok (.aload_n 0, 1) := by decide +kernel
theorem dX9_mark23_14 : decode cX9_mark23 14 = .ok (.iload_n 1, 1) := by decide +kernel
theorem dX9_mark23_15 : decode cX9_mark23 15 = .ok (.invokevirtual 267, 3) := by decide +kernel
theorem dX9_mark23_18 : decode cX9_mark23 18 = .ok (.isub, 1) := by decide +kernel
theorem dX9_mark23_19 : decode cX9_mark23 19 = .ok (.ireturn, 1) := by decide +kernel
theorem dX9_ask_0 : decode cX9_ask 0 = .ok (.aload_n 0, 1) := by decide +kernel
theorem dX9_ask_1 : decode cX9_ask 1 = .ok (.iload_n 1, 1) := by decide +kernel
theorem dX9_ask_2 : decode cX9_ask 2 = .ok (.invokevirtual 134, 3) := by decide +kernel
theorem dX9_ask_5 : decode cX9_ask 5 = .ok (.ifCond .eq 13, 3) := by decide +kernel
theorem dX9_ask_8 : decode cX9_ask 8 = .ok (.iload_n 2, 1) := by decide +kernel
theorem dX9_ask_9 : decode cX9_ask 9 = .ok (.i2l, 1) := by decide +kernel
theorem dX9_ask_10 : decode cX9_ask 10 = .ok (.lconst 0, 1) := by decide +kernel
theorem dX9_ask_11 : decode cX9_ask 11 = .ok (.lconst 1, 1) := by decide +kernel
theorem dX9_ask_12 : decode cX9_ask 12 = .ok (.invokestatic 48, 3) := by decide +kernel
theorem dX9_ask_15 : decode cX9_ask 15 = .ok (.ifCond .ne 6, 3) := by decide +kernel
theorem dX9_ask_18 : decode cX9_ask 18 = .ok (.ldc 65, 2) := by decide +kernel
theorem dX9_ask_20 : decode cX9_ask 20 = .ok (.ireturn, 1) := by decide +kernel
theorem dX9_ask_21 : decode cX9_ask 21 = .ok (.aload_n 0, 1) := by decide +kernel
theorem dX9_ask_22 : decode cX9_ask 22 = .ok (.iconst 0, 1) := by decide +kernel
theorem dX9_ask_23 : decode cX9_ask 23 = .ok (.putfield 243, 3) := by decide +kernel
theorem dX9_ask_26 : decode cX9_ask 26 = .ok (.iload_n 2, 1) := by decide +kernel
theorem dX9_ask_27 : decode cX9_ask 27 = .ok (.ifCond .ne 11, 3) := by decide +kernel
theorem dX9_ask_30 : decode cX9_ask 30 = .ok (.aload_n 0, 1) := by decide +kernel
theorem dX9_ask_31 : decode cX9_ask 31 = .ok (.iload_n 1, 1) := by decide +kernel
theorem dX9_ask_32 : decode cX9_ask 32 = .ok (.invokevirtual 267, 3) := by decide +kernel
theorem dX9_ask_35 : decode cX9_ask 35 = .ok (.goto 29, 3) := by decide +kernel
theorem dX9_ask_38 : decode cX9_ask 38 = .ok (.aload_n 0, 1) := by decide +kernel
theorem dX9_ask_39 : decode cX9_ask 39 = .ok (.getfield 7, 3) := by decide +kernel
theorem dX9_ask_42 : decode cX9_ask 42 = .ok (.bipush 11, 2) := by decide +kernel
theorem dX9_ask_44 : decode cX9_ask 44 = .ok (.iload_n 1, 1) := by decide +kernel
theorem dX9_ask_45 : decode cX9_ask 45 = .ok (.iadd, 1) := by decide +kernel
theorem dX9_ask_46 : decode cX9_ask 46 = .ok (.iaload, 1) := by decide +kernel
theorem dX9_ask_47 : decode cX9_ask 47 = .ok (.iconst 4, 1) := by decide +kernel
theorem dX9_ask_48 : decode cX9_ask 48 = .ok (.if_icmp .lt 11, 3) := by decide +kernel
theorem dX9_ask_51 : decode cX9_ask 51 = .ok (.aload_n 0, 1) := by decide +kernel
theorem dX9_ask_52 : decode cX9_ask 52 = .ok (.iload_n 1, 1) := by decide +kernel
theorem dX9_ask_53 : decode cX9_ask 53 = .ok (.invokevirtual 270, 3) := by decide +kernel
theorem dX9_ask_56 : decode cX9_ask 56 = .ok (.goto 8, 3) := by decide +kernel
theorem dX9_ask_59 : decode cX9_ask 59 = .ok (.aload_n 0, 1) := by decide +kernel
theorem dX9_ask_60 : decode cX9_ask 60 = .ok (.iload_n 1, 1) := by decide +kernel
theorem dX9_ask_61 : decode cX9_ask 61 = .ok (.invokevirtual 252, 3) := by decide +kernel
theorem dX9_ask_64 : decode cX9_ask 64 = .ok (.ireturn, 1) := by decide +kernel
theorem dX9_trace_0 : decode cX9_trace 0 = .ok (.iload_n 1, 1) := by decide +kernel
theorem dX9_trace_1 : decode cX9_trace 1 = .ok (.i2l, 1) := by decide +kernel
theorem dX9_trace_2 : decode cX9_trace 2 = .ok (.lconst 0, 1) := by decide +kernel
theorem dX9_trace_3 : decode cX9_trace 3 = .ok (.aload_n 0, 1) := by decide +kernel
theorem dX9_trace_4 : decode cX9_trace 4 = .ok (.getfield 243, 3) := by decide +kernel
theorem dX9_trace_7 : decode cX9_trace 7 = .ok (.iconst 1, 1) := by decide +kernel
theorem dX9_trace_8 : decode cX9_trace 8 = .ok (.isub, 1) := by decide +kernel
theorem dX9_trace_9 : decode cX9_trace 9 = .ok (.i2l, 1) := by decide +kernel
theorem dX9_trace_10 : decode cX9_trace 10 = .ok (.invokestatic 48, 3) := by decide +kernel
theorem dX9_trace_13 : decode cX9_trace 13 = .ok (.ifCond .eq 12, 3) := by decide +kernel
theorem dX9_trace_16 : decode cX9_trace 16 = .ok (.aload_n 0, 1) := by decide +kernel
theorem dX9_trace_17 : decode cX9_trace 17 = .ok (.getfield 45, 3) := by decide +kernel
theorem dX9_trace_20 : decode cX9_trace 20 = .ok (.iload_n 1, 1) := by decide +kernel
theorem dX9_trace_21 : decode cX9_trace 21 = .ok (.iaload, 1) := by decide +kernel
theorem dX9_trace_22 : decode cX9_trace 22 = .ok (.goto 5, 3) := by decide +kernel
theorem dX9_trace_25 : decode cX9_trace 25 = .ok (.ldc 149, 2) := by decide +kernel
theorem dX9_trace_27 : decode cX9_trace 27 = .ok (.ireturn, 1) := by decide +kernel
theorem dX9_rowsThere_0 : decode cX9_rowsThere 0 = .ok (.iconst 0, 1) := by decide +kernel
theorem dX9_rowsThere_1 : decode cX9_rowsThere 1 = .ok (.istore_n 1, 1) := by decide +kernel
theorem dX9_rowsThere_2 : decode cX9_rowsThere 2 = .ok (.iconst 0, 1) := by decide +kernel
theorem dX9_rowsThere_3 : decode cX9_rowsThere 3 = .ok (.istore_n 2, 1) := by decide +kernel
theorem dX9_rowsThere_4 : decode cX9_rowsThere 4 = .ok (.iload_n 2, 1) := by decide +kernel
theorem dX9_rowsThere_5 : decode cX9_rowsThere 5 = .ok (.bipush 8, 2) := by decide +kernel
theorem dX9_rowsThere_7 : decode cX9_rowsThere 7 = .ok (.if_icmp .ge 26, 3) := by decide +kernel
theorem dX9_rowsThere_10 : decode cX9_rowsThere 10 = .ok (.iload_n 1, 1) := by decide +kernel
theorem dX9_rowsThere_11 : decode cX9_rowsThere 11 = .ok (.aload_n 0, 1) := by decide +kernel
theorem dX9_rowsThere_12 : decode cX9_rowsThere 12 = .ok (.getfield 16, 3) := by decide +kernel
theorem dX9_rowsThere_15 : decode cX9_rowsThere 15 = .ok (.iload_n 2, 1) := by decide +kernel
theorem dX9_rowsThere_16 : decode cX9_rowsThere 16 = .ok (.iaload, 1) := by decide +kernel
theorem dX9_rowsThere_17 : decode cX9_rowsThere 17 = .ok (.ifCond .lt 7, 3) := by decide +kernel
theorem dX9_rowsThere_20 : decode cX9_rowsThere 20 = .ok (.iconst 1, 1) := by decide +kernel
theorem dX9_rowsThere_21 : decode cX9_rowsThere 21 = .ok (.goto 4, 3) := by decide +kernel
theorem dX9_rowsThere_24 : decode cX9_rowsThere 24 = .ok (.iconst 0, 1) := by decide +kernel
theorem dX9_rowsThere_25 : decode cX9_rowsThere 25 = .ok (.iadd, 1) := by decide +kernel
theorem dX9_rowsThere_26 : decode cX9_rowsThere 26 = .ok (.istore_n 1, 1) := by decide +kernel
theorem dX9_rowsThere_27 : decode cX9_rowsThere 27 = .ok (.iinc 2 1, 3) := by decide +kernel
theorem dX9_rowsThere_30 : decode cX9_rowsThere 30 = .ok (.goto (-26), 3) := by decide +kernel
theorem dX9_rowsThere_33 : decode cX9_rowsThere 33 = .ok (.iload_n 1, 1) := by decide +kernel
theorem dX9_rowsThere_34 : decode cX9_rowsThere 34 = .ok (.ireturn, 1) := by decide +kernel
theorem dX9_count_0 : decode cX9_count 0 = .ok (.iload_n 1, 1) := by decide +kernel
theorem dX9_count_1 : decode cX9_count 1 = .ok (.tableswitch 75 0 5 #[39, 44, 51, 58, 65, 70], 39) := by decide +kernel
theorem dX9_count_40 : decode cX9_count 40 = .ok (.aload_n 0, 1) := by decide +kernel
theorem dX9_count_41 : decode cX9_count 41 = .ok (.invokevirtual 273, 3) := by decide +kernel
theorem dX9_count_44 : decode cX9_count 44 = .ok (.ireturn, 1) := by decide +kernel
theorem dX9_count_45 : decode cX9_count 45 = .ok (.aload_n 0, 1) := by decide +kernel
theorem dX9_count_46 : decode cX9_count 46 = .ok (.getfield 7, 3) := by decide +kernel
theorem dX9_count_49 : decode cX9_count 49 = .ok (.iconst 0, 1) := by decide +kernel
theorem dX9_count_50 : decode cX9_count 50 = .ok (.iaload, 1) := by decide +kernel
theorem dX9_count_51 : decode cX9_count 51 = .ok (.ireturn, 1) := by decide +kernel
theorem dX9_count_52 : decode cX9_count 52 = .ok (.aload_n 0, 1) := by decide +kernel
theorem dX9_count_53 : decode cX9_count 53 = .ok (.getfield 7, 3) := by decide +kernel
theorem dX9_count_56 : decode cX9_count 56 = .ok (.iconst 1, 1) := by decide +kernel
theorem dX9_count_57 : decode cX9_count 57 = .ok (.iaload, 1) := by decide +kernel
theorem dX9_count_58 : decode cX9_count 58 = .ok (.ireturn, 1) := by decide +kernel
theorem dX9_count_59 : decode cX9_count 59 = .ok (.aload_n 0, 1) := by decide +kernel
theorem dX9_count_60 : decode cX9_count 60 = .ok (.getfield 7, 3) := by decide +kernel
theorem dX9_count_63 : decode cX9_count 63 = .ok (.iconst 2, 1) := by decide +kernel
theorem dX9_count_64 : decode cX9_count 64 = .ok (.iaload, 1) := by decide +kernel
theorem dX9_count_65 : decode cX9_count 65 = .ok (.ireturn, 1) := by decide +kernel
theorem dX9_count_66 : decode cX9_count 66 = .ok (.aload_n 0, 1) := by decide +kernel
theorem dX9_count_67 : decode cX9_count 67 = .ok (.getfield 131, 3) := by decide +kernel
theorem dX9_count_70 : decode cX9_count 70 = .ok (.ireturn, 1) := by decide +kernel
theorem dX9_count_71 : decode cX9_count 71 = .ok (.aload_n 0, 1) := by decide +kernel
theorem dX9_count_72 : decode cX9_count 72 = .ok (.getfield 76, 3) := by decide +kernel
theorem dX9_count_75 : decode cX9_count 75 = .ok (.ireturn, 1) := by decide +kernel
theorem dX9_count_76 : decode cX9_count 76 = .ok (.ldc 65, 2) := by decide +kernel
theorem dX9_count_78 : decode cX9_count 78 = .ok (.ireturn, 1) := by decide +kernel
theorem dX9_status_0 : decode cX9_status 0 = .ok (.aload_n 0, 1) := by decide +kernel
theorem dX9_status_1 : decode cX9_status 1 = .ok (.getfield 54, 3) := by decide +kernel
theorem dX9_status_4 : decode cX9_status 4 = .ok (.ireturn, 1) := by decide +kernel
theorem dJ9_max_7cf53_0 : decode cJ9_max_7cf53 0 = .ok (.iload_n 0, 1) := by decide +kernel
theorem dJ9_max_7cf53_1 : decode cJ9_max_7cf53 1 = .ok (.iload_n 1, 1) := by decide +kernel
theorem dJ9_max_7cf53_2 : decode cJ9_max_7cf53 2 = .ok (.if_icmp .lt 7, 3) := by decide +kernel
theorem dJ9_max_7cf53_5 : decode cJ9_max_7cf53 5 = .ok (.iload_n 0, 1) := by decide +kernel
theorem dJ9_max_7cf53_6 : decode cJ9_max_7cf53 6 = .ok (.goto 4, 3) := by decide +kernel
theorem dJ9_max_7cf53_9 : decode cJ9_max_7cf53 9 = .ok (.iload_n 1, 1) := by decide +kernel
theorem dJ9_max_7cf53_10 : decode cJ9_max_7cf53 10 = .ok (.ireturn, 1) := by decide +kernel
theorem dJ9_min_f86c9_0 : decode cJ9_min_f86c9 0 = .ok (.lload_n 0, 1) := by decide +kernel
theorem dJ9_min_f86c9_1 : decode cJ9_min_f86c9 1 = .ok (.lload_n 2, 1) := by decide +kernel
theorem dJ9_min_f86c9_2 : decode cJ9_min_f86c9 2 = .ok (.lcmp, 1) := by decide +kernel
theorem dJ9_min_f86c9_3 : decode cJ9_min_f86c9 3 = .ok (.ifCond .gt 7, 3) := by decide +kernel
theorem dJ9_min_f86c9_6 : decode cJ9_min_f86c9 6 = .ok (.lload_n 0, 1) := by decide +kernel
theorem dJ9_min_f86c9_7 : decode cJ9_min_f86c9 7 = .ok (.goto 4, 3) := by decide +kernel
theorem dJ9_min_f86c9_10 : decode cJ9_min_f86c9 10 = .ok (.lload_n 2, 1) := by decide +kernel
theorem dJ9_min_f86c9_11 : decode cJ9_min_f86c9 11 = .ok (.lreturn, 1) := by decide +kernel
theorem dJ7_fill_53178_0 : decode cJ7_fill_53178 0 = .ok (.iconst 0, 1) := by decide +kernel
theorem dJ7_fill_53178_1 : decode cJ7_fill_53178 1 = .ok (.istore_n 2, 1) := by decide +kernel
theorem dJ7_fill_53178_2 : decode cJ7_fill_53178 2 = .ok (.aload_n 0, 1) := by decide +kernel
theorem dJ7_fill_53178_3 : decode cJ7_fill_53178 3 = .ok (.arraylength, 1) := by decide +kernel
theorem dJ7_fill_53178_4 : decode cJ7_fill_53178 4 = .ok (.istore_n 3, 1) := by decide +kernel
theorem dJ7_fill_53178_5 : decode cJ7_fill_53178 5 = .ok (.iload_n 2, 1) := by decide +kernel
theorem dJ7_fill_53178_6 : decode cJ7_fill_53178 6 = .ok (.iload_n 3, 1) := by decide +kernel
theorem dJ7_fill_53178_7 : decode cJ7_fill_53178 7 = .ok (.if_icmp .ge 13, 3) := by decide +kernel
theorem dJ7_fill_53178_10 : decode cJ7_fill_53178 10 = .ok (.aload_n 0, 1) := by decide +kernel
theorem dJ7_fill_53178_11 : decode cJ7_fill_53178 11 = .ok (.iload_n 2, 1) := by decide +kernel
theorem dJ7_fill_53178_12 : decode cJ7_fill_53178 12 = .ok (.iload_n 1, 1) := by decide +kernel
theorem dJ7_fill_53178_13 : decode cJ7_fill_53178 13 = .ok (.iastore, 1) := by decide +kernel
theorem dJ7_fill_53178_14 : decode cJ7_fill_53178 14 = .ok (.iinc 2 1, 3) := by decide +kernel
theorem dJ7_fill_53178_17 : decode cJ7_fill_53178 17 = .ok (.goto (-12), 3) := by decide +kernel
theorem dJ7_fill_53178_20 : decode cJ7_fill_53178 20 = .ok (.return_, 1) := by decide +kernel
theorem dL_law_0 : decode cL_law 0 = .ok (.new 7, 3) := by decide +kernel
theorem dL_law_3 : decode cL_law 3 = .ok (.dup, 1) := by decide +kernel
theorem dL_law_4 : decode cL_law 4 = .ok (.invokespecial 9, 3) := by decide +kernel
theorem dL_law_7 : decode cL_law 7 = .ok (.astore_n 1, 1) := by decide +kernel
theorem dL_law_8 : decode cL_law 8 = .ok (.new 10, 3) := by decide +kernel
theorem dL_law_11 : decode cL_law 11 = .ok (.dup, 1) := by decide +kernel
theorem dL_law_12 : decode cL_law 12 = .ok (.invokespecial 12, 3) := by decide +kernel
theorem dL_law_15 : decode cL_law 15 = .ok (.astore_n 2, 1) := by decide +kernel
theorem dL_law_16 : decode cL_law 16 = .ok (.iconst 0, 1) := by decide +kernel
theorem dL_law_17 : decode cL_law 17 = .ok (.istore_n 3, 1) := by decide +kernel
theorem dL_law_18 : decode cL_law 18 = .ok (.iload_n 3, 1) := by decide +kernel
theorem dL_law_19 : decode cL_law 19 = .ok (.aload_n 0, 1) := by decide +kernel
theorem dL_law_20 : decode cL_law 20 = .ok (.arraylength, 1) := by decide +kernel
theorem dL_law_21 : decode cL_law 21 = .ok (.bipush 6, 2) := by decide +kernel
theorem dL_law_23 : decode cL_law 23 = .ok (.isub, 1) := by decide +kernel
theorem dL_law_24 : decode cL_law 24 = .ok (.if_icmp .gt 1097, 3) := by decide +kernel
theorem dL_law_27 : decode cL_law 27 = .ok (.aload_n 0, 1) := by decide +kernel
theorem dL_law_28 : decode cL_law 28 = .ok (.iload_n 3, 1) := by decide +kernel
theorem dL_law_29 : decode cL_law 29 = .ok (.iaload, 1) := by decide +kernel
theorem dL_law_30 : decode cL_law 30 = .ok (.bipush 31, 2) := by decide +kernel
theorem dL_law_32 : decode cL_law 32 = .ok (.iand, 1) := by decide +kernel
theorem dL_law_33 : decode cL_law 33 = .ok (.tableswitch 1082 0 30 #[139, 182, 225, 288, 311, 334, 347, 360, 393, 426, 459, 472, 505, 538, 571, 594, 637, 690, 733, 746, 769, 802, 835, 888, 911, 934, 957, 990, 1023, 1046, 1069], 139) := by decide +kernel
theorem dL_law_172 : decode cL_law 172 = .ok (.aload_n 1, 1) := by decide +kernel
theorem dL_law_173 : decode cL_law 173 = .ok (.aload_n 0, 1) := by decide +kernel
theorem dL_law_174 : decode cL_law 174 = .ok (.iload_n 3, 1) := by decide +kernel
theorem dL_law_175 : decode cL_law 175 = .ok (.iconst 1, 1) := by decide +kernel
theorem dL_law_176 : decode cL_law 176 = .ok (.iadd, 1) := by decide +kernel
theorem dL_law_177 : decode cL_law 177 = .ok (.iaload, 1) := by decide +kernel
theorem dL_law_178 : decode cL_law 178 = .ok (.aload_n 0, 1) := by decide +kernel
theorem dL_law_179 : decode cL_law 179 = .ok (.iload_n 3, 1) := by decide +kernel
theorem dL_law_180 : decode cL_law 180 = .ok (.iconst 2, 1) := by decide +kernel
theorem dL_law_181 : decode cL_law 181 = .ok (.iadd, 1) := by decide +kernel
theorem dL_law_182 : decode cL_law 182 = .ok (.iaload, 1) := by decide +kernel
theorem dL_law_183 : decode cL_law 183 = .ok (.aload_n 0, 1) := by decide +kernel
theorem dL_law_184 : decode cL_law 184 = .ok (.iload_n 3, 1) := by decide +kernel
theorem dL_law_185 : decode cL_law 185 = .ok (.iconst 3, 1) := by decide +kernel
theorem dL_law_186 : decode cL_law 186 = .ok (.iadd, 1) := by decide +kernel
theorem dL_law_187 : decode cL_law 187 = .ok (.iaload, 1) := by decide +kernel
theorem dL_law_188 : decode cL_law 188 = .ok (.invokevirtual 13, 3) := by decide +kernel
theorem dL_law_191 : decode cL_law 191 = .ok (.aload_n 2, 1) := by decide +kernel
theorem dL_law_192 : decode cL_law 192 = .ok (.aload_n 0, 1) := by decide +kernel
theorem dL_law_193 : decode cL_law 193 = .ok (.iload_n 3, 1) := by decide +kernel
theorem dL_law_194 : decode cL_law 194 = .ok (.iconst 1, 1) := by decide +kernel
theorem dL_law_195 : decode cL_law 195 = .ok (.iadd, 1) := by decide +kernel
theorem dL_law_196 : decode cL_law 196 = .ok (.iaload, 1) := by decide +kernel
theorem dL_law_197 : decode cL_law 197 = .ok (.aload_n 0, 1) := by decide +kernel
theorem dL_law_198 : decode cL_law 198 = .ok (.iload_n 3, 1) := by decide +kernel
theorem dL_law_199 : decode cL_law 199 = .ok (.iconst 2, 1) := by decide +kernel
theorem dL_law_200 : decode cL_law 200 = .ok (.iadd, 1) := by decide +kernel
theorem dL_law_201 : decode cL_law 201 = .ok (.iaload, 1) := by decide +kernel
theorem dL_law_202 : decode cL_law 202 = .ok (.aload_n 0, 1) := by decide +kernel
theorem dL_law_203 : decode cL_law 203 = .ok (.iload_n 3, 1) := by decide +kernel
theorem dL_law_204 : decode cL_law 204 = .ok (.iconst 3, 1) := by decide +kernel
theorem dL_law_205 : decode cL_law 205 = .ok (.iadd, 1) := by decide +kernel
theorem dL_law_206 : decode cL_law 206 = .ok (.iaload, 1) := by decide +kernel
theorem dL_law_207 : decode cL_law 207 = .ok (.invokevirtual 17, 3) := by decide +kernel
theorem dL_law_210 : decode cL_law 210 = .ok (.if_icmp .eq 905, 3) := by decide +kernel
theorem dL_law_213 : decode cL_law 213 = .ok (.iconst 0, 1) := by decide +kernel
theorem dL_law_214 : decode cL_law 214 = .ok (.ireturn, 1) := by decide +kernel
theorem dL_law_215 : decode cL_law 215 = .ok (.aload_n 1, 1) := by decide +kernel
theorem dL_law_216 : decode cL_law 216 = .ok (.aload_n 0, 1) := by decide +kernel
theorem dL_law_217 : decode cL_law 217 = .ok (.iload_n 3, 1) := by decide +kernel
theorem dL_law_218 : decode cL_law 218 = .ok (.iconst 1, 1) := by decide +kernel
theorem dL_law_219 : decode cL_law 219 = .ok (.iadd, 1) := by decide +kernel
theorem dL_law_220 : decode cL_law 220 = .ok (.iaload, 1) := by decide +kernel
theorem dL_law_221 : decode cL_law 221 = .ok (.aload_n 0, 1) := by decide +kernel
theorem dL_law_222 : decode cL_law 222 = .ok (.iload_n 3, 1) := by decide +kernel
theorem dL_law_223 : decode cL_law 223 = .ok (.iconst 2, 1) := by decide +kernel
theorem dL_law_224 : decode cL_law 224 = .ok (.iadd, 1) := by decide +kernel
theorem dL_law_225 : decode cL_law 225 = .ok (.iaload, 1) := by decide +kernel
theorem dL_law_226 : decode cL_law 226 = .ok (.aload_n 0, 1) := by decide +kernel
theorem dL_law_227 : decode cL_law 227 = .ok (.iload_n 3, 1) := by decide +kernel
theorem dL_law_228 : decode cL_law 228 = .ok (.iconst 3, 1) := by decide +kernel
theorem dL_law_229 : decode cL_law 229 = .ok (.iadd, 1) := by decide +kernel
theorem dL_law_230 : decode cL_law 230 = .ok (.iaload, 1) := by decide +kernel
theorem dL_law_231 : decode cL_law 231 = .ok (.invokevirtual 18, 3) := by decide +kernel
theorem dL_law_234 : decode cL_law 234 = .ok (.aload_n 2, 1) := by decide +kernel
theorem dL_law_235 : decode cL_law 235 = .ok (.aload_n 0, 1) := by decide +kernel
theorem dL_law_236 : decode cL_law 236 = .ok (.iload_n 3, 1) := by decide +kernel
theorem dL_law_237 : decode cL_law 237 = .ok (.iconst 1, 1) := by decide +kernel
theorem dL_law_238 : decode cL_law 238 = .ok (.iadd, 1) := by decide +kernel
theorem dL_law_239 : decode cL_law 239 = .ok (.iaload, 1) := by decide +kernel
theorem dL_law_240 : decode cL_law 240 = .ok (.aload_n 0, 1) := by decide +kernel
theorem dL_law_241 : decode cL_law 241 = .ok (.iload_n 3, 1) := by decide +kernel
theorem dL_law_242 : decode cL_law 242 = .ok (.iconst 2, 1) := by decide +kernel
theorem dL_law_243 : decode cL_law 243 = .ok (.iadd, 1) := by decide +kernel
theorem dL_law_244 : decode cL_law 244 = .ok (.iaload, 1) := by decide +kernel
theorem dL_law_245 : decode cL_law 245 = .ok (.aload_n 0, 1) := by decide +kernel
theorem dL_law_246 : decode cL_law 246 = .ok (.iload_n 3, 1) := by decide +kernel
theorem dL_law_247 : decode cL_law 247 = .ok (.iconst 3, 1) := by decide +kernel
theorem dL_law_248 : decode cL_law 248 = .ok (.iadd, 1) := by decide +kernel
theorem dL_law_249 : decode cL_law 249 = .ok (.iaload, 1) := by decide +kernel
theorem dL_law_250 : decode cL_law 250 = .ok (.invokevirtual 21, 3) := by decide +kernel
theorem dL_law_253 : decode cL_law 253 = .ok (.if_icmp .eq 862, 3) := by decide +kernel
theorem dL_law_256 : decode cL_law 256 = .ok (.iconst 0, 1) := by decide +kernel
theorem dL_law_257 : decode cL_law 257 = .ok (.ireturn, 1) := by decide +kernel
theorem dL_law_258 : decode cL_law 258 = .ok (.aload_n 1, 1) := by decide +kernel
theorem dL_law_259 : decode cL_law 259 = .ok (.aload_n 0, 1) := by decide +kernel
theorem dL_law_260 : decode cL_law 260 = .ok (.iload_n 3, 1) := by decide +kernel
theorem dL_law_261 : decode cL_law 261 = .ok (.iconst 1, 1) := by decide +kernel
theorem dL_law_262 : decode cL_law 262 = .ok (.iadd, 1) := by decide +kernel
theorem dL_law_263 : decode cL_law 263 = .ok (.iaload, 1) := by decide +kernel
theorem dL_law_264 : decode cL_law 264 = .ok (.aload_n 0, 1) := by decide +kernel
theorem dL_law_265 : decode cL_law 265 = .ok (.iload_n 3, 1) := by decide +kernel
theorem dL_law_266 : decode cL_law 266 = .ok (.iconst 2, 1) := by decide +kernel
theorem dL_law_267 : decode cL_law 267 = .ok (.iadd, 1) := by decide +kernel
theorem dL_law_268 : decode cL_law 268 = .ok (.iaload, 1) := by decide +kernel
theorem dL_law_269 : decode cL_law 269 = .ok (.aload_n 0, 1) := by decide +kernel
theorem dL_law_270 : decode cL_law 270 = .ok (.iload_n 3, 1) := by decide +kernel
theorem dL_law_271 : decode cL_law 271 = .ok (.iconst 3, 1) := by decide +kernel
theorem dL_law_272 : decode cL_law 272 = .ok (.iadd, 1) := by decide +kernel
theorem dL_law_273 : decode cL_law 273 = .ok (.iaload, 1) := by decide +kernel
theorem dL_law_274 : decode cL_law 274 = .ok (.aload_n 0, 1) := by decide +kernel
theorem dL_law_275 : decode cL_law 275 = .ok (.iload_n 3, 1) := by decide +kernel
theorem dL_law_276 : decode cL_law 276 = .ok (.iconst 4, 1) := by decide +kernel
theorem dL_law_277 : decode cL_law 277 = .ok (.iadd, 1) := by decide +kernel
theorem dL_law_278 : decode cL_law 278 = .ok (.iaload, 1) := by decide +kernel
theorem dL_law_279 : decode cL_law 279 = .ok (.aload_n 0, 1) := by decide +kernel
theorem dL_law_280 : decode cL_law 280 = .ok (.iload_n 3, 1) := by decide +kernel
theorem dL_law_281 : decode cL_law 281 = .ok (.iconst 5, 1) := by decide +kernel
theorem dL_law_282 : decode cL_law 282 = .ok (.iadd, 1) := by decide +kernel
theorem dL_law_283 : decode cL_law 283 = .ok (.iaload, 1) := by decide +kernel
theorem dL_law_284 : decode cL_law 284 = .ok (.invokevirtual 22, 3) := by decide +kernel
theorem dL_law_287 : decode cL_law 287 = .ok (.aload_n 2, 1) := by decide +kernel
theorem dL_law_288 : decode cL_law 288 = .ok (.aload_n 0, 1) := by decide +kernel
theorem dL_law_289 : decode cL_law 289 = .ok (.iload_n 3, 1) := by decide +kernel
theorem dL_law_290 : decode cL_law 290 = .ok (.iconst 1, 1) := by decide +kernel
theorem dL_law_291 : decode cL_law 291 = .ok (.iadd, 1) := by decide +kernel
theorem dL_law_292 : decode cL_law 292 = .ok (.iaload, 1) := by decide +kernel
theorem dL_law_293 : decode cL_law 293 = .ok (.aload_n 0, 1) := by decide +kernel
theorem dL_law_294 : decode cL_law 294 = .ok (.iload_n 3, 1) := by decide +kernel
theorem dL_law_295 : decode cL_law 295 = .ok (.iconst 2, 1) := by decide +kernel
theorem dL_law_296 : decode cL_law 296 = .ok (.iadd, 1) := by decide +kernel
theorem dL_law_297 : decode cL_law 297 = .ok (.iaload, 1) := by decide +kernel
theorem dL_law_298 : decode cL_law 298 = .ok (.aload_n 0, 1) := by decide +kernel
theorem dL_law_299 : decode cL_law 299 = .ok (.iload_n 3, 1) := by decide +kernel
theorem dL_law_300 : decode cL_law 300 = .ok (.iconst 3, 1) := by decide +kernel
theorem dL_law_301 : decode cL_law 301 = .ok (.iadd, 1) := by decide +kernel
theorem dL_law_302 : decode cL_law 302 = .ok (.iaload, 1) := by decide +kernel
theorem dL_law_303 : decode cL_law 303 = .ok (.aload_n 0, 1) := by decide +kernel
theorem dL_law_304 : decode cL_law 304 = .ok (.iload_n 3, 1) := by decide +kernel
theorem dL_law_305 : decode cL_law 305 = .ok (.iconst 4, 1) := by decide +kernel
theorem dL_law_306 : decode cL_law 306 = .ok (.iadd, 1) := by decide +kernel
theorem dL_law_307 : decode cL_law 307 = .ok (.iaload, 1) := by decide +kernel
theorem dL_law_308 : decode cL_law 308 = .ok (.aload_n 0, 1) := by decide +kernel
theorem dL_law_309 : decode cL_law 309 = .ok (.iload_n 3, 1) := by decide +kernel
theorem dL_law_310 : decode cL_law 310 = .ok (.iconst 5, 1) := by decide +kernel
theorem dL_law_311 : decode cL_law 311 = .ok (.iadd, 1) := by decide +kernel
theorem dL_law_312 : decode cL_law 312 = .ok (.iaload, 1) := by decide +kernel
theorem dL_law_313 : decode cL_law 313 = .ok (.invokevirtual 26, 3) := by decide +kernel
theorem dL_law_316 : decode cL_law 316 = .ok (.if_icmp .eq 799, 3) := by decide +kernel
theorem dL_law_319 : decode cL_law 319 = .ok (.iconst 0, 1) := by decide +kernel
theorem dL_law_320 : decode cL_law 320 = .ok (.ireturn, 1) := by decide +kernel
theorem dL_law_321 : decode cL_law 321 = .ok (.aload_n 1, 1) := by decide +kernel
theorem dL_law_322 : decode cL_law 322 = .ok (.aload_n 0, 1) := by decide +kernel
theorem dL_law_323 : decode cL_law 323 = .ok (.iload_n 3, 1) := by decide +kernel
theorem dL_law_324 : decode cL_law 324 = .ok (.iconst 1, 1) := by decide +kernel
theorem dL_law_325 : decode cL_law 325 = .ok (.iadd, 1) := by decide +kernel
theorem dL_law_326 : decode cL_law 326 = .ok (.iaload, 1) := by decide +kernel
theorem dL_law_327 : decode cL_law 327 = .ok (.invokevirtual 27, 3) := by decide +kernel
theorem dL_law_330 : decode cL_law 330 = .ok (.aload_n 2, 1) := by decide +kernel
theorem dL_law_331 : decode cL_law 331 = .ok (.aload_n 0, 1) := by decide +kernel
theorem dL_law_332 : decode cL_law 332 = .ok (.iload_n 3, 1) := by decide +kernel
theorem dL_law_333 : decode cL_law 333 = .ok (.iconst 1, 1) := by decide +kernel
theorem dL_law_334 : decode cL_law 334 = .ok (.iadd, 1) := by decide +kernel
theorem dL_law_335 : decode cL_law 335 = .ok (.iaload, 1) := by decide +kernel
theorem dL_law_336 : decode cL_law 336 = .ok (.invokevirtual 31, 3) := by decide +kernel
theorem dL_law_339 : decode cL_law 339 = .ok (.if_icmp .eq 776, 3) := by decide +kernel
theorem dL_law_342 : decode cL_law 342 = .ok (.iconst 0, 1) := by decide +kernel
theorem dL_law_343 : decode cL_law 343 = .ok (.ireturn, 1) := by decide +kernel
theorem dL_law_344 : decode cL_law 344 = .ok (.aload_n 1, 1) := by decide +kernel
theorem dL_law_345 : decode cL_law 345 = .ok (.aload_n 0, 1) := by decide +kernel
theorem dL_law_346 : decode cL_law 346 = .ok (.iload_n 3, 1) := by decide +kernel
theorem dL_law_347 : decode cL_law 347 = .ok (.iconst 1, 1) := by decide +kernel
theorem dL_law_348 : decode cL_law 348 = .ok (.iadd, 1) := by decide +kernel
theorem dL_law_349 : decode cL_law 349 = .ok (.iaload, 1) := by decide +kernel
theorem dL_law_350 : decode cL_law 350 = .ok (.invokevirtual 32, 3) := by decide +kernel
theorem dL_law_353 : decode cL_law 353 = .ok (.aload_n 2, 1) := by decide +kernel
theorem dL_law_354 : decode cL_law 354 = .ok (.aload_n 0, 1) := by decide +kernel
theorem dL_law_355 : decode cL_law 355 = .ok (.iload_n 3, 1) := by decide +kernel
theorem dL_law_356 : decode cL_law 356 = .ok (.iconst 1, 1) := by decide +kernel
theorem dL_law_357 : decode cL_law 357 = .ok (.iadd, 1) := by decide +kernel
theorem dL_law_358 : decode cL_law 358 = .ok (.iaload, 1) := by decide +kernel
theorem dL_law_359 : decode cL_law 359 = .ok (.invokevirtual 35, 3) := by decide +kernel
theorem dL_law_362 : decode cL_law 362 = .ok (.if_icmp .eq 753, 3) := by decide +kernel
theorem dL_law_365 : decode cL_law 365 = .ok (.iconst 0, 1) := by decide +kernel
theorem dL_law_366 : decode cL_law 366 = .ok (.ireturn, 1) := by decide +kernel
theorem dL_law_367 : decode cL_law 367 = .ok (.aload_n 1, 1) := by decide +kernel
theorem dL_law_368 : decode cL_law 368 = .ok (.invokevirtual 36, 3) := by decide +kernel
theorem dL_law_371 : decode cL_law 371 = .ok (.aload_n 2, 1) := by decide +kernel
theorem dL_law_372 : decode cL_law 372 = .ok (.invokevirtual 40, 3) := by decide +kernel
theorem dL_law_375 : decode cL_law 375 = .ok (.if_icmp .eq 740, 3) := by decide +kernel
theorem dL_law_378 : decode cL_law 378 = .ok (.iconst 0, 1) := by decide +kernel
theorem dL_law_379 : decode cL_law 379 = .ok (.ireturn, 1) := by decide +kernel
theorem dL_law_380 : decode cL_law 380 = .ok (.aload_n 1, 1) := by decide +kernel
theorem dL_law_381 : decode cL_law 381 = .ok (.invokevirtual 41, 3) := by decide +kernel
theorem dL_law_384 : decode cL_law 384 = .ok (.aload_n 2, 1) := by decide +kernel
theorem dL_law_385 : decode cL_law 385 = .ok (.invokevirtual 44, 3) := by decide +kernel
theorem dL_law_388 : decode cL_law 388 = .ok (.if_icmp .eq 727, 3) := by decide +kernel
theorem dL_law_391 : decode cL_law 391 = .ok (.iconst 0, 1) := by decide +kernel
theorem dL_law_392 : decode cL_law 392 = .ok (.ireturn, 1) := by decide +kernel
theorem dL_law_393 : decode cL_law 393 = .ok (.aload_n 1, 1) := by decide +kernel
theorem dL_law_394 : decode cL_law 394 = .ok (.aload_n 0, 1) := by decide +kernel
theorem dL_law_395 : decode cL_law 395 = .ok (.iload_n 3, 1) := by decide +kernel
theorem dL_law_396 : decode cL_law 396 = .ok (.iconst 1, 1) := by decide +kernel
theorem dL_law_397 : decode cL_law 397 = .ok (.iadd, 1) := by decide +kernel
theorem dL_law_398 : decode cL_law 398 = .ok (.iaload, 1) := by decide +kernel
theorem dL_law_399 : decode cL_law 399 = .ok (.aload_n 0, 1) := by decide +kernel
theorem dL_law_400 : decode cL_law 400 = .ok (.iload_n 3, 1) := by decide +kernel
theorem dL_law_401 : decode cL_law 401 = .ok (.iconst 2, 1) := by decide +kernel
theorem dL_law_402 : decode cL_law 402 = .ok (.iadd, 1) := by decide +kernel
theorem dL_law_403 : decode cL_law 403 = .ok (.iaload, 1) := by decide +kernel
theorem dL_law_404 : decode cL_law 404 = .ok (.invokevirtual 45, 3) := by decide +kernel
theorem dL_law_407 : decode cL_law 407 = .ok (.aload_n 2, 1) := by decide +kernel
theorem dL_law_408 : decode cL_law 408 = .ok (.aload_n 0, 1) := by decide +kernel
theorem dL_law_409 : decode cL_law 409 = .ok (.iload_n 3, 1) := by decide +kernel
theorem dL_law_410 : decode cL_law 410 = .ok (.iconst 1, 1) := by decide +kernel
theorem dL_law_411 : decode cL_law 411 = .ok (.iadd, 1) := by decide +kernel
theorem dL_law_412 : decode cL_law 412 = .ok (.iaload, 1) := by decide +kernel
theorem dL_law_413 : decode cL_law 413 = .ok (.aload_n 0, 1) := by decide +kernel
theorem dL_law_414 : decode cL_law 414 = .ok (.iload_n 3, 1) := by decide +kernel
theorem dL_law_415 : decode cL_law 415 = .ok (.iconst 2, 1) := by decide +kernel
theorem dL_law_416 : decode cL_law 416 = .ok (.iadd, 1) := by decide +kernel
theorem dL_law_417 : decode cL_law 417 = .ok (.iaload, 1) := by decide +kernel
theorem dL_law_418 : decode cL_law 418 = .ok (.invokevirtual 49, 3) := by decide +kernel
theorem dL_law_421 : decode cL_law 421 = .ok (.if_icmp .eq 694, 3) := by decide +kernel
theorem dL_law_424 : decode cL_law 424 = .ok (.iconst 0, 1) := by decide +kernel
theorem dL_law_425 : decode cL_law 425 = .ok (.ireturn, 1) := by decide +kernel
theorem dL_law_426 : decode cL_law 426 = .ok (.aload_n 1, 1) := by decide +kernel
theorem dL_law_427 : decode cL_law 427 = .ok (.aload_n 0, 1) := by decide +kernel
theorem dL_law_428 : decode cL_law 428 = .ok (.iload_n 3, 1) := by decide +kernel
theorem dL_law_429 : decode cL_law 429 = .ok (.iconst 1, 1) := by decide +kernel
theorem dL_law_430 : decode cL_law 430 = .ok (.iadd, 1) := by decide +kernel
theorem dL_law_431 : decode cL_law 431 = .ok (.iaload, 1) := by decide +kernel
theorem dL_law_432 : decode cL_law 432 = .ok (.aload_n 0, 1) := by decide +kernel
theorem dL_law_433 : decode cL_law 433 = .ok (.iload_n 3, 1) := by decide +kernel
theorem dL_law_434 : decode cL_law 434 = .ok (.iconst 2, 1) := by decide +kernel
theorem dL_law_435 : decode cL_law 435 = .ok (.iadd, 1) := by decide +kernel
theorem dL_law_436 : decode cL_law 436 = .ok (.iaload, 1) := by decide +kernel
theorem dL_law_437 : decode cL_law 437 = .ok (.invokevirtual 50, 3) := by decide +kernel
theorem dL_law_440 : decode cL_law 440 = .ok (.aload_n 2, 1) := by decide +kernel
theorem dL_law_441 : decode cL_law 441 = .ok (.aload_n 0, 1) := by decide +kernel
theorem dL_law_442 : decode cL_law 442 = .ok (.iload_n 3, 1) := by decide +kernel
theorem dL_law_443 : decode cL_law 443 = .ok (.iconst 1, 1) := by decide +kernel
theorem dL_law_444 : decode cL_law 444 = .ok (.iadd, 1) := by decide +kernel
theorem dL_law_445 : decode cL_law 445 = .ok (.iaload, 1) := by decide +kernel
theorem dL_law_446 : decode cL_law 446 = .ok (.aload_n 0, 1) := by decide +kernel
theorem dL_law_447 : decode cL_law 447 = .ok (.iload_n 3, 1) := by decide +kernel
theorem dL_law_448 : decode cL_law 448 = .ok (.iconst 2, 1) := by decide +kernel
theorem dL_law_449 : decode cL_law 449 = .ok (.iadd, 1) := by decide +kernel
theorem dL_law_450 : decode cL_law 450 = .ok (.iaload, 1) := by decide +kernel
theorem dL_law_451 : decode cL_law 451 = .ok (.invokevirtual 53, 3) := by decide +kernel
theorem dL_law_454 : decode cL_law 454 = .ok (.if_icmp .eq 661, 3) := by decide +kernel
theorem dL_law_457 : decode cL_law 457 = .ok (.iconst 0, 1) := by decide +kernel
theorem dL_law_458 : decode cL_law 458 = .ok (.ireturn, 1) := by decide +kernel
theorem dL_law_459 : decode cL_law 459 = .ok (.aload_n 1, 1) := by decide +kernel
theorem dL_law_460 : decode cL_law 460 = .ok (.aload_n 0, 1) := by decide +kernel
theorem dL_law_461 : decode cL_law 461 = .ok (.iload_n 3, 1) := by decide +kernel
theorem dL_law_462 : decode cL_law 462 = .ok (.iconst 1, 1) := by decide +kernel
theorem dL_law_463 : decode cL_law 463 = .ok (.iadd, 1) := by decide +kernel
theorem dL_law_464 : decode cL_law 464 = .ok (.iaload, 1) := by decide +kernel
theorem dL_law_465 : decode cL_law 465 = .ok (.aload_n 0, 1) := by decide +kernel
theorem dL_law_466 : decode cL_law 466 = .ok (.iload_n 3, 1) := by decide +kernel
theorem dL_law_467 : decode cL_law 467 = .ok (.iconst 2, 1) := by decide +kernel
theorem dL_law_468 : decode cL_law 468 = .ok (.iadd, 1) := by decide +kernel
theorem dL_law_469 : decode cL_law 469 = .ok (.iaload, 1) := by decide +kernel
theorem dL_law_470 : decode cL_law 470 = .ok (.invokevirtual 54, 3) := by decide +kernel
theorem dL_law_473 : decode cL_law 473 = .ok (.aload_n 2, 1) := by decide +kernel
theorem dL_law_474 : decode cL_law 474 = .ok (.aload_n 0, 1) := by decide +kernel
theorem dL_law_475 : decode cL_law 475 = .ok (.iload_n 3, 1) := by decide +kernel
theorem dL_law_476 : decode cL_law 476 = .ok (.iconst 1, 1) := by decide +kernel
theorem dL_law_477 : decode cL_law 477 = .ok (.iadd, 1) := by decide +kernel
theorem dL_law_478 : decode cL_law 478 = .ok (.iaload, 1) := by decide +kernel
theorem dL_law_479 : decode cL_law 479 = .ok (.aload_n 0, 1) := by decide +kernel
theorem dL_law_480 : decode cL_law 480 = .ok (.iload_n 3, 1) := by decide +kernel
theorem dL_law_481 : decode cL_law 481 = .ok (.iconst 2, 1) := by decide +kernel
theorem dL_law_482 : decode cL_law 482 = .ok (.iadd, 1) := by decide +kernel
theorem dL_law_483 : decode cL_law 483 = .ok (.iaload, 1) := by decide +kernel
theorem dL_law_484 : decode cL_law 484 = .ok (.invokevirtual 57, 3) := by decide +kernel
theorem dL_law_487 : decode cL_law 487 = .ok (.if_icmp .eq 628, 3) := by decide +kernel
theorem dL_law_490 : decode cL_law 490 = .ok (.iconst 0, 1) := by decide +kernel
theorem dL_law_491 : decode cL_law 491 = .ok (.ireturn, 1) := by decide +kernel
theorem dL_law_492 : decode cL_law 492 = .ok (.aload_n 1, 1) := by decide +kernel
theorem dL_law_493 : decode cL_law 493 = .ok (.invokevirtual 58, 3) := by decide +kernel
theorem dL_law_496 : decode cL_law 496 = .ok (.aload_n 2, 1) := by decide +kernel
theorem dL_law_497 : decode cL_law 497 = .ok (.invokevirtual 61, 3) := by decide +kernel
theorem dL_law_500 : decode cL_law 500 = .ok (.if_icmp .eq 615, 3) := by decide +kernel
theorem dL_law_503 : decode cL_law 503 = .ok (.iconst 0, 1) := by decide +kernel
theorem dL_law_504 : decode cL_law 504 = .ok (.ireturn, 1) := by decide +kernel
theorem dL_law_505 : decode cL_law 505 = .ok (.aload_n 1, 1) := by decide +kernel
theorem dL_law_506 : decode cL_law 506 = .ok (.aload_n 0, 1) := by decide +kernel
theorem dL_law_507 : decode cL_law 507 = .ok (.iload_n 3, 1) := by decide +kernel
theorem dL_law_508 : decode cL_law 508 = .ok (.iconst 1, 1) := by decide +kernel
theorem dL_law_509 : decode cL_law 509 = .ok (.iadd, 1) := by decide +kernel
theorem dL_law_510 : decode cL_law 510 = .ok (.iaload, 1) := by decide +kernel
theorem dL_law_511 : decode cL_law 511 = .ok (.aload_n 0, 1) := by decide +kernel
theorem dL_law_512 : decode cL_law 512 = .ok (.iload_n 3, 1) := by decide +kernel
theorem dL_law_513 : decode cL_law 513 = .ok (.iconst 2, 1) := by decide +kernel
theorem dL_law_514 : decode cL_law 514 = .ok (.iadd, 1) := by decide +kernel
theorem dL_law_515 : decode cL_law 515 = .ok (.iaload, 1) := by decide +kernel
theorem dL_law_516 : decode cL_law 516 = .ok (.invokevirtual 62, 3) := by decide +kernel
theorem dL_law_519 : decode cL_law 519 = .ok (.aload_n 2, 1) := by decide +kernel
theorem dL_law_520 : decode cL_law 520 = .ok (.aload_n 0, 1) := by decide +kernel
theorem dL_law_521 : decode cL_law 521 = .ok (.iload_n 3, 1) := by decide +kernel
theorem dL_law_522 : decode cL_law 522 = .ok (.iconst 1, 1) := by decide +kernel
theorem dL_law_523 : decode cL_law 523 = .ok (.iadd, 1) := by decide +kernel
theorem dL_law_524 : decode cL_law 524 = .ok (.iaload, 1) := by decide +kernel
theorem dL_law_525 : decode cL_law 525 = .ok (.aload_n 0, 1) := by decide +kernel
theorem dL_law_526 : decode cL_law 526 = .ok (.iload_n 3, 1) := by decide +kernel
theorem dL_law_527 : decode cL_law 527 = .ok (.iconst 2, 1) := by decide +kernel
theorem dL_law_528 : decode cL_law 528 = .ok (.iadd, 1) := by decide +kernel
theorem dL_law_529 : decode cL_law 529 = .ok (.iaload, 1) := by decide +kernel
theorem dL_law_530 : decode cL_law 530 = .ok (.invokevirtual 65, 3) := by decide +kernel
theorem dL_law_533 : decode cL_law 533 = .ok (.if_icmp .eq 582, 3) := by decide +kernel
theorem dL_law_536 : decode cL_law 536 = .ok (.iconst 0, 1) := by decide +kernel
theorem dL_law_537 : decode cL_law 537 = .ok (.ireturn, 1) := by decide +kernel
theorem dL_law_538 : decode cL_law 538 = .ok (.aload_n 1, 1) := by decide +kernel
theorem dL_law_539 : decode cL_law 539 = .ok (.aload_n 0, 1) := by decide +kernel
theorem dL_law_540 : decode cL_law 540 = .ok (.iload_n 3, 1) := by decide +kernel
theorem dL_law_541 : decode cL_law 541 = .ok (.iconst 1, 1) := by decide +kernel
theorem dL_law_542 : decode cL_law 542 = .ok (.iadd, 1) := by decide +kernel
theorem dL_law_543 : decode cL_law 543 = .ok (.iaload, 1) := by decide +kernel
theorem dL_law_544 : decode cL_law 544 = .ok (.aload_n 0, 1) := by decide +kernel
theorem dL_law_545 : decode cL_law 545 = .ok (.iload_n 3, 1) := by decide +kernel
theorem dL_law_546 : decode cL_law 546 = .ok (.iconst 2, 1) := by decide +kernel
theorem dL_law_547 : decode cL_law 547 = .ok (.iadd, 1) := by decide +kernel
theorem dL_law_548 : decode cL_law 548 = .ok (.iaload, 1) := by decide +kernel
theorem dL_law_549 : decode cL_law 549 = .ok (.invokevirtual 66, 3) := by decide +kernel
theorem dL_law_552 : decode cL_law 552 = .ok (.aload_n 2, 1) := by decide +kernel
theorem dL_law_553 : decode cL_law 553 = .ok (.aload_n 0, 1) := by decide +kernel
theorem dL_law_554 : decode cL_law 554 = .ok (.iload_n 3, 1) := by decide +kernel
theorem dL_law_555 : decode cL_law 555 = .ok (.iconst 1, 1) := by decide +kernel
theorem dL_law_556 : decode cL_law 556 = .ok (.iadd, 1) := by decide +kernel
theorem dL_law_557 : decode cL_law 557 = .ok (.iaload, 1) := by decide +kernel
theorem dL_law_558 : decode cL_law 558 = .ok (.aload_n 0, 1) := by decide +kernel
theorem dL_law_559 : decode cL_law 559 = .ok (.iload_n 3, 1) := by decide +kernel
theorem dL_law_560 : decode cL_law 560 = .ok (.iconst 2, 1) := by decide +kernel
theorem dL_law_561 : decode cL_law 561 = .ok (.iadd, 1) := by decide +kernel
theorem dL_law_562 : decode cL_law 562 = .ok (.iaload, 1) := by decide +kernel
theorem dL_law_563 : decode cL_law 563 = .ok (.invokevirtual 69, 3) := by decide +kernel
theorem dL_law_566 : decode cL_law 566 = .ok (.if_icmp .eq 549, 3) := by decide +kernel
theorem dL_law_569 : decode cL_law 569 = .ok (.iconst 0, 1) := by decide +kernel
theorem dL_law_570 : decode cL_law 570 = .ok (.ireturn, 1) := by decide +kernel
theorem dL_law_571 : decode cL_law 571 = .ok (.aload_n 1, 1) := by decide +kernel
theorem dL_law_572 : decode cL_law 572 = .ok (.aload_n 0, 1) := by decide +kernel
theorem dL_law_573 : decode cL_law 573 = .ok (.iload_n 3, 1) := by decide +kernel
theorem dL_law_574 : decode cL_law 574 = .ok (.iconst 1, 1) := by decide +kernel
theorem dL_law_575 : decode cL_law 575 = .ok (.iadd, 1) := by decide +kernel
theorem dL_law_576 : decode cL_law 576 = .ok (.iaload, 1) := by decide +kernel
theorem dL_law_577 : decode cL_law 577 = .ok (.aload_n 0, 1) := by decide +kernel
theorem dL_law_578 : decode cL_law 578 = .ok (.iload_n 3, 1) := by decide +kernel
theorem dL_law_579 : decode cL_law 579 = .ok (.iconst 2, 1) := by decide +kernel
theorem dL_law_580 : decode cL_law 580 = .ok (.iadd, 1) := by decide +kernel
theorem dL_law_581 : decode cL_law 581 = .ok (.iaload, 1) := by decide +kernel
theorem dL_law_582 : decode cL_law 582 = .ok (.invokevirtual 70, 3) := by decide +kernel
theorem dL_law_585 : decode cL_law 585 = .ok (.aload_n 2, 1) := by decide +kernel
theorem dL_law_586 : decode cL_law 586 = .ok (.aload_n 0, 1) := by decide +kernel
theorem dL_law_587 : decode cL_law 587 = .ok (.iload_n 3, 1) := by decide +kernel
theorem dL_law_588 : decode cL_law 588 = .ok (.iconst 1, 1) := by decide +kernel
theorem dL_law_589 : decode cL_law 589 = .ok (.iadd, 1) := by decide +kernel
theorem dL_law_590 : decode cL_law 590 = .ok (.iaload, 1) := by decide +kernel
theorem dL_law_591 : decode cL_law 591 = .ok (.aload_n 0, 1) := by decide +kernel
theorem dL_law_592 : decode cL_law 592 = .ok (.iload_n 3, 1) := by decide +kernel
theorem dL_law_593 : decode cL_law 593 = .ok (.iconst 2, 1) := by decide +kernel
theorem dL_law_594 : decode cL_law 594 = .ok (.iadd, 1) := by decide +kernel
theorem dL_law_595 : decode cL_law 595 = .ok (.iaload, 1) := by decide +kernel
theorem dL_law_596 : decode cL_law 596 = .ok (.invokevirtual 73, 3) := by decide +kernel
theorem dL_law_599 : decode cL_law 599 = .ok (.if_icmp .eq 516, 3) := by decide +kernel
theorem dL_law_602 : decode cL_law 602 = .ok (.iconst 0, 1) := by decide +kernel
theorem dL_law_603 : decode cL_law 603 = .ok (.ireturn, 1) := by decide +kernel
theorem dL_law_604 : decode cL_law 604 = .ok (.aload_n 1, 1) := by decide +kernel
theorem dL_law_605 : decode cL_law 605 = .ok (.aload_n 0, 1) := by decide +kernel
theorem dL_law_606 : decode cL_law 606 = .ok (.iload_n 3, 1) := by decide +kernel
theorem dL_law_607 : decode cL_law 607 = .ok (.iconst 1, 1) := by decide +kernel
theorem dL_law_608 : decode cL_law 608 = .ok (.iadd, 1) := by decide +kernel
theorem dL_law_609 : decode cL_law 609 = .ok (.iaload, 1) := by decide +kernel
theorem dL_law_610 : decode cL_law 610 = .ok (.invokevirtual 74, 3) := by decide +kernel
theorem dL_law_613 : decode cL_law 613 = .ok (.aload_n 2, 1) := by decide +kernel
theorem dL_law_614 : decode cL_law 614 = .ok (.aload_n 0, 1) := by decide +kernel
theorem dL_law_615 : decode cL_law 615 = .ok (.iload_n 3, 1) := by decide +kernel
theorem dL_law_616 : decode cL_law 616 = .ok (.iconst 1, 1) := by decide +kernel
theorem dL_law_617 : decode cL_law 617 = .ok (.iadd, 1) := by decide +kernel
theorem dL_law_618 : decode cL_law 618 = .ok (.iaload, 1) := by decide +kernel
theorem dL_law_619 : decode cL_law 619 = .ok (.invokevirtual 77, 3) := by decide +kernel
theorem dL_law_622 : decode cL_law 622 = .ok (.if_icmp .eq 493, 3) := by decide +kernel
theorem dL_law_625 : decode cL_law 625 = .ok (.iconst 0, 1) := by decide +kernel
theorem dL_law_626 : decode cL_law 626 = .ok (.ireturn, 1) := by decide +kernel
theorem dL_law_627 : decode cL_law 627 = .ok (.aload_n 1, 1) := by decide +kernel
theorem dL_law_628 : decode cL_law 628 = .ok (.aload_n 0, 1) := by decide +kernel
theorem dL_law_629 : decode cL_law 629 = .ok (.iload_n 3, 1) := by decide +kernel
theorem dL_law_630 : decode cL_law 630 = .ok (.iconst 1, 1) := by decide +kernel
theorem dL_law_631 : decode cL_law 631 = .ok (.iadd, 1) := by decide +kernel
theorem dL_law_632 : decode cL_law 632 = .ok (.iaload, 1) := by decide +kernel
theorem dL_law_633 : decode cL_law 633 = .ok (.aload_n 0, 1) := by decide +kernel
theorem dL_law_634 : decode cL_law 634 = .ok (.iload_n 3, 1) := by decide +kernel
theorem dL_law_635 : decode cL_law 635 = .ok (.iconst 2, 1) := by decide +kernel
theorem dL_law_636 : decode cL_law 636 = .ok (.iadd, 1) := by decide +kernel
theorem dL_law_637 : decode cL_law 637 = .ok (.iaload, 1) := by decide +kernel
theorem dL_law_638 : decode cL_law 638 = .ok (.aload_n 0, 1) := by decide +kernel
theorem dL_law_639 : decode cL_law 639 = .ok (.iload_n 3, 1) := by decide +kernel
theorem dL_law_640 : decode cL_law 640 = .ok (.iconst 3, 1) := by decide +kernel
theorem dL_law_641 : decode cL_law 641 = .ok (.iadd, 1) := by decide +kernel
theorem dL_law_642 : decode cL_law 642 = .ok (.iaload, 1) := by decide +kernel
theorem dL_law_643 : decode cL_law 643 = .ok (.invokevirtual 78, 3) := by decide +kernel
theorem dL_law_646 : decode cL_law 646 = .ok (.aload_n 2, 1) := by decide +kernel
theorem dL_law_647 : decode cL_law 647 = .ok (.aload_n 0, 1) := by decide +kernel
theorem dL_law_648 : decode cL_law 648 = .ok (.iload_n 3, 1) := by decide +kernel
theorem dL_law_649 : decode cL_law 649 = .ok (.iconst 1, 1) := by decide +kernel
theorem dL_law_650 : decode cL_law 650 = .ok (.iadd, 1) := by decide +kernel
theorem dL_law_651 : decode cL_law 651 = .ok (.iaload, 1) := by decide +kernel
theorem dL_law_652 : decode cL_law 652 = .ok (.aload_n 0, 1) := by decide +kernel
theorem dL_law_653 : decode cL_law 653 = .ok (.iload_n 3, 1) := by decide +kernel
theorem dL_law_654 : decode cL_law 654 = .ok (.iconst 2, 1) := by decide +kernel
theorem dL_law_655 : decode cL_law 655 = .ok (.iadd, 1) := by decide +kernel
theorem dL_law_656 : decode cL_law 656 = .ok (.iaload, 1) := by decide +kernel
theorem dL_law_657 : decode cL_law 657 = .ok (.aload_n 0, 1) := by decide +kernel
theorem dL_law_658 : decode cL_law 658 = .ok (.iload_n 3, 1) := by decide +kernel
theorem dL_law_659 : decode cL_law 659 = .ok (.iconst 3, 1) := by decide +kernel
theorem dL_law_660 : decode cL_law 660 = .ok (.iadd, 1) := by decide +kernel
theorem dL_law_661 : decode cL_law 661 = .ok (.iaload, 1) := by decide +kernel
theorem dL_law_662 : decode cL_law 662 = .ok (.invokevirtual 81, 3) := by decide +kernel
theorem dL_law_665 : decode cL_law 665 = .ok (.if_icmp .eq 450, 3) := by decide +kernel
theorem dL_law_668 : decode cL_law 668 = .ok (.iconst 0, 1) := by decide +kernel
theorem dL_law_669 : decode cL_law 669 = .ok (.ireturn, 1) := by decide +kernel
theorem dL_law_670 : decode cL_law 670 = .ok (.aload_n 1, 1) := by decide +kernel
theorem dL_law_671 : decode cL_law 671 = .ok (.aload_n 0, 1) := by decide +kernel
theorem dL_law_672 : decode cL_law 672 = .ok (.iload_n 3, 1) := by decide +kernel
theorem dL_law_673 : decode cL_law 673 = .ok (.iconst 1, 1) := by decide +kernel
theorem dL_law_674 : decode cL_law 674 = .ok (.iadd, 1) := by decide +kernel
theorem dL_law_675 : decode cL_law 675 = .ok (.iaload, 1) := by decide +kernel
theorem dL_law_676 : decode cL_law 676 = .ok (.aload_n 0, 1) := by decide +kernel
theorem dL_law_677 : decode cL_law 677 = .ok (.iload_n 3, 1) := by decide +kernel
theorem dL_law_678 : decode cL_law 678 = .ok (.iconst 2, 1) := by decide +kernel
theorem dL_law_679 : decode cL_law 679 = .ok (.iadd, 1) := by decide +kernel
theorem dL_law_680 : decode cL_law 680 = .ok (.iaload, 1) := by decide +kernel
theorem dL_law_681 : decode cL_law 681 = .ok (.aload_n 0, 1) := by decide +kernel
theorem dL_law_682 : decode cL_law 682 = .ok (.iload_n 3, 1) := by decide +kernel
theorem dL_law_683 : decode cL_law 683 = .ok (.iconst 3, 1) := by decide +kernel
theorem dL_law_684 : decode cL_law 684 = .ok (.iadd, 1) := by decide +kernel
theorem dL_law_685 : decode cL_law 685 = .ok (.iaload, 1) := by decide +kernel
theorem dL_law_686 : decode cL_law 686 = .ok (.aload_n 0, 1) := by decide +kernel
theorem dL_law_687 : decode cL_law 687 = .ok (.iload_n 3, 1) := by decide +kernel
theorem dL_law_688 : decode cL_law 688 = .ok (.iconst 4, 1) := by decide +kernel
theorem dL_law_689 : decode cL_law 689 = .ok (.iadd, 1) := by decide +kernel
theorem dL_law_690 : decode cL_law 690 = .ok (.iaload, 1) := by decide +kernel
theorem dL_law_691 : decode cL_law 691 = .ok (.invokevirtual 82, 3) := by decide +kernel
theorem dL_law_694 : decode cL_law 694 = .ok (.aload_n 2, 1) := by decide +kernel
theorem dL_law_695 : decode cL_law 695 = .ok (.aload_n 0, 1) := by decide +kernel
theorem dL_law_696 : decode cL_law 696 = .ok (.iload_n 3, 1) := by decide +kernel
theorem dL_law_697 : decode cL_law 697 = .ok (.iconst 1, 1) := by decide +kernel
theorem dL_law_698 : decode cL_law 698 = .ok (.iadd, 1) := by decide +kernel
theorem dL_law_699 : decode cL_law 699 = .ok (.iaload, 1) := by decide +kernel
theorem dL_law_700 : decode cL_law 700 = .ok (.aload_n 0, 1) := by decide +kernel
theorem dL_law_701 : decode cL_law 701 = .ok (.iload_n 3, 1) := by decide +kernel
theorem dL_law_702 : decode cL_law 702 = .ok (.iconst 2, 1) := by decide +kernel
theorem dL_law_703 : decode cL_law 703 = .ok (.iadd, 1) := by decide +kernel
theorem dL_law_704 : decode cL_law 704 = .ok (.iaload, 1) := by decide +kernel
theorem dL_law_705 : decode cL_law 705 = .ok (.aload_n 0, 1) := by decide +kernel
theorem dL_law_706 : decode cL_law 706 = .ok (.iload_n 3, 1) := by decide +kernel
theorem dL_law_707 : decode cL_law 707 = .ok (.iconst 3, 1) := by decide +kernel
theorem dL_law_708 : decode cL_law 708 = .ok (.iadd, 1) := by decide +kernel
theorem dL_law_709 : decode cL_law 709 = .ok (.iaload, 1) := by decide +kernel
theorem dL_law_710 : decode cL_law 710 = .ok (.aload_n 0, 1) := by decide +kernel
theorem dL_law_711 : decode cL_law 711 = .ok (.iload_n 3, 1) := by decide +kernel
theorem dL_law_712 : decode cL_law 712 = .ok (.iconst 4, 1) := by decide +kernel
theorem dL_law_713 : decode cL_law 713 = .ok (.iadd, 1) := by decide +kernel
theorem dL_law_714 : decode cL_law 714 = .ok (.iaload, 1) := by decide +kernel
theorem dL_law_715 : decode cL_law 715 = .ok (.invokevirtual 86, 3) := by decide +kernel
theorem dL_law_718 : decode cL_law 718 = .ok (.if_icmp .eq 397, 3) := by decide +kernel
theorem dL_law_721 : decode cL_law 721 = .ok (.iconst 0, 1) := by decide +kernel
theorem dL_law_722 : decode cL_law 722 = .ok (.ireturn, 1) := by decide +kernel
theorem dL_law_723 : decode cL_law 723 = .ok (.aload_n 1, 1) := by decide +kernel
theorem dL_law_724 : decode cL_law 724 = .ok (.aload_n 0, 1) := by decide +kernel
theorem dL_law_725 : decode cL_law 725 = .ok (.iload_n 3, 1) := by decide +kernel
theorem dL_law_726 : decode cL_law 726 = .ok (.iconst 1, 1) := by decide +kernel
theorem dL_law_727 : decode cL_law 727 = .ok (.iadd, 1) := by decide +kernel
theorem dL_law_728 : decode cL_law 728 = .ok (.iaload, 1) := by decide +kernel
theorem dL_law_729 : decode cL_law 729 = .ok (.aload_n 0, 1) := by decide +kernel
theorem dL_law_730 : decode cL_law 730 = .ok (.iload_n 3, 1) := by decide +kernel
theorem dL_law_731 : decode cL_law 731 = .ok (.iconst 2, 1) := by decide +kernel
theorem dL_law_732 : decode cL_law 732 = .ok (.iadd, 1) := by decide +kernel
theorem dL_law_733 : decode cL_law 733 = .ok (.iaload, 1) := by decide +kernel
theorem dL_law_734 : decode cL_law 734 = .ok (.aload_n 0, 1) := by decide +kernel
theorem dL_law_735 : decode cL_law 735 = .ok (.iload_n 3, 1) := by decide +kernel
theorem dL_law_736 : decode cL_law 736 = .ok (.iconst 3, 1) := by decide +kernel
theorem dL_law_737 : decode cL_law 737 = .ok (.iadd, 1) := by decide +kernel
theorem dL_law_738 : decode cL_law 738 = .ok (.iaload, 1) := by decide +kernel
theorem dL_law_739 : decode cL_law 739 = .ok (.invokevirtual 87, 3) := by decide +kernel
theorem dL_law_742 : decode cL_law 742 = .ok (.aload_n 2, 1) := by decide +kernel
theorem dL_law_743 : decode cL_law 743 = .ok (.aload_n 0, 1) := by decide +kernel
theorem dL_law_744 : decode cL_law 744 = .ok (.iload_n 3, 1) := by decide +kernel
theorem dL_law_745 : decode cL_law 745 = .ok (.iconst 1, 1) := by decide +kernel
theorem dL_law_746 : decode cL_law 746 = .ok (.iadd, 1) := by decide +kernel
theorem dL_law_747 : decode cL_law 747 = .ok (.iaload, 1) := by decide +kernel
theorem dL_law_748 : decode cL_law 748 = .ok (.aload_n 0, 1) := by decide +kernel
theorem dL_law_749 : decode cL_law 749 = .ok (.iload_n 3, 1) := by decide +kernel
theorem dL_law_750 : decode cL_law 750 = .ok (.iconst 2, 1) := by decide +kernel
theorem dL_law_751 : decode cL_law 751 = .ok (.iadd, 1) := by decide +kernel
theorem dL_law_752 : decode cL_law 752 = .ok (.iaload, 1) := by decide +kernel
theorem dL_law_753 : decode cL_law 753 = .ok (.aload_n 0, 1) := by decide +kernel
theorem dL_law_754 : decode cL_law 754 = .ok (.iload_n 3, 1) := by decide +kernel
theorem dL_law_755 : decode cL_law 755 = .ok (.iconst 3, 1) := by decide +kernel
theorem dL_law_756 : decode cL_law 756 = .ok (.iadd, 1) := by decide +kernel
theorem dL_law_757 : decode cL_law 757 = .ok (.iaload, 1) := by decide +kernel
theorem dL_law_758 : decode cL_law 758 = .ok (.invokevirtual 90, 3) := by decide +kernel
theorem dL_law_761 : decode cL_law 761 = .ok (.if_icmp .eq 354, 3) := by decide +kernel
theorem dL_law_764 : decode cL_law 764 = .ok (.iconst 0, 1) := by decide +kernel
theorem dL_law_765 : decode cL_law 765 = .ok (.ireturn, 1) := by decide +kernel
theorem dL_law_766 : decode cL_law 766 = .ok (.aload_n 1, 1) := by decide +kernel
theorem dL_law_767 : decode cL_law 767 = .ok (.invokevirtual 91, 3) := by decide +kernel
theorem dL_law_770 : decode cL_law 770 = .ok (.aload_n 2, 1) := by decide +kernel
theorem dL_law_771 : decode cL_law 771 = .ok (.invokevirtual 94, 3) := by decide +kernel
theorem dL_law_774 : decode cL_law 774 = .ok (.if_icmp .eq 341, 3) := by decide +kernel
theorem dL_law_777 : decode cL_law 777 = .ok (.iconst 0, 1) := by decide +kernel
theorem dL_law_778 : decode cL_law 778 = .ok (.ireturn, 1) := by decide +kernel
theorem dL_law_779 : decode cL_law 779 = .ok (.aload_n 1, 1) := by decide +kernel
theorem dL_law_780 : decode cL_law 780 = .ok (.aload_n 0, 1) := by decide +kernel
theorem dL_law_781 : decode cL_law 781 = .ok (.iload_n 3, 1) := by decide +kernel
theorem dL_law_782 : decode cL_law 782 = .ok (.iconst 1, 1) := by decide +kernel
theorem dL_law_783 : decode cL_law 783 = .ok (.iadd, 1) := by decide +kernel
theorem dL_law_784 : decode cL_law 784 = .ok (.iaload, 1) := by decide +kernel
theorem dL_law_785 : decode cL_law 785 = .ok (.invokevirtual 95, 3) := by decide +kernel
theorem dL_law_788 : decode cL_law 788 = .ok (.aload_n 2, 1) := by decide +kernel
theorem dL_law_789 : decode cL_law 789 = .ok (.aload_n 0, 1) := by decide +kernel
theorem dL_law_790 : decode cL_law 790 = .ok (.iload_n 3, 1) := by decide +kernel
theorem dL_law_791 : decode cL_law 791 = .ok (.iconst 1, 1) := by decide +kernel
theorem dL_law_792 : decode cL_law 792 = .ok (.iadd, 1) := by decide +kernel
theorem dL_law_793 : decode cL_law 793 = .ok (.iaload, 1) := by decide +kernel
theorem dL_law_794 : decode cL_law 794 = .ok (.invokevirtual 98, 3) := by decide +kernel
theorem dL_law_797 : decode cL_law 797 = .ok (.if_icmp .eq 318, 3) := by decide +kernel
theorem dL_law_800 : decode cL_law 800 = .ok (.iconst 0, 1) := by decide +kernel
theorem dL_law_801 : decode cL_law 801 = .ok (.ireturn, 1) := by decide +kernel
theorem dL_law_802 : decode cL_law 802 = .ok (.aload_n 1, 1) := by decide +kernel
theorem dL_law_803 : decode cL_law 803 = .ok (.aload_n 0, 1) := by decide +kernel
theorem dL_law_804 : decode cL_law 804 = .ok (.iload_n 3, 1) := by decide +kernel
theorem dL_law_805 : decode cL_law 805 = .ok (.iconst 1, 1) := by decide +kernel
theorem dL_law_806 : decode cL_law 806 = .ok (.iadd, 1) := by decide +kernel
theorem dL_law_807 : decode cL_law 807 = .ok (.iaload, 1) := by decide +kernel
theorem dL_law_808 : decode cL_law 808 = .ok (.aload_n 0, 1) := by decide +kernel
theorem dL_law_809 : decode cL_law 809 = .ok (.iload_n 3, 1) := by decide +kernel
theorem dL_law_810 : decode cL_law 810 = .ok (.iconst 2, 1) := by decide +kernel
theorem dL_law_811 : decode cL_law 811 = .ok (.iadd, 1) := by decide +kernel
theorem dL_law_812 : decode cL_law 812 = .ok (.iaload, 1) := by decide +kernel
theorem dL_law_813 : decode cL_law 813 = .ok (.invokevirtual 99, 3) := by decide +kernel
theorem dL_law_816 : decode cL_law 816 = .ok (.aload_n 2, 1) := by decide +kernel
theorem dL_law_817 : decode cL_law 817 = .ok (.aload_n 0, 1) := by decide +kernel
theorem dL_law_818 : decode cL_law 818 = .ok (.iload_n 3, 1) := by decide +kernel
theorem dL_law_819 : decode cL_law 819 = .ok (.iconst 1, 1) := by decide +kernel
theorem dL_law_820 : decode cL_law 820 = .ok (.iadd, 1) := by decide +kernel
theorem dL_law_821 : decode cL_law 821 = .ok (.iaload, 1) := by decide +kernel
theorem dL_law_822 : decode cL_law 822 = .ok (.aload_n 0, 1) := by decide +kernel
theorem dL_law_823 : decode cL_law 823 = .ok (.iload_n 3, 1) := by decide +kernel
theorem dL_law_824 : decode cL_law 824 = .ok (.iconst 2, 1) := by decide +kernel
theorem dL_law_825 : decode cL_law 825 = .ok (.iadd, 1) := by decide +kernel
theorem dL_law_826 : decode cL_law 826 = .ok (.iaload, 1) := by decide +kernel
theorem dL_law_827 : decode cL_law 827 = .ok (.invokevirtual 102, 3) := by decide +kernel
theorem dL_law_830 : decode cL_law 830 = .ok (.if_icmp .eq 285, 3) := by decide +kernel
theorem dL_law_833 : decode cL_law 833 = .ok (.iconst 0, 1) := by decide +kernel
theorem dL_law_834 : decode cL_law 834 = .ok (.ireturn, 1) := by decide +kernel
theorem dL_law_835 : decode cL_law 835 = .ok (.aload_n 1, 1) := by decide +kernel
theorem dL_law_836 : decode cL_law 836 = .ok (.aload_n 0, 1) := by decide +kernel
theorem dL_law_837 : decode cL_law 837 = .ok (.iload_n 3, 1) := by decide +kernel
theorem dL_law_838 : decode cL_law 838 = .ok (.iconst 1, 1) := by decide +kernel
theorem dL_law_839 : decode cL_law 839 = .ok (.iadd, 1) := by decide +kernel
theorem dL_law_840 : decode cL_law 840 = .ok (.iaload, 1) := by decide +kernel
theorem dL_law_841 : decode cL_law 841 = .ok (.aload_n 0, 1) := by decide +kernel
theorem dL_law_842 : decode cL_law 842 = .ok (.iload_n 3, 1) := by decide +kernel
theorem dL_law_843 : decode cL_law 843 = .ok (.iconst 2, 1) := by decide +kernel
theorem dL_law_844 : decode cL_law 844 = .ok (.iadd, 1) := by decide +kernel
theorem dL_law_845 : decode cL_law 845 = .ok (.iaload, 1) := by decide +kernel
theorem dL_law_846 : decode cL_law 846 = .ok (.invokevirtual 103, 3) := by decide +kernel
theorem dL_law_849 : decode cL_law 849 = .ok (.aload_n 2, 1) := by decide +kernel
theorem dL_law_850 : decode cL_law 850 = .ok (.aload_n 0, 1) := by decide +kernel
theorem dL_law_851 : decode cL_law 851 = .ok (.iload_n 3, 1) := by decide +kernel
theorem dL_law_852 : decode cL_law 852 = .ok (.iconst 1, 1) := by decide +kernel
theorem dL_law_853 : decode cL_law 853 = .ok (.iadd, 1) := by decide +kernel
theorem dL_law_854 : decode cL_law 854 = .ok (.iaload, 1) := by decide +kernel
theorem dL_law_855 : decode cL_law 855 = .ok (.aload_n 0, 1) := by decide +kernel
theorem dL_law_856 : decode cL_law 856 = .ok (.iload_n 3, 1) := by decide +kernel
theorem dL_law_857 : decode cL_law 857 = .ok (.iconst 2, 1) := by decide +kernel
theorem dL_law_858 : decode cL_law 858 = .ok (.iadd, 1) := by decide +kernel
theorem dL_law_859 : decode cL_law 859 = .ok (.iaload, 1) := by decide +kernel
theorem dL_law_860 : decode cL_law 860 = .ok (.invokevirtual 106, 3) := by decide +kernel
theorem dL_law_863 : decode cL_law 863 = .ok (.if_icmp .eq 252, 3) := by decide +kernel
theorem dL_law_866 : decode cL_law 866 = .ok (.iconst 0, 1) := by decide +kernel
theorem dL_law_867 : decode cL_law 867 = .ok (.ireturn, 1) := by decide +kernel
theorem dL_law_868 : decode cL_law 868 = .ok (.aload_n 1, 1) := by decide +kernel
theorem dL_law_869 : decode cL_law 869 = .ok (.aload_n 0, 1) := by decide +kernel
theorem dL_law_870 : decode cL_law 870 = .ok (.iload_n 3, 1) := by decide +kernel
theorem dL_law_871 : decode cL_law 871 = .ok (.iconst 1, 1) := by decide +kernel
theorem dL_law_872 : decode cL_law 872 = .ok (.iadd, 1) := by decide +kernel
theorem dL_law_873 : decode cL_law 873 = .ok (.iaload, 1) := by decide +kernel
theorem dL_law_874 : decode cL_law 874 = .ok (.aload_n 0, 1) := by decide +kernel
theorem dL_law_875 : decode cL_law 875 = .ok (.iload_n 3, 1) := by decide +kernel
theorem dL_law_876 : decode cL_law 876 = .ok (.iconst 2, 1) := by decide +kernel
theorem dL_law_877 : decode cL_law 877 = .ok (.iadd, 1) := by decide +kernel
theorem dL_law_878 : decode cL_law 878 = .ok (.iaload, 1) := by decide +kernel
theorem dL_law_879 : decode cL_law 879 = .ok (.aload_n 0, 1) := by decide +kernel
theorem dL_law_880 : decode cL_law 880 = .ok (.iload_n 3, 1) := by decide +kernel
theorem dL_law_881 : decode cL_law 881 = .ok (.iconst 3, 1) := by decide +kernel
theorem dL_law_882 : decode cL_law 882 = .ok (.iadd, 1) := by decide +kernel
theorem dL_law_883 : decode cL_law 883 = .ok (.iaload, 1) := by decide +kernel
theorem dL_law_884 : decode cL_law 884 = .ok (.aload_n 0, 1) := by decide +kernel
theorem dL_law_885 : decode cL_law 885 = .ok (.iload_n 3, 1) := by decide +kernel
theorem dL_law_886 : decode cL_law 886 = .ok (.iconst 4, 1) := by decide +kernel
theorem dL_law_887 : decode cL_law 887 = .ok (.iadd, 1) := by decide +kernel
theorem dL_law_888 : decode cL_law 888 = .ok (.iaload, 1) := by decide +kernel
theorem dL_law_889 : decode cL_law 889 = .ok (.invokevirtual 107, 3) := by decide +kernel
theorem dL_law_892 : decode cL_law 892 = .ok (.aload_n 2, 1) := by decide +kernel
theorem dL_law_893 : decode cL_law 893 = .ok (.aload_n 0, 1) := by decide +kernel
theorem dL_law_894 : decode cL_law 894 = .ok (.iload_n 3, 1) := by decide +kernel
theorem dL_law_895 : decode cL_law 895 = .ok (.iconst 1, 1) := by decide +kernel
theorem dL_law_896 : decode cL_law 896 = .ok (.iadd, 1) := by decide +kernel
theorem dL_law_897 : decode cL_law 897 = .ok (.iaload, 1) := by decide +kernel
theorem dL_law_898 : decode cL_law 898 = .ok (.aload_n 0, 1) := by decide +kernel
theorem dL_law_899 : decode cL_law 899 = .ok (.iload_n 3, 1) := by decide +kernel
theorem dL_law_900 : decode cL_law 900 = .ok (.iconst 2, 1) := by decide +kernel
theorem dL_law_901 : decode cL_law 901 = .ok (.iadd, 1) := by decide +kernel
theorem dL_law_902 : decode cL_law 902 = .ok (.iaload, 1) := by decide +kernel
theorem dL_law_903 : decode cL_law 903 = .ok (.aload_n 0, 1) := by decide +kernel
theorem dL_law_904 : decode cL_law 904 = .ok (.iload_n 3, 1) := by decide +kernel
theorem dL_law_905 : decode cL_law 905 = .ok (.iconst 3, 1) := by decide +kernel
theorem dL_law_906 : decode cL_law 906 = .ok (.iadd, 1) := by decide +kernel
theorem dL_law_907 : decode cL_law 907 = .ok (.iaload, 1) := by decide +kernel
theorem dL_law_908 : decode cL_law 908 = .ok (.aload_n 0, 1) := by decide +kernel
theorem dL_law_909 : decode cL_law 909 = .ok (.iload_n 3, 1) := by decide +kernel
theorem dL_law_910 : decode cL_law 910 = .ok (.iconst 4, 1) := by decide +kernel
theorem dL_law_911 : decode cL_law 911 = .ok (.iadd, 1) := by decide +kernel
theorem dL_law_912 : decode cL_law 912 = .ok (.iaload, 1) := by decide +kernel
theorem dL_law_913 : decode cL_law 913 = .ok (.invokevirtual 110, 3) := by decide +kernel
theorem dL_law_916 : decode cL_law 916 = .ok (.if_icmp .eq 199, 3) := by decide +kernel
theorem dL_law_919 : decode cL_law 919 = .ok (.iconst 0, 1) := by decide +kernel
theorem dL_law_920 : decode cL_law 920 = .ok (.ireturn, 1) := by decide +kernel
theorem dL_law_921 : decode cL_law 921 = .ok (.aload_n 1, 1) := by decide +kernel
theorem dL_law_922 : decode cL_law 922 = .ok (.aload_n 0, 1) := by decide +kernel
theorem dL_law_923 : decode cL_law 923 = .ok (.iload_n 3, 1) := by decide +kernel
theorem dL_law_924 : decode cL_law 924 = .ok (.iconst 1, 1) := by decide +kernel
theorem dL_law_925 : decode cL_law 925 = .ok (.iadd, 1) := by decide +kernel
theorem dL_law_926 : decode cL_law 926 = .ok (.iaload, 1) := by decide +kernel
theorem dL_law_927 : decode cL_law 927 = .ok (.invokevirtual 111, 3) := by decide +kernel
theorem dL_law_930 : decode cL_law 930 = .ok (.aload_n 2, 1) := by decide +kernel
theorem dL_law_931 : decode cL_law 931 = .ok (.aload_n 0, 1) := by decide +kernel
theorem dL_law_932 : decode cL_law 932 = .ok (.iload_n 3, 1) := by decide +kernel
theorem dL_law_933 : decode cL_law 933 = .ok (.iconst 1, 1) := by decide +kernel
theorem dL_law_934 : decode cL_law 934 = .ok (.iadd, 1) := by decide +kernel
theorem dL_law_935 : decode cL_law 935 = .ok (.iaload, 1) := by decide +kernel
theorem dL_law_936 : decode cL_law 936 = .ok (.invokevirtual 114, 3) := by decide +kernel
theorem dL_law_939 : decode cL_law 939 = .ok (.if_icmp .eq 176, 3) := by decide +kernel
theorem dL_law_942 : decode cL_law 942 = .ok (.iconst 0, 1) := by decide +kernel
theorem dL_law_943 : decode cL_law 943 = .ok (.ireturn, 1) := by decide +kernel
theorem dL_law_944 : decode cL_law 944 = .ok (.aload_n 1, 1) := by decide +kernel
theorem dL_law_945 : decode cL_law 945 = .ok (.aload_n 0, 1) := by decide +kernel
theorem dL_law_946 : decode cL_law 946 = .ok (.iload_n 3, 1) := by decide +kernel
theorem dL_law_947 : decode cL_law 947 = .ok (.iconst 1, 1) := by decide +kernel
theorem dL_law_948 : decode cL_law 948 = .ok (.iadd, 1) := by decide +kernel
theorem dL_law_949 : decode cL_law 949 = .ok (.iaload, 1) := by decide +kernel
theorem dL_law_950 : decode cL_law 950 = .ok (.invokevirtual 115, 3) := by decide +kernel
theorem dL_law_953 : decode cL_law 953 = .ok (.aload_n 2, 1) := by decide +kernel
theorem dL_law_954 : decode cL_law 954 = .ok (.aload_n 0, 1) := by decide +kernel
theorem dL_law_955 : decode cL_law 955 = .ok (.iload_n 3, 1) := by decide +kernel
theorem dL_law_956 : decode cL_law 956 = .ok (.iconst 1, 1) := by decide +kernel
theorem dL_law_957 : decode cL_law 957 = .ok (.iadd, 1) := by decide +kernel
theorem dL_law_958 : decode cL_law 958 = .ok (.iaload, 1) := by decide +kernel
theorem dL_law_959 : decode cL_law 959 = .ok (.invokevirtual 118, 3) := by decide +kernel
theorem dL_law_962 : decode cL_law 962 = .ok (.if_icmp .eq 153, 3) := by decide +kernel
theorem dL_law_965 : decode cL_law 965 = .ok (.iconst 0, 1) := by decide +kernel
theorem dL_law_966 : decode cL_law 966 = .ok (.ireturn, 1) := by decide +kernel
theorem dL_law_967 : decode cL_law 967 = .ok (.aload_n 1, 1) := by decide +kernel
theorem dL_law_968 : decode cL_law 968 = .ok (.aload_n 0, 1) := by decide +kernel
theorem dL_law_969 : decode cL_law 969 = .ok (.iload_n 3, 1) := by decide +kernel
theorem dL_law_970 : decode cL_law 970 = .ok (.iconst 1, 1) := by decide +kernel
theorem dL_law_971 : decode cL_law 971 = .ok (.iadd, 1) := by decide +kernel
theorem dL_law_972 : decode cL_law 972 = .ok (.iaload, 1) := by decide +kernel
theorem dL_law_973 : decode cL_law 973 = .ok (.invokevirtual 119, 3) := by decide +kernel
theorem dL_law_976 : decode cL_law 976 = .ok (.aload_n 2, 1) := by decide +kernel
theorem dL_law_977 : decode cL_law 977 = .ok (.aload_n 0, 1) := by decide +kernel
theorem dL_law_978 : decode cL_law 978 = .ok (.iload_n 3, 1) := by decide +kernel
theorem dL_law_979 : decode cL_law 979 = .ok (.iconst 1, 1) := by decide +kernel
theorem dL_law_980 : decode cL_law 980 = .ok (.iadd, 1) := by decide +kernel
theorem dL_law_981 : decode cL_law 981 = .ok (.iaload, 1) := by decide +kernel
theorem dL_law_982 : decode cL_law 982 = .ok (.invokevirtual 122, 3) := by decide +kernel
theorem dL_law_985 : decode cL_law 985 = .ok (.if_icmp .eq 130, 3) := by decide +kernel
theorem dL_law_988 : decode cL_law 988 = .ok (.iconst 0, 1) := by decide +kernel
theorem dL_law_989 : decode cL_law 989 = .ok (.ireturn, 1) := by decide +kernel
theorem dL_law_990 : decode cL_law 990 = .ok (.aload_n 1, 1) := by decide +kernel
theorem dL_law_991 : decode cL_law 991 = .ok (.aload_n 0, 1) := by decide +kernel
theorem dL_law_992 : decode cL_law 992 = .ok (.iload_n 3, 1) := by decide +kernel
theorem dL_law_993 : decode cL_law 993 = .ok (.iconst 1, 1) := by decide +kernel
theorem dL_law_994 : decode cL_law 994 = .ok (.iadd, 1) := by decide +kernel
theorem dL_law_995 : decode cL_law 995 = .ok (.iaload, 1) := by decide +kernel
theorem dL_law_996 : decode cL_law 996 = .ok (.aload_n 0, 1) := by decide +kernel
theorem dL_law_997 : decode cL_law 997 = .ok (.iload_n 3, 1) := by decide +kernel
theorem dL_law_998 : decode cL_law 998 = .ok (.iconst 2, 1) := by decide +kernel
theorem dL_law_999 : decode cL_law 999 = .ok (.iadd, 1) := by decide +kernel
theorem dL_law_1000 : decode cL_law 1000 = .ok (.iaload, 1) := by decide +kernel
theorem dL_law_1001 : decode cL_law 1001 = .ok (.invokevirtual 123, 3) := by decide +kernel
theorem dL_law_1004 : decode cL_law 1004 = .ok (.aload_n 2, 1) := by decide +kernel
theorem dL_law_1005 : decode cL_law 1005 = .ok (.aload_n 0, 1) := by decide +kernel
theorem dL_law_1006 : decode cL_law 1006 = .ok (.iload_n 3, 1) := by decide +kernel
theorem dL_law_1007 : decode cL_law 1007 = .ok (.iconst 1, 1) := by decide +kernel
theorem dL_law_1008 : decode cL_law 1008 = .ok (.iadd, 1) := by decide +kernel
theorem dL_law_1009 : decode cL_law 1009 = .ok (.iaload, 1) := by decide +kernel
theorem dL_law_1010 : decode cL_law 1010 = .ok (.aload_n 0, 1) := by decide +kernel
theorem dL_law_1011 : decode cL_law 1011 = .ok (.iload_n 3, 1) := by decide +kernel
theorem dL_law_1012 : decode cL_law 1012 = .ok (.iconst 2, 1) := by decide +kernel
theorem dL_law_1013 : decode cL_law 1013 = .ok (.iadd, 1) := by decide +kernel
theorem dL_law_1014 : decode cL_law 1014 = .ok (.iaload, 1) := by decide +kernel
theorem dL_law_1015 : decode cL_law 1015 = .ok (.invokevirtual 126, 3) := by decide +kernel
theorem dL_law_1018 : decode cL_law 1018 = .ok (.if_icmp .eq 97, 3) := by decide +kernel
theorem dL_law_1021 : decode cL_law 1021 = .ok (.iconst 0, 1) := by decide +kernel
theorem dL_law_1022 : decode cL_law 1022 = .ok (.ireturn, 1) := by decide +kernel
theorem dL_law_1023 : decode cL_law 1023 = .ok (.aload_n 1, 1) := by decide +kernel
theorem dL_law_1024 : decode cL_law 1024 = .ok (.aload_n 0, 1) := by decide +kernel
theorem dL_law_1025 : decode cL_law 1025 = .ok (.iload_n 3, 1) := by decide +kernel
theorem dL_law_1026 : decode cL_law 1026 = .ok (.iconst 1, 1) := by decide +kernel
theorem dL_law_1027 : decode cL_law 1027 = .ok (.iadd, 1) := by decide +kernel
theorem dL_law_1028 : decode cL_law 1028 = .ok (.iaload, 1) := by decide +kernel
theorem dL_law_1029 : decode cL_law 1029 = .ok (.aload_n 0, 1) := by decide +kernel
theorem dL_law_1030 : decode cL_law 1030 = .ok (.iload_n 3, 1) := by decide +kernel
theorem dL_law_1031 : decode cL_law 1031 = .ok (.iconst 2, 1) := by decide +kernel
theorem dL_law_1032 : decode cL_law 1032 = .ok (.iadd, 1) := by decide +kernel
theorem dL_law_1033 : decode cL_law 1033 = .ok (.iaload, 1) := by decide +kernel
theorem dL_law_1034 : decode cL_law 1034 = .ok (.invokevirtual 127, 3) := by decide +kernel
theorem dL_law_1037 : decode cL_law 1037 = .ok (.aload_n 2, 1) := by decide +kernel
theorem dL_law_1038 : decode cL_law 1038 = .ok (.aload_n 0, 1) := by decide +kernel
theorem dL_law_1039 : decode cL_law 1039 = .ok (.iload_n 3, 1) := by decide +kernel
theorem dL_law_1040 : decode cL_law 1040 = .ok (.iconst 1, 1) := by decide +kernel
theorem dL_law_1041 : decode cL_law 1041 = .ok (.iadd, 1) := by decide +kernel
theorem dL_law_1042 : decode cL_law 1042 = .ok (.iaload, 1) := by decide +kernel
theorem dL_law_1043 : decode cL_law 1043 = .ok (.aload_n 0, 1) := by decide +kernel
theorem dL_law_1044 : decode cL_law 1044 = .ok (.iload_n 3, 1) := by decide +kernel
theorem dL_law_1045 : decode cL_law 1045 = .ok (.iconst 2, 1) := by decide +kernel
theorem dL_law_1046 : decode cL_law 1046 = .ok (.iadd, 1) := by decide +kernel
theorem dL_law_1047 : decode cL_law 1047 = .ok (.iaload, 1) := by decide +kernel
theorem dL_law_1048 : decode cL_law 1048 = .ok (.invokevirtual 130, 3) := by decide +kernel
theorem dL_law_1051 : decode cL_law 1051 = .ok (.if_icmp .eq 64, 3) := by decide +kernel
theorem dL_law_1054 : decode cL_law 1054 = .ok (.iconst 0, 1) := by decide +kernel
theorem dL_law_1055 : decode cL_law 1055 = .ok (.ireturn, 1) := by decide +kernel
theorem dL_law_1056 : decode cL_law 1056 = .ok (.aload_n 1, 1) := by decide +kernel
theorem dL_law_1057 : decode cL_law 1057 = .ok (.aload_n 0, 1) := by decide +kernel
theorem dL_law_1058 : decode cL_law 1058 = .ok (.iload_n 3, 1) := by decide +kernel
theorem dL_law_1059 : decode cL_law 1059 = .ok (.iconst 1, 1) := by decide +kernel
theorem dL_law_1060 : decode cL_law 1060 = .ok (.iadd, 1) := by decide +kernel
theorem dL_law_1061 : decode cL_law 1061 = .ok (.iaload, 1) := by decide +kernel
theorem dL_law_1062 : decode cL_law 1062 = .ok (.invokevirtual 131, 3) := by decide +kernel
theorem dL_law_1065 : decode cL_law 1065 = .ok (.aload_n 2, 1) := by decide +kernel
theorem dL_law_1066 : decode cL_law 1066 = .ok (.aload_n 0, 1) := by decide +kernel
theorem dL_law_1067 : decode cL_law 1067 = .ok (.iload_n 3, 1) := by decide +kernel
theorem dL_law_1068 : decode cL_law 1068 = .ok (.iconst 1, 1) := by decide +kernel
theorem dL_law_1069 : decode cL_law 1069 = .ok (.iadd, 1) := by decide +kernel
theorem dL_law_1070 : decode cL_law 1070 = .ok (.iaload, 1) := by decide +kernel
theorem dL_law_1071 : decode cL_law 1071 = .ok (.invokevirtual 134, 3) := by decide +kernel
theorem dL_law_1074 : decode cL_law 1074 = .ok (.if_icmp .eq 41, 3) := by decide +kernel
theorem dL_law_1077 : decode cL_law 1077 = .ok (.iconst 0, 1) := by decide +kernel
theorem dL_law_1078 : decode cL_law 1078 = .ok (.ireturn, 1) := by decide +kernel
theorem dL_law_1079 : decode cL_law 1079 = .ok (.aload_n 1, 1) := by decide +kernel
theorem dL_law_1080 : decode cL_law 1080 = .ok (.aload_n 0, 1) := by decide +kernel
theorem dL_law_1081 : decode cL_law 1081 = .ok (.iload_n 3, 1) := by decide +kernel
theorem dL_law_1082 : decode cL_law 1082 = .ok (.iconst 1, 1) := by decide +kernel
theorem dL_law_1083 : decode cL_law 1083 = .ok (.iadd, 1) := by decide +kernel
theorem dL_law_1084 : decode cL_law 1084 = .ok (.iaload, 1) := by decide +kernel
theorem dL_law_1085 : decode cL_law 1085 = .ok (.invokevirtual 135, 3) := by decide +kernel
theorem dL_law_1088 : decode cL_law 1088 = .ok (.aload_n 2, 1) := by decide +kernel
theorem dL_law_1089 : decode cL_law 1089 = .ok (.aload_n 0, 1) := by decide +kernel
theorem dL_law_1090 : decode cL_law 1090 = .ok (.iload_n 3, 1) := by decide +kernel
theorem dL_law_1091 : decode cL_law 1091 = .ok (.iconst 1, 1) := by decide +kernel
theorem dL_law_1092 : decode cL_law 1092 = .ok (.iadd, 1) := by decide +kernel
theorem dL_law_1093 : decode cL_law 1093 = .ok (.iaload, 1) := by decide +kernel
theorem dL_law_1094 : decode cL_law 1094 = .ok (.invokevirtual 138, 3) := by decide +kernel
theorem dL_law_1097 : decode cL_law 1097 = .ok (.if_icmp .eq 18, 3) := by decide +kernel
theorem dL_law_1100 : decode cL_law 1100 = .ok (.iconst 0, 1) := by decide +kernel
theorem dL_law_1101 : decode cL_law 1101 = .ok (.ireturn, 1) := by decide +kernel
theorem dL_law_1102 : decode cL_law 1102 = .ok (.aload_n 1, 1) := by decide +kernel
theorem dL_law_1103 : decode cL_law 1103 = .ok (.invokevirtual 139, 3) := by decide +kernel
theorem dL_law_1106 : decode cL_law 1106 = .ok (.aload_n 2, 1) := by decide +kernel
theorem dL_law_1107 : decode cL_law 1107 = .ok (.invokevirtual 142, 3) := by decide +kernel
theorem dL_law_1110 : decode cL_law 1110 = .ok (.if_icmp .eq 5, 3) := by decide +kernel
theorem dL_law_1113 : decode cL_law 1113 = .ok (.iconst 0, 1) := by decide +kernel
theorem dL_law_1114 : decode cL_law 1114 = .ok (.ireturn, 1) := by decide +kernel
theorem dL_law_1115 : decode cL_law 1115 = .ok (.iinc 3 6, 3) := by decide +kernel
theorem dL_law_1118 : decode cL_law 1118 = .ok (.goto (-1100), 3) := by decide +kernel
theorem dL_law_1121 : decode cL_law 1121 = .ok (.iconst 1, 1) := by decide +kernel
theorem dL_law_1122 : decode cL_law 1122 = .ok (.ireturn, 1) := by decide +kernel
end
section
/-! the words of the tables that are kept over a call; a word by its place -/
def mv_all : List Cond := lw_tbl.filter goodWord
theorem mv_good : GoodIn lw_tbl mv_all := fun w h => ⟨(List.mem_filter.mp h).1, good_of_word (List.mem_filter.mp h).2⟩
theorem mv_goodS : GoodIn mv_all mv_all := fun w h => ⟨h, good_of_word (List.mem_filter.mp h).2⟩
theorem mv_tb {w : Cond} (h : w ∈ tables_1) : w ∈ lw_tbl := List.mem_append_right _ h
theorem mv_t1 {w : Cond} {i : Nat} (h : tables_1_1[i]? = some w) : w ∈ lw_tbl := mv_tb (List.mem_append_left _ (List.mem_of_getElem? h))
theorem mv_t2 {w : Cond} {i : Nat} (h : tables_1_2[i]? = some w) : w ∈ lw_tbl := mv_tb (List.mem_append_right _ (List.mem_append_left _ (List.mem_of_getElem? h)))
theorem mv_t3 {w : Cond} {i : Nat} (h : tables_1_3[i]? = some w) : w ∈ lw_tbl := mv_tb (List.mem_append_right _ (List.mem_append_right _ (List.mem_append_left _ (List.mem_of_getElem? h))))
theorem mv_t4 {w : Cond} {i : Nat} (h : tables_1_4[i]? = some w) : w ∈ lw_tbl := mv_tb (List.mem_append_right _ (List.mem_append_right _ (List.mem_append_right _ (List.mem_append_left _ (List.mem_of_getElem? h)))))
theorem mv_t5 {w : Cond} {i : Nat} (h : tables_1_5[i]? = some w) : w ∈ lw_tbl := mv_tb (List.mem_append_right _ (List.mem_append_right _ (List.mem_append_right _ (List.mem_append_right _ (List.mem_append_left _ (List.mem_of_getElem? h))))))
theorem mv_t6 {w : Cond} {i : Nat} (h : tables_1_6[i]? = some w) : w ∈ lw_tbl := mv_tb (List.mem_append_right _ (List.mem_append_right _ (List.mem_append_right _ (List.mem_append_right _ (List.mem_append_right _ (List.mem_of_getElem? h))))))
theorem mv_g {w : Cond} (h : w ∈ lw_tbl) (g : goodWord w = true) : w ∈ mv_all := List.mem_filter.mpr ⟨h, g⟩
theorem mv_p1 {y : MethodName} {n i : Nat} (h : lw_privs_1[i]? = some (y, n)) : Cond.selects y.cls y y ∈ mv_all := mv_g (List.mem_append_left _ (List.mem_map.mpr ⟨(y, n), List.mem_append_left _ (List.mem_of_getElem? h), rfl⟩)) rfl
theorem mv_p2 {y : MethodName} {n i : Nat} (h : lw_privs_2[i]? = some (y, n)) : Cond.selects y.cls y y ∈ mv_all := mv_g (List.mem_append_left _ (List.mem_map.mpr ⟨(y, n), List.mem_append_right _ (List.mem_append_left _ (List.mem_of_getElem? h)), rfl⟩)) rfl
theorem mv_p3 {y : MethodName} {n i : Nat} (h : lw_privs_3[i]? = some (y, n)) : Cond.selects y.cls y y ∈ mv_all := mv_g (List.mem_append_left _ (List.mem_map.mpr ⟨(y, n), List.mem_append_right _ (List.mem_append_right _ (List.mem_append_left _ (List.mem_of_getElem? h))), rfl⟩)) rfl
theorem mv_p4 {y : MethodName} {n i : Nat} (h : lw_privs_4[i]? = some (y, n)) : Cond.selects y.cls y y ∈ mv_all := mv_g (List.mem_append_left _ (List.mem_map.mpr ⟨(y, n), List.mem_append_right _ (List.mem_append_right _ (List.mem_append_right _ (List.mem_append_left _ (List.mem_of_getElem? h)))), rfl⟩)) rfl
theorem mv_p5 {y : MethodName} {n i : Nat} (h : lw_privs_5[i]? = some (y, n)) : Cond.selects y.cls y y ∈ mv_all := mv_g (List.mem_append_left _ (List.mem_map.mpr ⟨(y, n), List.mem_append_right _ (List.mem_append_right _ (List.mem_append_right _ (List.mem_append_right _ (List.mem_append_left _ (List.mem_of_getElem? h))))), rfl⟩)) rfl
theorem mv_p6 {y : MethodName} {n i : Nat} (h : lw_privs_6[i]? = some (y, n)) : Cond.selects y.cls y y ∈ mv_all := mv_g (List.mem_append_left _ (List.mem_map.mpr ⟨(y, n), List.mem_append_right _ (List.mem_append_right _ (List.mem_append_right _ (List.mem_append_right _ (List.mem_append_right _ (List.mem_append_left _ (List.mem_of_getElem? h)))))), rfl⟩)) rfl
theorem mv_p7 {y : MethodName} {n i : Nat} (h : lw_privs_7[i]? = some (y, n)) : Cond.selects y.cls y y ∈ mv_all := mv_g (List.mem_append_left _ (List.mem_map.mpr ⟨(y, n), List.mem_append_right _ (List.mem_append_right _ (List.mem_append_right _ (List.mem_append_right _ (List.mem_append_right _ (List.mem_append_right _ (List.mem_append_left _ (List.mem_of_getElem? h))))))), rfl⟩)) rfl
theorem mv_p8 {y : MethodName} {n i : Nat} (h : lw_privs_8[i]? = some (y, n)) : Cond.selects y.cls y y ∈ mv_all := mv_g (List.mem_append_left _ (List.mem_map.mpr ⟨(y, n), List.mem_append_right _ (List.mem_append_right _ (List.mem_append_right _ (List.mem_append_right _ (List.mem_append_right _ (List.mem_append_right _ (List.mem_append_right _ (List.mem_of_getElem? h))))))), rfl⟩)) rfl
theorem lwX0_0 : u_lay RX0 TX0 0 ∈ mv_all := mv_g (mv_t1 (i := 173) (by decide +kernel)) rfl
theorem lwX0_1 : u_lay RX0 TX0 1 ∈ mv_all := mv_g (mv_t1 (i := 175) (by decide +kernel)) rfl
theorem lwX0_2 : u_lay RX0 TX0 2 ∈ mv_all := mv_g (mv_t1 (i := 177) (by decide +kernel)) rfl
theorem lwX0_3 : u_lay RX0 TX0 3 ∈ mv_all := mv_g (mv_t1 (i := 179) (by decide +kernel)) rfl
theorem inmX0 : ∀ w ∈ wsX00, w ∈ mv_all := by
  show ∀ w ∈ [u_lay RX0 TX0 0, u_lay RX0 TX0 1, u_lay RX0 TX0 2, u_lay RX0 TX0 3], w ∈ mv_all
  exact List.forall_mem_cons.mpr ⟨lwX0_0, List.forall_mem_cons.mpr ⟨lwX0_1, List.forall_mem_cons.mpr ⟨lwX0_2, List.forall_mem_cons.mpr ⟨lwX0_3, fun _ h => absurd h List.not_mem_nil⟩⟩⟩⟩
theorem lwX1_0 : u_lay RX1 TX1 0 ∈ mv_all := mv_g (mv_t2 (i := 28) (by decide +kernel)) rfl
theorem lwX1_1 : u_lay RX1 TX1 1 ∈ mv_all := mv_g (mv_t2 (i := 30) (by decide +kernel)) rfl
theorem lwX1_2 : u_lay RX1 TX1 2 ∈ mv_all := mv_g (mv_t2 (i := 32) (by decide +kernel)) rfl
theorem inmX1 : ∀ w ∈ wsX10, w ∈ mv_all := by
  show ∀ w ∈ [u_lay RX1 TX1 0, u_lay RX1 TX1 1, u_lay RX1 TX1 2], w ∈ mv_all
  exact List.forall_mem_cons.mpr ⟨lwX1_0, List.forall_mem_cons.mpr ⟨lwX1_1, List.forall_mem_cons.mpr ⟨lwX1_2, fun _ h => absurd h List.not_mem_nil⟩⟩⟩
theorem lwX2_0 : u_lay RX2 TX2 0 ∈ mv_all := mv_g (mv_t1 (i := 214) (by decide +kernel)) rfl
theorem lwX2_1 : u_lay RX2 TX2 1 ∈ mv_all := mv_g (mv_t1 (i := 216) (by decide +kernel)) rfl
theorem lwX2_2 : u_lay RX2 TX2 2 ∈ mv_all := mv_g (mv_t1 (i := 218) (by decide +kernel)) rfl
theorem lwX2_3 : u_lay RX2 TX2 3 ∈ mv_all := mv_g (mv_t1 (i := 220) (by decide +kernel)) rfl
theorem lwX2_4 : u_lay RX2 TX2 4 ∈ mv_all := mv_g (mv_t1 (i := 222) (by decide +kernel)) rfl
theorem lwX2_5 : u_lay RX2 TX2 5 ∈ mv_all := mv_g (mv_t1 (i := 224) (by decide +kernel)) rfl
theorem lwX2_6 : u_lay RX2 TX2 6 ∈ mv_all := mv_g (mv_t1 (i := 226) (by decide +kernel)) rfl
theorem lwX2_7 : u_lay RX2 TX2 7 ∈ mv_all := mv_g (mv_t1 (i := 228) (by decide +kernel)) rfl
theorem lwX2_8 : u_lay RX2 TX2 8 ∈ mv_all := mv_g (mv_t1 (i := 230) (by decide +kernel)) rfl
theorem inmX2 : ∀ w ∈ wsX20, w ∈ mv_all := by
  show ∀ w ∈ [u_lay RX2 TX2 0, u_lay RX2 TX2 1, u_lay RX2 TX2 2, u_lay RX2 TX2 3, u_lay RX2 TX2 4, u_lay RX2 TX2 5, u_lay RX2 TX2 6, u_lay RX2 TX2 7, u_lay RX2 TX2 8], w ∈ mv_all
  exact List.forall_mem_cons.mpr ⟨lwX2_0, List.forall_mem_cons.mpr ⟨lwX2_1, List.forall_mem_cons.mpr ⟨lwX2_2, List.forall_mem_cons.mpr ⟨lwX2_3, List.forall_mem_cons.mpr ⟨lwX2_4, List.forall_mem_cons.mpr ⟨lwX2_5, List.forall_mem_cons.mpr ⟨lwX2_6, List.forall_mem_cons.mpr ⟨lwX2_7, List.forall_mem_cons.mpr ⟨lwX2_8, fun _ h => absurd h List.not_mem_nil⟩⟩⟩⟩⟩⟩⟩⟩⟩
theorem lwX3_0 : u_lay RX3 TX3 0 ∈ mv_all := mv_g (mv_t1 (i := 190) (by decide +kernel)) rfl
theorem lwX3_1 : u_lay RX3 TX3 1 ∈ mv_all := mv_g (mv_t1 (i := 192) (by decide +kernel)) rfl
theorem inmX3 : ∀ w ∈ wsX30, w ∈ mv_all := by
  show ∀ w ∈ [u_lay RX3 TX3 0, u_lay RX3 TX3 1], w ∈ mv_all
  exact List.forall_mem_cons.mpr ⟨lwX3_0, List.forall_mem_cons.mpr ⟨lwX3_1, fun _ h => absurd h List.not_mem_nil⟩⟩
theorem lwX4_0 : u_lay RX4 TX4 0 ∈ mv_all := mv_g (mv_t1 (i := 148) (by decide +kernel)) rfl
theorem lwX4_1 : u_lay RX4 TX4 1 ∈ mv_all := mv_g (mv_t1 (i := 150) (by decide +kernel)) rfl
theorem lwX4_2 : u_lay RX4 TX4 2 ∈ mv_all := mv_g (mv_t1 (i := 152) (by decide +kernel)) rfl
theorem lwX4_3 : u_lay RX4 TX4 3 ∈ mv_all := mv_g (mv_t1 (i := 154) (by decide +kernel)) rfl
theorem lwX4_4 : u_lay RX4 TX4 4 ∈ mv_all := mv_g (mv_t1 (i := 156) (by decide +kernel)) rfl
theorem inmX4 : ∀ w ∈ wsX40, w ∈ mv_all := by
  show ∀ w ∈ [u_lay RX4 TX4 0, u_lay RX4 TX4 1, u_lay RX4 TX4 2, u_lay RX4 TX4 3, u_lay RX4 TX4 4], w ∈ mv_all
  exact List.forall_mem_cons.mpr ⟨lwX4_0, List.forall_mem_cons.mpr ⟨lwX4_1, List.forall_mem_cons.mpr ⟨lwX4_2, List.forall_mem_cons.mpr ⟨lwX4_3, List.forall_mem_cons.mpr ⟨lwX4_4, fun _ h => absurd h List.not_mem_nil⟩⟩⟩⟩⟩
theorem lwX5_0 : u_lay RX5 TX5 0 ∈ mv_all := mv_g (mv_t1 (i := 124) (by decide +kernel)) rfl
theorem lwX5_1 : u_lay RX5 TX5 1 ∈ mv_all := mv_g (mv_t1 (i := 126) (by decide +kernel)) rfl
theorem lwX5_2 : u_lay RX5 TX5 2 ∈ mv_all := mv_g (mv_t1 (i := 128) (by decide +kernel)) rfl
theorem inmX5 : ∀ w ∈ wsX50, w ∈ mv_all := by
  show ∀ w ∈ [u_lay RX5 TX5 0, u_lay RX5 TX5 1, u_lay RX5 TX5 2], w ∈ mv_all
  exact List.forall_mem_cons.mpr ⟨lwX5_0, List.forall_mem_cons.mpr ⟨lwX5_1, List.forall_mem_cons.mpr ⟨lwX5_2, fun _ h => absurd h List.not_mem_nil⟩⟩⟩
theorem lwX6_0 : u_lay RX6 TX6 0 ∈ mv_all := mv_g (mv_t2 (i := 6) (by decide +kernel)) rfl
theorem lwX6_1 : u_lay RX6 TX6 1 ∈ mv_all := mv_g (mv_t2 (i := 8) (by decide +kernel)) rfl
theorem lwX6_2 : u_lay RX6 TX6 2 ∈ mv_all := mv_g (mv_t2 (i := 10) (by decide +kernel)) rfl
theorem lwX6_3 : u_lay RX6 TX6 3 ∈ mv_all := mv_g (mv_t2 (i := 12) (by decide +kernel)) rfl
theorem lwX6_4 : u_lay RX6 TX6 4 ∈ mv_all := mv_g (mv_t2 (i := 14) (by decide +kernel)) rfl
theorem inmX6 : ∀ w ∈ wsX60, w ∈ mv_all := by
  show ∀ w ∈ [u_lay RX6 TX6 0, u_lay RX6 TX6 1, u_lay RX6 TX6 2, u_lay RX6 TX6 3, u_lay RX6 TX6 4], w ∈ mv_all
  exact List.forall_mem_cons.mpr ⟨lwX6_0, List.forall_mem_cons.mpr ⟨lwX6_1, List.forall_mem_cons.mpr ⟨lwX6_2, List.forall_mem_cons.mpr ⟨lwX6_3, List.forall_mem_cons.mpr ⟨lwX6_4, fun _ h => absurd h List.not_mem_nil⟩⟩⟩⟩⟩
theorem lwX7_0 : u_lay RX7 TX7 0 ∈ mv_all := mv_g (mv_t1 (i := 82) (by decide +kernel)) rfl
theorem lwX7_1 : u_lay RX7 TX7 1 ∈ mv_all := mv_g (mv_t1 (i := 84) (by decide +kernel)) rfl
theorem lwX7_2 : u_lay RX7 TX7 2 ∈ mv_all := mv_g (mv_t1 (i := 86) (by decide +kernel)) rfl
theorem lwX7_3 : u_lay RX7 TX7 3 ∈ mv_all := mv_g (mv_t1 (i := 88) (by decide +kernel)) rfl
theorem lwX7_4 : u_lay RX7 TX7 4 ∈ mv_all := mv_g (mv_t1 (i := 90) (by decide +kernel)) rfl
theorem lwX7_5 : u_lay RX7 TX7 5 ∈ mv_all := mv_g (mv_t1 (i := 92) (by decide +kernel)) rfl
theorem lwX7_6 : u_lay RX7 TX7 6 ∈ mv_all := mv_g (mv_t1 (i := 94) (by decide +kernel)) rfl
theorem lwX7_7 : u_lay RX7 TX7 7 ∈ mv_all := mv_g (mv_t1 (i := 96) (by decide +kernel)) rfl
theorem lwX7_8 : u_lay RX7 TX7 8 ∈ mv_all := mv_g (mv_t1 (i := 98) (by decide +kernel)) rfl
theorem lwX7_9 : u_lay RX7 TX7 9 ∈ mv_all := mv_g (mv_t1 (i := 100) (by decide +kernel)) rfl
theorem lwX7_10 : u_lay RX7 TX7 10 ∈ mv_all := mv_g (mv_t1 (i := 102) (by decide +kernel)) rfl
theorem inmX7 : ∀ w ∈ wsX70, w ∈ mv_all := by
  show ∀ w ∈ [u_lay RX7 TX7 0, u_lay RX7 TX7 1, u_lay RX7 TX7 2, u_lay RX7 TX7 3, u_lay RX7 TX7 4, u_lay RX7 TX7 5, u_lay RX7 TX7 6, u_lay RX7 TX7 7, u_lay RX7 TX7 8, u_lay RX7 TX7 9, u_lay RX7 TX7 10], w ∈ mv_all
  exact List.forall_mem_cons.mpr ⟨lwX7_0, List.forall_mem_cons.mpr ⟨lwX7_1, List.forall_mem_cons.mpr ⟨lwX7_2, List.forall_mem_cons.mpr ⟨lwX7_3, List.forall_mem_cons.mpr ⟨lwX7_4, List.forall_mem_cons.mpr ⟨lwX7_5, List.forall_mem_cons.mpr ⟨lwX7_6, List.forall_mem_cons.mpr ⟨lwX7_7, List.forall_mem_cons.mpr ⟨lwX7_8, List.forall_mem_cons.mpr ⟨lwX7_9, List.forall_mem_cons.mpr ⟨lwX7_10, fun _ h => absurd h List.not_mem_nil⟩⟩⟩⟩⟩⟩⟩⟩⟩⟩⟩
theorem lwX8_0 : u_lay RX8 TX8 0 ∈ mv_all := mv_g (mv_t2 (i := 46) (by decide +kernel)) rfl
theorem lwX8_1 : u_lay RX8 TX8 1 ∈ mv_all := mv_g (mv_t2 (i := 48) (by decide +kernel)) rfl
theorem lwX8_2 : u_lay RX8 TX8 2 ∈ mv_all := mv_g (mv_t2 (i := 50) (by decide +kernel)) rfl
theorem lwX8_3 : u_lay RX8 TX8 3 ∈ mv_all := mv_g (mv_t2 (i := 52) (by decide +kernel)) rfl
theorem lwX8_4 : u_lay RX8 TX8 4 ∈ mv_all := mv_g (mv_t2 (i := 54) (by decide +kernel)) rfl
theorem lwX8_5 : u_lay RX8 TX8 5 ∈ mv_all := mv_g (mv_t2 (i := 56) (by decide +kernel)) rfl
theorem lwX8_6 : u_lay RX8 TX8 6 ∈ mv_all := mv_g (mv_t2 (i := 58) (by decide +kernel)) rfl
theorem lwX8_7 : u_lay RX8 TX8 7 ∈ mv_all := mv_g (mv_t2 (i := 60) (by decide +kernel)) rfl
theorem lwX8_8 : u_lay RX8 TX8 8 ∈ mv_all := mv_g (mv_t2 (i := 62) (by decide +kernel)) rfl
theorem lwX8_9 : u_lay RX8 TX8 9 ∈ mv_all := mv_g (mv_t2 (i := 64) (by decide +kernel)) rfl
theorem lwX8_10 : u_lay RX8 TX8 10 ∈ mv_all := mv_g (mv_t2 (i := 66) (by decide +kernel)) rfl
theorem inmX8 : ∀ w ∈ wsX80, w ∈ mv_all := by
  show ∀ w ∈ [u_lay RX8 TX8 0, u_lay RX8 TX8 1, u_lay RX8 TX8 2, u_lay RX8 TX8 3, u_lay RX8 TX8 4, u_lay RX8 TX8 5, u_lay RX8 TX8 6, u_lay RX8 TX8 7, u_lay RX8 TX8 8, u_lay RX8 TX8 9, u_lay RX8 TX8 10], w ∈ mv_all
  exact List.forall_mem_cons.mpr ⟨lwX8_0, List.forall_mem_cons.mpr ⟨lwX8_1, List.forall_mem_cons.mpr ⟨lwX8_2, List.forall_mem_cons.mpr ⟨lwX8_3, List.forall_mem_cons.mpr ⟨lwX8_4, List.forall_mem_cons.mpr ⟨lwX8_5, List.forall_mem_cons.mpr ⟨lwX8_6, List.forall_mem_cons.mpr ⟨lwX8_7, List.forall_mem_cons.mpr ⟨lwX8_8, List.forall_mem_cons.mpr ⟨lwX8_9, List.forall_mem_cons.mpr ⟨lwX8_10, fun _ h => absurd h List.not_mem_nil⟩⟩⟩⟩⟩⟩⟩⟩⟩⟩⟩
theorem lwX9_0 : u_lay RX9 TX9 0 ∈ mv_all := mv_g (mv_t4 (i := 138) (by decide +kernel)) rfl
theorem lwX9_1 : u_lay RX9 TX9 1 ∈ mv_all := mv_g (mv_t4 (i := 140) (by decide +kernel)) rfl
theorem lwX9_2 : u_lay RX9 TX9 2 ∈ mv_all := mv_g (mv_t4 (i := 142) (by decide +kernel)) rfl
theorem lwX9_3 : u_lay RX9 TX9 3 ∈ mv_all := mv_g (mv_t4 (i := 144) (by decide +kernel)) rfl
theorem lwX9_4 : u_lay RX9 TX9 4 ∈ mv_all := mv_g (mv_t4 (i := 146) (by decide +kernel)) rfl
theorem lwX9_5 : u_lay RX9 TX9 5 ∈ mv_all := mv_g (mv_t4 (i := 148) (by decide +kernel)) rfl
theorem lwX9_6 : u_lay RX9 TX9 6 ∈ mv_all := mv_g (mv_t4 (i := 150) (by decide +kernel)) rfl
theorem lwX9_7 : u_lay RX9 TX9 7 ∈ mv_all := mv_g (mv_t4 (i := 152) (by decide +kernel)) rfl
theorem lwX9_8 : u_lay RX9 TX9 8 ∈ mv_all := mv_g (mv_t4 (i := 154) (by decide +kernel)) rfl
theorem lwX9_9 : u_lay RX9 TX9 9 ∈ mv_all := mv_g (mv_t4 (i := 156) (by decide +kernel)) rfl
theorem lwX9_10 : u_lay RX9 TX9 10 ∈ mv_all := mv_g (mv_t4 (i := 158) (by decide +kernel)) rfl
theorem lwX9_11 : u_lay RX9 TX9 11 ∈ mv_all := mv_g (mv_t4 (i := 160) (by decide +kernel)) rfl
theorem lwX9_12 : u_lay RX9 TX9 12 ∈ mv_all := mv_g (mv_t4 (i := 162) (by decide +kernel)) rfl
theorem lwX9_13 : u_lay RX9 TX9 13 ∈ mv_all := mv_g (mv_t4 (i := 164) (by decide +kernel)) rfl
theorem lwX9_14 : u_lay RX9 TX9 14 ∈ mv_all := mv_g (mv_t4 (i := 166) (by decide +kernel)) rfl
theorem lwX9_15 : u_lay RX9 TX9 15 ∈ mv_all := mv_g (mv_t4 (i := 168) (by decide +kernel)) rfl
theorem lwX9_16 : u_lay RX9 TX9 16 ∈ mv_all := mv_g (mv_t4 (i := 170) (by decide +kernel)) rfl
theorem lwX9_17 : u_lay RX9 TX9 17 ∈ mv_all := mv_g (mv_t4 (i := 172) (by decide +kernel)) rfl
theorem lwX9_18 : u_lay RX9 TX9 18 ∈ mv_all := mv_g (mv_t4 (i := 174) (by decide +kernel)) rfl
theorem lwX9_19 : u_lay RX9 TX9 19 ∈ mv_all := mv_g (mv_t4 (i := 176) (by decide +kernel)) rfl
theorem lwX9_20 : u_lay RX9 TX9 20 ∈ mv_all := mv_g (mv_t4 (i := 178) (by decide +kernel)) rfl
theorem lwX9_21 : u_lay RX9 TX9 21 ∈ mv_all := mv_g (mv_t4 (i := 180) (by decide +kernel)) rfl
theorem lwX9_22 : u_lay RX9 TX9 22 ∈ mv_all := mv_g (mv_t4 (i := 182) (by decide +kernel)) rfl
theorem inmX9 : ∀ w ∈ wsX90, w ∈ mv_all := by
  show ∀ w ∈ [u_lay RX9 TX9 0, u_lay RX9 TX9 1, u_lay RX9 TX9 2, u_lay RX9 TX9 3, u_lay RX9 TX9 4, u_lay RX9 TX9 5, u_lay RX9 TX9 6, u_lay RX9 TX9 7, u_lay RX9 TX9 8, u_lay RX9 TX9 9, u_lay RX9 TX9 10, u_lay RX9 TX9 11, u_lay RX9 TX9 12, u_lay RX9 TX9 13, u_lay RX9 TX9 14, u_lay RX9 TX9 15, u_lay RX9 TX9 16, u_lay RX9 TX9 17, u_lay RX9 TX9 18, u_lay RX9 TX9 19, u_lay RX9 TX9 20, u_lay RX9 TX9 21, u_lay RX9 TX9 22], w ∈ mv_all
  exact List.forall_mem_cons.mpr ⟨lwX9_0, List.forall_mem_cons.mpr ⟨lwX9_1, List.forall_mem_cons.mpr ⟨lwX9_2, List.forall_mem_cons.mpr ⟨lwX9_3, List.forall_mem_cons.mpr ⟨lwX9_4, List.forall_mem_cons.mpr ⟨lwX9_5, List.forall_mem_cons.mpr ⟨lwX9_6, List.forall_mem_cons.mpr ⟨lwX9_7, List.forall_mem_cons.mpr ⟨lwX9_8, List.forall_mem_cons.mpr ⟨lwX9_9, List.forall_mem_cons.mpr ⟨lwX9_10, List.forall_mem_cons.mpr ⟨lwX9_11, List.forall_mem_cons.mpr ⟨lwX9_12, List.forall_mem_cons.mpr ⟨lwX9_13, List.forall_mem_cons.mpr ⟨lwX9_14, List.forall_mem_cons.mpr ⟨lwX9_15, List.forall_mem_cons.mpr ⟨lwX9_16, List.forall_mem_cons.mpr ⟨lwX9_17, List.forall_mem_cons.mpr ⟨lwX9_18, List.forall_mem_cons.mpr ⟨lwX9_19, List.forall_mem_cons.mpr ⟨lwX9_20, List.forall_mem_cons.mpr ⟨lwX9_21, List.forall_mem_cons.mpr ⟨lwX9_22, fun _ h => absurd h List.not_mem_nil⟩⟩⟩⟩⟩⟩⟩⟩⟩⟩⟩⟩⟩⟩⟩⟩⟩⟩⟩⟩⟩⟩⟩
theorem fwX0_9 : Cond.fieldLink RX0 9 (TX0 0).1 (TX0 0).2.1 (TX0 0).2.2.1 ∈ mv_all := mv_g (mv_t1 (i := 165) (by decide +kernel)) rfl
theorem fwX0_13 : Cond.fieldLink RX0 13 (TX0 1).1 (TX0 1).2.1 (TX0 1).2.2.1 ∈ mv_all := mv_g (mv_t1 (i := 167) (by decide +kernel)) rfl
theorem fwX0_16 : Cond.fieldLink RX0 16 (TX0 2).1 (TX0 2).2.1 (TX0 2).2.2.1 ∈ mv_all := mv_g (mv_t1 (i := 169) (by decide +kernel)) rfl
theorem fwX0_19 : Cond.fieldLink RX0 19 (TX0 3).1 (TX0 3).2.1 (TX0 3).2.2.1 ∈ mv_all := mv_g (mv_t1 (i := 171) (by decide +kernel)) rfl
theorem fwX1_11 : Cond.fieldLink RX1 11 (TX1 1).1 (TX1 1).2.1 (TX1 1).2.2.1 ∈ mv_all := mv_g (mv_t2 (i := 24) (by decide +kernel)) rfl
theorem fwX1_15 : Cond.fieldLink RX1 15 (TX1 0).1 (TX1 0).2.1 (TX1 0).2.2.1 ∈ mv_all := mv_g (mv_t2 (i := 23) (by decide +kernel)) rfl
theorem fwX1_78 : Cond.fieldLink RX1 78 (TX1 2).1 (TX1 2).2.1 (TX1 2).2.2.1 ∈ mv_all := mv_g (mv_t2 (i := 26) (by decide +kernel)) rfl
theorem fwX2_11 : Cond.fieldLink RX2 11 (TX2 2).1 (TX2 2).2.1 (TX2 2).2.2.1 ∈ mv_all := mv_g (mv_t1 (i := 206) (by decide +kernel)) rfl
theorem fwX2_16 : Cond.fieldLink RX2 16 (TX2 3).1 (TX2 3).2.1 (TX2 3).2.2.1 ∈ mv_all := mv_g (mv_t1 (i := 207) (by decide +kernel)) rfl
theorem fwX2_19 : Cond.fieldLink RX2 19 (TX2 4).1 (TX2 4).2.1 (TX2 4).2.2.1 ∈ mv_all := mv_g (mv_t1 (i := 208) (by decide +kernel)) rfl
theorem fwX2_22 : Cond.fieldLink RX2 22 (TX2 5).1 (TX2 5).2.1 (TX2 5).2.2.1 ∈ mv_all := mv_g (mv_t1 (i := 209) (by decide +kernel)) rfl
theorem fwX2_26 : Cond.fieldLink RX2 26 (TX2 7).1 (TX2 7).2.1 (TX2 7).2.2.1 ∈ mv_all := mv_g (mv_t1 (i := 211) (by decide +kernel)) rfl
theorem fwX2_29 : Cond.fieldLink RX2 29 (TX2 0).1 (TX2 0).2.1 (TX2 0).2.2.1 ∈ mv_all := mv_g (mv_t1 (i := 203) (by decide +kernel)) rfl
theorem fwX2_48 : Cond.fieldLink RX2 48 (TX2 8).1 (TX2 8).2.1 (TX2 8).2.2.1 ∈ mv_all := mv_g (mv_t1 (i := 213) (by decide +kernel)) rfl
theorem fwX2_53 : Cond.fieldLink RX2 53 (TX2 6).1 (TX2 6).2.1 (TX2 6).2.2.1 ∈ mv_all := mv_g (mv_t1 (i := 210) (by decide +kernel)) rfl
theorem fwX2_106 : Cond.fieldLink RX2 106 (TX2 1).1 (TX2 1).2.1 (TX2 1).2.2.1 ∈ mv_all := mv_g (mv_t1 (i := 204) (by decide +kernel)) rfl
theorem fwX3_9 : Cond.fieldLink RX3 9 (TX3 1).1 (TX3 1).2.1 (TX3 1).2.2.1 ∈ mv_all := mv_g (mv_t1 (i := 189) (by decide +kernel)) rfl
theorem fwX3_15 : Cond.fieldLink RX3 15 (TX3 0).1 (TX3 0).2.1 (TX3 0).2.2.1 ∈ mv_all := mv_g (mv_t1 (i := 188) (by decide +kernel)) rfl
theorem fwX4_11 : Cond.fieldLink RX4 11 (TX4 0).1 (TX4 0).2.1 (TX4 0).2.2.1 ∈ mv_all := mv_g (mv_t1 (i := 139) (by decide +kernel)) rfl
theorem fwX4_18 : Cond.fieldLink RX4 18 (TX4 2).1 (TX4 2).2.1 (TX4 2).2.2.1 ∈ mv_all := mv_g (mv_t1 (i := 142) (by decide +kernel)) rfl
theorem fwX4_22 : Cond.fieldLink RX4 22 (TX4 1).1 (TX4 1).2.1 (TX4 1).2.2.1 ∈ mv_all := mv_g (mv_t1 (i := 140) (by decide +kernel)) rfl
theorem fwX4_26 : Cond.fieldLink RX4 26 (TX4 3).1 (TX4 3).2.1 (TX4 3).2.2.1 ∈ mv_all := mv_g (mv_t1 (i := 144) (by decide +kernel)) rfl
theorem fwX4_29 : Cond.fieldLink RX4 29 (TX4 4).1 (TX4 4).2.1 (TX4 4).2.2.1 ∈ mv_all := mv_g (mv_t1 (i := 146) (by decide +kernel)) rfl
theorem fwX5_11 : Cond.fieldLink RX5 11 (TX5 0).1 (TX5 0).2.1 (TX5 0).2.2.1 ∈ mv_all := mv_g (mv_t1 (i := 118) (by decide +kernel)) rfl
theorem fwX5_14 : Cond.fieldLink RX5 14 (TX5 1).1 (TX5 1).2.1 (TX5 1).2.2.1 ∈ mv_all := mv_g (mv_t1 (i := 121) (by decide +kernel)) rfl
theorem fwX5_18 : Cond.fieldLink RX5 18 (TX5 2).1 (TX5 2).2.1 (TX5 2).2.2.1 ∈ mv_all := mv_g (mv_t1 (i := 123) (by decide +kernel)) rfl
theorem fwX6_11 : Cond.fieldLink RX6 11 (TX6 2).1 (TX6 2).2.1 (TX6 2).2.2.1 ∈ mv_all := mv_g (mv_t2 (i := 2) (by decide +kernel)) rfl
theorem fwX6_15 : Cond.fieldLink RX6 15 (TX6 4).1 (TX6 4).2.1 (TX6 4).2.2.1 ∈ mv_all := mv_g (mv_t2 (i := 5) (by decide +kernel)) rfl
theorem fwX6_18 : Cond.fieldLink RX6 18 (TX6 0).1 (TX6 0).2.1 (TX6 0).2.2.1 ∈ mv_all := mv_g (mv_t2 (i := 0) (by decide +kernel)) rfl
theorem fwX6_22 : Cond.fieldLink RX6 22 (TX6 1).1 (TX6 1).2.1 (TX6 1).2.2.1 ∈ mv_all := mv_g (mv_t2 (i := 1) (by decide +kernel)) rfl
theorem fwX6_46 : Cond.fieldLink RX6 46 (TX6 3).1 (TX6 3).2.1 (TX6 3).2.2.1 ∈ mv_all := mv_g (mv_t2 (i := 4) (by decide +kernel)) rfl
theorem fwX7_9 : Cond.fieldLink RX7 9 (TX7 3).1 (TX7 3).2.1 (TX7 3).2.2.1 ∈ mv_all := mv_g (mv_t1 (i := 42) (by decide +kernel)) rfl
theorem fwX7_15 : Cond.fieldLink RX7 15 (TX7 4).1 (TX7 4).2.1 (TX7 4).2.2.1 ∈ mv_all := mv_g (mv_t1 (i := 45) (by decide +kernel)) rfl
theorem fwX7_18 : Cond.fieldLink RX7 18 (TX7 5).1 (TX7 5).2.1 (TX7 5).2.2.1 ∈ mv_all := mv_g (mv_t1 (i := 49) (by decide +kernel)) rfl
theorem fwX7_21 : Cond.fieldLink RX7 21 (TX7 6).1 (TX7 6).2.1 (TX7 6).2.2.1 ∈ mv_all := mv_g (mv_t1 (i := 53) (by decide +kernel)) rfl
theorem fwX7_24 : Cond.fieldLink RX7 24 (TX7 7).1 (TX7 7).2.1 (TX7 7).2.2.1 ∈ mv_all := mv_g (mv_t1 (i := 60) (by decide +kernel)) rfl
theorem fwX7_27 : Cond.fieldLink RX7 27 (TX7 8).1 (TX7 8).2.1 (TX7 8).2.2.1 ∈ mv_all := mv_g (mv_t1 (i := 64) (by decide +kernel)) rfl
theorem fwX7_30 : Cond.fieldLink RX7 30 (TX7 9).1 (TX7 9).2.1 (TX7 9).2.2.1 ∈ mv_all := mv_g (mv_t1 (i := 70) (by decide +kernel)) rfl
theorem fwX7_33 : Cond.fieldLink RX7 33 (TX7 10).1 (TX7 10).2.1 (TX7 10).2.2.1 ∈ mv_all := mv_g (mv_t1 (i := 76) (by decide +kernel)) rfl
theorem fwX7_36 : Cond.fieldLink RX7 36 (TX7 0).1 (TX7 0).2.1 (TX7 0).2.2.1 ∈ mv_all := mv_g (mv_t1 (i := 28) (by decide +kernel)) rfl
theorem fwX7_40 : Cond.fieldLink RX7 40 (TX7 1).1 (TX7 1).2.1 (TX7 1).2.2.1 ∈ mv_all := mv_g (mv_t1 (i := 33) (by decide +kernel)) rfl
theorem fwX7_43 : Cond.fieldLink RX7 43 (TX7 2).1 (TX7 2).2.1 (TX7 2).2.2.1 ∈ mv_all := mv_g (mv_t1 (i := 38) (by decide +kernel)) rfl
theorem fwX8_10 : Cond.fieldLink RX8 10 (TX8 0).1 (TX8 0).2.1 (TX8 0).2.2.1 ∈ mv_all := mv_g (mv_t2 (i := 35) (by decide +kernel)) rfl
theorem fwX8_16 : Cond.fieldLink RX8 16 (TX8 1).1 (TX8 1).2.1 (TX8 1).2.2.1 ∈ mv_all := mv_g (mv_t2 (i := 36) (by decide +kernel)) rfl
theorem fwX8_23 : Cond.fieldLink RX8 23 (TX8 2).1 (TX8 2).2.1 (TX8 2).2.2.1 ∈ mv_all := mv_g (mv_t2 (i := 37) (by decide +kernel)) rfl
theorem fwX8_30 : Cond.fieldLink RX8 30 (TX8 3).1 (TX8 3).2.1 (TX8 3).2.2.1 ∈ mv_all := mv_g (mv_t2 (i := 38) (by decide +kernel)) rfl
theorem fwX8_37 : Cond.fieldLink RX8 37 (TX8 4).1 (TX8 4).2.1 (TX8 4).2.2.1 ∈ mv_all := mv_g (mv_t2 (i := 39) (by decide +kernel)) rfl
theorem fwX8_46 : Cond.fieldLink RX8 46 (TX8 5).1 (TX8 5).2.1 (TX8 5).2.2.1 ∈ mv_all := mv_g (mv_t2 (i := 40) (by decide +kernel)) rfl
theorem fwX8_53 : Cond.fieldLink RX8 53 (TX8 6).1 (TX8 6).2.1 (TX8 6).2.2.1 ∈ mv_all := mv_g (mv_t2 (i := 41) (by decide +kernel)) rfl
theorem fwX8_62 : Cond.fieldLink RX8 62 (TX8 7).1 (TX8 7).2.1 (TX8 7).2.2.1 ∈ mv_all := mv_g (mv_t2 (i := 42) (by decide +kernel)) rfl
theorem fwX8_69 : Cond.fieldLink RX8 69 (TX8 8).1 (TX8 8).2.1 (TX8 8).2.2.1 ∈ mv_all := mv_g (mv_t2 (i := 43) (by decide +kernel)) rfl
theorem fwX8_138 : Cond.fieldLink RX8 138 (TX8 9).1 (TX8 9).2.1 (TX8 9).2.2.1 ∈ mv_all := mv_g (mv_t2 (i := 44) (by decide +kernel)) rfl
theorem fwX8_305 : Cond.fieldLink RX8 305 (TX8 10).1 (TX8 10).2.1 (TX8 10).2.2.1 ∈ mv_all := mv_g (mv_t2 (i := 45) (by decide +kernel)) rfl
theorem fwX9_7 : Cond.fieldLink RX9 7 (TX9 0).1 (TX9 0).2.1 (TX9 0).2.2.1 ∈ mv_all := mv_g (mv_t4 (i := 115) (by decide +kernel)) rfl
theorem fwX9_13 : Cond.fieldLink RX9 13 (TX9 2).1 (TX9 2).2.1 (TX9 2).2.2.1 ∈ mv_all := mv_g (mv_t4 (i := 117) (by decide +kernel)) rfl
theorem fwX9_16 : Cond.fieldLink RX9 16 (TX9 6).1 (TX9 6).2.1 (TX9 6).2.2.1 ∈ mv_all := mv_g (mv_t4 (i := 121) (by decide +kernel)) rfl
theorem fwX9_19 : Cond.fieldLink RX9 19 (TX9 7).1 (TX9 7).2.1 (TX9 7).2.2.1 ∈ mv_all := mv_g (mv_t4 (i := 122) (by decide +kernel)) rfl
theorem fwX9_22 : Cond.fieldLink RX9 22 (TX9 8).1 (TX9 8).2.1 (TX9 8).2.2.1 ∈ mv_all := mv_g (mv_t4 (i := 123) (by decide +kernel)) rfl
theorem fwX9_25 : Cond.fieldLink RX9 25 (TX9 9).1 (TX9 9).2.1 (TX9 9).2.2.1 ∈ mv_all := mv_g (mv_t4 (i := 124) (by decide +kernel)) rfl
theorem fwX9_28 : Cond.fieldLink RX9 28 (TX9 13).1 (TX9 13).2.1 (TX9 13).2.2.1 ∈ mv_all := mv_g (mv_t4 (i := 128) (by decide +kernel)) rfl
theorem fwX9_32 : Cond.fieldLink RX9 32 (TX9 14).1 (TX9 14).2.1 (TX9 14).2.2.1 ∈ mv_all := mv_g (mv_t4 (i := 129) (by decide +kernel)) rfl
theorem fwX9_35 : Cond.fieldLink RX9 35 (TX9 16).1 (TX9 16).2.1 (TX9 16).2.2.1 ∈ mv_all := mv_g (mv_t4 (i := 131) (by decide +kernel)) rfl
theorem fwX9_38 : Cond.fieldLink RX9 38 (TX9 17).1 (TX9 17).2.1 (TX9 17).2.2.1 ∈ mv_all := mv_g (mv_t4 (i := 132) (by decide +kernel)) rfl
theorem fwX9_41 : Cond.fieldLink RX9 41 (TX9 20).1 (TX9 20).2.1 (TX9 20).2.2.1 ∈ mv_all := mv_g (mv_t4 (i := 135) (by decide +kernel)) rfl
theorem fwX9_45 : Cond.fieldLink RX9 45 (TX9 21).1 (TX9 21).2.1 (TX9 21).2.2.1 ∈ mv_all := mv_g (mv_t4 (i := 136) (by decide +kernel)) rfl
theorem fwX9_54 : Cond.fieldLink RX9 54 (TX9 5).1 (TX9 5).2.1 (TX9 5).2.2.1 ∈ mv_all := mv_g (mv_t4 (i := 120) (by decide +kernel)) rfl
theorem fwX9_76 : Cond.fieldLink RX9 76 (TX9 3).1 (TX9 3).2.1 (TX9 3).2.2.1 ∈ mv_all := mv_g (mv_t4 (i := 118) (by decide +kernel)) rfl
theorem fwX9_80 : Cond.fieldLink RX9 80 (TX9 10).1 (TX9 10).2.1 (TX9 10).2.2.1 ∈ mv_all := mv_g (mv_t4 (i := 125) (by decide +kernel)) rfl
theorem fwX9_83 : Cond.fieldLink RX9 83 (TX9 4).1 (TX9 4).2.1 (TX9 4).2.2.1 ∈ mv_all := mv_g (mv_t4 (i := 119) (by decide +kernel)) rfl
theorem fwX9_86 : Cond.fieldLink RX9 86 (TX9 11).1 (TX9 11).2.1 (TX9 11).2.2.1 ∈ mv_all := mv_g (mv_t4 (i := 126) (by decide +kernel)) rfl
theorem fwX9_97 : Cond.fieldLink RX9 97 (TX9 12).1 (TX9 12).2.1 (TX9 12).2.2.1 ∈ mv_all := mv_g (mv_t4 (i := 127) (by decide +kernel)) rfl
theorem fwX9_131 : Cond.fieldLink RX9 131 (TX9 1).1 (TX9 1).2.1 (TX9 1).2.2.1 ∈ mv_all := mv_g (mv_t4 (i := 116) (by decide +kernel)) rfl
theorem fwX9_189 : Cond.fieldLink RX9 189 (TX9 15).1 (TX9 15).2.1 (TX9 15).2.2.1 ∈ mv_all := mv_g (mv_t4 (i := 130) (by decide +kernel)) rfl
theorem fwX9_198 : Cond.fieldLink RX9 198 (TX9 18).1 (TX9 18).2.1 (TX9 18).2.2.1 ∈ mv_all := mv_g (mv_t4 (i := 133) (by decide +kernel)) rfl
theorem fwX9_201 : Cond.fieldLink RX9 201 (TX9 19).1 (TX9 19).2.1 (TX9 19).2.2.1 ∈ mv_all := mv_g (mv_t4 (i := 134) (by decide +kernel)) rfl
theorem fwX9_243 : Cond.fieldLink RX9 243 (TX9 22).1 (TX9 22).2.1 (TX9 22).2.2.1 ∈ mv_all := mv_g (mv_t4 (i := 137) (by decide +kernel)) rfl
theorem mwL_9 : Cond.methodLink RL 9 yX8_init ∈ mv_all := mv_g (mv_t1 (i := 16) (by decide +kernel)) rfl
theorem mwL_12 : Cond.methodLink RL 12 yX9_init ∈ mv_all := mv_g (mv_t4 (i := 111) (by decide +kernel)) rfl
theorem mwL_13 : Cond.methodLink RL 13 yX8_row ∈ mv_all := mv_g (mv_t2 (i := 69) (by decide +kernel)) rfl
theorem mwL_17 : Cond.methodLink RL 17 yX9_row ∈ mv_all := mv_g (mv_t4 (i := 186) (by decide +kernel)) rfl
theorem mwL_18 : Cond.methodLink RL 18 yX8_set ∈ mv_all := mv_g (mv_t2 (i := 93) (by decide +kernel)) rfl
theorem mwL_21 : Cond.methodLink RL 21 yX9_set ∈ mv_all := mv_g (mv_t4 (i := 204) (by decide +kernel)) rfl
theorem mwL_22 : Cond.methodLink RL 22 yX8_copy ∈ mv_all := mv_g (mv_t2 (i := 109) (by decide +kernel)) rfl
theorem mwL_26 : Cond.methodLink RL 26 yX9_copy ∈ mv_all := mv_g (mv_t4 (i := 212) (by decide +kernel)) rfl
theorem mwL_27 : Cond.methodLink RL 27 yX8_drop ∈ mv_all := mv_g (mv_t2 (i := 116) (by decide +kernel)) rfl
theorem mwL_31 : Cond.methodLink RL 31 yX9_drop ∈ mv_all := mv_g (mv_t4 (i := 216) (by decide +kernel)) rfl
theorem mwL_32 : Cond.methodLink RL 32 yX8_feed ∈ mv_all := mv_g (mv_t2 (i := 124) (by decide +kernel)) rfl
theorem mwL_35 : Cond.methodLink RL 35 yX9_feed ∈ mv_all := mv_g (mv_t4 (i := 220) (by decide +kernel)) rfl
theorem mwL_36 : Cond.methodLink RL 36 yX8_world ∈ mv_all := mv_g (mv_t2 (i := 137) (by decide +kernel)) rfl
theorem mwL_40 : Cond.methodLink RL 40 yX9_world ∈ mv_all := mv_g (mv_t4 (i := 226) (by decide +kernel)) rfl
theorem mwL_41 : Cond.methodLink RL 41 yX8_fault ∈ mv_all := mv_g (mv_t2 (i := 212) (by decide +kernel)) rfl
theorem mwL_44 : Cond.methodLink RL 44 yX9_fault ∈ mv_all := mv_g (mv_t5 (i := 32) (by decide +kernel)) rfl
theorem mwL_45 : Cond.methodLink RL 45 yX8_hide ∈ mv_all := mv_g (mv_t2 (i := 216) (by decide +kernel)) rfl
theorem mwL_49 : Cond.methodLink RL 49 yX9_hide ∈ mv_all := mv_g (mv_t5 (i := 36) (by decide +kernel)) rfl
theorem mwL_50 : Cond.methodLink RL 50 yX8_cost ∈ mv_all := mv_g (mv_t3 (i := 7) (by decide +kernel)) rfl
theorem mwL_53 : Cond.methodLink RL 53 yX9_cost ∈ mv_all := mv_g (mv_t5 (i := 49) (by decide +kernel)) rfl
theorem mwL_54 : Cond.methodLink RL 54 yX8_above ∈ mv_all := mv_g (mv_t3 (i := 11) (by decide +kernel)) rfl
theorem mwL_57 : Cond.methodLink RL 57 yX9_above ∈ mv_all := mv_g (mv_t5 (i := 54) (by decide +kernel)) rfl
theorem mwL_58 : Cond.methodLink RL 58 yX8_undo ∈ mv_all := mv_g (mv_t3 (i := 19) (by decide +kernel)) rfl
theorem mwL_61 : Cond.methodLink RL 61 yX9_undo ∈ mv_all := mv_g (mv_t5 (i := 62) (by decide +kernel)) rfl
theorem mwL_62 : Cond.methodLink RL 62 yX8_member ∈ mv_all := mv_g (mv_t3 (i := 23) (by decide +kernel)) rfl
theorem mwL_65 : Cond.methodLink RL 65 yX9_member ∈ mv_all := mv_g (mv_t5 (i := 66) (by decide +kernel)) rfl
theorem mwL_66 : Cond.methodLink RL 66 yX8_type ∈ mv_all := mv_g (mv_t3 (i := 32) (by decide +kernel)) rfl
theorem mwL_69 : Cond.methodLink RL 69 yX9_type ∈ mv_all := mv_g (mv_t5 (i := 75) (by decide +kernel)) rfl
theorem mwL_70 : Cond.methodLink RL 70 yX8_many ∈ mv_all := mv_g (mv_t3 (i := 52) (by decide +kernel)) rfl
theorem mwL_73 : Cond.methodLink RL 73 yX9_many ∈ mv_all := mv_g (mv_t5 (i := 91) (by decide +kernel)) rfl
theorem mwL_74 : Cond.methodLink RL 74 yX8_cheapest ∈ mv_all := mv_g (mv_t3 (i := 86) (by decide +kernel)) rfl
theorem mwL_77 : Cond.methodLink RL 77 yX9_cheapest ∈ mv_all := mv_g (mv_t5 (i := 117) (by decide +kernel)) rfl
theorem mwL_78 : Cond.methodLink RL 78 yX8_listed ∈ mv_all := mv_g (mv_t3 (i := 110) (by decide +kernel)) rfl
theorem mwL_81 : Cond.methodLink RL 81 yX9_listed ∈ mv_all := mv_g (mv_t5 (i := 125) (by decide +kernel)) rfl
theorem mwL_82 : Cond.methodLink RL 82 yX8_word ∈ mv_all := mv_g (mv_t3 (i := 145) (by decide +kernel)) rfl
theorem mwL_86 : Cond.methodLink RL 86 yX9_word ∈ mv_all := mv_g (mv_t5 (i := 150) (by decide +kernel)) rfl
theorem mwL_87 : Cond.methodLink RL 87 yX8_place ∈ mv_all := mv_g (mv_t3 (i := 184) (by decide +kernel)) rfl
theorem mwL_90 : Cond.methodLink RL 90 yX9_place ∈ mv_all := mv_g (mv_t5 (i := 162) (by decide +kernel)) rfl
theorem mwL_91 : Cond.methodLink RL 91 yX8_had ∈ mv_all := mv_g (mv_t3 (i := 197) (by decide +kernel)) rfl
theorem mwL_94 : Cond.methodLink RL 94 yX9_had ∈ mv_all := mv_g (mv_t5 (i := 170) (by decide +kernel)) rfl
theorem mwL_95 : Cond.methodLink RL 95 yX8_needed ∈ mv_all := mv_g (mv_t3 (i := 205) (by decide +kernel)) rfl
theorem mwL_98 : Cond.methodLink RL 98 yX9_needed ∈ mv_all := mv_g (mv_t5 (i := 178) (by decide +kernel)) rfl
theorem mwL_99 : Cond.methodLink RL 99 yX8_without ∈ mv_all := mv_g (mv_t3 (i := 214) (by decide +kernel)) rfl
theorem mwL_102 : Cond.methodLink RL 102 yX9_without ∈ mv_all := mv_g (mv_t5 (i := 182) (by decide +kernel)) rfl
theorem mwL_103 : Cond.methodLink RL 103 yX8_share ∈ mv_all := mv_g (mv_t3 (i := 218) (by decide +kernel)) rfl
theorem mwL_106 : Cond.methodLink RL 106 yX9_share ∈ mv_all := mv_g (mv_t5 (i := 186) (by decide +kernel)) rfl
theorem mwL_107 : Cond.methodLink RL 107 yX8_drawn ∈ mv_all := mv_g (mv_t3 (i := 232) (by decide +kernel)) rfl
theorem mwL_110 : Cond.methodLink RL 110 yX9_drawn ∈ mv_all := mv_g (mv_t5 (i := 191) (by decide +kernel)) rfl
theorem mwL_111 : Cond.methodLink RL 111 yX8_image ∈ mv_all := mv_g (mv_t4 (i := 3) (by decide +kernel)) rfl
theorem mwL_114 : Cond.methodLink RL 114 yX9_image ∈ mv_all := mv_g (mv_t5 (i := 199) (by decide +kernel)) rfl
theorem mwL_115 : Cond.methodLink RL 115 yX8_restore ∈ mv_all := mv_g (mv_t4 (i := 7) (by decide +kernel)) rfl
theorem mwL_118 : Cond.methodLink RL 118 yX9_restore ∈ mv_all := mv_g (mv_t5 (i := 203) (by decide +kernel)) rfl
theorem mwL_119 : Cond.methodLink RL 119 yX8_kind ∈ mv_all := mv_g (mv_t4 (i := 11) (by decide +kernel)) rfl
theorem mwL_122 : Cond.methodLink RL 122 yX9_kind ∈ mv_all := mv_g (mv_t5 (i := 207) (by decide +kernel)) rfl
theorem mwL_123 : Cond.methodLink RL 123 yX8_as ∈ mv_all := mv_g (mv_t4 (i := 15) (by decide +kernel)) rfl
theorem mwL_126 : Cond.methodLink RL 126 yX9_as ∈ mv_all := mv_g (mv_t5 (i := 211) (by decide +kernel)) rfl
theorem mwL_127 : Cond.methodLink RL 127 yX8_ask ∈ mv_all := mv_g (mv_t4 (i := 23) (by decide +kernel)) rfl
theorem mwL_130 : Cond.methodLink RL 130 yX9_ask ∈ mv_all := mv_g (mv_t5 (i := 219) (by decide +kernel)) rfl
theorem mwL_131 : Cond.methodLink RL 131 yX8_trace ∈ mv_all := mv_g (mv_t4 (i := 92) (by decide +kernel)) rfl
theorem mwL_134 : Cond.methodLink RL 134 yX9_trace ∈ mv_all := mv_g (mv_t6 (i := 19) (by decide +kernel)) rfl
theorem mwL_135 : Cond.methodLink RL 135 yX8_count ∈ mv_all := mv_g (mv_t4 (i := 96) (by decide +kernel)) rfl
theorem mwL_138 : Cond.methodLink RL 138 yX9_count ∈ mv_all := mv_g (mv_t6 (i := 23) (by decide +kernel)) rfl
theorem mwL_139 : Cond.methodLink RL 139 yX8_status ∈ mv_all := mv_g (mv_t4 (i := 105) (by decide +kernel)) rfl
theorem mwL_142 : Cond.methodLink RL 142 yX9_status ∈ mv_all := mv_g (mv_t6 (i := 31) (by decide +kernel)) rfl
theorem mwX0_1 : Cond.methodLink RX0 1 objectInit ∈ mv_all := mv_g (mv_t1 (i := 164) (by decide +kernel)) rfl
theorem mwX0_23 : Cond.methodLink RX0 23 yX0_forgetOldest ∈ mv_all := mv_g (mv_t2 (i := 233) (by decide +kernel)) rfl
theorem mwX0_26 : Cond.methodLink RX0 26 arraycopyName ∈ mv_all := mv_g (mv_t2 (i := 237) (by decide +kernel)) rfl
theorem mwX1_3 : Cond.methodLink RX1 3 objectInit ∈ mv_all := mv_g (mv_t2 (i := 22) (by decide +kernel)) rfl
theorem mwX1_25 : Cond.methodLink RX1 25 yX1_sizeOfCall ∈ mv_all := mv_g (mv_t4 (i := 32) (by decide +kernel)) rfl
theorem mwX1_29 : Cond.methodLink RX1 29 yX1_sizeOfLocal ∈ mv_all := mv_g (mv_t4 (i := 52) (by decide +kernel)) rfl
theorem mwX1_32 : Cond.methodLink RX1 32 yX1_body23 ∈ mv_all := mv_g (mv_t4 (i := 88) (by decide +kernel)) rfl
theorem mwX1_35 : Cond.methodLink RX1 35 yX1_markOfLocal ∈ mv_all := mv_g (mv_t4 (i := 64) (by decide +kernel)) rfl
theorem mwX1_38 : Cond.methodLink RX1 38 yX1_body12 ∈ mv_all := mv_g (mv_t4 (i := 56) (by decide +kernel)) rfl
theorem mwX1_41 : Cond.methodLink RX1 41 yX1_body11 ∈ mv_all := mv_g (mv_t4 (i := 60) (by decide +kernel)) rfl
theorem mwX1_44 : Cond.methodLink RX1 44 yX1_body14 ∈ mv_all := mv_g (mv_t4 (i := 36) (by decide +kernel)) rfl
theorem mwX1_47 : Cond.methodLink RX1 47 yX1_body13 ∈ mv_all := mv_g (mv_t4 (i := 44) (by decide +kernel)) rfl
theorem mwX1_53 : Cond.methodLink RX1 53 yX1_body24 ∈ mv_all := mv_g (mv_t4 (i := 68) (by decide +kernel)) rfl
theorem mwX1_56 : Cond.methodLink RX1 56 yX1_body22 ∈ mv_all := mv_g (mv_t4 (i := 80) (by decide +kernel)) rfl
theorem mwX1_59 : Cond.methodLink RX1 59 yX1_body21 ∈ mv_all := mv_g (mv_t4 (i := 72) (by decide +kernel)) rfl
theorem mwX1_62 : Cond.methodLink RX1 62 yX1_begin ∈ mv_all := mv_g (mv_t4 (i := 40) (by decide +kernel)) rfl
theorem mwX1_69 : Cond.methodLink RX1 69 yX1_body10 ∈ mv_all := mv_g (mv_t4 (i := 48) (by decide +kernel)) rfl
theorem mwX1_72 : Cond.methodLink RX1 72 yX1_body20 ∈ mv_all := mv_g (mv_t4 (i := 76) (by decide +kernel)) rfl
theorem mwX2_3 : Cond.methodLink RX2 3 objectInit ∈ mv_all := mv_g (mv_t1 (i := 200) (by decide +kernel)) rfl
theorem mwX2_33 : Cond.methodLink RX2 33 yX2_countAll ∈ mv_all := mv_g (mv_t3 (i := 60) (by decide +kernel)) rfl
theorem mwX2_38 : Cond.methodLink RX2 38 yJ9_min_f86c9 ∈ mv_all := mv_g (mv_t3 (i := 78) (by decide +kernel)) rfl
theorem mwX2_44 : Cond.methodLink RX2 44 yX2_manyBelow ∈ mv_all := mv_g (mv_t3 (i := 193) (by decide +kernel)) rfl
theorem mwX2_57 : Cond.methodLink RX2 57 yX2_want ∈ mv_all := mv_g (mv_t3 (i := 124) (by decide +kernel)) rfl
theorem mwX2_61 : Cond.methodLink RX2 61 yX2_choose ∈ mv_all := mv_g (mv_t3 (i := 128) (by decide +kernel)) rfl
theorem mwX2_71 : Cond.methodLink RX2 71 yX2_wantTaken ∈ mv_all := mv_g (mv_t3 (i := 137) (by decide +kernel)) rfl
theorem mwX2_78 : Cond.methodLink RX2 78 yX2_waysWith ∈ mv_all := mv_g (mv_t3 (i := 132) (by decide +kernel)) rfl
theorem mwX2_90 : Cond.methodLink RX2 90 yX2_ways ∈ mv_all := mv_g (mv_t3 (i := 74) (by decide +kernel)) rfl
theorem mwX2_100 : Cond.methodLink RX2 100 yX2_fillRest ∈ mv_all := mv_g (mv_t3 (i := 141) (by decide +kernel)) rfl
theorem mwX2_110 : Cond.methodLink RX2 110 yX2_countPrice ∈ mv_all := mv_g (mv_t3 (i := 64) (by decide +kernel)) rfl
theorem mwX2_116 : Cond.methodLink RX2 116 yX2_manyWith ∈ mv_all := mv_g (mv_t3 (i := 69) (by decide +kernel)) rfl
theorem mwX2_125 : Cond.methodLink RX2 125 yX2_addTo ∈ mv_all := mv_g (mv_t3 (i := 81) (by decide +kernel)) rfl
theorem mwX3_3 : Cond.methodLink RX3 3 objectInit ∈ mv_all := mv_g (mv_t1 (i := 187) (by decide +kernel)) rfl
theorem mwX3_19 : Cond.methodLink RX3 19 yX3_seek ∈ mv_all := mv_g (mv_t3 (i := 94) (by decide +kernel)) rfl
theorem mwX3_34 : Cond.methodLink RX3 34 yX3_typesHad ∈ mv_all := mv_g (mv_t3 (i := 213) (by decide +kernel)) rfl
theorem mwX3_41 : Cond.methodLink RX3 41 yJ7_fill_53178 ∈ mv_all := mv_g (mv_t3 (i := 99) (by decide +kernel)) rfl
theorem mwX3_53 : Cond.methodLink RX3 53 yX3_leastWith ∈ mv_all := mv_g (mv_t3 (i := 100) (by decide +kernel)) rfl
theorem mwX3_56 : Cond.methodLink RX3 56 yX3_lower ∈ mv_all := mv_g (mv_t3 (i := 105) (by decide +kernel)) rfl
theorem mwX4_3 : Cond.methodLink RX4 3 objectInit ∈ mv_all := mv_g (mv_t1 (i := 136) (by decide +kernel)) rfl
theorem mwX4_41 : Cond.methodLink RX4 41 yX4_readLaw ∈ mv_all := mv_g (mv_t2 (i := 145) (by decide +kernel)) rfl
theorem mwX4_45 : Cond.methodLink RX4 45 yX4_readTypes ∈ mv_all := mv_g (mv_t2 (i := 175) (by decide +kernel)) rfl
theorem mwX4_48 : Cond.methodLink RX4 48 yX4_readMembers ∈ mv_all := mv_g (mv_t2 (i := 183) (by decide +kernel)) rfl
theorem mwX4_51 : Cond.methodLink RX4 51 yX4_take ∈ mv_all := mv_g (mv_t2 (i := 149) (by decide +kernel)) rfl
theorem mwX4_55 : Cond.methodLink RX4 55 yX4_takeNumber ∈ mv_all := mv_g (mv_t2 (i := 165) (by decide +kernel)) rfl
theorem mwX4_59 : Cond.methodLink RX4 59 yJ9_max_7cf53 ∈ mv_all := mv_g (mv_t2 (i := 172) (by decide +kernel)) rfl
theorem mwX4_70 : Cond.methodLink RX4 70 yX4_readMember ∈ mv_all := mv_g (mv_t2 (i := 187) (by decide +kernel)) rfl
theorem mwX4_73 : Cond.methodLink RX4 73 yX4_here ∈ mv_all := mv_g (mv_t2 (i := 153) (by decide +kernel)) rfl
theorem mwX4_77 : Cond.methodLink RX4 77 yX4_kindOf ∈ mv_all := mv_g (mv_t2 (i := 191) (by decide +kernel)) rfl
theorem mwX4_81 : Cond.methodLink RX4 81 yX4_refuse ∈ mv_all := mv_g (mv_t2 (i := 161) (by decide +kernel)) rfl
theorem mwX4_96 : Cond.methodLink RX4 96 yX4_readTaken ∈ mv_all := mv_g (mv_t2 (i := 194) (by decide +kernel)) rfl
theorem mwX4_105 : Cond.methodLink RX4 105 yX4_byteAt ∈ mv_all := mv_g (mv_t2 (i := 157) (by decide +kernel)) rfl
theorem mwX4_108 : Cond.methodLink RX4 108 yX4_isFigure ∈ mv_all := mv_g (mv_t2 (i := 169) (by decide +kernel)) rfl
theorem mwX5_1 : Cond.methodLink RX5 1 objectInit ∈ mv_all := mv_g (mv_t1 (i := 112) (by decide +kernel)) rfl
theorem mwX5_21 : Cond.methodLink RX5 21 yJ7_fill_53178 ∈ mv_all := mv_g (mv_t1 (i := 115) (by decide +kernel)) rfl
theorem mwX5_27 : Cond.methodLink RX5 27 yX5_isMissing ∈ mv_all := mv_g (mv_t4 (i := 104) (by decide +kernel)) rfl
theorem mwX6_3 : Cond.methodLink RX6 3 objectInit ∈ mv_all := mv_g (mv_t1 (i := 239) (by decide +kernel)) rfl
theorem mwX6_40 : Cond.methodLink RX6 40 arraycopyName ∈ mv_all := mv_g (mv_t3 (i := 158) (by decide +kernel)) rfl
theorem mwX6_50 : Cond.methodLink RX6 50 yX6_fits ∈ mv_all := mv_g (mv_t3 (i := 163) (by decide +kernel)) rfl
theorem mwX6_54 : Cond.methodLink RX6 54 yJ9_max_7cf53 ∈ mv_all := mv_g (mv_t3 (i := 170) (by decide +kernel)) rfl
theorem mwX6_60 : Cond.methodLink RX6 60 yX6_wantTaken ∈ mv_all := mv_g (mv_t3 (i := 171) (by decide +kernel)) rfl
theorem mwX7_3 : Cond.methodLink RX7 3 objectInit ∈ mv_all := mv_g (mv_t1 (i := 27) (by decide +kernel)) rfl
theorem mwX7_46 : Cond.methodLink RX7 46 arraycopyName ∈ mv_all := mv_g (mv_t2 (i := 211) (by decide +kernel)) rfl
theorem mwX7_52 : Cond.methodLink RX7 52 yX7_isOf ∈ mv_all := mv_g (mv_t3 (i := 40) (by decide +kernel)) rfl
theorem mwX7_56 : Cond.methodLink RX7 56 yX7_givesOne ∈ mv_all := mv_g (mv_t3 (i := 48) (by decide +kernel)) rfl
theorem mwX7_59 : Cond.methodLink RX7 59 yX7_pricesShown ∈ mv_all := mv_g (mv_t3 (i := 226) (by decide +kernel)) rfl
theorem mwX7_63 : Cond.methodLink RX7 63 yX7_isHidden ∈ mv_all := mv_g (mv_t3 (i := 230) (by decide +kernel)) rfl
theorem mwX7_67 : Cond.methodLink RX7 67 yX7_priceOf ∈ mv_all := mv_g (mv_t3 (i := 231) (by decide +kernel)) rfl
theorem mwX8_1 : Cond.methodLink RX8 1 objectInit ∈ mv_all := mv_g (mv_t1 (i := 19) (by decide +kernel)) rfl
theorem mwX8_81 : Cond.methodLink RX8 81 yX8_found ∈ mv_all := mv_g (mv_t2 (i := 80) (by decide +kernel)) rfl
theorem mwX8_89 : Cond.methodLink RX8 89 yX8_unfound ∈ mv_all := mv_g (mv_t2 (i := 89) (by decide +kernel)) rfl
theorem mwX8_111 : Cond.methodLink RX8 111 arraycopyName ∈ mv_all := mv_g (mv_t2 (i := 113) (by decide +kernel)) rfl
theorem mwX8_148 : Cond.methodLink RX8 148 yX8_standAs ∈ mv_all := mv_g (mv_t2 (i := 203) (by decide +kernel)) rfl
theorem mwX8_164 : Cond.methodLink RX8 164 yX8_change ∈ mv_all := mv_g (mv_t2 (i := 238) (by decide +kernel)) rfl
theorem mwX9_1 : Cond.methodLink RX9 1 objectInit ∈ mv_all := mv_g (mv_t4 (i := 114) (by decide +kernel)) rfl
theorem mwX9_48 : Cond.methodLink RX9 48 yX9_in ∈ mv_all := mv_g (mv_t4 (i := 194) (by decide +kernel)) rfl
theorem mwX9_59 : Cond.methodLink RX9 59 yX9_isRow ∈ mv_all := mv_g (mv_t4 (i := 190) (by decide +kernel)) rfl
theorem mwX9_66 : Cond.methodLink RX9 66 yX9_finds ∈ mv_all := mv_g (mv_t4 (i := 199) (by decide +kernel)) rfl
theorem mwX9_70 : Cond.methodLink RX9 70 yX9_against ∈ mv_all := mv_g (mv_t4 (i := 208) (by decide +kernel)) rfl
theorem mwX9_89 : Cond.methodLink RX9 89 yX9_here ∈ mv_all := mv_g (mv_t5 (i := 2) (by decide +kernel)) rfl
theorem mwX9_93 : Cond.methodLink RX9 93 yX9_fails ∈ mv_all := mv_g (mv_t5 (i := 6) (by decide +kernel)) rfl
theorem mwX9_104 : Cond.methodLink RX9 104 yX9_takes ∈ mv_all := mv_g (mv_t4 (i := 238) (by decide +kernel)) rfl
theorem mwX9_107 : Cond.methodLink RX9 107 yX9_takesNumber ∈ mv_all := mv_g (mv_t5 (i := 10) (by decide +kernel)) rfl
theorem mwX9_110 : Cond.methodLink RX9 110 yX9_kindOf ∈ mv_all := mv_g (mv_t5 (i := 24) (by decide +kernel)) rfl
theorem mwX9_113 : Cond.methodLink RX9 113 yX9_takesLaw ∈ mv_all := mv_g (mv_t4 (i := 234) (by decide +kernel)) rfl
theorem mwX9_117 : Cond.methodLink RX9 117 yX9_takesType ∈ mv_all := mv_g (mv_t5 (i := 16) (by decide +kernel)) rfl
theorem mwX9_120 : Cond.methodLink RX9 120 yX9_takesMember ∈ mv_all := mv_g (mv_t5 (i := 20) (by decide +kernel)) rfl
theorem mwX9_123 : Cond.methodLink RX9 123 yX9_takesAll ∈ mv_all := mv_g (mv_t4 (i := 230) (by decide +kernel)) rfl
theorem mwX9_127 : Cond.methodLink RX9 127 yX9_copyOf ∈ mv_all := mv_g (mv_t5 (i := 28) (by decide +kernel)) rfl
theorem mwX9_134 : Cond.methodLink RX9 134 yX9_isMember ∈ mv_all := mv_g (mv_t5 (i := 40) (by decide +kernel)) rfl
theorem mwX9_138 : Cond.methodLink RX9 138 yX9_minds ∈ mv_all := mv_g (mv_t5 (i := 45) (by decide +kernel)) rfl
theorem mwX9_143 : Cond.methodLink RX9 143 yX9_isType ∈ mv_all := mv_g (mv_t5 (i := 58) (by decide +kernel)) rfl
theorem mwX9_146 : Cond.methodLink RX9 146 yX9_priceOf ∈ mv_all := mv_g (mv_t5 (i := 70) (by decide +kernel)) rfl
theorem mwX9_150 : Cond.methodLink RX9 150 yX9_isOf ∈ mv_all := mv_g (mv_t5 (i := 83) (by decide +kernel)) rfl
theorem mwX9_153 : Cond.methodLink RX9 153 yX9_typesOf ∈ mv_all := mv_g (mv_t5 (i := 79) (by decide +kernel)) rfl
theorem mwX9_157 : Cond.methodLink RX9 157 yX9_givers ∈ mv_all := mv_g (mv_t5 (i := 87) (by decide +kernel)) rfl
theorem mwX9_162 : Cond.methodLink RX9 162 yX9_cut ∈ mv_all := mv_g (mv_t5 (i := 107) (by decide +kernel)) rfl
theorem mwX9_166 : Cond.methodLink RX9 166 yX9_has ∈ mv_all := mv_g (mv_t5 (i := 100) (by decide +kernel)) rfl
theorem mwX9_169 : Cond.methodLink RX9 169 yX9_headed ∈ mv_all := mv_g (mv_t5 (i := 103) (by decide +kernel)) rfl
theorem mwX9_178 : Cond.methodLink RX9 178 yX9_layWays ∈ mv_all := mv_g (mv_t5 (i := 96) (by decide +kernel)) rfl
theorem mwX9_182 : Cond.methodLink RX9 182 yX9_toldOf ∈ mv_all := mv_g (mv_t5 (i := 111) (by decide +kernel)) rfl
theorem mwX9_186 : Cond.methodLink RX9 186 yX9_cheapestOf ∈ mv_all := mv_g (mv_t5 (i := 121) (by decide +kernel)) rfl
theorem mwX9_192 : Cond.methodLink RX9 192 yX9_await0 ∈ mv_all := mv_g (mv_t5 (i := 138) (by decide +kernel)) rfl
theorem mwX9_195 : Cond.methodLink RX9 195 yX9_gives ∈ mv_all := mv_g (mv_t5 (i := 146) (by decide +kernel)) rfl
theorem mwX9_204 : Cond.methodLink RX9 204 yX9_awaitsFirst ∈ mv_all := mv_g (mv_t5 (i := 134) (by decide +kernel)) rfl
theorem mwX9_207 : Cond.methodLink RX9 207 yX9_goesOn ∈ mv_all := mv_g (mv_t5 (i := 142) (by decide +kernel)) rfl
theorem mwX9_212 : Cond.methodLink RX9 212 yX9_laysCode ∈ mv_all := mv_g (mv_t5 (i := 130) (by decide +kernel)) rfl
theorem mwX9_215 : Cond.methodLink RX9 215 yX9_isWorld ∈ mv_all := mv_g (mv_t5 (i := 154) (by decide +kernel)) rfl
theorem mwX9_218 : Cond.methodLink RX9 218 yX9_isWhole ∈ mv_all := mv_g (mv_t5 (i := 158) (by decide +kernel)) rfl
theorem mwX9_221 : Cond.methodLink RX9 221 yX9_placeOf ∈ mv_all := mv_g (mv_t5 (i := 166) (by decide +kernel)) rfl
theorem mwX9_225 : Cond.methodLink RX9 225 yX9_hadBy ∈ mv_all := mv_g (mv_t5 (i := 174) (by decide +kernel)) rfl
theorem mwX9_240 : Cond.methodLink RX9 240 yX9_isA ∈ mv_all := mv_g (mv_t5 (i := 216) (by decide +kernel)) rfl
theorem mwX9_246 : Cond.methodLink RX9 246 yX9_traces ∈ mv_all := mv_g (mv_t5 (i := 227) (by decide +kernel)) rfl
theorem mwX9_249 : Cond.methodLink RX9 249 yX9_size10 ∈ mv_all := mv_g (mv_t5 (i := 235) (by decide +kernel)) rfl
theorem mwX9_252 : Cond.methodLink RX9 252 yX9_markOf ∈ mv_all := mv_g (mv_t5 (i := 239) (by decide +kernel)) rfl
theorem mwX9_255 : Cond.methodLink RX9 255 yX9_size11 ∈ mv_all := mv_g (mv_t5 (i := 231) (by decide +kernel)) rfl
theorem mwX9_258 : Cond.methodLink RX9 258 yX9_size13 ∈ mv_all := mv_g (mv_t6 (i := 11) (by decide +kernel)) rfl
theorem mwX9_261 : Cond.methodLink RX9 261 yX9_mark20 ∈ mv_all := mv_g (mv_t6 (i := 7) (by decide +kernel)) rfl
theorem mwX9_264 : Cond.methodLink RX9 264 yX9_mark21 ∈ mv_all := mv_g (mv_t6 (i := 3) (by decide +kernel)) rfl
theorem mwX9_267 : Cond.methodLink RX9 267 yX9_sizeOf ∈ mv_all := mv_g (mv_t5 (i := 223) (by decide +kernel)) rfl
theorem mwX9_270 : Cond.methodLink RX9 270 yX9_mark23 ∈ mv_all := mv_g (mv_t6 (i := 15) (by decide +kernel)) rfl
theorem mwX9_273 : Cond.methodLink RX9 273 yX9_rowsThere ∈ mv_all := mv_g (mv_t6 (i := 27) (by decide +kernel)) rfl
theorem tfnX1_50 : Cond.fieldLinkNest RX1 50 (TX7 5).1 (TX7 5).2.1 (TX7 5).2.2.1 "WantedTypes" ∈ lw_tbl := mv_t1 (i := 50) (by decide +kernel)
theorem tfnX1_66 : Cond.fieldLinkNest RX1 66 (TX7 7).1 (TX7 7).2.1 (TX7 7).2.2.1 "WantedTypes" ∈ lw_tbl := mv_t1 (i := 61) (by decide +kernel)
theorem tfnX1_75 : Cond.fieldLinkNest RX1 75 (TX7 6).1 (TX7 6).2.1 (TX7 6).2.2.1 "WantedTypes" ∈ lw_tbl := mv_t1 (i := 57) (by decide +kernel)
theorem tfnX2_75 : Cond.fieldLinkNest RX2 75 (TX7 1).1 (TX7 1).2.1 (TX7 1).2.2.1 "WantedTypes" ∈ lw_tbl := mv_t1 (i := 36) (by decide +kernel)
theorem tfnX2_94 : Cond.fieldLinkNest RX2 94 (TX7 8).1 (TX7 8).2.1 (TX7 8).2.2.1 "WantedTypes" ∈ lw_tbl := mv_t1 (i := 68) (by decide +kernel)
theorem tfnX2_97 : Cond.fieldLinkNest RX2 97 (TX7 10).1 (TX7 10).2.1 (TX7 10).2.2.1 "WantedTypes" ∈ lw_tbl := mv_t1 (i := 79) (by decide +kernel)
theorem tfnX2_103 : Cond.fieldLinkNest RX2 103 (TX7 9).1 (TX7 9).2.1 (TX7 9).2.2.1 "WantedTypes" ∈ lw_tbl := mv_t1 (i := 74) (by decide +kernel)
theorem tfnX2_113 : Cond.fieldLinkNest RX2 113 (TX7 0).1 (TX7 0).2.1 (TX7 0).2.2.1 "WantedTypes" ∈ lw_tbl := mv_t1 (i := 31) (by decide +kernel)
theorem tfnX2_119 : Cond.fieldLinkNest RX2 119 (TX7 4).1 (TX7 4).2.1 (TX7 4).2.2.1 "WantedTypes" ∈ lw_tbl := mv_t1 (i := 48) (by decide +kernel)
theorem tfnX2_122 : Cond.fieldLinkNest RX2 122 (TX7 6).1 (TX7 6).2.1 (TX7 6).2.2.1 "WantedTypes" ∈ lw_tbl := mv_t1 (i := 59) (by decide +kernel)
theorem tfnX3_24 : Cond.fieldLinkNest RX3 24 (TX7 0).1 (TX7 0).2.1 (TX7 0).2.2.1 "WantedTypes" ∈ lw_tbl := mv_t1 (i := 29) (by decide +kernel)
theorem tfnX3_31 : Cond.fieldLinkNest RX3 31 (TX7 2).1 (TX7 2).2.1 (TX7 2).2.2.1 "WantedTypes" ∈ lw_tbl := mv_t1 (i := 39) (by decide +kernel)
theorem tfnX3_38 : Cond.fieldLinkNest RX3 38 (TX7 1).1 (TX7 1).2.1 (TX7 1).2.2.1 "WantedTypes" ∈ lw_tbl := mv_t1 (i := 34) (by decide +kernel)
theorem tfnX3_47 : Cond.fieldLinkNest RX3 47 (TX7 4).1 (TX7 4).2.1 (TX7 4).2.2.1 "WantedTypes" ∈ lw_tbl := mv_t1 (i := 46) (by decide +kernel)
theorem tfnX3_50 : Cond.fieldLinkNest RX3 50 (TX7 6).1 (TX7 6).2.1 (TX7 6).2.2.1 "WantedTypes" ∈ lw_tbl := mv_t1 (i := 54) (by decide +kernel)
theorem tfnX3_63 : Cond.fieldLinkNest RX3 63 (TX7 8).1 (TX7 8).2.1 (TX7 8).2.2.1 "WantedTypes" ∈ lw_tbl := mv_t1 (i := 66) (by decide +kernel)
theorem tfnX3_66 : Cond.fieldLinkNest RX3 66 (TX7 9).1 (TX7 9).2.1 (TX7 9).2.2.1 "WantedTypes" ∈ lw_tbl := mv_t1 (i := 71) (by decide +kernel)
theorem tfnX3_69 : Cond.fieldLinkNest RX3 69 (TX7 10).1 (TX7 10).2.1 (TX7 10).2.2.1 "WantedTypes" ∈ lw_tbl := mv_t1 (i := 78) (by decide +kernel)
theorem tfnX4_32 : Cond.fieldLinkNest RX4 32 (TX7 0).1 (TX7 0).2.1 (TX7 0).2.2.1 "WantedTypes" ∈ lw_tbl := mv_t1 (i := 30) (by decide +kernel)
theorem tfnX4_35 : Cond.fieldLinkNest RX4 35 (TX7 1).1 (TX7 1).2.1 (TX7 1).2.2.1 "WantedTypes" ∈ lw_tbl := mv_t1 (i := 35) (by decide +kernel)
theorem tfnX4_38 : Cond.fieldLinkNest RX4 38 (TX7 2).1 (TX7 2).2.1 (TX7 2).2.2.1 "WantedTypes" ∈ lw_tbl := mv_t1 (i := 40) (by decide +kernel)
theorem tfnX4_64 : Cond.fieldLinkNest RX4 64 (TX7 3).1 (TX7 3).2.1 (TX7 3).2.2.1 "WantedTypes" ∈ lw_tbl := mv_t1 (i := 43) (by decide +kernel)
theorem tfnX4_84 : Cond.fieldLinkNest RX4 84 (TX7 5).1 (TX7 5).2.1 (TX7 5).2.2.1 "WantedTypes" ∈ lw_tbl := mv_t1 (i := 51) (by decide +kernel)
theorem tfnX4_87 : Cond.fieldLinkNest RX4 87 (TX7 6).1 (TX7 6).2.1 (TX7 6).2.2.1 "WantedTypes" ∈ lw_tbl := mv_t1 (i := 56) (by decide +kernel)
theorem tfnX4_90 : Cond.fieldLinkNest RX4 90 (TX7 7).1 (TX7 7).2.1 (TX7 7).2.2.1 "WantedTypes" ∈ lw_tbl := mv_t1 (i := 62) (by decide +kernel)
theorem tfnX4_93 : Cond.fieldLinkNest RX4 93 (TX7 8).1 (TX7 8).2.1 (TX7 8).2.2.1 "WantedTypes" ∈ lw_tbl := mv_t1 (i := 67) (by decide +kernel)
theorem tfnX4_99 : Cond.fieldLinkNest RX4 99 (TX7 9).1 (TX7 9).2.1 (TX7 9).2.2.1 "WantedTypes" ∈ lw_tbl := mv_t1 (i := 73) (by decide +kernel)
theorem tfnX4_102 : Cond.fieldLinkNest RX4 102 (TX7 10).1 (TX7 10).2.1 (TX7 10).2.2.1 "WantedTypes" ∈ lw_tbl := mv_t1 (i := 80) (by decide +kernel)
theorem tfnX6_36 : Cond.fieldLinkNest RX6 36 (TX5 0).1 (TX5 0).2.1 (TX5 0).2.2.1 "WantedTypes" ∈ lw_tbl := mv_t1 (i := 119) (by decide +kernel)
theorem tfnX6_74 : Cond.fieldLinkNest RX6 74 (TX7 8).1 (TX7 8).2.1 (TX7 8).2.2.1 "WantedTypes" ∈ lw_tbl := mv_t1 (i := 65) (by decide +kernel)
theorem tfnX6_77 : Cond.fieldLinkNest RX6 77 (TX7 10).1 (TX7 10).2.1 (TX7 10).2.2.1 "WantedTypes" ∈ lw_tbl := mv_t1 (i := 77) (by decide +kernel)
theorem tfnX6_80 : Cond.fieldLinkNest RX6 80 (TX7 9).1 (TX7 9).2.1 (TX7 9).2.2.1 "WantedTypes" ∈ lw_tbl := mv_t1 (i := 72) (by decide +kernel)
theorem tfnX6_83 : Cond.fieldLinkNest RX6 83 (TX7 6).1 (TX7 6).2.1 (TX7 6).2.2.1 "WantedTypes" ∈ lw_tbl := mv_t1 (i := 55) (by decide +kernel)
theorem tfnX8_103 : Cond.fieldLinkNest RX8 103 (TX5 1).1 (TX5 1).2.1 (TX5 1).2.2.1 "WantedTypes" ∈ lw_tbl := mv_t1 (i := 122) (by decide +kernel)
theorem tfnX8_107 : Cond.fieldLinkNest RX8 107 (TX5 0).1 (TX5 0).2.1 (TX5 0).2.2.1 "WantedTypes" ∈ lw_tbl := mv_t1 (i := 120) (by decide +kernel)
theorem tfnX8_134 : Cond.fieldLinkNest RX8 134 (TX4 4).1 (TX4 4).2.1 (TX4 4).2.2.1 "WantedTypes" ∈ lw_tbl := mv_t1 (i := 147) (by decide +kernel)
theorem tfnX8_142 : Cond.fieldLinkNest RX8 142 (TX4 3).1 (TX4 3).2.1 (TX4 3).2.2.1 "WantedTypes" ∈ lw_tbl := mv_t1 (i := 145) (by decide +kernel)
theorem tfnX8_145 : Cond.fieldLinkNest RX8 145 (TX4 2).1 (TX4 2).2.1 (TX4 2).2.2.1 "WantedTypes" ∈ lw_tbl := mv_t1 (i := 143) (by decide +kernel)
theorem tfnX8_151 : Cond.fieldLinkNest RX8 151 (TX7 1).1 (TX7 1).2.1 (TX7 1).2.2.1 "WantedTypes" ∈ lw_tbl := mv_t1 (i := 37) (by decide +kernel)
theorem tfnX8_167 : Cond.fieldLinkNest RX8 167 (TX7 2).1 (TX7 2).2.1 (TX7 2).2.2.1 "WantedTypes" ∈ lw_tbl := mv_t1 (i := 41) (by decide +kernel)
theorem tfnX8_170 : Cond.fieldLinkNest RX8 170 (TX7 7).1 (TX7 7).2.1 (TX7 7).2.2.1 "WantedTypes" ∈ lw_tbl := mv_t1 (i := 63) (by decide +kernel)
theorem tfnX8_176 : Cond.fieldLinkNest RX8 176 (TX7 3).1 (TX7 3).2.1 (TX7 3).2.2.1 "WantedTypes" ∈ lw_tbl := mv_t1 (i := 44) (by decide +kernel)
theorem tfnX8_179 : Cond.fieldLinkNest RX8 179 (TX0 3).1 (TX0 3).2.1 (TX0 3).2.2.1 "WantedTypes" ∈ lw_tbl := mv_t1 (i := 172) (by decide +kernel)
theorem tfnX8_182 : Cond.fieldLinkNest RX8 182 (TX0 0).1 (TX0 0).2.1 (TX0 0).2.2.1 "WantedTypes" ∈ lw_tbl := mv_t1 (i := 166) (by decide +kernel)
theorem tfnX8_185 : Cond.fieldLinkNest RX8 185 (TX0 1).1 (TX0 1).2.1 (TX0 1).2.2.1 "WantedTypes" ∈ lw_tbl := mv_t1 (i := 168) (by decide +kernel)
theorem tfnX8_188 : Cond.fieldLinkNest RX8 188 (TX0 2).1 (TX0 2).2.1 (TX0 2).2.2.1 "WantedTypes" ∈ lw_tbl := mv_t1 (i := 170) (by decide +kernel)
theorem tfnX8_191 : Cond.fieldLinkNest RX8 191 (TX7 6).1 (TX7 6).2.1 (TX7 6).2.2.1 "WantedTypes" ∈ lw_tbl := mv_t1 (i := 58) (by decide +kernel)
theorem tfnX8_197 : Cond.fieldLinkNest RX8 197 (TX7 8).1 (TX7 8).2.1 (TX7 8).2.2.1 "WantedTypes" ∈ lw_tbl := mv_t1 (i := 69) (by decide +kernel)
theorem tfnX8_200 : Cond.fieldLinkNest RX8 200 (TX7 9).1 (TX7 9).2.1 (TX7 9).2.2.1 "WantedTypes" ∈ lw_tbl := mv_t1 (i := 75) (by decide +kernel)
theorem tfnX8_204 : Cond.fieldLinkNest RX8 204 (TX7 10).1 (TX7 10).2.1 (TX7 10).2.2.1 "WantedTypes" ∈ lw_tbl := mv_t1 (i := 81) (by decide +kernel)
theorem tfnX8_207 : Cond.fieldLinkNest RX8 207 (TX7 4).1 (TX7 4).2.1 (TX7 4).2.2.1 "WantedTypes" ∈ lw_tbl := mv_t1 (i := 47) (by decide +kernel)
theorem tfnX8_230 : Cond.fieldLinkNest RX8 230 (TX2 7).1 (TX2 7).2.1 (TX2 7).2.2.1 "WantedTypes" ∈ lw_tbl := mv_t1 (i := 212) (by decide +kernel)
theorem tfnX8_236 : Cond.fieldLinkNest RX8 236 (TX7 0).1 (TX7 0).2.1 (TX7 0).2.2.1 "WantedTypes" ∈ lw_tbl := mv_t1 (i := 32) (by decide +kernel)
theorem tfnX8_256 : Cond.fieldLinkNest RX8 256 (TX6 2).1 (TX6 2).2.1 (TX6 2).2.2.1 "WantedTypes" ∈ lw_tbl := mv_t2 (i := 3) (by decide +kernel)
theorem tfnX8_281 : Cond.fieldLinkNest RX8 281 (TX7 5).1 (TX7 5).2.1 (TX7 5).2.2.1 "WantedTypes" ∈ lw_tbl := mv_t1 (i := 52) (by decide +kernel)
theorem tfnX8_287 : Cond.fieldLinkNest RX8 287 (TX1 2).1 (TX1 2).2.1 (TX1 2).2.2.1 "WantedTypes" ∈ lw_tbl := mv_t2 (i := 27) (by decide +kernel)
theorem tfnX8_296 : Cond.fieldLinkNest RX8 296 (TX1 1).1 (TX1 1).2.1 (TX1 1).2.2.1 "WantedTypes" ∈ lw_tbl := mv_t2 (i := 25) (by decide +kernel)
theorem tfnX8_302 : Cond.fieldLinkNest RX8 302 (TX4 1).1 (TX4 1).2.1 (TX4 1).2.2.1 "WantedTypes" ∈ lw_tbl := mv_t1 (i := 141) (by decide +kernel)
theorem tfnX8_309 : Cond.fieldLinkNest RX8 309 (TX2 1).1 (TX2 1).2.1 (TX2 1).2.2.1 "WantedTypes" ∈ lw_tbl := mv_t1 (i := 205) (by decide +kernel)
theorem tmnX1_19 : Cond.methodLinkNest RX1 19 yX7_isKind "WantedTypes" ∈ lw_tbl := mv_t4 (i := 31) (by decide +kernel)
theorem tmnX2_65 : Cond.methodLinkNest RX2 65 yX7_priceOf "WantedTypes" ∈ lw_tbl := mv_t3 (i := 73) (by decide +kernel)
theorem tmnX2_82 : Cond.methodLinkNest RX2 82 yX7_isHidden "WantedTypes" ∈ lw_tbl := mv_t3 (i := 68) (by decide +kernel)
theorem tmnX2_86 : Cond.methodLinkNest RX2 86 yX7_givesOne "WantedTypes" ∈ lw_tbl := mv_t3 (i := 136) (by decide +kernel)
theorem tmnX3_60 : Cond.methodLinkNest RX3 60 yX7_priceOf "WantedTypes" ∈ lw_tbl := mv_t3 (i := 104) (by decide +kernel)
theorem tmnX4_17 : Cond.methodLinkNest RX4 17 yX7_init "WantedTypes" ∈ lw_tbl := mv_t1 (i := 138) (by decide +kernel)
theorem tmnX4_67 : Cond.methodLinkNest RX4 67 yX7_seeAbove "WantedTypes" ∈ lw_tbl := mv_t2 (i := 179) (by decide +kernel)
theorem tmnX6_26 : Cond.methodLinkNest RX6 26 yX5_isMissing "WantedTypes" ∈ lw_tbl := mv_t3 (i := 156) (by decide +kernel)
theorem tmnX6_32 : Cond.methodLinkNest RX6 32 yX5_hasPlaces "WantedTypes" ∈ lw_tbl := mv_t3 (i := 157) (by decide +kernel)
theorem tmnX6_63 : Cond.methodLinkNest RX6 63 yX7_hasMember "WantedTypes" ∈ lw_tbl := mv_t3 (i := 167) (by decide +kernel)
theorem tmnX6_68 : Cond.methodLinkNest RX6 68 yX7_isHidden "WantedTypes" ∈ lw_tbl := mv_t3 (i := 168) (by decide +kernel)
theorem tmnX6_71 : Cond.methodLinkNest RX6 71 yX7_givesOne "WantedTypes" ∈ lw_tbl := mv_t3 (i := 169) (by decide +kernel)
theorem tmnX6_86 : Cond.methodLinkNest RX6 86 yX7_priceOf "WantedTypes" ∈ lw_tbl := mv_t3 (i := 183) (by decide +kernel)
theorem tmnX8_9 : Cond.methodLinkNest RX8 9 yX7_init "WantedTypes" ∈ lw_tbl := mv_t1 (i := 24) (by decide +kernel)
theorem tmnX8_22 : Cond.methodLinkNest RX8 22 yX5_init "WantedTypes" ∈ lw_tbl := mv_t1 (i := 109) (by decide +kernel)
theorem tmnX8_29 : Cond.methodLinkNest RX8 29 yX4_init "WantedTypes" ∈ lw_tbl := mv_t1 (i := 133) (by decide +kernel)
theorem tmnX8_36 : Cond.methodLinkNest RX8 36 yX0_init "WantedTypes" ∈ lw_tbl := mv_t1 (i := 161) (by decide +kernel)
theorem tmnX8_43 : Cond.methodLinkNest RX8 43 yX3_init "WantedTypes" ∈ lw_tbl := mv_t1 (i := 184) (by decide +kernel)
theorem tmnX8_52 : Cond.methodLinkNest RX8 52 yX2_init "WantedTypes" ∈ lw_tbl := mv_t1 (i := 197) (by decide +kernel)
theorem tmnX8_59 : Cond.methodLinkNest RX8 59 yX6_init "WantedTypes" ∈ lw_tbl := mv_t1 (i := 236) (by decide +kernel)
theorem tmnX8_68 : Cond.methodLinkNest RX8 68 yX1_init "WantedTypes" ∈ lw_tbl := mv_t2 (i := 19) (by decide +kernel)
theorem tmnX8_73 : Cond.methodLinkNest RX8 73 yX5_isRow "WantedTypes" ∈ lw_tbl := mv_t2 (i := 73) (by decide +kernel)
theorem tmnX8_77 : Cond.methodLinkNest RX8 77 yX5_isLane "WantedTypes" ∈ lw_tbl := mv_t2 (i := 76) (by decide +kernel)
theorem tmnX8_85 : Cond.methodLinkNest RX8 85 yX5_make "WantedTypes" ∈ lw_tbl := mv_t2 (i := 85) (by decide +kernel)
theorem tmnX8_92 : Cond.methodLinkNest RX8 92 yX5_isMissing "WantedTypes" ∈ lw_tbl := mv_t2 (i := 97) (by decide +kernel)
theorem tmnX8_95 : Cond.methodLinkNest RX8 95 yX5_hasPlaces "WantedTypes" ∈ lw_tbl := mv_t2 (i := 101) (by decide +kernel)
theorem tmnX8_99 : Cond.methodLinkNest RX8 99 yX5_put "WantedTypes" ∈ lw_tbl := mv_t2 (i := 105) (by decide +kernel)
theorem tmnX8_117 : Cond.methodLinkNest RX8 117 yX5_lose "WantedTypes" ∈ lw_tbl := mv_t2 (i := 120) (by decide +kernel)
theorem tmnX8_120 : Cond.methodLinkNest RX8 120 yX4_isFull "WantedTypes" ∈ lw_tbl := mv_t2 (i := 128) (by decide +kernel)
theorem tmnX8_125 : Cond.methodLinkNest RX8 125 yX4_append "WantedTypes" ∈ lw_tbl := mv_t2 (i := 133) (by decide +kernel)
theorem tmnX8_128 : Cond.methodLinkNest RX8 128 yX4_readTape "WantedTypes" ∈ lw_tbl := mv_t2 (i := 141) (by decide +kernel)
theorem tmnX8_131 : Cond.methodLinkNest RX8 131 yX4_emptyTape "WantedTypes" ∈ lw_tbl := mv_t2 (i := 198) (by decide +kernel)
theorem tmnX8_154 : Cond.methodLinkNest RX8 154 yX7_hasMember "WantedTypes" ∈ lw_tbl := mv_t2 (i := 220) (by decide +kernel)
theorem tmnX8_157 : Cond.methodLinkNest RX8 157 yX7_isHidden "WantedTypes" ∈ lw_tbl := mv_t2 (i := 224) (by decide +kernel)
theorem tmnX8_161 : Cond.methodLinkNest RX8 161 yX0_keep "WantedTypes" ∈ lw_tbl := mv_t2 (i := 229) (by decide +kernel)
theorem tmnX8_173 : Cond.methodLinkNest RX8 173 yX7_hasType "WantedTypes" ∈ lw_tbl := mv_t3 (i := 15) (by decide +kernel)
theorem tmnX8_194 : Cond.methodLinkNest RX8 194 yX7_priceOf "WantedTypes" ∈ lw_tbl := mv_t3 (i := 27) (by decide +kernel)
theorem tmnX8_210 : Cond.methodLinkNest RX8 210 yX7_typesOf "WantedTypes" ∈ lw_tbl := mv_t3 (i := 36) (by decide +kernel)
theorem tmnX8_213 : Cond.methodLinkNest RX8 213 yX7_membersOf "WantedTypes" ∈ lw_tbl := mv_t3 (i := 44) (by decide +kernel)
theorem tmnX8_216 : Cond.methodLinkNest RX8 216 yX2_manyOfPrice "WantedTypes" ∈ lw_tbl := mv_t3 (i := 56) (by decide +kernel)
theorem tmnX8_220 : Cond.methodLinkNest RX8 220 yX3_leastListed "WantedTypes" ∈ lw_tbl := mv_t3 (i := 90) (by decide +kernel)
theorem tmnX8_224 : Cond.methodLinkNest RX8 224 yX2_findPlace "WantedTypes" ∈ lw_tbl := mv_t3 (i := 115) (by decide +kernel)
theorem tmnX8_227 : Cond.methodLinkNest RX8 227 yX2_spell "WantedTypes" ∈ lw_tbl := mv_t3 (i := 120) (by decide +kernel)
theorem tmnX8_233 : Cond.methodLinkNest RX8 233 yX6_isLength "WantedTypes" ∈ lw_tbl := mv_t3 (i := 149) (by decide +kernel)
theorem tmnX8_239 : Cond.methodLinkNest RX8 239 yX6_take "WantedTypes" ∈ lw_tbl := mv_t3 (i := 152) (by decide +kernel)
theorem tmnX8_242 : Cond.methodLinkNest RX8 242 yX6_isWhole "WantedTypes" ∈ lw_tbl := mv_t3 (i := 159) (by decide +kernel)
theorem tmnX8_245 : Cond.methodLinkNest RX8 245 yX6_given "WantedTypes" ∈ lw_tbl := mv_t3 (i := 175) (by decide +kernel)
theorem tmnX8_249 : Cond.methodLinkNest RX8 249 yX6_priceTogether "WantedTypes" ∈ lw_tbl := mv_t3 (i := 179) (by decide +kernel)
theorem tmnX8_252 : Cond.methodLinkNest RX8 252 yX7_isOf "WantedTypes" ∈ lw_tbl := mv_t3 (i := 188) (by decide +kernel)
theorem tmnX8_257 : Cond.methodLinkNest RX8 257 yX2_placeOf "WantedTypes" ∈ lw_tbl := mv_t3 (i := 189) (by decide +kernel)
theorem tmnX8_261 : Cond.methodLinkNest RX8 261 yX3_typesHad "WantedTypes" ∈ lw_tbl := mv_t3 (i := 201) (by decide +kernel)
theorem tmnX8_264 : Cond.methodLinkNest RX8 264 yX3_membersNeeded "WantedTypes" ∈ lw_tbl := mv_t3 (i := 209) (by decide +kernel)
theorem tmnX8_267 : Cond.methodLinkNest RX8 267 yX7_shareOf "WantedTypes" ∈ lw_tbl := mv_t3 (i := 222) (by decide +kernel)
theorem tmnX8_271 : Cond.methodLinkNest RX8 271 yX2_size "WantedTypes" ∈ lw_tbl := mv_t3 (i := 237) (by decide +kernel)
theorem tmnX8_278 : Cond.methodLinkNest RX8 278 yX7_become "WantedTypes" ∈ lw_tbl := mv_t2 (i := 207) (by decide +kernel)
theorem tmnX8_284 : Cond.methodLinkNest RX8 284 yX7_isKind "WantedTypes" ∈ lw_tbl := mv_t4 (i := 19) (by decide +kernel)
theorem tmnX8_290 : Cond.methodLinkNest RX8 290 yX1_sizeOf "WantedTypes" ∈ lw_tbl := mv_t4 (i := 27) (by decide +kernel)
theorem tmnX8_293 : Cond.methodLinkNest RX8 293 yX1_markOf "WantedTypes" ∈ lw_tbl := mv_t4 (i := 84) (by decide +kernel)
theorem tmnX8_299 : Cond.methodLinkNest RX8 299 yX5_present "WantedTypes" ∈ lw_tbl := mv_t4 (i := 100) (by decide +kernel)
theorem tmnX8_313 : Cond.methodLinkNest RX8 313 yX7_putHidden "WantedTypes" ∈ lw_tbl := mv_t3 (i := 2) (by decide +kernel)
theorem tmnX8_317 : Cond.methodLinkNest RX8 317 yX7_seeAbove "WantedTypes" ∈ lw_tbl := mv_t3 (i := 6) (by decide +kernel)
def mv_nw : List Cond := [Cond.fieldLinkNest RX1 50 (TX7 5).1 (TX7 5).2.1 (TX7 5).2.2.1 "WantedTypes", Cond.fieldLinkNest RX1 66 (TX7 7).1 (TX7 7).2.1 (TX7 7).2.2.1 "WantedTypes", Cond.fieldLinkNest RX1 75 (TX7 6).1 (TX7 6).2.1 (TX7 6).2.2.1 "WantedTypes", Cond.fieldLinkNest RX2 75 (TX7 1).1 (TX7 1).2.1 (TX7 1).2.2.1 "WantedTypes", Cond.fieldLinkNest RX2 94 (TX7 8).1 (TX7 8).2.1 (TX7 8).2.2.1 "WantedTypes", Cond.fieldLinkNest RX2 97 (TX7 10).1 (TX7 10).2.1 (TX7 10).2.2.1 "WantedTypes", Cond.fieldLinkNest RX2 103 (TX7 9).1 (TX7 9).2.1 (TX7 9).2.2.1 "WantedTypes", Cond.fieldLinkNest RX2 113 (TX7 0).1 (TX7 0).2.1 (TX7 0).2.2.1 "WantedTypes", Cond.fieldLinkNest RX2 119 (TX7 4).1 (TX7 4).2.1 (TX7 4).2.2.1 "WantedTypes", Cond.fieldLinkNest RX2 122 (TX7 6).1 (TX7 6).2.1 (TX7 6).2.2.1 "WantedTypes", Cond.fieldLinkNest RX3 24 (TX7 0).1 (TX7 0).2.1 (TX7 0).2.2.1 "WantedTypes", Cond.fieldLinkNest RX3 31 (TX7 2).1 (TX7 2).2.1 (TX7 2).2.2.1 "WantedTypes", Cond.fieldLinkNest RX3 38 (TX7 1).1 (TX7 1).2.1 (TX7 1).2.2.1 "WantedTypes", Cond.fieldLinkNest RX3 47 (TX7 4).1 (TX7 4).2.1 (TX7 4).2.2.1 "WantedTypes", Cond.fieldLinkNest RX3 50 (TX7 6).1 (TX7 6).2.1 (TX7 6).2.2.1 "WantedTypes", Cond.fieldLinkNest RX3 63 (TX7 8).1 (TX7 8).2.1 (TX7 8).2.2.1 "WantedTypes", Cond.fieldLinkNest RX3 66 (TX7 9).1 (TX7 9).2.1 (TX7 9).2.2.1 "WantedTypes", Cond.fieldLinkNest RX3 69 (TX7 10).1 (TX7 10).2.1 (TX7 10).2.2.1 "WantedTypes", Cond.fieldLinkNest RX4 32 (TX7 0).1 (TX7 0).2.1 (TX7 0).2.2.1 "WantedTypes", Cond.fieldLinkNest RX4 35 (TX7 1).1 (TX7 1).2.1 (TX7 1).2.2.1 "WantedTypes", Cond.fieldLinkNest RX4 38 (TX7 2).1 (TX7 2).2.1 (TX7 2).2.2.1 "WantedTypes", Cond.fieldLinkNest RX4 64 (TX7 3).1 (TX7 3).2.1 (TX7 3).2.2.1 "WantedTypes", Cond.fieldLinkNest RX4 84 (TX7 5).1 (TX7 5).2.1 (TX7 5).2.2.1 "WantedTypes", Cond.fieldLinkNest RX4 87 (TX7 6).1 (TX7 6).2.1 (TX7 6).2.2.1 "WantedTypes", Cond.fieldLinkNest RX4 90 (TX7 7).1 (TX7 7).2.1 (TX7 7).2.2.1 "WantedTypes", Cond.fieldLinkNest RX4 93 (TX7 8).1 (TX7 8).2.1 (TX7 8).2.2.1 "WantedTypes", Cond.fieldLinkNest RX4 99 (TX7 9).1 (TX7 9).2.1 (TX7 9).2.2.1 "WantedTypes", Cond.fieldLinkNest RX4 102 (TX7 10).1 (TX7 10).2.1 (TX7 10).2.2.1 "WantedTypes", Cond.fieldLinkNest RX6 36 (TX5 0).1 (TX5 0).2.1 (TX5 0).2.2.1 "WantedTypes", Cond.fieldLinkNest RX6 74 (TX7 8).1 (TX7 8).2.1 (TX7 8).2.2.1 "WantedTypes", Cond.fieldLinkNest RX6 77 (TX7 10).1 (TX7 10).2.1 (TX7 10).2.2.1 "WantedTypes", Cond.fieldLinkNest RX6 80 (TX7 9).1 (TX7 9).2.1 (TX7 9).2.2.1 "WantedTypes", Cond.fieldLinkNest RX6 83 (TX7 6).1 (TX7 6).2.1 (TX7 6).2.2.1 "WantedTypes", Cond.fieldLinkNest RX8 103 (TX5 1).1 (TX5 1).2.1 (TX5 1).2.2.1 "WantedTypes", Cond.fieldLinkNest RX8 107 (TX5 0).1 (TX5 0).2.1 (TX5 0).2.2.1 "WantedTypes", Cond.fieldLinkNest RX8 134 (TX4 4).1 (TX4 4).2.1 (TX4 4).2.2.1 "WantedTypes", Cond.fieldLinkNest RX8 142 (TX4 3).1 (TX4 3).2.1 (TX4 3).2.2.1 "WantedTypes", Cond.fieldLinkNest RX8 145 (TX4 2).1 (TX4 2).2.1 (TX4 2).2.2.1 "WantedTypes", Cond.fieldLinkNest RX8 151 (TX7 1).1 (TX7 1).2.1 (TX7 1).2.2.1 "WantedTypes", Cond.fieldLinkNest RX8 167 (TX7 2).1 (TX7 2).2.1 (TX7 2).2.2.1 "WantedTypes", Cond.fieldLinkNest RX8 170 (TX7 7).1 (TX7 7).2.1 (TX7 7).2.2.1 "WantedTypes", Cond.fieldLinkNest RX8 176 (TX7 3).1 (TX7 3).2.1 (TX7 3).2.2.1 "WantedTypes", Cond.fieldLinkNest RX8 179 (TX0 3).1 (TX0 3).2.1 (TX0 3).2.2.1 "WantedTypes", Cond.fieldLinkNest RX8 182 (TX0 0).1 (TX0 0).2.1 (TX0 0).2.2.1 "WantedTypes", Cond.fieldLinkNest RX8 185 (TX0 1).1 (TX0 1).2.1 (TX0 1).2.2.1 "WantedTypes", Cond.fieldLinkNest RX8 188 (TX0 2).1 (TX0 2).2.1 (TX0 2).2.2.1 "WantedTypes", Cond.fieldLinkNest RX8 191 (TX7 6).1 (TX7 6).2.1 (TX7 6).2.2.1 "WantedTypes", Cond.fieldLinkNest RX8 197 (TX7 8).1 (TX7 8).2.1 (TX7 8).2.2.1 "WantedTypes", Cond.fieldLinkNest RX8 200 (TX7 9).1 (TX7 9).2.1 (TX7 9).2.2.1 "WantedTypes", Cond.fieldLinkNest RX8 204 (TX7 10).1 (TX7 10).2.1 (TX7 10).2.2.1 "WantedTypes", Cond.fieldLinkNest RX8 207 (TX7 4).1 (TX7 4).2.1 (TX7 4).2.2.1 "WantedTypes", Cond.fieldLinkNest RX8 230 (TX2 7).1 (TX2 7).2.1 (TX2 7).2.2.1 "WantedTypes", Cond.fieldLinkNest RX8 236 (TX7 0).1 (TX7 0).2.1 (TX7 0).2.2.1 "WantedTypes", Cond.fieldLinkNest RX8 256 (TX6 2).1 (TX6 2).2.1 (TX6 2).2.2.1 "WantedTypes", Cond.fieldLinkNest RX8 281 (TX7 5).1 (TX7 5).2.1 (TX7 5).2.2.1 "WantedTypes", Cond.fieldLinkNest RX8 287 (TX1 2).1 (TX1 2).2.1 (TX1 2).2.2.1 "WantedTypes", Cond.fieldLinkNest RX8 296 (TX1 1).1 (TX1 1).2.1 (TX1 1).2.2.1 "WantedTypes", Cond.fieldLinkNest RX8 302 (TX4 1).1 (TX4 1).2.1 (TX4 1).2.2.1 "WantedTypes", Cond.fieldLinkNest RX8 309 (TX2 1).1 (TX2 1).2.1 (TX2 1).2.2.1 "WantedTypes", Cond.methodLinkNest RX1 19 yX7_isKind "WantedTypes", Cond.methodLinkNest RX2 65 yX7_priceOf "WantedTypes", Cond.methodLinkNest RX2 82 yX7_isHidden "WantedTypes", Cond.methodLinkNest RX2 86 yX7_givesOne "WantedTypes", Cond.methodLinkNest RX3 60 yX7_priceOf "WantedTypes", Cond.methodLinkNest RX4 17 yX7_init "WantedTypes", Cond.methodLinkNest RX4 67 yX7_seeAbove "WantedTypes", Cond.methodLinkNest RX6 26 yX5_isMissing "WantedTypes", Cond.methodLinkNest RX6 32 yX5_hasPlaces "WantedTypes", Cond.methodLinkNest RX6 63 yX7_hasMember "WantedTypes", Cond.methodLinkNest RX6 68 yX7_isHidden "WantedTypes", Cond.methodLinkNest RX6 71 yX7_givesOne "WantedTypes", Cond.methodLinkNest RX6 86 yX7_priceOf "WantedTypes", Cond.methodLinkNest RX8 9 yX7_init "WantedTypes", Cond.methodLinkNest RX8 22 yX5_init "WantedTypes", Cond.methodLinkNest RX8 29 yX4_init "WantedTypes", Cond.methodLinkNest RX8 36 yX0_init "WantedTypes", Cond.methodLinkNest RX8 43 yX3_init "WantedTypes", Cond.methodLinkNest RX8 52 yX2_init "WantedTypes", Cond.methodLinkNest RX8 59 yX6_init "WantedTypes", Cond.methodLinkNest RX8 68 yX1_init "WantedTypes", Cond.methodLinkNest RX8 73 yX5_isRow "WantedTypes", Cond.methodLinkNest RX8 77 yX5_isLane "WantedTypes", Cond.methodLinkNest RX8 85 yX5_make "WantedTypes", Cond.methodLinkNest RX8 92 yX5_isMissing "WantedTypes", Cond.methodLinkNest RX8 95 yX5_hasPlaces "WantedTypes", Cond.methodLinkNest RX8 99 yX5_put "WantedTypes", Cond.methodLinkNest RX8 117 yX5_lose "WantedTypes", Cond.methodLinkNest RX8 120 yX4_isFull "WantedTypes", Cond.methodLinkNest RX8 125 yX4_append "WantedTypes", Cond.methodLinkNest RX8 128 yX4_readTape "WantedTypes", Cond.methodLinkNest RX8 131 yX4_emptyTape "WantedTypes", Cond.methodLinkNest RX8 154 yX7_hasMember "WantedTypes", Cond.methodLinkNest RX8 157 yX7_isHidden "WantedTypes", Cond.methodLinkNest RX8 161 yX0_keep "WantedTypes", Cond.methodLinkNest RX8 173 yX7_hasType "WantedTypes", Cond.methodLinkNest RX8 194 yX7_priceOf "WantedTypes", Cond.methodLinkNest RX8 210 yX7_typesOf "WantedTypes", Cond.methodLinkNest RX8 213 yX7_membersOf "WantedTypes", Cond.methodLinkNest RX8 216 yX2_manyOfPrice "WantedTypes", Cond.methodLinkNest RX8 220 yX3_leastListed "WantedTypes", Cond.methodLinkNest RX8 224 yX2_findPlace "WantedTypes", Cond.methodLinkNest RX8 227 yX2_spell "WantedTypes", Cond.methodLinkNest RX8 233 yX6_isLength "WantedTypes", Cond.methodLinkNest RX8 239 yX6_take "WantedTypes", Cond.methodLinkNest RX8 242 yX6_isWhole "WantedTypes", Cond.methodLinkNest RX8 245 yX6_given "WantedTypes", Cond.methodLinkNest RX8 249 yX6_priceTogether "WantedTypes", Cond.methodLinkNest RX8 252 yX7_isOf "WantedTypes", Cond.methodLinkNest RX8 257 yX2_placeOf "WantedTypes", Cond.methodLinkNest RX8 261 yX3_typesHad "WantedTypes", Cond.methodLinkNest RX8 264 yX3_membersNeeded "WantedTypes", Cond.methodLinkNest RX8 267 yX7_shareOf "WantedTypes", Cond.methodLinkNest RX8 271 yX2_size "WantedTypes", Cond.methodLinkNest RX8 278 yX7_become "WantedTypes", Cond.methodLinkNest RX8 284 yX7_isKind "WantedTypes", Cond.methodLinkNest RX8 290 yX1_sizeOf "WantedTypes", Cond.methodLinkNest RX8 293 yX1_markOf "WantedTypes", Cond.methodLinkNest RX8 299 yX5_present "WantedTypes", Cond.methodLinkNest RX8 313 yX7_putHidden "WantedTypes", Cond.methodLinkNest RX8 317 yX7_seeAbove "WantedTypes"]
theorem mv_nw_in : ∀ w ∈ mv_nw, w ∈ lw_tbl := by
  unfold mv_nw
  refine List.forall_mem_cons.mpr ⟨tfnX1_50, ?_⟩
  refine List.forall_mem_cons.mpr ⟨tfnX1_66, ?_⟩
  refine List.forall_mem_cons.mpr ⟨tfnX1_75, ?_⟩
  refine List.forall_mem_cons.mpr ⟨tfnX2_75, ?_⟩
  refine List.forall_mem_cons.mpr ⟨tfnX2_94, ?_⟩
  refine List.forall_mem_cons.mpr ⟨tfnX2_97, ?_⟩
  refine List.forall_mem_cons.mpr ⟨tfnX2_103, ?_⟩
  refine List.forall_mem_cons.mpr ⟨tfnX2_113, ?_⟩
  refine List.forall_mem_cons.mpr ⟨tfnX2_119, ?_⟩
  refine List.forall_mem_cons.mpr ⟨tfnX2_122, ?_⟩
  refine List.forall_mem_cons.mpr ⟨tfnX3_24, ?_⟩
  refine List.forall_mem_cons.mpr ⟨tfnX3_31, ?_⟩
  refine List.forall_mem_cons.mpr ⟨tfnX3_38, ?_⟩
  refine List.forall_mem_cons.mpr ⟨tfnX3_47, ?_⟩
  refine List.forall_mem_cons.mpr ⟨tfnX3_50, ?_⟩
  refine List.forall_mem_cons.mpr ⟨tfnX3_63, ?_⟩
  refine List.forall_mem_cons.mpr ⟨tfnX3_66, ?_⟩
  refine List.forall_mem_cons.mpr ⟨tfnX3_69, ?_⟩
  refine List.forall_mem_cons.mpr ⟨tfnX4_32, ?_⟩
  refine List.forall_mem_cons.mpr ⟨tfnX4_35, ?_⟩
  refine List.forall_mem_cons.mpr ⟨tfnX4_38, ?_⟩
  refine List.forall_mem_cons.mpr ⟨tfnX4_64, ?_⟩
  refine List.forall_mem_cons.mpr ⟨tfnX4_84, ?_⟩
  refine List.forall_mem_cons.mpr ⟨tfnX4_87, ?_⟩
  refine List.forall_mem_cons.mpr ⟨tfnX4_90, ?_⟩
  refine List.forall_mem_cons.mpr ⟨tfnX4_93, ?_⟩
  refine List.forall_mem_cons.mpr ⟨tfnX4_99, ?_⟩
  refine List.forall_mem_cons.mpr ⟨tfnX4_102, ?_⟩
  refine List.forall_mem_cons.mpr ⟨tfnX6_36, ?_⟩
  refine List.forall_mem_cons.mpr ⟨tfnX6_74, ?_⟩
  refine List.forall_mem_cons.mpr ⟨tfnX6_77, ?_⟩
  refine List.forall_mem_cons.mpr ⟨tfnX6_80, ?_⟩
  refine List.forall_mem_cons.mpr ⟨tfnX6_83, ?_⟩
  refine List.forall_mem_cons.mpr ⟨tfnX8_103, ?_⟩
  refine List.forall_mem_cons.mpr ⟨tfnX8_107, ?_⟩
  refine List.forall_mem_cons.mpr ⟨tfnX8_134, ?_⟩
  refine List.forall_mem_cons.mpr ⟨tfnX8_142, ?_⟩
  refine List.forall_mem_cons.mpr ⟨tfnX8_145, ?_⟩
  refine List.forall_mem_cons.mpr ⟨tfnX8_151, ?_⟩
  refine List.forall_mem_cons.mpr ⟨tfnX8_167, ?_⟩
  refine List.forall_mem_cons.mpr ⟨tfnX8_170, ?_⟩
  refine List.forall_mem_cons.mpr ⟨tfnX8_176, ?_⟩
  refine List.forall_mem_cons.mpr ⟨tfnX8_179, ?_⟩
  refine List.forall_mem_cons.mpr ⟨tfnX8_182, ?_⟩
  refine List.forall_mem_cons.mpr ⟨tfnX8_185, ?_⟩
  refine List.forall_mem_cons.mpr ⟨tfnX8_188, ?_⟩
  refine List.forall_mem_cons.mpr ⟨tfnX8_191, ?_⟩
  refine List.forall_mem_cons.mpr ⟨tfnX8_197, ?_⟩
  refine List.forall_mem_cons.mpr ⟨tfnX8_200, ?_⟩
  refine List.forall_mem_cons.mpr ⟨tfnX8_204, ?_⟩
  refine List.forall_mem_cons.mpr ⟨tfnX8_207, ?_⟩
  refine List.forall_mem_cons.mpr ⟨tfnX8_230, ?_⟩
  refine List.forall_mem_cons.mpr ⟨tfnX8_236, ?_⟩
  refine List.forall_mem_cons.mpr ⟨tfnX8_256, ?_⟩
  refine List.forall_mem_cons.mpr ⟨tfnX8_281, ?_⟩
  refine List.forall_mem_cons.mpr ⟨tfnX8_287, ?_⟩
  refine List.forall_mem_cons.mpr ⟨tfnX8_296, ?_⟩
  refine List.forall_mem_cons.mpr ⟨tfnX8_302, ?_⟩
  refine List.forall_mem_cons.mpr ⟨tfnX8_309, ?_⟩
  refine List.forall_mem_cons.mpr ⟨tmnX1_19, ?_⟩
  refine List.forall_mem_cons.mpr ⟨tmnX2_65, ?_⟩
  refine List.forall_mem_cons.mpr ⟨tmnX2_82, ?_⟩
  refine List.forall_mem_cons.mpr ⟨tmnX2_86, ?_⟩
  refine List.forall_mem_cons.mpr ⟨tmnX3_60, ?_⟩
  refine List.forall_mem_cons.mpr ⟨tmnX4_17, ?_⟩
  refine List.forall_mem_cons.mpr ⟨tmnX4_67, ?_⟩
  refine List.forall_mem_cons.mpr ⟨tmnX6_26, ?_⟩
  refine List.forall_mem_cons.mpr ⟨tmnX6_32, ?_⟩
  refine List.forall_mem_cons.mpr ⟨tmnX6_63, ?_⟩
  refine List.forall_mem_cons.mpr ⟨tmnX6_68, ?_⟩
  refine List.forall_mem_cons.mpr ⟨tmnX6_71, ?_⟩
  refine List.forall_mem_cons.mpr ⟨tmnX6_86, ?_⟩
  refine List.forall_mem_cons.mpr ⟨tmnX8_9, ?_⟩
  refine List.forall_mem_cons.mpr ⟨tmnX8_22, ?_⟩
  refine List.forall_mem_cons.mpr ⟨tmnX8_29, ?_⟩
  refine List.forall_mem_cons.mpr ⟨tmnX8_36, ?_⟩
  refine List.forall_mem_cons.mpr ⟨tmnX8_43, ?_⟩
  refine List.forall_mem_cons.mpr ⟨tmnX8_52, ?_⟩
  refine List.forall_mem_cons.mpr ⟨tmnX8_59, ?_⟩
  refine List.forall_mem_cons.mpr ⟨tmnX8_68, ?_⟩
  refine List.forall_mem_cons.mpr ⟨tmnX8_73, ?_⟩
  refine List.forall_mem_cons.mpr ⟨tmnX8_77, ?_⟩
  refine List.forall_mem_cons.mpr ⟨tmnX8_85, ?_⟩
  refine List.forall_mem_cons.mpr ⟨tmnX8_92, ?_⟩
  refine List.forall_mem_cons.mpr ⟨tmnX8_95, ?_⟩
  refine List.forall_mem_cons.mpr ⟨tmnX8_99, ?_⟩
  refine List.forall_mem_cons.mpr ⟨tmnX8_117, ?_⟩
  refine List.forall_mem_cons.mpr ⟨tmnX8_120, ?_⟩
  refine List.forall_mem_cons.mpr ⟨tmnX8_125, ?_⟩
  refine List.forall_mem_cons.mpr ⟨tmnX8_128, ?_⟩
  refine List.forall_mem_cons.mpr ⟨tmnX8_131, ?_⟩
  refine List.forall_mem_cons.mpr ⟨tmnX8_154, ?_⟩
  refine List.forall_mem_cons.mpr ⟨tmnX8_157, ?_⟩
  refine List.forall_mem_cons.mpr ⟨tmnX8_161, ?_⟩
  refine List.forall_mem_cons.mpr ⟨tmnX8_173, ?_⟩
  refine List.forall_mem_cons.mpr ⟨tmnX8_194, ?_⟩
  refine List.forall_mem_cons.mpr ⟨tmnX8_210, ?_⟩
  refine List.forall_mem_cons.mpr ⟨tmnX8_213, ?_⟩
  refine List.forall_mem_cons.mpr ⟨tmnX8_216, ?_⟩
  refine List.forall_mem_cons.mpr ⟨tmnX8_220, ?_⟩
  refine List.forall_mem_cons.mpr ⟨tmnX8_224, ?_⟩
  refine List.forall_mem_cons.mpr ⟨tmnX8_227, ?_⟩
  refine List.forall_mem_cons.mpr ⟨tmnX8_233, ?_⟩
  refine List.forall_mem_cons.mpr ⟨tmnX8_239, ?_⟩
  refine List.forall_mem_cons.mpr ⟨tmnX8_242, ?_⟩
  refine List.forall_mem_cons.mpr ⟨tmnX8_245, ?_⟩
  refine List.forall_mem_cons.mpr ⟨tmnX8_249, ?_⟩
  refine List.forall_mem_cons.mpr ⟨tmnX8_252, ?_⟩
  refine List.forall_mem_cons.mpr ⟨tmnX8_257, ?_⟩
  refine List.forall_mem_cons.mpr ⟨tmnX8_261, ?_⟩
  refine List.forall_mem_cons.mpr ⟨tmnX8_264, ?_⟩
  refine List.forall_mem_cons.mpr ⟨tmnX8_267, ?_⟩
  refine List.forall_mem_cons.mpr ⟨tmnX8_271, ?_⟩
  refine List.forall_mem_cons.mpr ⟨tmnX8_278, ?_⟩
  refine List.forall_mem_cons.mpr ⟨tmnX8_284, ?_⟩
  refine List.forall_mem_cons.mpr ⟨tmnX8_290, ?_⟩
  refine List.forall_mem_cons.mpr ⟨tmnX8_293, ?_⟩
  refine List.forall_mem_cons.mpr ⟨tmnX8_299, ?_⟩
  refine List.forall_mem_cons.mpr ⟨tmnX8_313, ?_⟩
  refine List.forall_mem_cons.mpr ⟨tmnX8_317, ?_⟩
  exact fun _ h => absurd h List.not_mem_nil
theorem fnX1_50 : mv_nw[0]? = some (Cond.fieldLinkNest RX1 50 (TX7 5).1 (TX7 5).2.1 (TX7 5).2.2.1 "WantedTypes") := rfl
theorem fnX1_66 : mv_nw[1]? = some (Cond.fieldLinkNest RX1 66 (TX7 7).1 (TX7 7).2.1 (TX7 7).2.2.1 "WantedTypes") := rfl
theorem fnX1_75 : mv_nw[2]? = some (Cond.fieldLinkNest RX1 75 (TX7 6).1 (TX7 6).2.1 (TX7 6).2.2.1 "WantedTypes") := rfl
theorem fnX2_75 : mv_nw[3]? = some (Cond.fieldLinkNest RX2 75 (TX7 1).1 (TX7 1).2.1 (TX7 1).2.2.1 "WantedTypes") := rfl
theorem fnX2_94 : mv_nw[4]? = some (Cond.fieldLinkNest RX2 94 (TX7 8).1 (TX7 8).2.1 (TX7 8).2.2.1 "WantedTypes") := rfl
theorem fnX2_97 : mv_nw[5]? = some (Cond.fieldLinkNest RX2 97 (TX7 10).1 (TX7 10).2.1 (TX7 10).2.2.1 "WantedTypes") := rfl
theorem fnX2_103 : mv_nw[6]? = some (Cond.fieldLinkNest RX2 103 (TX7 9).1 (TX7 9).2.1 (TX7 9).2.2.1 "WantedTypes") := rfl
theorem fnX2_113 : mv_nw[7]? = some (Cond.fieldLinkNest RX2 113 (TX7 0).1 (TX7 0).2.1 (TX7 0).2.2.1 "WantedTypes") := rfl
theorem fnX2_119 : mv_nw[8]? = some (Cond.fieldLinkNest RX2 119 (TX7 4).1 (TX7 4).2.1 (TX7 4).2.2.1 "WantedTypes") := rfl
theorem fnX2_122 : mv_nw[9]? = some (Cond.fieldLinkNest RX2 122 (TX7 6).1 (TX7 6).2.1 (TX7 6).2.2.1 "WantedTypes") := rfl
theorem fnX3_24 : mv_nw[10]? = some (Cond.fieldLinkNest RX3 24 (TX7 0).1 (TX7 0).2.1 (TX7 0).2.2.1 "WantedTypes") := rfl
theorem fnX3_31 : mv_nw[11]? = some (Cond.fieldLinkNest RX3 31 (TX7 2).1 (TX7 2).2.1 (TX7 2).2.2.1 "WantedTypes") := rfl
theorem fnX3_38 : mv_nw[12]? = some (Cond.fieldLinkNest RX3 38 (TX7 1).1 (TX7 1).2.1 (TX7 1).2.2.1 "WantedTypes") := rfl
theorem fnX3_47 : mv_nw[13]? = some (Cond.fieldLinkNest RX3 47 (TX7 4).1 (TX7 4).2.1 (TX7 4).2.2.1 "WantedTypes") := rfl
theorem fnX3_50 : mv_nw[14]? = some (Cond.fieldLinkNest RX3 50 (TX7 6).1 (TX7 6).2.1 (TX7 6).2.2.1 "WantedTypes") := rfl
theorem fnX3_63 : mv_nw[15]? = some (Cond.fieldLinkNest RX3 63 (TX7 8).1 (TX7 8).2.1 (TX7 8).2.2.1 "WantedTypes") := rfl
theorem fnX3_66 : mv_nw[16]? = some (Cond.fieldLinkNest RX3 66 (TX7 9).1 (TX7 9).2.1 (TX7 9).2.2.1 "WantedTypes") := rfl
theorem fnX3_69 : mv_nw[17]? = some (Cond.fieldLinkNest RX3 69 (TX7 10).1 (TX7 10).2.1 (TX7 10).2.2.1 "WantedTypes") := rfl
theorem fnX4_32 : mv_nw[18]? = some (Cond.fieldLinkNest RX4 32 (TX7 0).1 (TX7 0).2.1 (TX7 0).2.2.1 "WantedTypes") := rfl
theorem fnX4_35 : mv_nw[19]? = some (Cond.fieldLinkNest RX4 35 (TX7 1).1 (TX7 1).2.1 (TX7 1).2.2.1 "WantedTypes") := rfl
theorem fnX4_38 : mv_nw[20]? = some (Cond.fieldLinkNest RX4 38 (TX7 2).1 (TX7 2).2.1 (TX7 2).2.2.1 "WantedTypes") := rfl
theorem fnX4_64 : mv_nw[21]? = some (Cond.fieldLinkNest RX4 64 (TX7 3).1 (TX7 3).2.1 (TX7 3).2.2.1 "WantedTypes") := rfl
theorem fnX4_84 : mv_nw[22]? = some (Cond.fieldLinkNest RX4 84 (TX7 5).1 (TX7 5).2.1 (TX7 5).2.2.1 "WantedTypes") := rfl
theorem fnX4_87 : mv_nw[23]? = some (Cond.fieldLinkNest RX4 87 (TX7 6).1 (TX7 6).2.1 (TX7 6).2.2.1 "WantedTypes") := rfl
theorem fnX4_90 : mv_nw[24]? = some (Cond.fieldLinkNest RX4 90 (TX7 7).1 (TX7 7).2.1 (TX7 7).2.2.1 "WantedTypes") := rfl
theorem fnX4_93 : mv_nw[25]? = some (Cond.fieldLinkNest RX4 93 (TX7 8).1 (TX7 8).2.1 (TX7 8).2.2.1 "WantedTypes") := rfl
theorem fnX4_99 : mv_nw[26]? = some (Cond.fieldLinkNest RX4 99 (TX7 9).1 (TX7 9).2.1 (TX7 9).2.2.1 "WantedTypes") := rfl
theorem fnX4_102 : mv_nw[27]? = some (Cond.fieldLinkNest RX4 102 (TX7 10).1 (TX7 10).2.1 (TX7 10).2.2.1 "WantedTypes") := rfl
theorem fnX6_36 : mv_nw[28]? = some (Cond.fieldLinkNest RX6 36 (TX5 0).1 (TX5 0).2.1 (TX5 0).2.2.1 "WantedTypes") := rfl
theorem fnX6_74 : mv_nw[29]? = some (Cond.fieldLinkNest RX6 74 (TX7 8).1 (TX7 8).2.1 (TX7 8).2.2.1 "WantedTypes") := rfl
theorem fnX6_77 : mv_nw[30]? = some (Cond.fieldLinkNest RX6 77 (TX7 10).1 (TX7 10).2.1 (TX7 10).2.2.1 "WantedTypes") := rfl
theorem fnX6_80 : mv_nw[31]? = some (Cond.fieldLinkNest RX6 80 (TX7 9).1 (TX7 9).2.1 (TX7 9).2.2.1 "WantedTypes") := rfl
theorem fnX6_83 : mv_nw[32]? = some (Cond.fieldLinkNest RX6 83 (TX7 6).1 (TX7 6).2.1 (TX7 6).2.2.1 "WantedTypes") := rfl
theorem fnX8_103 : mv_nw[33]? = some (Cond.fieldLinkNest RX8 103 (TX5 1).1 (TX5 1).2.1 (TX5 1).2.2.1 "WantedTypes") := rfl
theorem fnX8_107 : mv_nw[34]? = some (Cond.fieldLinkNest RX8 107 (TX5 0).1 (TX5 0).2.1 (TX5 0).2.2.1 "WantedTypes") := rfl
theorem fnX8_134 : mv_nw[35]? = some (Cond.fieldLinkNest RX8 134 (TX4 4).1 (TX4 4).2.1 (TX4 4).2.2.1 "WantedTypes") := rfl
theorem fnX8_142 : mv_nw[36]? = some (Cond.fieldLinkNest RX8 142 (TX4 3).1 (TX4 3).2.1 (TX4 3).2.2.1 "WantedTypes") := rfl
theorem fnX8_145 : mv_nw[37]? = some (Cond.fieldLinkNest RX8 145 (TX4 2).1 (TX4 2).2.1 (TX4 2).2.2.1 "WantedTypes") := rfl
theorem fnX8_151 : mv_nw[38]? = some (Cond.fieldLinkNest RX8 151 (TX7 1).1 (TX7 1).2.1 (TX7 1).2.2.1 "WantedTypes") := rfl
theorem fnX8_167 : mv_nw[39]? = some (Cond.fieldLinkNest RX8 167 (TX7 2).1 (TX7 2).2.1 (TX7 2).2.2.1 "WantedTypes") := rfl
theorem fnX8_170 : mv_nw[40]? = some (Cond.fieldLinkNest RX8 170 (TX7 7).1 (TX7 7).2.1 (TX7 7).2.2.1 "WantedTypes") := rfl
theorem fnX8_176 : mv_nw[41]? = some (Cond.fieldLinkNest RX8 176 (TX7 3).1 (TX7 3).2.1 (TX7 3).2.2.1 "WantedTypes") := rfl
theorem fnX8_179 : mv_nw[42]? = some (Cond.fieldLinkNest RX8 179 (TX0 3).1 (TX0 3).2.1 (TX0 3).2.2.1 "WantedTypes") := rfl
theorem fnX8_182 : mv_nw[43]? = some (Cond.fieldLinkNest RX8 182 (TX0 0).1 (TX0 0).2.1 (TX0 0).2.2.1 "WantedTypes") := rfl
theorem fnX8_185 : mv_nw[44]? = some (Cond.fieldLinkNest RX8 185 (TX0 1).1 (TX0 1).2.1 (TX0 1).2.2.1 "WantedTypes") := rfl
theorem fnX8_188 : mv_nw[45]? = some (Cond.fieldLinkNest RX8 188 (TX0 2).1 (TX0 2).2.1 (TX0 2).2.2.1 "WantedTypes") := rfl
theorem fnX8_191 : mv_nw[46]? = some (Cond.fieldLinkNest RX8 191 (TX7 6).1 (TX7 6).2.1 (TX7 6).2.2.1 "WantedTypes") := rfl
theorem fnX8_197 : mv_nw[47]? = some (Cond.fieldLinkNest RX8 197 (TX7 8).1 (TX7 8).2.1 (TX7 8).2.2.1 "WantedTypes") := rfl
theorem fnX8_200 : mv_nw[48]? = some (Cond.fieldLinkNest RX8 200 (TX7 9).1 (TX7 9).2.1 (TX7 9).2.2.1 "WantedTypes") := rfl
theorem fnX8_204 : mv_nw[49]? = some (Cond.fieldLinkNest RX8 204 (TX7 10).1 (TX7 10).2.1 (TX7 10).2.2.1 "WantedTypes") := rfl
theorem fnX8_207 : mv_nw[50]? = some (Cond.fieldLinkNest RX8 207 (TX7 4).1 (TX7 4).2.1 (TX7 4).2.2.1 "WantedTypes") := rfl
theorem fnX8_230 : mv_nw[51]? = some (Cond.fieldLinkNest RX8 230 (TX2 7).1 (TX2 7).2.1 (TX2 7).2.2.1 "WantedTypes") := rfl
theorem fnX8_236 : mv_nw[52]? = some (Cond.fieldLinkNest RX8 236 (TX7 0).1 (TX7 0).2.1 (TX7 0).2.2.1 "WantedTypes") := rfl
theorem fnX8_256 : mv_nw[53]? = some (Cond.fieldLinkNest RX8 256 (TX6 2).1 (TX6 2).2.1 (TX6 2).2.2.1 "WantedTypes") := rfl
theorem fnX8_281 : mv_nw[54]? = some (Cond.fieldLinkNest RX8 281 (TX7 5).1 (TX7 5).2.1 (TX7 5).2.2.1 "WantedTypes") := rfl
theorem fnX8_287 : mv_nw[55]? = some (Cond.fieldLinkNest RX8 287 (TX1 2).1 (TX1 2).2.1 (TX1 2).2.2.1 "WantedTypes") := rfl
theorem fnX8_296 : mv_nw[56]? = some (Cond.fieldLinkNest RX8 296 (TX1 1).1 (TX1 1).2.1 (TX1 1).2.2.1 "WantedTypes") := rfl
theorem fnX8_302 : mv_nw[57]? = some (Cond.fieldLinkNest RX8 302 (TX4 1).1 (TX4 1).2.1 (TX4 1).2.2.1 "WantedTypes") := rfl
theorem fnX8_309 : mv_nw[58]? = some (Cond.fieldLinkNest RX8 309 (TX2 1).1 (TX2 1).2.1 (TX2 1).2.2.1 "WantedTypes") := rfl
theorem mnX1_19 : mv_nw[59]? = some (Cond.methodLinkNest RX1 19 yX7_isKind "WantedTypes") := rfl
theorem mnX2_65 : mv_nw[60]? = some (Cond.methodLinkNest RX2 65 yX7_priceOf "WantedTypes") := rfl
theorem mnX2_82 : mv_nw[61]? = some (Cond.methodLinkNest RX2 82 yX7_isHidden "WantedTypes") := rfl
theorem mnX2_86 : mv_nw[62]? = some (Cond.methodLinkNest RX2 86 yX7_givesOne "WantedTypes") := rfl
theorem mnX3_60 : mv_nw[63]? = some (Cond.methodLinkNest RX3 60 yX7_priceOf "WantedTypes") := rfl
theorem mnX4_17 : mv_nw[64]? = some (Cond.methodLinkNest RX4 17 yX7_init "WantedTypes") := rfl
theorem mnX4_67 : mv_nw[65]? = some (Cond.methodLinkNest RX4 67 yX7_seeAbove "WantedTypes") := rfl
theorem mnX6_26 : mv_nw[66]? = some (Cond.methodLinkNest RX6 26 yX5_isMissing "WantedTypes") := rfl
theorem mnX6_32 : mv_nw[67]? = some (Cond.methodLinkNest RX6 32 yX5_hasPlaces "WantedTypes") := rfl
theorem mnX6_63 : mv_nw[68]? = some (Cond.methodLinkNest RX6 63 yX7_hasMember "WantedTypes") := rfl
theorem mnX6_68 : mv_nw[69]? = some (Cond.methodLinkNest RX6 68 yX7_isHidden "WantedTypes") := rfl
theorem mnX6_71 : mv_nw[70]? = some (Cond.methodLinkNest RX6 71 yX7_givesOne "WantedTypes") := rfl
theorem mnX6_86 : mv_nw[71]? = some (Cond.methodLinkNest RX6 86 yX7_priceOf "WantedTypes") := rfl
theorem mnX8_9 : mv_nw[72]? = some (Cond.methodLinkNest RX8 9 yX7_init "WantedTypes") := rfl
theorem mnX8_22 : mv_nw[73]? = some (Cond.methodLinkNest RX8 22 yX5_init "WantedTypes") := rfl
theorem mnX8_29 : mv_nw[74]? = some (Cond.methodLinkNest RX8 29 yX4_init "WantedTypes") := rfl
theorem mnX8_36 : mv_nw[75]? = some (Cond.methodLinkNest RX8 36 yX0_init "WantedTypes") := rfl
theorem mnX8_43 : mv_nw[76]? = some (Cond.methodLinkNest RX8 43 yX3_init "WantedTypes") := rfl
theorem mnX8_52 : mv_nw[77]? = some (Cond.methodLinkNest RX8 52 yX2_init "WantedTypes") := rfl
theorem mnX8_59 : mv_nw[78]? = some (Cond.methodLinkNest RX8 59 yX6_init "WantedTypes") := rfl
theorem mnX8_68 : mv_nw[79]? = some (Cond.methodLinkNest RX8 68 yX1_init "WantedTypes") := rfl
theorem mnX8_73 : mv_nw[80]? = some (Cond.methodLinkNest RX8 73 yX5_isRow "WantedTypes") := rfl
theorem mnX8_77 : mv_nw[81]? = some (Cond.methodLinkNest RX8 77 yX5_isLane "WantedTypes") := rfl
theorem mnX8_85 : mv_nw[82]? = some (Cond.methodLinkNest RX8 85 yX5_make "WantedTypes") := rfl
theorem mnX8_92 : mv_nw[83]? = some (Cond.methodLinkNest RX8 92 yX5_isMissing "WantedTypes") := rfl
theorem mnX8_95 : mv_nw[84]? = some (Cond.methodLinkNest RX8 95 yX5_hasPlaces "WantedTypes") := rfl
theorem mnX8_99 : mv_nw[85]? = some (Cond.methodLinkNest RX8 99 yX5_put "WantedTypes") := rfl
theorem mnX8_117 : mv_nw[86]? = some (Cond.methodLinkNest RX8 117 yX5_lose "WantedTypes") := rfl
theorem mnX8_120 : mv_nw[87]? = some (Cond.methodLinkNest RX8 120 yX4_isFull "WantedTypes") := rfl
theorem mnX8_125 : mv_nw[88]? = some (Cond.methodLinkNest RX8 125 yX4_append "WantedTypes") := rfl
theorem mnX8_128 : mv_nw[89]? = some (Cond.methodLinkNest RX8 128 yX4_readTape "WantedTypes") := rfl
theorem mnX8_131 : mv_nw[90]? = some (Cond.methodLinkNest RX8 131 yX4_emptyTape "WantedTypes") := rfl
theorem mnX8_154 : mv_nw[91]? = some (Cond.methodLinkNest RX8 154 yX7_hasMember "WantedTypes") := rfl
theorem mnX8_157 : mv_nw[92]? = some (Cond.methodLinkNest RX8 157 yX7_isHidden "WantedTypes") := rfl
theorem mnX8_161 : mv_nw[93]? = some (Cond.methodLinkNest RX8 161 yX0_keep "WantedTypes") := rfl
theorem mnX8_173 : mv_nw[94]? = some (Cond.methodLinkNest RX8 173 yX7_hasType "WantedTypes") := rfl
theorem mnX8_194 : mv_nw[95]? = some (Cond.methodLinkNest RX8 194 yX7_priceOf "WantedTypes") := rfl
theorem mnX8_210 : mv_nw[96]? = some (Cond.methodLinkNest RX8 210 yX7_typesOf "WantedTypes") := rfl
theorem mnX8_213 : mv_nw[97]? = some (Cond.methodLinkNest RX8 213 yX7_membersOf "WantedTypes") := rfl
theorem mnX8_216 : mv_nw[98]? = some (Cond.methodLinkNest RX8 216 yX2_manyOfPrice "WantedTypes") := rfl
theorem mnX8_220 : mv_nw[99]? = some (Cond.methodLinkNest RX8 220 yX3_leastListed "WantedTypes") := rfl
theorem mnX8_224 : mv_nw[100]? = some (Cond.methodLinkNest RX8 224 yX2_findPlace "WantedTypes") := rfl
theorem mnX8_227 : mv_nw[101]? = some (Cond.methodLinkNest RX8 227 yX2_spell "WantedTypes") := rfl
theorem mnX8_233 : mv_nw[102]? = some (Cond.methodLinkNest RX8 233 yX6_isLength "WantedTypes") := rfl
theorem mnX8_239 : mv_nw[103]? = some (Cond.methodLinkNest RX8 239 yX6_take "WantedTypes") := rfl
theorem mnX8_242 : mv_nw[104]? = some (Cond.methodLinkNest RX8 242 yX6_isWhole "WantedTypes") := rfl
theorem mnX8_245 : mv_nw[105]? = some (Cond.methodLinkNest RX8 245 yX6_given "WantedTypes") := rfl
theorem mnX8_249 : mv_nw[106]? = some (Cond.methodLinkNest RX8 249 yX6_priceTogether "WantedTypes") := rfl
theorem mnX8_252 : mv_nw[107]? = some (Cond.methodLinkNest RX8 252 yX7_isOf "WantedTypes") := rfl
theorem mnX8_257 : mv_nw[108]? = some (Cond.methodLinkNest RX8 257 yX2_placeOf "WantedTypes") := rfl
theorem mnX8_261 : mv_nw[109]? = some (Cond.methodLinkNest RX8 261 yX3_typesHad "WantedTypes") := rfl
theorem mnX8_264 : mv_nw[110]? = some (Cond.methodLinkNest RX8 264 yX3_membersNeeded "WantedTypes") := rfl
theorem mnX8_267 : mv_nw[111]? = some (Cond.methodLinkNest RX8 267 yX7_shareOf "WantedTypes") := rfl
theorem mnX8_271 : mv_nw[112]? = some (Cond.methodLinkNest RX8 271 yX2_size "WantedTypes") := rfl
theorem mnX8_278 : mv_nw[113]? = some (Cond.methodLinkNest RX8 278 yX7_become "WantedTypes") := rfl
theorem mnX8_284 : mv_nw[114]? = some (Cond.methodLinkNest RX8 284 yX7_isKind "WantedTypes") := rfl
theorem mnX8_290 : mv_nw[115]? = some (Cond.methodLinkNest RX8 290 yX1_sizeOf "WantedTypes") := rfl
theorem mnX8_293 : mv_nw[116]? = some (Cond.methodLinkNest RX8 293 yX1_markOf "WantedTypes") := rfl
theorem mnX8_299 : mv_nw[117]? = some (Cond.methodLinkNest RX8 299 yX5_present "WantedTypes") := rfl
theorem mnX8_313 : mv_nw[118]? = some (Cond.methodLinkNest RX8 313 yX7_putHidden "WantedTypes") := rfl
theorem mnX8_317 : mv_nw[119]? = some (Cond.methodLinkNest RX8 317 yX7_seeAbove "WantedTypes") := rfl
theorem kwX2_36 : Cond.constantLong RX2 36 999999999 ∈ mv_all := mv_g (mv_t3 (i := 85) (by decide +kernel)) rfl
theorem kwX2_52 : Cond.constant RX2 52 (-1000000) ∈ mv_all := mv_g (mv_t3 (i := 119) (by decide +kernel)) rfl
theorem kwX2_129 : Cond.constantLong RX2 129 1000000000 ∈ mv_all := mv_g (mv_t3 (i := 77) (by decide +kernel)) rfl
theorem kwX3_23 : Cond.constant RX3 23 (-1000000) ∈ mv_all := mv_g (mv_t3 (i := 109) (by decide +kernel)) rfl
theorem kwX3_30 : Cond.constant RX3 30 100000000 ∈ mv_all := mv_g (mv_t3 (i := 98) (by decide +kernel)) rfl
theorem kwX8_80 : Cond.constant RX8 80 (-1000001) ∈ mv_all := mv_g (mv_t2 (i := 79) (by decide +kernel)) rfl
theorem kwX8_124 : Cond.constant RX8 124 (-1000003) ∈ mv_all := mv_g (mv_t2 (i := 132) (by decide +kernel)) rfl
theorem kwX8_141 : Cond.constant RX8 141 (-1000100) ∈ mv_all := mv_g (mv_t2 (i := 202) (by decide +kernel)) rfl
theorem kwX8_160 : Cond.constant RX8 160 (-1000002) ∈ mv_all := mv_g (mv_t2 (i := 228) (by decide +kernel)) rfl
theorem kwX8_203 : Cond.constant RX8 203 (-1000000) ∈ mv_all := mv_g (mv_t3 (i := 31) (by decide +kernel)) rfl
theorem kwX8_223 : Cond.constant RX8 223 999999999 ∈ mv_all := mv_g (mv_t3 (i := 114) (by decide +kernel)) rfl
theorem kwX8_270 : Cond.constant RX8 270 999999 ∈ mv_all := mv_g (mv_t3 (i := 236) (by decide +kernel)) rfl
theorem kwX8_274 : Cond.constantLong RX8 274 16807 ∈ mv_all := mv_g (mv_t4 (i := 1) (by decide +kernel)) rfl
theorem kwX8_276 : Cond.constantLong RX8 276 2147483647 ∈ mv_all := mv_g (mv_t4 (i := 2) (by decide +kernel)) rfl
theorem kwX8_308 : Cond.constant RX8 308 (-1000010) ∈ mv_all := mv_g (mv_t2 (i := 84) (by decide +kernel)) rfl
theorem kwX9_52 : Cond.constantLong RX9 52 7 ∈ mv_all := mv_g (mv_t4 (i := 193) (by decide +kernel)) rfl
theorem kwX9_58 : Cond.constant RX9 58 (-1000010) ∈ mv_all := mv_g (mv_t4 (i := 203) (by decide +kernel)) rfl
theorem kwX9_63 : Cond.constantLong RX9 63 2 ∈ mv_all := mv_g (mv_t4 (i := 197) (by decide +kernel)) rfl
theorem kwX9_65 : Cond.constant RX9 65 (-1000001) ∈ mv_all := mv_g (mv_t4 (i := 198) (by decide +kernel)) rfl
theorem kwX9_74 : Cond.constantLong RX9 74 255 ∈ mv_all := mv_g (mv_t4 (i := 224) (by decide +kernel)) rfl
theorem kwX9_79 : Cond.constant RX9 79 (-1000003) ∈ mv_all := mv_g (mv_t4 (i := 225) (by decide +kernel)) rfl
theorem kwX9_100 : Cond.constantLong RX9 100 48 ∈ mv_all := mv_g (mv_t5 (i := 14) (by decide +kernel)) rfl
theorem kwX9_102 : Cond.constantLong RX9 102 57 ∈ mv_all := mv_g (mv_t5 (i := 15) (by decide +kernel)) rfl
theorem kwX9_126 : Cond.constant RX9 126 (-1000100) ∈ mv_all := mv_g (mv_t5 (i := 27) (by decide +kernel)) rfl
theorem kwX9_137 : Cond.constant RX9 137 (-1000002) ∈ mv_all := mv_g (mv_t5 (i := 44) (by decide +kernel)) rfl
theorem kwX9_141 : Cond.constantLong RX9 141 9 ∈ mv_all := mv_g (mv_t5 (i := 53) (by decide +kernel)) rfl
theorem kwX9_149 : Cond.constant RX9 149 (-1000000) ∈ mv_all := mv_g (mv_t5 (i := 74) (by decide +kernel)) rfl
theorem kwX9_160 : Cond.constantLong RX9 160 1000000000 ∈ mv_all := mv_g (mv_t5 (i := 110) (by decide +kernel)) rfl
theorem kwX9_173 : Cond.constantLong RX9 173 999999999 ∈ mv_all := mv_g (mv_t5 (i := 115) (by decide +kernel)) rfl
theorem kwX9_175 : Cond.constant RX9 175 999999999 ∈ mv_all := mv_g (mv_t5 (i := 116) (by decide +kernel)) rfl
theorem kwX9_176 : Cond.constantLong RX9 176 24 ∈ mv_all := mv_g (mv_t5 (i := 95) (by decide +kernel)) rfl
theorem kwX9_210 : Cond.constantLong RX9 210 999999998 ∈ mv_all := mv_g (mv_t5 (i := 129) (by decide +kernel)) rfl
theorem kwX9_228 : Cond.constantLong RX9 228 999 ∈ mv_all := mv_g (mv_t5 (i := 190) (by decide +kernel)) rfl
theorem kwX9_230 : Cond.constantLong RX9 230 60 ∈ mv_all := mv_g (mv_t5 (i := 195) (by decide +kernel)) rfl
theorem kwX9_232 : Cond.constantLong RX9 232 999999 ∈ mv_all := mv_g (mv_t5 (i := 196) (by decide +kernel)) rfl
theorem kwX9_234 : Cond.constantLong RX9 234 16807 ∈ mv_all := mv_g (mv_t5 (i := 197) (by decide +kernel)) rfl
theorem kwX9_236 : Cond.constantLong RX9 236 2147483647 ∈ mv_all := mv_g (mv_t5 (i := 198) (by decide +kernel)) rfl
theorem kwX9_238 : Cond.constantLong RX9 238 5 ∈ mv_all := mv_g (mv_t5 (i := 215) (by decide +kernel)) rfl
theorem cwX0_init : Cond.code yX0_init cX0_init 1 none ∈ mv_all := mv_g (mv_t1 (i := 163) (by decide +kernel)) rfl
theorem iwX0_init : Cond.instanceMethod yX0_init ∈ mv_all := mv_g (mv_t1 (i := 162) (by decide +kernel)) rfl
theorem cwX0_keep : Cond.code yX0_keep cX0_keep 4 none ∈ mv_all := mv_g (mv_t2 (i := 232) (by decide +kernel)) rfl
theorem iwX0_keep : Cond.instanceMethod yX0_keep ∈ mv_all := mv_g (mv_t2 (i := 231) (by decide +kernel)) rfl
theorem ewX0_keep : Cond.selects RX0 yX0_keep yX0_keep ∈ mv_all := mv_p2 (y := yX0_keep) (i := 10) (n := 4) (by decide +kernel)
theorem cwX0_forgetOldest : Cond.code yX0_forgetOldest cX0_forgetOldest 1 none ∈ mv_all := mv_g (mv_t2 (i := 236) (by decide +kernel)) rfl
theorem iwX0_forgetOldest : Cond.instanceMethod yX0_forgetOldest ∈ mv_all := mv_g (mv_t2 (i := 235) (by decide +kernel)) rfl
theorem ewX0_forgetOldest : Cond.selects RX0 yX0_forgetOldest yX0_forgetOldest ∈ mv_all := mv_p2 (y := yX0_forgetOldest) (i := 11) (n := 4) (by decide +kernel)
theorem cwX1_init : Cond.code yX1_init cX1_init 2 none ∈ mv_all := mv_g (mv_t2 (i := 21) (by decide +kernel)) rfl
theorem iwX1_init : Cond.instanceMethod yX1_init ∈ mv_all := mv_g (mv_t2 (i := 20) (by decide +kernel)) rfl
theorem cwX1_sizeOf : Cond.code yX1_sizeOf cX1_sizeOf 2 (some .int) ∈ mv_all := mv_g (mv_t4 (i := 30) (by decide +kernel)) rfl
theorem iwX1_sizeOf : Cond.instanceMethod yX1_sizeOf ∈ mv_all := mv_g (mv_t4 (i := 29) (by decide +kernel)) rfl
theorem ewX1_sizeOf : Cond.selects RX1 yX1_sizeOf yX1_sizeOf ∈ mv_all := mv_p5 (y := yX1_sizeOf) (i := 2) (n := 3) (by decide +kernel)
theorem cwX1_markOf : Cond.code yX1_markOf cX1_markOf 2 (some .int) ∈ mv_all := mv_g (mv_t4 (i := 87) (by decide +kernel)) rfl
theorem iwX1_markOf : Cond.instanceMethod yX1_markOf ∈ mv_all := mv_g (mv_t4 (i := 86) (by decide +kernel)) rfl
theorem ewX1_markOf : Cond.selects RX1 yX1_markOf yX1_markOf ∈ mv_all := mv_p6 (y := yX1_markOf) (i := 0) (n := 3) (by decide +kernel)
theorem cwX1_sizeOfLocal : Cond.code yX1_sizeOfLocal cX1_sizeOfLocal 2 (some .int) ∈ mv_all := mv_g (mv_t4 (i := 55) (by decide +kernel)) rfl
theorem iwX1_sizeOfLocal : Cond.instanceMethod yX1_sizeOfLocal ∈ mv_all := mv_g (mv_t4 (i := 54) (by decide +kernel)) rfl
theorem ewX1_sizeOfLocal : Cond.selects RX1 yX1_sizeOfLocal yX1_sizeOfLocal ∈ mv_all := mv_p5 (y := yX1_sizeOfLocal) (i := 8) (n := 3) (by decide +kernel)
theorem cwX1_sizeOfCall : Cond.code yX1_sizeOfCall cX1_sizeOfCall 2 (some .int) ∈ mv_all := mv_g (mv_t4 (i := 35) (by decide +kernel)) rfl
theorem iwX1_sizeOfCall : Cond.instanceMethod yX1_sizeOfCall ∈ mv_all := mv_g (mv_t4 (i := 34) (by decide +kernel)) rfl
theorem ewX1_sizeOfCall : Cond.selects RX1 yX1_sizeOfCall yX1_sizeOfCall ∈ mv_all := mv_p5 (y := yX1_sizeOfCall) (i := 3) (n := 3) (by decide +kernel)
theorem cwX1_markOfLocal : Cond.code yX1_markOfLocal cX1_markOfLocal 2 (some .int) ∈ mv_all := mv_g (mv_t4 (i := 67) (by decide +kernel)) rfl
theorem iwX1_markOfLocal : Cond.instanceMethod yX1_markOfLocal ∈ mv_all := mv_g (mv_t4 (i := 66) (by decide +kernel)) rfl
theorem ewX1_markOfLocal : Cond.selects RX1 yX1_markOfLocal yX1_markOfLocal ∈ mv_all := mv_p5 (y := yX1_markOfLocal) (i := 11) (n := 3) (by decide +kernel)
theorem cwX1_body10 : Cond.code yX1_body10 cX1_body10 2 (some .int) ∈ mv_all := mv_g (mv_t4 (i := 51) (by decide +kernel)) rfl
theorem iwX1_body10 : Cond.instanceMethod yX1_body10 ∈ mv_all := mv_g (mv_t4 (i := 50) (by decide +kernel)) rfl
theorem ewX1_body10 : Cond.selects RX1 yX1_body10 yX1_body10 ∈ mv_all := mv_p5 (y := yX1_body10) (i := 7) (n := 3) (by decide +kernel)
theorem cwX1_body11 : Cond.code yX1_body11 cX1_body11 3 (some .int) ∈ mv_all := mv_g (mv_t4 (i := 63) (by decide +kernel)) rfl
theorem iwX1_body11 : Cond.instanceMethod yX1_body11 ∈ mv_all := mv_g (mv_t4 (i := 62) (by decide +kernel)) rfl
theorem ewX1_body11 : Cond.selects RX1 yX1_body11 yX1_body11 ∈ mv_all := mv_p5 (y := yX1_body11) (i := 10) (n := 3) (by decide +kernel)
theorem cwX1_body12 : Cond.code yX1_body12 cX1_body12 2 (some .int) ∈ mv_all := mv_g (mv_t4 (i := 59) (by decide +kernel)) rfl
theorem iwX1_body12 : Cond.instanceMethod yX1_body12 ∈ mv_all := mv_g (mv_t4 (i := 58) (by decide +kernel)) rfl
theorem ewX1_body12 : Cond.selects RX1 yX1_body12 yX1_body12 ∈ mv_all := mv_p5 (y := yX1_body12) (i := 9) (n := 3) (by decide +kernel)
theorem cwX1_body13 : Cond.code yX1_body13 cX1_body13 2 (some .int) ∈ mv_all := mv_g (mv_t4 (i := 47) (by decide +kernel)) rfl
theorem iwX1_body13 : Cond.instanceMethod yX1_body13 ∈ mv_all := mv_g (mv_t4 (i := 46) (by decide +kernel)) rfl
theorem ewX1_body13 : Cond.selects RX1 yX1_body13 yX1_body13 ∈ mv_all := mv_p5 (y := yX1_body13) (i := 6) (n := 3) (by decide +kernel)
theorem cwX1_body14 : Cond.code yX1_body14 cX1_body14 2 (some .int) ∈ mv_all := mv_g (mv_t4 (i := 39) (by decide +kernel)) rfl
theorem iwX1_body14 : Cond.instanceMethod yX1_body14 ∈ mv_all := mv_g (mv_t4 (i := 38) (by decide +kernel)) rfl
theorem ewX1_body14 : Cond.selects RX1 yX1_body14 yX1_body14 ∈ mv_all := mv_p5 (y := yX1_body14) (i := 4) (n := 3) (by decide +kernel)
theorem cwX1_body20 : Cond.code yX1_body20 cX1_body20 2 (some .int) ∈ mv_all := mv_g (mv_t4 (i := 79) (by decide +kernel)) rfl
theorem iwX1_body20 : Cond.instanceMethod yX1_body20 ∈ mv_all := mv_g (mv_t4 (i := 78) (by decide +kernel)) rfl
theorem ewX1_body20 : Cond.selects RX1 yX1_body20 yX1_body20 ∈ mv_all := mv_p5 (y := yX1_body20) (i := 14) (n := 3) (by decide +kernel)
theorem cwX1_body21 : Cond.code yX1_body21 cX1_body21 2 (some .int) ∈ mv_all := mv_g (mv_t4 (i := 75) (by decide +kernel)) rfl
theorem iwX1_body21 : Cond.instanceMethod yX1_body21 ∈ mv_all := mv_g (mv_t4 (i := 74) (by decide +kernel)) rfl
theorem ewX1_body21 : Cond.selects RX1 yX1_body21 yX1_body21 ∈ mv_all := mv_p5 (y := yX1_body21) (i := 13) (n := 3) (by decide +kernel)
theorem cwX1_body22 : Cond.code yX1_body22 cX1_body22 2 (some .int) ∈ mv_all := mv_g (mv_t4 (i := 83) (by decide +kernel)) rfl
theorem iwX1_body22 : Cond.instanceMethod yX1_body22 ∈ mv_all := mv_g (mv_t4 (i := 82) (by decide +kernel)) rfl
theorem ewX1_body22 : Cond.selects RX1 yX1_body22 yX1_body22 ∈ mv_all := mv_p5 (y := yX1_body22) (i := 15) (n := 3) (by decide +kernel)
theorem cwX1_body23 : Cond.code yX1_body23 cX1_body23 3 (some .int) ∈ mv_all := mv_g (mv_t4 (i := 91) (by decide +kernel)) rfl
theorem iwX1_body23 : Cond.instanceMethod yX1_body23 ∈ mv_all := mv_g (mv_t4 (i := 90) (by decide +kernel)) rfl
theorem ewX1_body23 : Cond.selects RX1 yX1_body23 yX1_body23 ∈ mv_all := mv_p6 (y := yX1_body23) (i := 1) (n := 3) (by decide +kernel)
theorem cwX1_body24 : Cond.code yX1_body24 cX1_body24 2 (some .int) ∈ mv_all := mv_g (mv_t4 (i := 71) (by decide +kernel)) rfl
theorem iwX1_body24 : Cond.instanceMethod yX1_body24 ∈ mv_all := mv_g (mv_t4 (i := 70) (by decide +kernel)) rfl
theorem ewX1_body24 : Cond.selects RX1 yX1_body24 yX1_body24 ∈ mv_all := mv_p5 (y := yX1_body24) (i := 12) (n := 3) (by decide +kernel)
theorem cwX1_begin : Cond.code yX1_begin cX1_begin 2 none ∈ mv_all := mv_g (mv_t4 (i := 43) (by decide +kernel)) rfl
theorem iwX1_begin : Cond.instanceMethod yX1_begin ∈ mv_all := mv_g (mv_t4 (i := 42) (by decide +kernel)) rfl
theorem ewX1_begin : Cond.selects RX1 yX1_begin yX1_begin ∈ mv_all := mv_p5 (y := yX1_begin) (i := 5) (n := 3) (by decide +kernel)
theorem cwX2_init : Cond.code yX2_init cX2_init 2 none ∈ mv_all := mv_g (mv_t1 (i := 199) (by decide +kernel)) rfl
theorem iwX2_init : Cond.instanceMethod yX2_init ∈ mv_all := mv_g (mv_t1 (i := 198) (by decide +kernel)) rfl
theorem cwX2_manyOfPrice : Cond.code yX2_manyOfPrice cX2_manyOfPrice 3 (some .int) ∈ mv_all := mv_g (mv_t3 (i := 59) (by decide +kernel)) rfl
theorem iwX2_manyOfPrice : Cond.instanceMethod yX2_manyOfPrice ∈ mv_all := mv_g (mv_t3 (i := 58) (by decide +kernel)) rfl
theorem ewX2_manyOfPrice : Cond.selects RX2 yX2_manyOfPrice yX2_manyOfPrice ∈ mv_all := mv_p3 (y := yX2_manyOfPrice) (i := 4) (n := 9) (by decide +kernel)
theorem cwX2_size : Cond.code yX2_size cX2_size 2 (some .int) ∈ mv_all := mv_g (mv_t4 (i := 0) (by decide +kernel)) rfl
theorem iwX2_size : Cond.instanceMethod yX2_size ∈ mv_all := mv_g (mv_t3 (i := 239) (by decide +kernel)) rfl
theorem ewX2_size : Cond.selects RX2 yX2_size yX2_size ∈ mv_all := mv_p5 (y := yX2_size) (i := 0) (n := 9) (by decide +kernel)
theorem cwX2_manyBelow : Cond.code yX2_manyBelow cX2_manyBelow 6 (some .long) ∈ mv_all := mv_g (mv_t3 (i := 196) (by decide +kernel)) rfl
theorem iwX2_manyBelow : Cond.instanceMethod yX2_manyBelow ∈ mv_all := mv_g (mv_t3 (i := 195) (by decide +kernel)) rfl
theorem ewX2_manyBelow : Cond.selects RX2 yX2_manyBelow yX2_manyBelow ∈ mv_all := mv_p4 (y := yX2_manyBelow) (i := 11) (n := 9) (by decide +kernel)
theorem cwX2_findPlace : Cond.code yX2_findPlace cX2_findPlace 4 (some .int) ∈ mv_all := mv_g (mv_t3 (i := 118) (by decide +kernel)) rfl
theorem iwX2_findPlace : Cond.instanceMethod yX2_findPlace ∈ mv_all := mv_g (mv_t3 (i := 117) (by decide +kernel)) rfl
theorem ewX2_findPlace : Cond.selects RX2 yX2_findPlace yX2_findPlace ∈ mv_all := mv_p3 (y := yX2_findPlace) (i := 13) (n := 9) (by decide +kernel)
theorem cwX2_spell : Cond.code yX2_spell cX2_spell 7 (some .int) ∈ mv_all := mv_g (mv_t3 (i := 123) (by decide +kernel)) rfl
theorem iwX2_spell : Cond.instanceMethod yX2_spell ∈ mv_all := mv_g (mv_t3 (i := 122) (by decide +kernel)) rfl
theorem ewX2_spell : Cond.selects RX2 yX2_spell yX2_spell ∈ mv_all := mv_p3 (y := yX2_spell) (i := 14) (n := 9) (by decide +kernel)
theorem cwX2_choose : Cond.code yX2_choose cX2_choose 6 (some .int) ∈ mv_all := mv_g (mv_t3 (i := 131) (by decide +kernel)) rfl
theorem iwX2_choose : Cond.instanceMethod yX2_choose ∈ mv_all := mv_g (mv_t3 (i := 130) (by decide +kernel)) rfl
theorem ewX2_choose : Cond.selects RX2 yX2_choose yX2_choose ∈ mv_all := mv_p4 (y := yX2_choose) (i := 0) (n := 9) (by decide +kernel)
theorem cwX2_placeOf : Cond.code yX2_placeOf cX2_placeOf 10 (some .int) ∈ mv_all := mv_g (mv_t3 (i := 192) (by decide +kernel)) rfl
theorem iwX2_placeOf : Cond.instanceMethod yX2_placeOf ∈ mv_all := mv_g (mv_t3 (i := 191) (by decide +kernel)) rfl
theorem ewX2_placeOf : Cond.selects RX2 yX2_placeOf yX2_placeOf ∈ mv_all := mv_p4 (y := yX2_placeOf) (i := 10) (n := 9) (by decide +kernel)
theorem cwX2_waysWith : Cond.code yX2_waysWith cX2_waysWith 4 (some .long) ∈ mv_all := mv_g (mv_t3 (i := 135) (by decide +kernel)) rfl
theorem iwX2_waysWith : Cond.instanceMethod yX2_waysWith ∈ mv_all := mv_g (mv_t3 (i := 134) (by decide +kernel)) rfl
theorem ewX2_waysWith : Cond.selects RX2 yX2_waysWith yX2_waysWith ∈ mv_all := mv_p4 (y := yX2_waysWith) (i := 1) (n := 9) (by decide +kernel)
theorem cwX2_wantTaken : Cond.code yX2_wantTaken cX2_wantTaken 3 none ∈ mv_all := mv_g (mv_t3 (i := 140) (by decide +kernel)) rfl
theorem iwX2_wantTaken : Cond.instanceMethod yX2_wantTaken ∈ mv_all := mv_g (mv_t3 (i := 139) (by decide +kernel)) rfl
theorem ewX2_wantTaken : Cond.selects RX2 yX2_wantTaken yX2_wantTaken ∈ mv_all := mv_p4 (y := yX2_wantTaken) (i := 2) (n := 9) (by decide +kernel)
theorem cwX2_want : Cond.code yX2_want cX2_want 2 none ∈ mv_all := mv_g (mv_t3 (i := 127) (by decide +kernel)) rfl
theorem iwX2_want : Cond.instanceMethod yX2_want ∈ mv_all := mv_g (mv_t3 (i := 126) (by decide +kernel)) rfl
theorem ewX2_want : Cond.selects RX2 yX2_want yX2_want ∈ mv_all := mv_p3 (y := yX2_want) (i := 15) (n := 9) (by decide +kernel)
theorem cwX2_fillRest : Cond.code yX2_fillRest cX2_fillRest 4 none ∈ mv_all := mv_g (mv_t3 (i := 144) (by decide +kernel)) rfl
theorem iwX2_fillRest : Cond.instanceMethod yX2_fillRest ∈ mv_all := mv_g (mv_t3 (i := 143) (by decide +kernel)) rfl
theorem ewX2_fillRest : Cond.selects RX2 yX2_fillRest yX2_fillRest ∈ mv_all := mv_p4 (y := yX2_fillRest) (i := 3) (n := 9) (by decide +kernel)
theorem cwX2_countAll : Cond.code yX2_countAll cX2_countAll 2 none ∈ mv_all := mv_g (mv_t3 (i := 63) (by decide +kernel)) rfl
theorem iwX2_countAll : Cond.instanceMethod yX2_countAll ∈ mv_all := mv_g (mv_t3 (i := 62) (by decide +kernel)) rfl
theorem ewX2_countAll : Cond.selects RX2 yX2_countAll yX2_countAll ∈ mv_all := mv_p3 (y := yX2_countAll) (i := 5) (n := 9) (by decide +kernel)
theorem cwX2_countPrice : Cond.code yX2_countPrice cX2_countPrice 5 none ∈ mv_all := mv_g (mv_t3 (i := 67) (by decide +kernel)) rfl
theorem iwX2_countPrice : Cond.instanceMethod yX2_countPrice ∈ mv_all := mv_g (mv_t3 (i := 66) (by decide +kernel)) rfl
theorem ewX2_countPrice : Cond.selects RX2 yX2_countPrice yX2_countPrice ∈ mv_all := mv_p3 (y := yX2_countPrice) (i := 6) (n := 9) (by decide +kernel)
theorem cwX2_addTo : Cond.code yX2_addTo cX2_addTo 6 none ∈ mv_all := mv_g (mv_t3 (i := 84) (by decide +kernel)) rfl
theorem iwX2_addTo : Cond.instanceMethod yX2_addTo ∈ mv_all := mv_g (mv_t3 (i := 83) (by decide +kernel)) rfl
theorem ewX2_addTo : Cond.selects RX2 yX2_addTo yX2_addTo ∈ mv_all := mv_p3 (y := yX2_addTo) (i := 8) (n := 9) (by decide +kernel)
theorem cwX2_manyWith : Cond.code yX2_manyWith cX2_manyWith 4 (some .long) ∈ mv_all := mv_g (mv_t3 (i := 72) (by decide +kernel)) rfl
theorem iwX2_manyWith : Cond.instanceMethod yX2_manyWith ∈ mv_all := mv_g (mv_t3 (i := 71) (by decide +kernel)) rfl
theorem ewX2_manyWith : Cond.selects RX2 yX2_manyWith yX2_manyWith ∈ mv_all := mv_p3 (y := yX2_manyWith) (i := 7) (n := 9) (by decide +kernel)
theorem cwX2_ways : Cond.code yX2_ways cX2_ways 6 (some .long) ∈ mv_all := mv_g (mv_t3 (i := 76) (by decide +kernel)) rfl
theorem swX2_ways : Cond.static yX2_ways ∈ mv_all := mv_g (mv_t3 (i := 75) (by decide +kernel)) rfl
theorem cwX3_init : Cond.code yX3_init cX3_init 2 none ∈ mv_all := mv_g (mv_t1 (i := 186) (by decide +kernel)) rfl
theorem iwX3_init : Cond.instanceMethod yX3_init ∈ mv_all := mv_g (mv_t1 (i := 185) (by decide +kernel)) rfl
theorem cwX3_leastListed : Cond.code yX3_leastListed cX3_leastListed 3 (some .int) ∈ mv_all := mv_g (mv_t3 (i := 93) (by decide +kernel)) rfl
theorem iwX3_leastListed : Cond.instanceMethod yX3_leastListed ∈ mv_all := mv_g (mv_t3 (i := 92) (by decide +kernel)) rfl
theorem ewX3_leastListed : Cond.selects RX3 yX3_leastListed yX3_leastListed ∈ mv_all := mv_p3 (y := yX3_leastListed) (i := 9) (n := 2) (by decide +kernel)
theorem cwX3_typesHad : Cond.code yX3_typesHad cX3_typesHad 4 (some .int) ∈ mv_all := mv_g (mv_t3 (i := 204) (by decide +kernel)) rfl
theorem iwX3_typesHad : Cond.instanceMethod yX3_typesHad ∈ mv_all := mv_g (mv_t3 (i := 203) (by decide +kernel)) rfl
theorem ewX3_typesHad : Cond.selects RX3 yX3_typesHad yX3_typesHad ∈ mv_all := mv_p4 (y := yX3_typesHad) (i := 12) (n := 2) (by decide +kernel)
theorem cwX3_membersNeeded : Cond.code yX3_membersNeeded cX3_membersNeeded 4 (some .int) ∈ mv_all := mv_g (mv_t3 (i := 212) (by decide +kernel)) rfl
theorem iwX3_membersNeeded : Cond.instanceMethod yX3_membersNeeded ∈ mv_all := mv_g (mv_t3 (i := 211) (by decide +kernel)) rfl
theorem ewX3_membersNeeded : Cond.selects RX3 yX3_membersNeeded yX3_membersNeeded ∈ mv_all := mv_p4 (y := yX3_membersNeeded) (i := 13) (n := 2) (by decide +kernel)
theorem cwX3_seek : Cond.code yX3_seek cX3_seek 5 none ∈ mv_all := mv_g (mv_t3 (i := 97) (by decide +kernel)) rfl
theorem iwX3_seek : Cond.instanceMethod yX3_seek ∈ mv_all := mv_g (mv_t3 (i := 96) (by decide +kernel)) rfl
theorem ewX3_seek : Cond.selects RX3 yX3_seek yX3_seek ∈ mv_all := mv_p3 (y := yX3_seek) (i := 10) (n := 2) (by decide +kernel)
theorem cwX3_leastWith : Cond.code yX3_leastWith cX3_leastWith 3 (some .int) ∈ mv_all := mv_g (mv_t3 (i := 103) (by decide +kernel)) rfl
theorem iwX3_leastWith : Cond.instanceMethod yX3_leastWith ∈ mv_all := mv_g (mv_t3 (i := 102) (by decide +kernel)) rfl
theorem ewX3_leastWith : Cond.selects RX3 yX3_leastWith yX3_leastWith ∈ mv_all := mv_p3 (y := yX3_leastWith) (i := 11) (n := 2) (by decide +kernel)
theorem cwX3_lower : Cond.code yX3_lower cX3_lower 5 (some .boolean) ∈ mv_all := mv_g (mv_t3 (i := 108) (by decide +kernel)) rfl
theorem iwX3_lower : Cond.instanceMethod yX3_lower ∈ mv_all := mv_g (mv_t3 (i := 107) (by decide +kernel)) rfl
theorem ewX3_lower : Cond.selects RX3 yX3_lower yX3_lower ∈ mv_all := mv_p3 (y := yX3_lower) (i := 12) (n := 2) (by decide +kernel)
theorem cwX4_init : Cond.code yX4_init cX4_init 1 none ∈ mv_all := mv_g (mv_t1 (i := 135) (by decide +kernel)) rfl
theorem iwX4_init : Cond.instanceMethod yX4_init ∈ mv_all := mv_g (mv_t1 (i := 134) (by decide +kernel)) rfl
theorem cwX4_isFull : Cond.code yX4_isFull cX4_isFull 1 (some .boolean) ∈ mv_all := mv_g (mv_t2 (i := 131) (by decide +kernel)) rfl
theorem iwX4_isFull : Cond.instanceMethod yX4_isFull ∈ mv_all := mv_g (mv_t2 (i := 130) (by decide +kernel)) rfl
theorem ewX4_isFull : Cond.selects RX4 yX4_isFull yX4_isFull ∈ mv_all := mv_p1 (y := yX4_isFull) (i := 7) (n := 5) (by decide +kernel)
theorem cwX4_append : Cond.code yX4_append cX4_append 2 (some .int) ∈ mv_all := mv_g (mv_t2 (i := 136) (by decide +kernel)) rfl
theorem iwX4_append : Cond.instanceMethod yX4_append ∈ mv_all := mv_g (mv_t2 (i := 135) (by decide +kernel)) rfl
theorem ewX4_append : Cond.selects RX4 yX4_append yX4_append ∈ mv_all := mv_p1 (y := yX4_append) (i := 8) (n := 5) (by decide +kernel)
theorem cwX4_emptyTape : Cond.code yX4_emptyTape cX4_emptyTape 1 none ∈ mv_all := mv_g (mv_t2 (i := 201) (by decide +kernel)) rfl
theorem iwX4_emptyTape : Cond.instanceMethod yX4_emptyTape ∈ mv_all := mv_g (mv_t2 (i := 200) (by decide +kernel)) rfl
theorem ewX4_emptyTape : Cond.selects RX4 yX4_emptyTape yX4_emptyTape ∈ mv_all := mv_p2 (y := yX4_emptyTape) (i := 5) (n := 5) (by decide +kernel)
theorem cwX4_readTape : Cond.code yX4_readTape cX4_readTape 1 (some .boolean) ∈ mv_all := mv_g (mv_t2 (i := 144) (by decide +kernel)) rfl
theorem iwX4_readTape : Cond.instanceMethod yX4_readTape ∈ mv_all := mv_g (mv_t2 (i := 143) (by decide +kernel)) rfl
theorem ewX4_readTape : Cond.selects RX4 yX4_readTape yX4_readTape ∈ mv_all := mv_p1 (y := yX4_readTape) (i := 9) (n := 5) (by decide +kernel)
theorem cwX4_readLaw : Cond.code yX4_readLaw cX4_readLaw 2 (some .boolean) ∈ mv_all := mv_g (mv_t2 (i := 148) (by decide +kernel)) rfl
theorem iwX4_readLaw : Cond.instanceMethod yX4_readLaw ∈ mv_all := mv_g (mv_t2 (i := 147) (by decide +kernel)) rfl
theorem ewX4_readLaw : Cond.selects RX4 yX4_readLaw yX4_readLaw ∈ mv_all := mv_p1 (y := yX4_readLaw) (i := 10) (n := 5) (by decide +kernel)
theorem cwX4_readTypes : Cond.code yX4_readTypes cX4_readTypes 3 (some .boolean) ∈ mv_all := mv_g (mv_t2 (i := 178) (by decide +kernel)) rfl
theorem iwX4_readTypes : Cond.instanceMethod yX4_readTypes ∈ mv_all := mv_g (mv_t2 (i := 177) (by decide +kernel)) rfl
theorem ewX4_readTypes : Cond.selects RX4 yX4_readTypes yX4_readTypes ∈ mv_all := mv_p2 (y := yX4_readTypes) (i := 0) (n := 5) (by decide +kernel)
theorem cwX4_readMembers : Cond.code yX4_readMembers cX4_readMembers 2 (some .boolean) ∈ mv_all := mv_g (mv_t2 (i := 186) (by decide +kernel)) rfl
theorem iwX4_readMembers : Cond.instanceMethod yX4_readMembers ∈ mv_all := mv_g (mv_t2 (i := 185) (by decide +kernel)) rfl
theorem ewX4_readMembers : Cond.selects RX4 yX4_readMembers yX4_readMembers ∈ mv_all := mv_p2 (y := yX4_readMembers) (i := 2) (n := 5) (by decide +kernel)
theorem cwX4_readMember : Cond.code yX4_readMember cX4_readMember 5 (some .boolean) ∈ mv_all := mv_g (mv_t2 (i := 190) (by decide +kernel)) rfl
theorem iwX4_readMember : Cond.instanceMethod yX4_readMember ∈ mv_all := mv_g (mv_t2 (i := 189) (by decide +kernel)) rfl
theorem ewX4_readMember : Cond.selects RX4 yX4_readMember yX4_readMember ∈ mv_all := mv_p2 (y := yX4_readMember) (i := 3) (n := 5) (by decide +kernel)
theorem cwX4_readTaken : Cond.code yX4_readTaken cX4_readTaken 2 (some .boolean) ∈ mv_all := mv_g (mv_t2 (i := 197) (by decide +kernel)) rfl
theorem iwX4_readTaken : Cond.instanceMethod yX4_readTaken ∈ mv_all := mv_g (mv_t2 (i := 196) (by decide +kernel)) rfl
theorem ewX4_readTaken : Cond.selects RX4 yX4_readTaken yX4_readTaken ∈ mv_all := mv_p2 (y := yX4_readTaken) (i := 4) (n := 5) (by decide +kernel)
theorem cwX4_kindOf : Cond.code yX4_kindOf cX4_kindOf 1 (some .int) ∈ mv_all := mv_g (mv_t2 (i := 193) (by decide +kernel)) rfl
theorem swX4_kindOf : Cond.static yX4_kindOf ∈ mv_all := mv_g (mv_t2 (i := 192) (by decide +kernel)) rfl
theorem cwX4_here : Cond.code yX4_here cX4_here 1 (some .int) ∈ mv_all := mv_g (mv_t2 (i := 156) (by decide +kernel)) rfl
theorem iwX4_here : Cond.instanceMethod yX4_here ∈ mv_all := mv_g (mv_t2 (i := 155) (by decide +kernel)) rfl
theorem ewX4_here : Cond.selects RX4 yX4_here yX4_here ∈ mv_all := mv_p1 (y := yX4_here) (i := 12) (n := 5) (by decide +kernel)
theorem cwX4_byteAt : Cond.code yX4_byteAt cX4_byteAt 2 (some .int) ∈ mv_all := mv_g (mv_t2 (i := 160) (by decide +kernel)) rfl
theorem iwX4_byteAt : Cond.instanceMethod yX4_byteAt ∈ mv_all := mv_g (mv_t2 (i := 159) (by decide +kernel)) rfl
theorem ewX4_byteAt : Cond.selects RX4 yX4_byteAt yX4_byteAt ∈ mv_all := mv_p1 (y := yX4_byteAt) (i := 13) (n := 5) (by decide +kernel)
theorem cwX4_take : Cond.code yX4_take cX4_take 2 (some .boolean) ∈ mv_all := mv_g (mv_t2 (i := 152) (by decide +kernel)) rfl
theorem iwX4_take : Cond.instanceMethod yX4_take ∈ mv_all := mv_g (mv_t2 (i := 151) (by decide +kernel)) rfl
theorem ewX4_take : Cond.selects RX4 yX4_take yX4_take ∈ mv_all := mv_p1 (y := yX4_take) (i := 11) (n := 5) (by decide +kernel)
theorem cwX4_takeNumber : Cond.code yX4_takeNumber cX4_takeNumber 5 (some .int) ∈ mv_all := mv_g (mv_t2 (i := 168) (by decide +kernel)) rfl
theorem iwX4_takeNumber : Cond.instanceMethod yX4_takeNumber ∈ mv_all := mv_g (mv_t2 (i := 167) (by decide +kernel)) rfl
theorem ewX4_takeNumber : Cond.selects RX4 yX4_takeNumber yX4_takeNumber ∈ mv_all := mv_p1 (y := yX4_takeNumber) (i := 15) (n := 5) (by decide +kernel)
theorem cwX4_isFigure : Cond.code yX4_isFigure cX4_isFigure 1 (some .boolean) ∈ mv_all := mv_g (mv_t2 (i := 171) (by decide +kernel)) rfl
theorem swX4_isFigure : Cond.static yX4_isFigure ∈ mv_all := mv_g (mv_t2 (i := 170) (by decide +kernel)) rfl
theorem cwX4_refuse : Cond.code yX4_refuse cX4_refuse 2 (some .boolean) ∈ mv_all := mv_g (mv_t2 (i := 164) (by decide +kernel)) rfl
theorem iwX4_refuse : Cond.instanceMethod yX4_refuse ∈ mv_all := mv_g (mv_t2 (i := 163) (by decide +kernel)) rfl
theorem ewX4_refuse : Cond.selects RX4 yX4_refuse yX4_refuse ∈ mv_all := mv_p1 (y := yX4_refuse) (i := 14) (n := 5) (by decide +kernel)
theorem cwX5_init : Cond.code yX5_init cX5_init 1 none ∈ mv_all := mv_g (mv_t1 (i := 111) (by decide +kernel)) rfl
theorem iwX5_init : Cond.instanceMethod yX5_init ∈ mv_all := mv_g (mv_t1 (i := 110) (by decide +kernel)) rfl
theorem cwX5_isRow : Cond.code yX5_isRow cX5_isRow 1 (some .boolean) ∈ mv_all := mv_g (mv_t2 (i := 75) (by decide +kernel)) rfl
theorem swX5_isRow : Cond.static yX5_isRow ∈ mv_all := mv_g (mv_t2 (i := 74) (by decide +kernel)) rfl
theorem cwX5_isLane : Cond.code yX5_isLane cX5_isLane 1 (some .boolean) ∈ mv_all := mv_g (mv_t2 (i := 78) (by decide +kernel)) rfl
theorem swX5_isLane : Cond.static yX5_isLane ∈ mv_all := mv_g (mv_t2 (i := 77) (by decide +kernel)) rfl
theorem cwX5_isMissing : Cond.code yX5_isMissing cX5_isMissing 2 (some .boolean) ∈ mv_all := mv_g (mv_t2 (i := 100) (by decide +kernel)) rfl
theorem iwX5_isMissing : Cond.instanceMethod yX5_isMissing ∈ mv_all := mv_g (mv_t2 (i := 99) (by decide +kernel)) rfl
theorem ewX5_isMissing : Cond.selects RX5 yX5_isMissing yX5_isMissing ∈ mv_all := mv_p1 (y := yX5_isMissing) (i := 3) (n := 3) (by decide +kernel)
theorem cwX5_hasPlaces : Cond.code yX5_hasPlaces cX5_hasPlaces 4 (some .boolean) ∈ mv_all := mv_g (mv_t2 (i := 104) (by decide +kernel)) rfl
theorem iwX5_hasPlaces : Cond.instanceMethod yX5_hasPlaces ∈ mv_all := mv_g (mv_t2 (i := 103) (by decide +kernel)) rfl
theorem ewX5_hasPlaces : Cond.selects RX5 yX5_hasPlaces yX5_hasPlaces ∈ mv_all := mv_p1 (y := yX5_hasPlaces) (i := 4) (n := 3) (by decide +kernel)
theorem cwX5_make : Cond.code yX5_make cX5_make 4 none ∈ mv_all := mv_g (mv_t2 (i := 88) (by decide +kernel)) rfl
theorem iwX5_make : Cond.instanceMethod yX5_make ∈ mv_all := mv_g (mv_t2 (i := 87) (by decide +kernel)) rfl
theorem ewX5_make : Cond.selects RX5 yX5_make yX5_make ∈ mv_all := mv_p1 (y := yX5_make) (i := 1) (n := 3) (by decide +kernel)
theorem cwX5_put : Cond.code yX5_put cX5_put 5 (some .int) ∈ mv_all := mv_g (mv_t2 (i := 108) (by decide +kernel)) rfl
theorem iwX5_put : Cond.instanceMethod yX5_put ∈ mv_all := mv_g (mv_t2 (i := 107) (by decide +kernel)) rfl
theorem ewX5_put : Cond.selects RX5 yX5_put yX5_put ∈ mv_all := mv_p1 (y := yX5_put) (i := 5) (n := 3) (by decide +kernel)
theorem cwX5_lose : Cond.code yX5_lose cX5_lose 2 (some .int) ∈ mv_all := mv_g (mv_t2 (i := 123) (by decide +kernel)) rfl
theorem iwX5_lose : Cond.instanceMethod yX5_lose ∈ mv_all := mv_g (mv_t2 (i := 122) (by decide +kernel)) rfl
theorem ewX5_lose : Cond.selects RX5 yX5_lose yX5_lose ∈ mv_all := mv_p1 (y := yX5_lose) (i := 6) (n := 3) (by decide +kernel)
theorem cwX5_present : Cond.code yX5_present cX5_present 3 (some .int) ∈ mv_all := mv_g (mv_t4 (i := 103) (by decide +kernel)) rfl
theorem iwX5_present : Cond.instanceMethod yX5_present ∈ mv_all := mv_g (mv_t4 (i := 102) (by decide +kernel)) rfl
theorem ewX5_present : Cond.selects RX5 yX5_present yX5_present ∈ mv_all := mv_p6 (y := yX5_present) (i := 2) (n := 3) (by decide +kernel)
theorem cwX6_init : Cond.code yX6_init cX6_init 3 none ∈ mv_all := mv_g (mv_t1 (i := 238) (by decide +kernel)) rfl
theorem iwX6_init : Cond.instanceMethod yX6_init ∈ mv_all := mv_g (mv_t1 (i := 237) (by decide +kernel)) rfl
theorem cwX6_isLength : Cond.code yX6_isLength cX6_isLength 1 (some .boolean) ∈ mv_all := mv_g (mv_t3 (i := 151) (by decide +kernel)) rfl
theorem swX6_isLength : Cond.static yX6_isLength ∈ mv_all := mv_g (mv_t3 (i := 150) (by decide +kernel)) rfl
theorem cwX6_take : Cond.code yX6_take cX6_take 4 (some .int) ∈ mv_all := mv_g (mv_t3 (i := 155) (by decide +kernel)) rfl
theorem iwX6_take : Cond.instanceMethod yX6_take ∈ mv_all := mv_g (mv_t3 (i := 154) (by decide +kernel)) rfl
theorem ewX6_take : Cond.selects RX6 yX6_take yX6_take ∈ mv_all := mv_p4 (y := yX6_take) (i := 4) (n := 5) (by decide +kernel)
theorem cwX6_isWhole : Cond.code yX6_isWhole cX6_isWhole 3 (some .boolean) ∈ mv_all := mv_g (mv_t3 (i := 162) (by decide +kernel)) rfl
theorem iwX6_isWhole : Cond.instanceMethod yX6_isWhole ∈ mv_all := mv_g (mv_t3 (i := 161) (by decide +kernel)) rfl
theorem ewX6_isWhole : Cond.selects RX6 yX6_isWhole yX6_isWhole ∈ mv_all := mv_p4 (y := yX6_isWhole) (i := 5) (n := 5) (by decide +kernel)
theorem cwX6_fits : Cond.code yX6_fits cX6_fits 4 (some .boolean) ∈ mv_all := mv_g (mv_t3 (i := 166) (by decide +kernel)) rfl
theorem iwX6_fits : Cond.instanceMethod yX6_fits ∈ mv_all := mv_g (mv_t3 (i := 165) (by decide +kernel)) rfl
theorem ewX6_fits : Cond.selects RX6 yX6_fits yX6_fits ∈ mv_all := mv_p4 (y := yX6_fits) (i := 6) (n := 5) (by decide +kernel)
theorem cwX6_wantTaken : Cond.code yX6_wantTaken cX6_wantTaken 4 (some .int) ∈ mv_all := mv_g (mv_t3 (i := 174) (by decide +kernel)) rfl
theorem iwX6_wantTaken : Cond.instanceMethod yX6_wantTaken ∈ mv_all := mv_g (mv_t3 (i := 173) (by decide +kernel)) rfl
theorem ewX6_wantTaken : Cond.selects RX6 yX6_wantTaken yX6_wantTaken ∈ mv_all := mv_p4 (y := yX6_wantTaken) (i := 7) (n := 5) (by decide +kernel)
theorem cwX6_given : Cond.code yX6_given cX6_given 1 (some .int) ∈ mv_all := mv_g (mv_t3 (i := 178) (by decide +kernel)) rfl
theorem iwX6_given : Cond.instanceMethod yX6_given ∈ mv_all := mv_g (mv_t3 (i := 177) (by decide +kernel)) rfl
theorem ewX6_given : Cond.selects RX6 yX6_given yX6_given ∈ mv_all := mv_p4 (y := yX6_given) (i := 8) (n := 5) (by decide +kernel)
theorem cwX6_priceTogether : Cond.code yX6_priceTogether cX6_priceTogether 3 (some .int) ∈ mv_all := mv_g (mv_t3 (i := 182) (by decide +kernel)) rfl
theorem iwX6_priceTogether : Cond.instanceMethod yX6_priceTogether ∈ mv_all := mv_g (mv_t3 (i := 181) (by decide +kernel)) rfl
theorem ewX6_priceTogether : Cond.selects RX6 yX6_priceTogether yX6_priceTogether ∈ mv_all := mv_p4 (y := yX6_priceTogether) (i := 9) (n := 5) (by decide +kernel)
theorem cwX7_init : Cond.code yX7_init cX7_init 1 none ∈ mv_all := mv_g (mv_t1 (i := 26) (by decide +kernel)) rfl
theorem iwX7_init : Cond.instanceMethod yX7_init ∈ mv_all := mv_g (mv_t1 (i := 25) (by decide +kernel)) rfl
theorem cwX7_become : Cond.code yX7_become cX7_become 2 none ∈ mv_all := mv_g (mv_t2 (i := 210) (by decide +kernel)) rfl
theorem iwX7_become : Cond.instanceMethod yX7_become ∈ mv_all := mv_g (mv_t2 (i := 209) (by decide +kernel)) rfl
theorem ewX7_become : Cond.selects RX7 yX7_become yX7_become ∈ mv_all := mv_p2 (y := yX7_become) (i := 7) (n := 11) (by decide +kernel)
theorem cwX7_seeAbove : Cond.code yX7_seeAbove cX7_seeAbove 3 none ∈ mv_all := mv_g (mv_t2 (i := 182) (by decide +kernel)) rfl
theorem iwX7_seeAbove : Cond.instanceMethod yX7_seeAbove ∈ mv_all := mv_g (mv_t2 (i := 181) (by decide +kernel)) rfl
theorem ewX7_seeAbove : Cond.selects RX7 yX7_seeAbove yX7_seeAbove ∈ mv_all := mv_p2 (y := yX7_seeAbove) (i := 1) (n := 11) (by decide +kernel)
theorem cwX7_hasType : Cond.code yX7_hasType cX7_hasType 2 (some .boolean) ∈ mv_all := mv_g (mv_t3 (i := 18) (by decide +kernel)) rfl
theorem iwX7_hasType : Cond.instanceMethod yX7_hasType ∈ mv_all := mv_g (mv_t3 (i := 17) (by decide +kernel)) rfl
theorem ewX7_hasType : Cond.selects RX7 yX7_hasType yX7_hasType ∈ mv_all := mv_p2 (y := yX7_hasType) (i := 14) (n := 11) (by decide +kernel)
theorem cwX7_hasMember : Cond.code yX7_hasMember cX7_hasMember 2 (some .boolean) ∈ mv_all := mv_g (mv_t2 (i := 223) (by decide +kernel)) rfl
theorem iwX7_hasMember : Cond.instanceMethod yX7_hasMember ∈ mv_all := mv_g (mv_t2 (i := 222) (by decide +kernel)) rfl
theorem ewX7_hasMember : Cond.selects RX7 yX7_hasMember yX7_hasMember ∈ mv_all := mv_p2 (y := yX7_hasMember) (i := 8) (n := 11) (by decide +kernel)
theorem cwX7_isHidden : Cond.code yX7_isHidden cX7_isHidden 2 (some .boolean) ∈ mv_all := mv_g (mv_t2 (i := 227) (by decide +kernel)) rfl
theorem iwX7_isHidden : Cond.instanceMethod yX7_isHidden ∈ mv_all := mv_g (mv_t2 (i := 226) (by decide +kernel)) rfl
theorem ewX7_isHidden : Cond.selects RX7 yX7_isHidden yX7_isHidden ∈ mv_all := mv_p2 (y := yX7_isHidden) (i := 9) (n := 11) (by decide +kernel)
theorem cwX7_putHidden : Cond.code yX7_putHidden cX7_putHidden 3 none ∈ mv_all := mv_g (mv_t3 (i := 5) (by decide +kernel)) rfl
theorem iwX7_putHidden : Cond.instanceMethod yX7_putHidden ∈ mv_all := mv_g (mv_t3 (i := 4) (by decide +kernel)) rfl
theorem ewX7_putHidden : Cond.selects RX7 yX7_putHidden yX7_putHidden ∈ mv_all := mv_p2 (y := yX7_putHidden) (i := 13) (n := 11) (by decide +kernel)
theorem cwX7_isOf : Cond.code yX7_isOf cX7_isOf 3 (some .boolean) ∈ mv_all := mv_g (mv_t3 (i := 43) (by decide +kernel)) rfl
theorem iwX7_isOf : Cond.instanceMethod yX7_isOf ∈ mv_all := mv_g (mv_t3 (i := 42) (by decide +kernel)) rfl
theorem ewX7_isOf : Cond.selects RX7 yX7_isOf yX7_isOf ∈ mv_all := mv_p3 (y := yX7_isOf) (i := 1) (n := 11) (by decide +kernel)
theorem cwX7_givesOne : Cond.code yX7_givesOne cX7_givesOne 3 (some .boolean) ∈ mv_all := mv_g (mv_t3 (i := 51) (by decide +kernel)) rfl
theorem iwX7_givesOne : Cond.instanceMethod yX7_givesOne ∈ mv_all := mv_g (mv_t3 (i := 50) (by decide +kernel)) rfl
theorem ewX7_givesOne : Cond.selects RX7 yX7_givesOne yX7_givesOne ∈ mv_all := mv_p3 (y := yX7_givesOne) (i := 3) (n := 11) (by decide +kernel)
theorem cwX7_isKind : Cond.code yX7_isKind cX7_isKind 4 (some .boolean) ∈ mv_all := mv_g (mv_t4 (i := 22) (by decide +kernel)) rfl
theorem iwX7_isKind : Cond.instanceMethod yX7_isKind ∈ mv_all := mv_g (mv_t4 (i := 21) (by decide +kernel)) rfl
theorem ewX7_isKind : Cond.selects RX7 yX7_isKind yX7_isKind ∈ mv_all := mv_p5 (y := yX7_isKind) (i := 1) (n := 11) (by decide +kernel)
theorem cwX7_priceOf : Cond.code yX7_priceOf cX7_priceOf 2 (some .int) ∈ mv_all := mv_g (mv_t3 (i := 30) (by decide +kernel)) rfl
theorem iwX7_priceOf : Cond.instanceMethod yX7_priceOf ∈ mv_all := mv_g (mv_t3 (i := 29) (by decide +kernel)) rfl
theorem ewX7_priceOf : Cond.selects RX7 yX7_priceOf yX7_priceOf ∈ mv_all := mv_p2 (y := yX7_priceOf) (i := 15) (n := 11) (by decide +kernel)
theorem cwX7_typesOf : Cond.code yX7_typesOf cX7_typesOf 4 (some .int) ∈ mv_all := mv_g (mv_t3 (i := 39) (by decide +kernel)) rfl
theorem iwX7_typesOf : Cond.instanceMethod yX7_typesOf ∈ mv_all := mv_g (mv_t3 (i := 38) (by decide +kernel)) rfl
theorem ewX7_typesOf : Cond.selects RX7 yX7_typesOf yX7_typesOf ∈ mv_all := mv_p3 (y := yX7_typesOf) (i := 0) (n := 11) (by decide +kernel)
theorem cwX7_membersOf : Cond.code yX7_membersOf cX7_membersOf 4 (some .int) ∈ mv_all := mv_g (mv_t3 (i := 47) (by decide +kernel)) rfl
theorem iwX7_membersOf : Cond.instanceMethod yX7_membersOf ∈ mv_all := mv_g (mv_t3 (i := 46) (by decide +kernel)) rfl
theorem ewX7_membersOf : Cond.selects RX7 yX7_membersOf yX7_membersOf ∈ mv_all := mv_p3 (y := yX7_membersOf) (i := 2) (n := 11) (by decide +kernel)
theorem cwX7_shareOf : Cond.code yX7_shareOf cX7_shareOf 7 (some .int) ∈ mv_all := mv_g (mv_t3 (i := 225) (by decide +kernel)) rfl
theorem iwX7_shareOf : Cond.instanceMethod yX7_shareOf ∈ mv_all := mv_g (mv_t3 (i := 224) (by decide +kernel)) rfl
theorem ewX7_shareOf : Cond.selects RX7 yX7_shareOf yX7_shareOf ∈ mv_all := mv_p4 (y := yX7_shareOf) (i := 14) (n := 11) (by decide +kernel)
theorem cwX7_pricesShown : Cond.code yX7_pricesShown cX7_pricesShown 3 (some .int) ∈ mv_all := mv_g (mv_t3 (i := 229) (by decide +kernel)) rfl
theorem iwX7_pricesShown : Cond.instanceMethod yX7_pricesShown ∈ mv_all := mv_g (mv_t3 (i := 228) (by decide +kernel)) rfl
theorem ewX7_pricesShown : Cond.selects RX7 yX7_pricesShown yX7_pricesShown ∈ mv_all := mv_p4 (y := yX7_pricesShown) (i := 15) (n := 11) (by decide +kernel)
theorem cwX8_init : Cond.code yX8_init cX8_init 2 none ∈ mv_all := mv_g (mv_t1 (i := 18) (by decide +kernel)) rfl
theorem iwX8_init : Cond.instanceMethod yX8_init ∈ mv_all := mv_g (mv_t1 (i := 17) (by decide +kernel)) rfl
theorem cwX8_row : Cond.code yX8_row cX8_row 4 (some .int) ∈ mv_all := mv_g (mv_t2 (i := 72) (by decide +kernel)) rfl
theorem iwX8_row : Cond.instanceMethod yX8_row ∈ mv_all := mv_g (mv_t2 (i := 70) (by decide +kernel)) rfl
theorem ewX8_row : Cond.selects RX8 yX8_row yX8_row ∈ mv_all := mv_g (mv_t2 (i := 71) (by decide +kernel)) rfl
theorem cwX8_set : Cond.code yX8_set cX8_set 4 (some .int) ∈ mv_all := mv_g (mv_t2 (i := 96) (by decide +kernel)) rfl
theorem iwX8_set : Cond.instanceMethod yX8_set ∈ mv_all := mv_g (mv_t2 (i := 94) (by decide +kernel)) rfl
theorem ewX8_set : Cond.selects RX8 yX8_set yX8_set ∈ mv_all := mv_g (mv_t2 (i := 95) (by decide +kernel)) rfl
theorem cwX8_copy : Cond.code yX8_copy cX8_copy 6 (some .int) ∈ mv_all := mv_g (mv_t2 (i := 112) (by decide +kernel)) rfl
theorem iwX8_copy : Cond.instanceMethod yX8_copy ∈ mv_all := mv_g (mv_t2 (i := 110) (by decide +kernel)) rfl
theorem ewX8_copy : Cond.selects RX8 yX8_copy yX8_copy ∈ mv_all := mv_g (mv_t2 (i := 111) (by decide +kernel)) rfl
theorem cwX8_drop : Cond.code yX8_drop cX8_drop 2 (some .int) ∈ mv_all := mv_g (mv_t2 (i := 119) (by decide +kernel)) rfl
theorem iwX8_drop : Cond.instanceMethod yX8_drop ∈ mv_all := mv_g (mv_t2 (i := 117) (by decide +kernel)) rfl
theorem ewX8_drop : Cond.selects RX8 yX8_drop yX8_drop ∈ mv_all := mv_g (mv_t2 (i := 118) (by decide +kernel)) rfl
theorem cwX8_feed : Cond.code yX8_feed cX8_feed 2 (some .int) ∈ mv_all := mv_g (mv_t2 (i := 127) (by decide +kernel)) rfl
theorem iwX8_feed : Cond.instanceMethod yX8_feed ∈ mv_all := mv_g (mv_t2 (i := 125) (by decide +kernel)) rfl
theorem ewX8_feed : Cond.selects RX8 yX8_feed yX8_feed ∈ mv_all := mv_g (mv_t2 (i := 126) (by decide +kernel)) rfl
theorem cwX8_world : Cond.code yX8_world cX8_world 2 (some .int) ∈ mv_all := mv_g (mv_t2 (i := 140) (by decide +kernel)) rfl
theorem iwX8_world : Cond.instanceMethod yX8_world ∈ mv_all := mv_g (mv_t2 (i := 138) (by decide +kernel)) rfl
theorem ewX8_world : Cond.selects RX8 yX8_world yX8_world ∈ mv_all := mv_g (mv_t2 (i := 139) (by decide +kernel)) rfl
theorem cwX8_fault : Cond.code yX8_fault cX8_fault 1 (some .int) ∈ mv_all := mv_g (mv_t2 (i := 215) (by decide +kernel)) rfl
theorem iwX8_fault : Cond.instanceMethod yX8_fault ∈ mv_all := mv_g (mv_t2 (i := 213) (by decide +kernel)) rfl
theorem ewX8_fault : Cond.selects RX8 yX8_fault yX8_fault ∈ mv_all := mv_g (mv_t2 (i := 214) (by decide +kernel)) rfl
theorem cwX8_hide : Cond.code yX8_hide cX8_hide 4 (some .int) ∈ mv_all := mv_g (mv_t2 (i := 219) (by decide +kernel)) rfl
theorem iwX8_hide : Cond.instanceMethod yX8_hide ∈ mv_all := mv_g (mv_t2 (i := 217) (by decide +kernel)) rfl
theorem ewX8_hide : Cond.selects RX8 yX8_hide yX8_hide ∈ mv_all := mv_g (mv_t2 (i := 218) (by decide +kernel)) rfl
theorem cwX8_cost : Cond.code yX8_cost cX8_cost 4 (some .int) ∈ mv_all := mv_g (mv_t3 (i := 10) (by decide +kernel)) rfl
theorem iwX8_cost : Cond.instanceMethod yX8_cost ∈ mv_all := mv_g (mv_t3 (i := 8) (by decide +kernel)) rfl
theorem ewX8_cost : Cond.selects RX8 yX8_cost yX8_cost ∈ mv_all := mv_g (mv_t3 (i := 9) (by decide +kernel)) rfl
theorem cwX8_above : Cond.code yX8_above cX8_above 4 (some .int) ∈ mv_all := mv_g (mv_t3 (i := 14) (by decide +kernel)) rfl
theorem iwX8_above : Cond.instanceMethod yX8_above ∈ mv_all := mv_g (mv_t3 (i := 12) (by decide +kernel)) rfl
theorem ewX8_above : Cond.selects RX8 yX8_above yX8_above ∈ mv_all := mv_g (mv_t3 (i := 13) (by decide +kernel)) rfl
theorem cwX8_undo : Cond.code yX8_undo cX8_undo 2 (some .int) ∈ mv_all := mv_g (mv_t3 (i := 22) (by decide +kernel)) rfl
theorem iwX8_undo : Cond.instanceMethod yX8_undo ∈ mv_all := mv_g (mv_t3 (i := 20) (by decide +kernel)) rfl
theorem ewX8_undo : Cond.selects RX8 yX8_undo yX8_undo ∈ mv_all := mv_g (mv_t3 (i := 21) (by decide +kernel)) rfl
theorem cwX8_member : Cond.code yX8_member cX8_member 3 (some .int) ∈ mv_all := mv_g (mv_t3 (i := 26) (by decide +kernel)) rfl
theorem iwX8_member : Cond.instanceMethod yX8_member ∈ mv_all := mv_g (mv_t3 (i := 24) (by decide +kernel)) rfl
theorem ewX8_member : Cond.selects RX8 yX8_member yX8_member ∈ mv_all := mv_g (mv_t3 (i := 25) (by decide +kernel)) rfl
theorem cwX8_type : Cond.code yX8_type cX8_type 3 (some .int) ∈ mv_all := mv_g (mv_t3 (i := 35) (by decide +kernel)) rfl
theorem iwX8_type : Cond.instanceMethod yX8_type ∈ mv_all := mv_g (mv_t3 (i := 33) (by decide +kernel)) rfl
theorem ewX8_type : Cond.selects RX8 yX8_type yX8_type ∈ mv_all := mv_g (mv_t3 (i := 34) (by decide +kernel)) rfl
theorem cwX8_many : Cond.code yX8_many cX8_many 3 (some .int) ∈ mv_all := mv_g (mv_t3 (i := 55) (by decide +kernel)) rfl
theorem iwX8_many : Cond.instanceMethod yX8_many ∈ mv_all := mv_g (mv_t3 (i := 53) (by decide +kernel)) rfl
theorem ewX8_many : Cond.selects RX8 yX8_many yX8_many ∈ mv_all := mv_g (mv_t3 (i := 54) (by decide +kernel)) rfl
theorem cwX8_cheapest : Cond.code yX8_cheapest cX8_cheapest 2 (some .int) ∈ mv_all := mv_g (mv_t3 (i := 89) (by decide +kernel)) rfl
theorem iwX8_cheapest : Cond.instanceMethod yX8_cheapest ∈ mv_all := mv_g (mv_t3 (i := 87) (by decide +kernel)) rfl
theorem ewX8_cheapest : Cond.selects RX8 yX8_cheapest yX8_cheapest ∈ mv_all := mv_g (mv_t3 (i := 88) (by decide +kernel)) rfl
theorem cwX8_listed : Cond.code yX8_listed cX8_listed 6 (some .int) ∈ mv_all := mv_g (mv_t3 (i := 113) (by decide +kernel)) rfl
theorem iwX8_listed : Cond.instanceMethod yX8_listed ∈ mv_all := mv_g (mv_t3 (i := 111) (by decide +kernel)) rfl
theorem ewX8_listed : Cond.selects RX8 yX8_listed yX8_listed ∈ mv_all := mv_g (mv_t3 (i := 112) (by decide +kernel)) rfl
theorem cwX8_word : Cond.code yX8_word cX8_word 6 (some .int) ∈ mv_all := mv_g (mv_t3 (i := 148) (by decide +kernel)) rfl
theorem iwX8_word : Cond.instanceMethod yX8_word ∈ mv_all := mv_g (mv_t3 (i := 146) (by decide +kernel)) rfl
theorem ewX8_word : Cond.selects RX8 yX8_word yX8_word ∈ mv_all := mv_g (mv_t3 (i := 147) (by decide +kernel)) rfl
theorem cwX8_place : Cond.code yX8_place cX8_place 6 (some .int) ∈ mv_all := mv_g (mv_t3 (i := 187) (by decide +kernel)) rfl
theorem iwX8_place : Cond.instanceMethod yX8_place ∈ mv_all := mv_g (mv_t3 (i := 185) (by decide +kernel)) rfl
theorem ewX8_place : Cond.selects RX8 yX8_place yX8_place ∈ mv_all := mv_g (mv_t3 (i := 186) (by decide +kernel)) rfl
theorem cwX8_had : Cond.code yX8_had cX8_had 1 (some .int) ∈ mv_all := mv_g (mv_t3 (i := 200) (by decide +kernel)) rfl
theorem iwX8_had : Cond.instanceMethod yX8_had ∈ mv_all := mv_g (mv_t3 (i := 198) (by decide +kernel)) rfl
theorem ewX8_had : Cond.selects RX8 yX8_had yX8_had ∈ mv_all := mv_g (mv_t3 (i := 199) (by decide +kernel)) rfl
theorem cwX8_needed : Cond.code yX8_needed cX8_needed 2 (some .int) ∈ mv_all := mv_g (mv_t3 (i := 208) (by decide +kernel)) rfl
theorem iwX8_needed : Cond.instanceMethod yX8_needed ∈ mv_all := mv_g (mv_t3 (i := 206) (by decide +kernel)) rfl
theorem ewX8_needed : Cond.selects RX8 yX8_needed yX8_needed ∈ mv_all := mv_g (mv_t3 (i := 207) (by decide +kernel)) rfl
theorem cwX8_without : Cond.code yX8_without cX8_without 3 (some .int) ∈ mv_all := mv_g (mv_t3 (i := 217) (by decide +kernel)) rfl
theorem iwX8_without : Cond.instanceMethod yX8_without ∈ mv_all := mv_g (mv_t3 (i := 215) (by decide +kernel)) rfl
theorem ewX8_without : Cond.selects RX8 yX8_without yX8_without ∈ mv_all := mv_g (mv_t3 (i := 216) (by decide +kernel)) rfl
theorem cwX8_share : Cond.code yX8_share cX8_share 3 (some .int) ∈ mv_all := mv_g (mv_t3 (i := 221) (by decide +kernel)) rfl
theorem iwX8_share : Cond.instanceMethod yX8_share ∈ mv_all := mv_g (mv_t3 (i := 219) (by decide +kernel)) rfl
theorem ewX8_share : Cond.selects RX8 yX8_share yX8_share ∈ mv_all := mv_g (mv_t3 (i := 220) (by decide +kernel)) rfl
theorem cwX8_drawn : Cond.code yX8_drawn cX8_drawn 11 (some .int) ∈ mv_all := mv_g (mv_t3 (i := 235) (by decide +kernel)) rfl
theorem iwX8_drawn : Cond.instanceMethod yX8_drawn ∈ mv_all := mv_g (mv_t3 (i := 233) (by decide +kernel)) rfl
theorem ewX8_drawn : Cond.selects RX8 yX8_drawn yX8_drawn ∈ mv_all := mv_g (mv_t3 (i := 234) (by decide +kernel)) rfl
theorem cwX8_image : Cond.code yX8_image cX8_image 2 (some .int) ∈ mv_all := mv_g (mv_t4 (i := 6) (by decide +kernel)) rfl
theorem iwX8_image : Cond.instanceMethod yX8_image ∈ mv_all := mv_g (mv_t4 (i := 4) (by decide +kernel)) rfl
theorem ewX8_image : Cond.selects RX8 yX8_image yX8_image ∈ mv_all := mv_g (mv_t4 (i := 5) (by decide +kernel)) rfl
theorem cwX8_restore : Cond.code yX8_restore cX8_restore 2 (some .int) ∈ mv_all := mv_g (mv_t4 (i := 10) (by decide +kernel)) rfl
theorem iwX8_restore : Cond.instanceMethod yX8_restore ∈ mv_all := mv_g (mv_t4 (i := 8) (by decide +kernel)) rfl
theorem ewX8_restore : Cond.selects RX8 yX8_restore yX8_restore ∈ mv_all := mv_g (mv_t4 (i := 9) (by decide +kernel)) rfl
theorem cwX8_kind : Cond.code yX8_kind cX8_kind 2 (some .int) ∈ mv_all := mv_g (mv_t4 (i := 14) (by decide +kernel)) rfl
theorem iwX8_kind : Cond.instanceMethod yX8_kind ∈ mv_all := mv_g (mv_t4 (i := 12) (by decide +kernel)) rfl
theorem ewX8_kind : Cond.selects RX8 yX8_kind yX8_kind ∈ mv_all := mv_g (mv_t4 (i := 13) (by decide +kernel)) rfl
theorem cwX8_as : Cond.code yX8_as cX8_as 3 (some .int) ∈ mv_all := mv_g (mv_t4 (i := 18) (by decide +kernel)) rfl
theorem iwX8_as : Cond.instanceMethod yX8_as ∈ mv_all := mv_g (mv_t4 (i := 16) (by decide +kernel)) rfl
theorem ewX8_as : Cond.selects RX8 yX8_as yX8_as ∈ mv_all := mv_g (mv_t4 (i := 17) (by decide +kernel)) rfl
theorem cwX8_ask : Cond.code yX8_ask cX8_ask 3 (some .int) ∈ mv_all := mv_g (mv_t4 (i := 26) (by decide +kernel)) rfl
theorem iwX8_ask : Cond.instanceMethod yX8_ask ∈ mv_all := mv_g (mv_t4 (i := 24) (by decide +kernel)) rfl
theorem ewX8_ask : Cond.selects RX8 yX8_ask yX8_ask ∈ mv_all := mv_g (mv_t4 (i := 25) (by decide +kernel)) rfl
theorem cwX8_trace : Cond.code yX8_trace cX8_trace 2 (some .int) ∈ mv_all := mv_g (mv_t4 (i := 95) (by decide +kernel)) rfl
theorem iwX8_trace : Cond.instanceMethod yX8_trace ∈ mv_all := mv_g (mv_t4 (i := 93) (by decide +kernel)) rfl
theorem ewX8_trace : Cond.selects RX8 yX8_trace yX8_trace ∈ mv_all := mv_g (mv_t4 (i := 94) (by decide +kernel)) rfl
theorem cwX8_count : Cond.code yX8_count cX8_count 2 (some .int) ∈ mv_all := mv_g (mv_t4 (i := 99) (by decide +kernel)) rfl
theorem iwX8_count : Cond.instanceMethod yX8_count ∈ mv_all := mv_g (mv_t4 (i := 97) (by decide +kernel)) rfl
theorem ewX8_count : Cond.selects RX8 yX8_count yX8_count ∈ mv_all := mv_g (mv_t4 (i := 98) (by decide +kernel)) rfl
theorem cwX8_status : Cond.code yX8_status cX8_status 1 (some .int) ∈ mv_all := mv_g (mv_t4 (i := 108) (by decide +kernel)) rfl
theorem iwX8_status : Cond.instanceMethod yX8_status ∈ mv_all := mv_g (mv_t4 (i := 106) (by decide +kernel)) rfl
theorem ewX8_status : Cond.selects RX8 yX8_status yX8_status ∈ mv_all := mv_g (mv_t4 (i := 107) (by decide +kernel)) rfl
theorem cwX8_found : Cond.code yX8_found cX8_found 2 (some .int) ∈ mv_all := mv_g (mv_t2 (i := 83) (by decide +kernel)) rfl
theorem iwX8_found : Cond.instanceMethod yX8_found ∈ mv_all := mv_g (mv_t2 (i := 82) (by decide +kernel)) rfl
theorem ewX8_found : Cond.selects RX8 yX8_found yX8_found ∈ mv_all := mv_p1 (y := yX8_found) (i := 0) (n := 11) (by decide +kernel)
theorem cwX8_unfound : Cond.code yX8_unfound cX8_unfound 2 (some .int) ∈ mv_all := mv_g (mv_t2 (i := 92) (by decide +kernel)) rfl
theorem iwX8_unfound : Cond.instanceMethod yX8_unfound ∈ mv_all := mv_g (mv_t2 (i := 91) (by decide +kernel)) rfl
theorem ewX8_unfound : Cond.selects RX8 yX8_unfound yX8_unfound ∈ mv_all := mv_p1 (y := yX8_unfound) (i := 2) (n := 11) (by decide +kernel)
theorem cwX8_standAs : Cond.code yX8_standAs cX8_standAs 2 none ∈ mv_all := mv_g (mv_t2 (i := 206) (by decide +kernel)) rfl
theorem iwX8_standAs : Cond.instanceMethod yX8_standAs ∈ mv_all := mv_g (mv_t2 (i := 205) (by decide +kernel)) rfl
theorem ewX8_standAs : Cond.selects RX8 yX8_standAs yX8_standAs ∈ mv_all := mv_p2 (y := yX8_standAs) (i := 6) (n := 11) (by decide +kernel)
theorem cwX8_change : Cond.code yX8_change cX8_change 4 none ∈ mv_all := mv_g (mv_t3 (i := 1) (by decide +kernel)) rfl
theorem iwX8_change : Cond.instanceMethod yX8_change ∈ mv_all := mv_g (mv_t3 (i := 0) (by decide +kernel)) rfl
theorem ewX8_change : Cond.selects RX8 yX8_change yX8_change ∈ mv_all := mv_p2 (y := yX8_change) (i := 12) (n := 11) (by decide +kernel)
theorem cwX9_init : Cond.code yX9_init cX9_init 2 none ∈ mv_all := mv_g (mv_t4 (i := 113) (by decide +kernel)) rfl
theorem iwX9_init : Cond.instanceMethod yX9_init ∈ mv_all := mv_g (mv_t4 (i := 112) (by decide +kernel)) rfl
theorem cwX9_in : Cond.code yX9_in cX9_in 6 (some .boolean) ∈ mv_all := mv_g (mv_t4 (i := 196) (by decide +kernel)) rfl
theorem swX9_in : Cond.static yX9_in ∈ mv_all := mv_g (mv_t4 (i := 195) (by decide +kernel)) rfl
theorem cwX9_has : Cond.code yX9_has cX9_has 2 (some .boolean) ∈ mv_all := mv_g (mv_t5 (i := 102) (by decide +kernel)) rfl
theorem swX9_has : Cond.static yX9_has ∈ mv_all := mv_g (mv_t5 (i := 101) (by decide +kernel)) rfl
theorem cwX9_copyOf : Cond.code yX9_copyOf cX9_copyOf 4 none ∈ mv_all := mv_g (mv_t5 (i := 31) (by decide +kernel)) rfl
theorem iwX9_copyOf : Cond.instanceMethod yX9_copyOf ∈ mv_all := mv_g (mv_t5 (i := 30) (by decide +kernel)) rfl
theorem ewX9_copyOf : Cond.selects RX9 yX9_copyOf yX9_copyOf ∈ mv_all := mv_p6 (y := yX9_copyOf) (i := 13) (n := 23) (by decide +kernel)
theorem cwX9_isMember : Cond.code yX9_isMember cX9_isMember 2 (some .boolean) ∈ mv_all := mv_g (mv_t5 (i := 43) (by decide +kernel)) rfl
theorem iwX9_isMember : Cond.instanceMethod yX9_isMember ∈ mv_all := mv_g (mv_t5 (i := 42) (by decide +kernel)) rfl
theorem ewX9_isMember : Cond.selects RX9 yX9_isMember yX9_isMember ∈ mv_all := mv_p6 (y := yX9_isMember) (i := 14) (n := 23) (by decide +kernel)
theorem cwX9_isType : Cond.code yX9_isType cX9_isType 2 (some .boolean) ∈ mv_all := mv_g (mv_t5 (i := 61) (by decide +kernel)) rfl
theorem iwX9_isType : Cond.instanceMethod yX9_isType ∈ mv_all := mv_g (mv_t5 (i := 60) (by decide +kernel)) rfl
theorem ewX9_isType : Cond.selects RX9 yX9_isType yX9_isType ∈ mv_all := mv_p7 (y := yX9_isType) (i := 0) (n := 23) (by decide +kernel)
theorem cwX9_isWorld : Cond.code yX9_isWorld cX9_isWorld 1 (some .boolean) ∈ mv_all := mv_g (mv_t5 (i := 157) (by decide +kernel)) rfl
theorem iwX9_isWorld : Cond.instanceMethod yX9_isWorld ∈ mv_all := mv_g (mv_t5 (i := 156) (by decide +kernel)) rfl
theorem ewX9_isWorld : Cond.selects RX9 yX9_isWorld yX9_isWorld ∈ mv_all := mv_p7 (y := yX9_isWorld) (i := 14) (n := 23) (by decide +kernel)
theorem cwX9_isRow : Cond.code yX9_isRow cX9_isRow 1 (some .boolean) ∈ mv_all := mv_g (mv_t4 (i := 192) (by decide +kernel)) rfl
theorem swX9_isRow : Cond.static yX9_isRow ∈ mv_all := mv_g (mv_t4 (i := 191) (by decide +kernel)) rfl
theorem cwX9_finds : Cond.code yX9_finds cX9_finds 2 (some .int) ∈ mv_all := mv_g (mv_t4 (i := 202) (by decide +kernel)) rfl
theorem iwX9_finds : Cond.instanceMethod yX9_finds ∈ mv_all := mv_g (mv_t4 (i := 201) (by decide +kernel)) rfl
theorem ewX9_finds : Cond.selects RX9 yX9_finds yX9_finds ∈ mv_all := mv_p6 (y := yX9_finds) (i := 3) (n := 23) (by decide +kernel)
theorem cwX9_against : Cond.code yX9_against cX9_against 4 (some .int) ∈ mv_all := mv_g (mv_t4 (i := 211) (by decide +kernel)) rfl
theorem iwX9_against : Cond.instanceMethod yX9_against ∈ mv_all := mv_g (mv_t4 (i := 210) (by decide +kernel)) rfl
theorem ewX9_against : Cond.selects RX9 yX9_against yX9_against ∈ mv_all := mv_p6 (y := yX9_against) (i := 4) (n := 23) (by decide +kernel)
theorem cwX9_row : Cond.code yX9_row cX9_row 5 (some .int) ∈ mv_all := mv_g (mv_t4 (i := 189) (by decide +kernel)) rfl
theorem iwX9_row : Cond.instanceMethod yX9_row ∈ mv_all := mv_g (mv_t4 (i := 187) (by decide +kernel)) rfl
theorem ewX9_row : Cond.selects RX9 yX9_row yX9_row ∈ mv_all := mv_g (mv_t4 (i := 188) (by decide +kernel)) rfl
theorem cwX9_set : Cond.code yX9_set cX9_set 5 (some .int) ∈ mv_all := mv_g (mv_t4 (i := 207) (by decide +kernel)) rfl
theorem iwX9_set : Cond.instanceMethod yX9_set ∈ mv_all := mv_g (mv_t4 (i := 205) (by decide +kernel)) rfl
theorem ewX9_set : Cond.selects RX9 yX9_set yX9_set ∈ mv_all := mv_g (mv_t4 (i := 206) (by decide +kernel)) rfl
theorem cwX9_copy : Cond.code yX9_copy cX9_copy 7 (some .int) ∈ mv_all := mv_g (mv_t4 (i := 215) (by decide +kernel)) rfl
theorem iwX9_copy : Cond.instanceMethod yX9_copy ∈ mv_all := mv_g (mv_t4 (i := 213) (by decide +kernel)) rfl
theorem ewX9_copy : Cond.selects RX9 yX9_copy yX9_copy ∈ mv_all := mv_g (mv_t4 (i := 214) (by decide +kernel)) rfl
theorem cwX9_drop : Cond.code yX9_drop cX9_drop 3 (some .int) ∈ mv_all := mv_g (mv_t4 (i := 219) (by decide +kernel)) rfl
theorem iwX9_drop : Cond.instanceMethod yX9_drop ∈ mv_all := mv_g (mv_t4 (i := 217) (by decide +kernel)) rfl
theorem ewX9_drop : Cond.selects RX9 yX9_drop yX9_drop ∈ mv_all := mv_g (mv_t4 (i := 218) (by decide +kernel)) rfl
theorem cwX9_feed : Cond.code yX9_feed cX9_feed 2 (some .int) ∈ mv_all := mv_g (mv_t4 (i := 223) (by decide +kernel)) rfl
theorem iwX9_feed : Cond.instanceMethod yX9_feed ∈ mv_all := mv_g (mv_t4 (i := 221) (by decide +kernel)) rfl
theorem ewX9_feed : Cond.selects RX9 yX9_feed yX9_feed ∈ mv_all := mv_g (mv_t4 (i := 222) (by decide +kernel)) rfl
theorem cwX9_here : Cond.code yX9_here cX9_here 1 (some .int) ∈ mv_all := mv_g (mv_t5 (i := 5) (by decide +kernel)) rfl
theorem iwX9_here : Cond.instanceMethod yX9_here ∈ mv_all := mv_g (mv_t5 (i := 4) (by decide +kernel)) rfl
theorem ewX9_here : Cond.selects RX9 yX9_here yX9_here ∈ mv_all := mv_p6 (y := yX9_here) (i := 8) (n := 23) (by decide +kernel)
theorem cwX9_fails : Cond.code yX9_fails cX9_fails 3 (some .boolean) ∈ mv_all := mv_g (mv_t5 (i := 9) (by decide +kernel)) rfl
theorem iwX9_fails : Cond.instanceMethod yX9_fails ∈ mv_all := mv_g (mv_t5 (i := 8) (by decide +kernel)) rfl
theorem ewX9_fails : Cond.selects RX9 yX9_fails yX9_fails ∈ mv_all := mv_p6 (y := yX9_fails) (i := 9) (n := 23) (by decide +kernel)
theorem cwX9_takes : Cond.code yX9_takes cX9_takes 2 (some .boolean) ∈ mv_all := mv_g (mv_t5 (i := 1) (by decide +kernel)) rfl
theorem iwX9_takes : Cond.instanceMethod yX9_takes ∈ mv_all := mv_g (mv_t5 (i := 0) (by decide +kernel)) rfl
theorem ewX9_takes : Cond.selects RX9 yX9_takes yX9_takes ∈ mv_all := mv_p6 (y := yX9_takes) (i := 7) (n := 23) (by decide +kernel)
theorem cwX9_takesNumber : Cond.code yX9_takesNumber cX9_takesNumber 4 (some .boolean) ∈ mv_all := mv_g (mv_t5 (i := 13) (by decide +kernel)) rfl
theorem iwX9_takesNumber : Cond.instanceMethod yX9_takesNumber ∈ mv_all := mv_g (mv_t5 (i := 12) (by decide +kernel)) rfl
theorem ewX9_takesNumber : Cond.selects RX9 yX9_takesNumber yX9_takesNumber ∈ mv_all := mv_p6 (y := yX9_takesNumber) (i := 10) (n := 23) (by decide +kernel)
theorem cwX9_kindOf : Cond.code yX9_kindOf cX9_kindOf 1 (some .int) ∈ mv_all := mv_g (mv_t5 (i := 26) (by decide +kernel)) rfl
theorem swX9_kindOf : Cond.static yX9_kindOf ∈ mv_all := mv_g (mv_t5 (i := 25) (by decide +kernel)) rfl
theorem cwX9_takesLaw : Cond.code yX9_takesLaw cX9_takesLaw 1 (some .boolean) ∈ mv_all := mv_g (mv_t4 (i := 237) (by decide +kernel)) rfl
theorem iwX9_takesLaw : Cond.instanceMethod yX9_takesLaw ∈ mv_all := mv_g (mv_t4 (i := 236) (by decide +kernel)) rfl
theorem ewX9_takesLaw : Cond.selects RX9 yX9_takesLaw yX9_takesLaw ∈ mv_all := mv_p6 (y := yX9_takesLaw) (i := 6) (n := 23) (by decide +kernel)
theorem cwX9_takesType : Cond.code yX9_takesType cX9_takesType 2 (some .boolean) ∈ mv_all := mv_g (mv_t5 (i := 19) (by decide +kernel)) rfl
theorem iwX9_takesType : Cond.instanceMethod yX9_takesType ∈ mv_all := mv_g (mv_t5 (i := 18) (by decide +kernel)) rfl
theorem ewX9_takesType : Cond.selects RX9 yX9_takesType yX9_takesType ∈ mv_all := mv_p6 (y := yX9_takesType) (i := 11) (n := 23) (by decide +kernel)
theorem cwX9_takesMember : Cond.code yX9_takesMember cX9_takesMember 4 (some .boolean) ∈ mv_all := mv_g (mv_t5 (i := 23) (by decide +kernel)) rfl
theorem iwX9_takesMember : Cond.instanceMethod yX9_takesMember ∈ mv_all := mv_g (mv_t5 (i := 22) (by decide +kernel)) rfl
theorem ewX9_takesMember : Cond.selects RX9 yX9_takesMember yX9_takesMember ∈ mv_all := mv_p6 (y := yX9_takesMember) (i := 12) (n := 23) (by decide +kernel)
theorem cwX9_takesAll : Cond.code yX9_takesAll cX9_takesAll 2 (some .boolean) ∈ mv_all := mv_g (mv_t4 (i := 233) (by decide +kernel)) rfl
theorem iwX9_takesAll : Cond.instanceMethod yX9_takesAll ∈ mv_all := mv_g (mv_t4 (i := 232) (by decide +kernel)) rfl
theorem ewX9_takesAll : Cond.selects RX9 yX9_takesAll yX9_takesAll ∈ mv_all := mv_p6 (y := yX9_takesAll) (i := 5) (n := 23) (by decide +kernel)
theorem cwX9_world : Cond.code yX9_world cX9_world 2 (some .int) ∈ mv_all := mv_g (mv_t4 (i := 229) (by decide +kernel)) rfl
theorem iwX9_world : Cond.instanceMethod yX9_world ∈ mv_all := mv_g (mv_t4 (i := 227) (by decide +kernel)) rfl
theorem ewX9_world : Cond.selects RX9 yX9_world yX9_world ∈ mv_all := mv_g (mv_t4 (i := 228) (by decide +kernel)) rfl
theorem cwX9_fault : Cond.code yX9_fault cX9_fault 1 (some .int) ∈ mv_all := mv_g (mv_t5 (i := 35) (by decide +kernel)) rfl
theorem iwX9_fault : Cond.instanceMethod yX9_fault ∈ mv_all := mv_g (mv_t5 (i := 33) (by decide +kernel)) rfl
theorem ewX9_fault : Cond.selects RX9 yX9_fault yX9_fault ∈ mv_all := mv_g (mv_t5 (i := 34) (by decide +kernel)) rfl
theorem cwX9_minds : Cond.code yX9_minds cX9_minds 2 none ∈ mv_all := mv_g (mv_t5 (i := 48) (by decide +kernel)) rfl
theorem iwX9_minds : Cond.instanceMethod yX9_minds ∈ mv_all := mv_g (mv_t5 (i := 47) (by decide +kernel)) rfl
theorem ewX9_minds : Cond.selects RX9 yX9_minds yX9_minds ∈ mv_all := mv_p6 (y := yX9_minds) (i := 15) (n := 23) (by decide +kernel)
theorem cwX9_hide : Cond.code yX9_hide cX9_hide 3 (some .int) ∈ mv_all := mv_g (mv_t5 (i := 39) (by decide +kernel)) rfl
theorem iwX9_hide : Cond.instanceMethod yX9_hide ∈ mv_all := mv_g (mv_t5 (i := 37) (by decide +kernel)) rfl
theorem ewX9_hide : Cond.selects RX9 yX9_hide yX9_hide ∈ mv_all := mv_g (mv_t5 (i := 38) (by decide +kernel)) rfl
theorem cwX9_cost : Cond.code yX9_cost cX9_cost 4 (some .int) ∈ mv_all := mv_g (mv_t5 (i := 52) (by decide +kernel)) rfl
theorem iwX9_cost : Cond.instanceMethod yX9_cost ∈ mv_all := mv_g (mv_t5 (i := 50) (by decide +kernel)) rfl
theorem ewX9_cost : Cond.selects RX9 yX9_cost yX9_cost ∈ mv_all := mv_g (mv_t5 (i := 51) (by decide +kernel)) rfl
theorem cwX9_above : Cond.code yX9_above cX9_above 4 (some .int) ∈ mv_all := mv_g (mv_t5 (i := 57) (by decide +kernel)) rfl
theorem iwX9_above : Cond.instanceMethod yX9_above ∈ mv_all := mv_g (mv_t5 (i := 55) (by decide +kernel)) rfl
theorem ewX9_above : Cond.selects RX9 yX9_above yX9_above ∈ mv_all := mv_g (mv_t5 (i := 56) (by decide +kernel)) rfl
theorem cwX9_undo : Cond.code yX9_undo cX9_undo 1 (some .int) ∈ mv_all := mv_g (mv_t5 (i := 65) (by decide +kernel)) rfl
theorem iwX9_undo : Cond.instanceMethod yX9_undo ∈ mv_all := mv_g (mv_t5 (i := 63) (by decide +kernel)) rfl
theorem ewX9_undo : Cond.selects RX9 yX9_undo yX9_undo ∈ mv_all := mv_g (mv_t5 (i := 64) (by decide +kernel)) rfl
theorem cwX9_isOf : Cond.code yX9_isOf cX9_isOf 4 (some .boolean) ∈ mv_all := mv_g (mv_t5 (i := 86) (by decide +kernel)) rfl
theorem iwX9_isOf : Cond.instanceMethod yX9_isOf ∈ mv_all := mv_g (mv_t5 (i := 85) (by decide +kernel)) rfl
theorem ewX9_isOf : Cond.selects RX9 yX9_isOf yX9_isOf ∈ mv_all := mv_p7 (y := yX9_isOf) (i := 3) (n := 23) (by decide +kernel)
theorem cwX9_priceOf : Cond.code yX9_priceOf cX9_priceOf 4 (some .int) ∈ mv_all := mv_g (mv_t5 (i := 73) (by decide +kernel)) rfl
theorem iwX9_priceOf : Cond.instanceMethod yX9_priceOf ∈ mv_all := mv_g (mv_t5 (i := 72) (by decide +kernel)) rfl
theorem ewX9_priceOf : Cond.selects RX9 yX9_priceOf yX9_priceOf ∈ mv_all := mv_p7 (y := yX9_priceOf) (i := 1) (n := 23) (by decide +kernel)
theorem cwX9_member : Cond.code yX9_member cX9_member 3 (some .int) ∈ mv_all := mv_g (mv_t5 (i := 69) (by decide +kernel)) rfl
theorem iwX9_member : Cond.instanceMethod yX9_member ∈ mv_all := mv_g (mv_t5 (i := 67) (by decide +kernel)) rfl
theorem ewX9_member : Cond.selects RX9 yX9_member yX9_member ∈ mv_all := mv_g (mv_t5 (i := 68) (by decide +kernel)) rfl
theorem cwX9_typesOf : Cond.code yX9_typesOf cX9_typesOf 5 (some .int) ∈ mv_all := mv_g (mv_t5 (i := 82) (by decide +kernel)) rfl
theorem iwX9_typesOf : Cond.instanceMethod yX9_typesOf ∈ mv_all := mv_g (mv_t5 (i := 81) (by decide +kernel)) rfl
theorem ewX9_typesOf : Cond.selects RX9 yX9_typesOf yX9_typesOf ∈ mv_all := mv_p7 (y := yX9_typesOf) (i := 2) (n := 23) (by decide +kernel)
theorem cwX9_givers : Cond.code yX9_givers cX9_givers 4 (some .int) ∈ mv_all := mv_g (mv_t5 (i := 90) (by decide +kernel)) rfl
theorem iwX9_givers : Cond.instanceMethod yX9_givers ∈ mv_all := mv_g (mv_t5 (i := 89) (by decide +kernel)) rfl
theorem ewX9_givers : Cond.selects RX9 yX9_givers yX9_givers ∈ mv_all := mv_p7 (y := yX9_givers) (i := 4) (n := 23) (by decide +kernel)
theorem cwX9_type : Cond.code yX9_type cX9_type 3 (some .int) ∈ mv_all := mv_g (mv_t5 (i := 78) (by decide +kernel)) rfl
theorem iwX9_type : Cond.instanceMethod yX9_type ∈ mv_all := mv_g (mv_t5 (i := 76) (by decide +kernel)) rfl
theorem ewX9_type : Cond.selects RX9 yX9_type yX9_type ∈ mv_all := mv_g (mv_t5 (i := 77) (by decide +kernel)) rfl
theorem cwX9_cut : Cond.code yX9_cut cX9_cut 2 (some .long) ∈ mv_all := mv_g (mv_t5 (i := 109) (by decide +kernel)) rfl
theorem swX9_cut : Cond.static yX9_cut ∈ mv_all := mv_g (mv_t5 (i := 108) (by decide +kernel)) rfl
theorem cwX9_headed : Cond.code yX9_headed cX9_headed 9 (some .long) ∈ mv_all := mv_g (mv_t5 (i := 106) (by decide +kernel)) rfl
theorem iwX9_headed : Cond.instanceMethod yX9_headed ∈ mv_all := mv_g (mv_t5 (i := 105) (by decide +kernel)) rfl
theorem ewX9_headed : Cond.selects RX9 yX9_headed yX9_headed ∈ mv_all := mv_p7 (y := yX9_headed) (i := 6) (n := 23) (by decide +kernel)
theorem cwX9_layWays : Cond.code yX9_layWays cX9_layWays 7 none ∈ mv_all := mv_g (mv_t5 (i := 99) (by decide +kernel)) rfl
theorem iwX9_layWays : Cond.instanceMethod yX9_layWays ∈ mv_all := mv_g (mv_t5 (i := 98) (by decide +kernel)) rfl
theorem ewX9_layWays : Cond.selects RX9 yX9_layWays yX9_layWays ∈ mv_all := mv_p7 (y := yX9_layWays) (i := 5) (n := 23) (by decide +kernel)
theorem cwX9_toldOf : Cond.code yX9_toldOf cX9_toldOf 3 (some .int) ∈ mv_all := mv_g (mv_t5 (i := 114) (by decide +kernel)) rfl
theorem iwX9_toldOf : Cond.instanceMethod yX9_toldOf ∈ mv_all := mv_g (mv_t5 (i := 113) (by decide +kernel)) rfl
theorem ewX9_toldOf : Cond.selects RX9 yX9_toldOf yX9_toldOf ∈ mv_all := mv_p7 (y := yX9_toldOf) (i := 7) (n := 23) (by decide +kernel)
theorem cwX9_many : Cond.code yX9_many cX9_many 3 (some .int) ∈ mv_all := mv_g (mv_t5 (i := 94) (by decide +kernel)) rfl
theorem iwX9_many : Cond.instanceMethod yX9_many ∈ mv_all := mv_g (mv_t5 (i := 92) (by decide +kernel)) rfl
theorem ewX9_many : Cond.selects RX9 yX9_many yX9_many ∈ mv_all := mv_g (mv_t5 (i := 93) (by decide +kernel)) rfl
theorem cwX9_cheapestOf : Cond.code yX9_cheapestOf cX9_cheapestOf 3 (some .int) ∈ mv_all := mv_g (mv_t5 (i := 124) (by decide +kernel)) rfl
theorem iwX9_cheapestOf : Cond.instanceMethod yX9_cheapestOf ∈ mv_all := mv_g (mv_t5 (i := 123) (by decide +kernel)) rfl
theorem ewX9_cheapestOf : Cond.selects RX9 yX9_cheapestOf yX9_cheapestOf ∈ mv_all := mv_p7 (y := yX9_cheapestOf) (i := 8) (n := 23) (by decide +kernel)
theorem cwX9_cheapest : Cond.code yX9_cheapest cX9_cheapest 2 (some .int) ∈ mv_all := mv_g (mv_t5 (i := 120) (by decide +kernel)) rfl
theorem iwX9_cheapest : Cond.instanceMethod yX9_cheapest ∈ mv_all := mv_g (mv_t5 (i := 118) (by decide +kernel)) rfl
theorem ewX9_cheapest : Cond.selects RX9 yX9_cheapest yX9_cheapest ∈ mv_all := mv_g (mv_t5 (i := 119) (by decide +kernel)) rfl
theorem cwX9_await0 : Cond.code yX9_await0 cX9_await0 6 none ∈ mv_all := mv_g (mv_t5 (i := 141) (by decide +kernel)) rfl
theorem iwX9_await0 : Cond.instanceMethod yX9_await0 ∈ mv_all := mv_g (mv_t5 (i := 140) (by decide +kernel)) rfl
theorem ewX9_await0 : Cond.selects RX9 yX9_await0 yX9_await0 ∈ mv_all := mv_p7 (y := yX9_await0) (i := 11) (n := 23) (by decide +kernel)
theorem cwX9_awaitsFirst : Cond.code yX9_awaitsFirst cX9_awaitsFirst 3 none ∈ mv_all := mv_g (mv_t5 (i := 137) (by decide +kernel)) rfl
theorem iwX9_awaitsFirst : Cond.instanceMethod yX9_awaitsFirst ∈ mv_all := mv_g (mv_t5 (i := 136) (by decide +kernel)) rfl
theorem ewX9_awaitsFirst : Cond.selects RX9 yX9_awaitsFirst yX9_awaitsFirst ∈ mv_all := mv_p7 (y := yX9_awaitsFirst) (i := 10) (n := 23) (by decide +kernel)
theorem cwX9_gives : Cond.code yX9_gives cX9_gives 3 none ∈ mv_all := mv_g (mv_t5 (i := 149) (by decide +kernel)) rfl
theorem iwX9_gives : Cond.instanceMethod yX9_gives ∈ mv_all := mv_g (mv_t5 (i := 148) (by decide +kernel)) rfl
theorem ewX9_gives : Cond.selects RX9 yX9_gives yX9_gives ∈ mv_all := mv_p7 (y := yX9_gives) (i := 13) (n := 23) (by decide +kernel)
theorem cwX9_goesOn : Cond.code yX9_goesOn cX9_goesOn 7 (some .long) ∈ mv_all := mv_g (mv_t5 (i := 145) (by decide +kernel)) rfl
theorem iwX9_goesOn : Cond.instanceMethod yX9_goesOn ∈ mv_all := mv_g (mv_t5 (i := 144) (by decide +kernel)) rfl
theorem ewX9_goesOn : Cond.selects RX9 yX9_goesOn yX9_goesOn ∈ mv_all := mv_p7 (y := yX9_goesOn) (i := 12) (n := 23) (by decide +kernel)
theorem cwX9_laysCode : Cond.code yX9_laysCode cX9_laysCode 10 (some .boolean) ∈ mv_all := mv_g (mv_t5 (i := 133) (by decide +kernel)) rfl
theorem iwX9_laysCode : Cond.instanceMethod yX9_laysCode ∈ mv_all := mv_g (mv_t5 (i := 132) (by decide +kernel)) rfl
theorem ewX9_laysCode : Cond.selects RX9 yX9_laysCode yX9_laysCode ∈ mv_all := mv_p7 (y := yX9_laysCode) (i := 9) (n := 23) (by decide +kernel)
theorem cwX9_listed : Cond.code yX9_listed cX9_listed 4 (some .int) ∈ mv_all := mv_g (mv_t5 (i := 128) (by decide +kernel)) rfl
theorem iwX9_listed : Cond.instanceMethod yX9_listed ∈ mv_all := mv_g (mv_t5 (i := 126) (by decide +kernel)) rfl
theorem ewX9_listed : Cond.selects RX9 yX9_listed yX9_listed ∈ mv_all := mv_g (mv_t5 (i := 127) (by decide +kernel)) rfl
theorem cwX9_isWhole : Cond.code yX9_isWhole cX9_isWhole 8 (some .boolean) ∈ mv_all := mv_g (mv_t5 (i := 161) (by decide +kernel)) rfl
theorem iwX9_isWhole : Cond.instanceMethod yX9_isWhole ∈ mv_all := mv_g (mv_t5 (i := 160) (by decide +kernel)) rfl
theorem ewX9_isWhole : Cond.selects RX9 yX9_isWhole yX9_isWhole ∈ mv_all := mv_p7 (y := yX9_isWhole) (i := 15) (n := 23) (by decide +kernel)
theorem cwX9_word : Cond.code yX9_word cX9_word 6 (some .int) ∈ mv_all := mv_g (mv_t5 (i := 153) (by decide +kernel)) rfl
theorem iwX9_word : Cond.instanceMethod yX9_word ∈ mv_all := mv_g (mv_t5 (i := 151) (by decide +kernel)) rfl
theorem ewX9_word : Cond.selects RX9 yX9_word yX9_word ∈ mv_all := mv_g (mv_t5 (i := 152) (by decide +kernel)) rfl
theorem cwX9_placeOf : Cond.code yX9_placeOf cX9_placeOf 10 (some .long) ∈ mv_all := mv_g (mv_t5 (i := 169) (by decide +kernel)) rfl
theorem iwX9_placeOf : Cond.instanceMethod yX9_placeOf ∈ mv_all := mv_g (mv_t5 (i := 168) (by decide +kernel)) rfl
theorem ewX9_placeOf : Cond.selects RX9 yX9_placeOf yX9_placeOf ∈ mv_all := mv_p8 (y := yX9_placeOf) (i := 0) (n := 23) (by decide +kernel)
theorem cwX9_place : Cond.code yX9_place cX9_place 8 (some .int) ∈ mv_all := mv_g (mv_t5 (i := 165) (by decide +kernel)) rfl
theorem iwX9_place : Cond.instanceMethod yX9_place ∈ mv_all := mv_g (mv_t5 (i := 163) (by decide +kernel)) rfl
theorem ewX9_place : Cond.selects RX9 yX9_place yX9_place ∈ mv_all := mv_g (mv_t5 (i := 164) (by decide +kernel)) rfl
theorem cwX9_hadBy : Cond.code yX9_hadBy cX9_hadBy 8 (some .int) ∈ mv_all := mv_g (mv_t5 (i := 177) (by decide +kernel)) rfl
theorem iwX9_hadBy : Cond.instanceMethod yX9_hadBy ∈ mv_all := mv_g (mv_t5 (i := 176) (by decide +kernel)) rfl
theorem ewX9_hadBy : Cond.selects RX9 yX9_hadBy yX9_hadBy ∈ mv_all := mv_p8 (y := yX9_hadBy) (i := 1) (n := 23) (by decide +kernel)
theorem cwX9_had : Cond.code yX9_had cX9_had 1 (some .int) ∈ mv_all := mv_g (mv_t5 (i := 173) (by decide +kernel)) rfl
theorem iwX9_had : Cond.instanceMethod yX9_had ∈ mv_all := mv_g (mv_t5 (i := 171) (by decide +kernel)) rfl
theorem ewX9_had : Cond.selects RX9 yX9_had yX9_had ∈ mv_all := mv_g (mv_t5 (i := 172) (by decide +kernel)) rfl
theorem cwX9_needed : Cond.code yX9_needed cX9_needed 4 (some .int) ∈ mv_all := mv_g (mv_t5 (i := 181) (by decide +kernel)) rfl
theorem iwX9_needed : Cond.instanceMethod yX9_needed ∈ mv_all := mv_g (mv_t5 (i := 179) (by decide +kernel)) rfl
theorem ewX9_needed : Cond.selects RX9 yX9_needed yX9_needed ∈ mv_all := mv_g (mv_t5 (i := 180) (by decide +kernel)) rfl
theorem cwX9_without : Cond.code yX9_without cX9_without 3 (some .int) ∈ mv_all := mv_g (mv_t5 (i := 185) (by decide +kernel)) rfl
theorem iwX9_without : Cond.instanceMethod yX9_without ∈ mv_all := mv_g (mv_t5 (i := 183) (by decide +kernel)) rfl
theorem ewX9_without : Cond.selects RX9 yX9_without yX9_without ∈ mv_all := mv_g (mv_t5 (i := 184) (by decide +kernel)) rfl
theorem cwX9_share : Cond.code yX9_share cX9_share 7 (some .int) ∈ mv_all := mv_g (mv_t5 (i := 189) (by decide +kernel)) rfl
theorem iwX9_share : Cond.instanceMethod yX9_share ∈ mv_all := mv_g (mv_t5 (i := 187) (by decide +kernel)) rfl
theorem ewX9_share : Cond.selects RX9 yX9_share yX9_share ∈ mv_all := mv_g (mv_t5 (i := 188) (by decide +kernel)) rfl
theorem cwX9_drawn : Cond.code yX9_drawn cX9_drawn 13 (some .int) ∈ mv_all := mv_g (mv_t5 (i := 194) (by decide +kernel)) rfl
theorem iwX9_drawn : Cond.instanceMethod yX9_drawn ∈ mv_all := mv_g (mv_t5 (i := 192) (by decide +kernel)) rfl
theorem ewX9_drawn : Cond.selects RX9 yX9_drawn yX9_drawn ∈ mv_all := mv_g (mv_t5 (i := 193) (by decide +kernel)) rfl
theorem cwX9_image : Cond.code yX9_image cX9_image 2 (some .int) ∈ mv_all := mv_g (mv_t5 (i := 202) (by decide +kernel)) rfl
theorem iwX9_image : Cond.instanceMethod yX9_image ∈ mv_all := mv_g (mv_t5 (i := 200) (by decide +kernel)) rfl
theorem ewX9_image : Cond.selects RX9 yX9_image yX9_image ∈ mv_all := mv_g (mv_t5 (i := 201) (by decide +kernel)) rfl
theorem cwX9_restore : Cond.code yX9_restore cX9_restore 2 (some .int) ∈ mv_all := mv_g (mv_t5 (i := 206) (by decide +kernel)) rfl
theorem iwX9_restore : Cond.instanceMethod yX9_restore ∈ mv_all := mv_g (mv_t5 (i := 204) (by decide +kernel)) rfl
theorem ewX9_restore : Cond.selects RX9 yX9_restore yX9_restore ∈ mv_all := mv_g (mv_t5 (i := 205) (by decide +kernel)) rfl
theorem cwX9_kind : Cond.code yX9_kind cX9_kind 2 (some .int) ∈ mv_all := mv_g (mv_t5 (i := 210) (by decide +kernel)) rfl
theorem iwX9_kind : Cond.instanceMethod yX9_kind ∈ mv_all := mv_g (mv_t5 (i := 208) (by decide +kernel)) rfl
theorem ewX9_kind : Cond.selects RX9 yX9_kind yX9_kind ∈ mv_all := mv_g (mv_t5 (i := 209) (by decide +kernel)) rfl
theorem cwX9_isA : Cond.code yX9_isA cX9_isA 2 (some .boolean) ∈ mv_all := mv_g (mv_t5 (i := 218) (by decide +kernel)) rfl
theorem swX9_isA : Cond.static yX9_isA ∈ mv_all := mv_g (mv_t5 (i := 217) (by decide +kernel)) rfl
theorem cwX9_as : Cond.code yX9_as cX9_as 3 (some .int) ∈ mv_all := mv_g (mv_t5 (i := 214) (by decide +kernel)) rfl
theorem iwX9_as : Cond.instanceMethod yX9_as ∈ mv_all := mv_g (mv_t5 (i := 212) (by decide +kernel)) rfl
theorem ewX9_as : Cond.selects RX9 yX9_as yX9_as ∈ mv_all := mv_g (mv_t5 (i := 213) (by decide +kernel)) rfl
theorem cwX9_traces : Cond.code yX9_traces cX9_traces 2 none ∈ mv_all := mv_g (mv_t5 (i := 230) (by decide +kernel)) rfl
theorem iwX9_traces : Cond.instanceMethod yX9_traces ∈ mv_all := mv_g (mv_t5 (i := 229) (by decide +kernel)) rfl
theorem ewX9_traces : Cond.selects RX9 yX9_traces yX9_traces ∈ mv_all := mv_p8 (y := yX9_traces) (i := 3) (n := 23) (by decide +kernel)
theorem cwX9_size10 : Cond.code yX9_size10 cX9_size10 2 (some .int) ∈ mv_all := mv_g (mv_t5 (i := 238) (by decide +kernel)) rfl
theorem iwX9_size10 : Cond.instanceMethod yX9_size10 ∈ mv_all := mv_g (mv_t5 (i := 237) (by decide +kernel)) rfl
theorem ewX9_size10 : Cond.selects RX9 yX9_size10 yX9_size10 ∈ mv_all := mv_p8 (y := yX9_size10) (i := 5) (n := 23) (by decide +kernel)
theorem cwX9_size11 : Cond.code yX9_size11 cX9_size11 3 (some .int) ∈ mv_all := mv_g (mv_t5 (i := 234) (by decide +kernel)) rfl
theorem iwX9_size11 : Cond.instanceMethod yX9_size11 ∈ mv_all := mv_g (mv_t5 (i := 233) (by decide +kernel)) rfl
theorem ewX9_size11 : Cond.selects RX9 yX9_size11 yX9_size11 ∈ mv_all := mv_p8 (y := yX9_size11) (i := 4) (n := 23) (by decide +kernel)
theorem cwX9_size13 : Cond.code yX9_size13 cX9_size13 2 (some .int) ∈ mv_all := mv_g (mv_t6 (i := 14) (by decide +kernel)) rfl
theorem iwX9_size13 : Cond.instanceMethod yX9_size13 ∈ mv_all := mv_g (mv_t6 (i := 13) (by decide +kernel)) rfl
theorem ewX9_size13 : Cond.selects RX9 yX9_size13 yX9_size13 ∈ mv_all := mv_p8 (y := yX9_size13) (i := 9) (n := 23) (by decide +kernel)
theorem cwX9_sizeOf : Cond.code yX9_sizeOf cX9_sizeOf 2 (some .int) ∈ mv_all := mv_g (mv_t5 (i := 226) (by decide +kernel)) rfl
theorem iwX9_sizeOf : Cond.instanceMethod yX9_sizeOf ∈ mv_all := mv_g (mv_t5 (i := 225) (by decide +kernel)) rfl
theorem ewX9_sizeOf : Cond.selects RX9 yX9_sizeOf yX9_sizeOf ∈ mv_all := mv_p8 (y := yX9_sizeOf) (i := 2) (n := 23) (by decide +kernel)
theorem cwX9_mark20 : Cond.code yX9_mark20 cX9_mark20 2 (some .int) ∈ mv_all := mv_g (mv_t6 (i := 10) (by decide +kernel)) rfl
theorem iwX9_mark20 : Cond.instanceMethod yX9_mark20 ∈ mv_all := mv_g (mv_t6 (i := 9) (by decide +kernel)) rfl
theorem ewX9_mark20 : Cond.selects RX9 yX9_mark20 yX9_mark20 ∈ mv_all := mv_p8 (y := yX9_mark20) (i := 8) (n := 23) (by decide +kernel)
theorem cwX9_mark21 : Cond.code yX9_mark21 cX9_mark21 2 (some .int) ∈ mv_all := mv_g (mv_t6 (i := 6) (by decide +kernel)) rfl
theorem iwX9_mark21 : Cond.instanceMethod yX9_mark21 ∈ mv_all := mv_g (mv_t6 (i := 5) (by decide +kernel)) rfl
theorem ewX9_mark21 : Cond.selects RX9 yX9_mark21 yX9_mark21 ∈ mv_all := mv_p8 (y := yX9_mark21) (i := 7) (n := 23) (by decide +kernel)
theorem cwX9_markOf : Cond.code yX9_markOf cX9_markOf 2 (some .int) ∈ mv_all := mv_g (mv_t6 (i := 2) (by decide +kernel)) rfl
theorem iwX9_markOf : Cond.instanceMethod yX9_markOf ∈ mv_all := mv_g (mv_t6 (i := 1) (by decide +kernel)) rfl
theorem ewX9_markOf : Cond.selects RX9 yX9_markOf yX9_markOf ∈ mv_all := mv_p8 (y := yX9_markOf) (i := 6) (n := 23) (by decide +kernel)
theorem cwX9_mark23 : Cond.code yX9_mark23 cX9_mark23 3 (some .int) ∈ mv_all := mv_g (mv_t6 (i := 18) (by decide +kernel)) rfl
theorem iwX9_mark23 : Cond.instanceMethod yX9_mark23 ∈ mv_all := mv_g (mv_t6 (i := 17) (by decide +kernel)) rfl
theorem ewX9_mark23 : Cond.selects RX9 yX9_mark23 yX9_mark23 ∈ mv_all := mv_p8 (y := yX9_mark23) (i := 10) (n := 23) (by decide +kernel)
theorem cwX9_ask : Cond.code yX9_ask cX9_ask 3 (some .int) ∈ mv_all := mv_g (mv_t5 (i := 222) (by decide +kernel)) rfl
theorem iwX9_ask : Cond.instanceMethod yX9_ask ∈ mv_all := mv_g (mv_t5 (i := 220) (by decide +kernel)) rfl
theorem ewX9_ask : Cond.selects RX9 yX9_ask yX9_ask ∈ mv_all := mv_g (mv_t5 (i := 221) (by decide +kernel)) rfl
theorem cwX9_trace : Cond.code yX9_trace cX9_trace 2 (some .int) ∈ mv_all := mv_g (mv_t6 (i := 22) (by decide +kernel)) rfl
theorem iwX9_trace : Cond.instanceMethod yX9_trace ∈ mv_all := mv_g (mv_t6 (i := 20) (by decide +kernel)) rfl
theorem ewX9_trace : Cond.selects RX9 yX9_trace yX9_trace ∈ mv_all := mv_g (mv_t6 (i := 21) (by decide +kernel)) rfl
theorem cwX9_rowsThere : Cond.code yX9_rowsThere cX9_rowsThere 3 (some .int) ∈ mv_all := mv_g (mv_t6 (i := 30) (by decide +kernel)) rfl
theorem iwX9_rowsThere : Cond.instanceMethod yX9_rowsThere ∈ mv_all := mv_g (mv_t6 (i := 29) (by decide +kernel)) rfl
theorem ewX9_rowsThere : Cond.selects RX9 yX9_rowsThere yX9_rowsThere ∈ mv_all := mv_p8 (y := yX9_rowsThere) (i := 11) (n := 23) (by decide +kernel)
theorem cwX9_count : Cond.code yX9_count cX9_count 2 (some .int) ∈ mv_all := mv_g (mv_t6 (i := 26) (by decide +kernel)) rfl
theorem iwX9_count : Cond.instanceMethod yX9_count ∈ mv_all := mv_g (mv_t6 (i := 24) (by decide +kernel)) rfl
theorem ewX9_count : Cond.selects RX9 yX9_count yX9_count ∈ mv_all := mv_g (mv_t6 (i := 25) (by decide +kernel)) rfl
theorem cwX9_status : Cond.code yX9_status cX9_status 1 (some .int) ∈ mv_all := mv_g (mv_t6 (i := 34) (by decide +kernel)) rfl
theorem iwX9_status : Cond.instanceMethod yX9_status ∈ mv_all := mv_g (mv_t6 (i := 32) (by decide +kernel)) rfl
theorem ewX9_status : Cond.selects RX9 yX9_status yX9_status ∈ mv_all := mv_g (mv_t6 (i := 33) (by decide +kernel)) rfl
theorem cwJ9_max_7cf53 : Cond.code yJ9_max_7cf53 cJ9_max_7cf53 2 (some .int) ∈ mv_all := mv_g (mv_t2 (i := 174) (by decide +kernel)) rfl
theorem swJ9_max_7cf53 : Cond.static yJ9_max_7cf53 ∈ mv_all := mv_g (mv_t2 (i := 173) (by decide +kernel)) rfl
theorem cwJ9_min_f86c9 : Cond.code yJ9_min_f86c9 cJ9_min_f86c9 4 (some .long) ∈ mv_all := mv_g (mv_t3 (i := 80) (by decide +kernel)) rfl
theorem swJ9_min_f86c9 : Cond.static yJ9_min_f86c9 ∈ mv_all := mv_g (mv_t3 (i := 79) (by decide +kernel)) rfl
theorem cwJ7_fill_53178 : Cond.code yJ7_fill_53178 cJ7_fill_53178 4 none ∈ mv_all := mv_g (mv_t1 (i := 117) (by decide +kernel)) rfl
theorem swJ7_fill_53178 : Cond.static yJ7_fill_53178 ∈ mv_all := mv_g (mv_t1 (i := 116) (by decide +kernel)) rfl
theorem nwX0 : Cond.initialized RX0 ∈ mv_all := mv_g (mv_t1 (i := 6) (by decide +kernel)) rfl
theorem nwX1 : Cond.initialized RX1 ∈ mv_all := mv_g (mv_t1 (i := 10) (by decide +kernel)) rfl
theorem nwX2 : Cond.initialized RX2 ∈ mv_all := mv_g (mv_t1 (i := 8) (by decide +kernel)) rfl
theorem nwX3 : Cond.initialized RX3 ∈ mv_all := mv_g (mv_t1 (i := 7) (by decide +kernel)) rfl
theorem nwX4 : Cond.initialized RX4 ∈ mv_all := mv_g (mv_t1 (i := 5) (by decide +kernel)) rfl
theorem nwX5 : Cond.initialized RX5 ∈ mv_all := mv_g (mv_t1 (i := 3) (by decide +kernel)) rfl
theorem nwX6 : Cond.initialized RX6 ∈ mv_all := mv_g (mv_t1 (i := 9) (by decide +kernel)) rfl
theorem nwX7 : Cond.initialized RX7 ∈ mv_all := mv_g (mv_t1 (i := 2) (by decide +kernel)) rfl
theorem nwX8 : Cond.initialized RX8 ∈ mv_all := mv_g (mv_t1 (i := 1) (by decide +kernel)) rfl
theorem nwX9 : Cond.initialized RX9 ∈ mv_all := mv_g (mv_t1 (i := 11) (by decide +kernel)) rfl
theorem nwJ9 : Cond.initialized RJ9 ∈ mv_all := mv_g (mv_t1 (i := 13) (by decide +kernel)) rfl
theorem nwJ7 : Cond.initialized RJ7 ∈ mv_all := mv_g (mv_t1 (i := 4) (by decide +kernel)) rfl
theorem nwJ10 : Cond.initialized "java/lang/System" ∈ mv_all := mv_g (mv_t1 (i := 12) (by decide +kernel)) rfl
theorem swcopy : Cond.static arraycopyName ∈ mv_all := mv_g (mv_t2 (i := 114) (by decide +kernel)) rfl
theorem vwcopy : Cond.native arraycopyName ∈ mv_all := mv_g (mv_t2 (i := 115) (by decide +kernel)) rfl
end
section
/-! THE WALK OVER A FIXED WORLD: all cells are made, only numbers change. Memory: cell number, slot. -/
abbrev mv_M : Type := (Nat → Nat → Int32) × (Nat → Nat → Int64)
def mv_wI (M : mv_M) (a k : Nat) (v : Int32) : mv_M := (fun i => if i = a then upd (M.1 a) k v else M.1 i, M.2)
def mv_wL (M : mv_M) (a k : Nat) (v : Int64) : mv_M := (M.1, fun i => if i = a then vp_updL (M.2 a) k v else M.2 i)
def mv_wA (M : mv_M) (a : Nat) (f : Nat → Int32) : mv_M := (fun i => if i = a then f else M.1 i, M.2)
/-- a cell's shape: (0, number of its kind, fields: 0 int, 1 long, j + 2 the cell j), (1 int row, 2 long row, 3 row of truth values, length, []), (4 .. rows of cells, length, the cells) -/
abbrev mv_L : Type := Nat × Nat × List Nat
def mv_fv (ad : Nat → Nat) (M : mv_M) (i k f : Nat) : Value := match f with
  | 0 => .int (M.1 i k)
  | 1 => .long (M.2 i k)
  | j + 2 => .ref (ad j)
def mv_cell (cA : Nat → ClassId) (ad : Nat → Nat) (M : mv_M) (i : Nat) (c : mv_L) : va_E := match c.1 with
  | 0 => .inr (c.2.1, c.2.2.mapIdx (fun k f => mv_fv ad M i k f))
  | 1 => .inl (cA 0, c.2.1, .inl (M.1 i))
  | 2 => .inl (cA 1, c.2.1, .inr (.inl (M.2 i)))
  | 3 => .inl (cA 2, c.2.1, .inl (M.1 i))
  | 4 => .inl (cA 3, c.2.1, .inr (.inr (.inr (.inr (fun j => (c.2.2[j]?).map ad)))))
  | 5 => .inl (cA 4, c.2.1, .inr (.inr (.inr (.inr (fun j => (c.2.2[j]?).map ad)))))
  | _ => .inl (cA 5, c.2.1, .inr (.inr (.inr (.inr (fun j => (c.2.2[j]?).map ad)))))
/-- kinds' numbers, row kinds' numbers, addresses, shapes -/
abbrev mv_S : Type := va_G × (Nat → ClassId) × (Nat → Nat) × List mv_L
def mv_ws (k : mv_S) (M : mv_M) : va_W := k.2.2.2.mapIdx (fun i c => (k.2.2.1 i, mv_cell k.2.1 k.2.2.1 M i c))
theorem mv_ws_at {k : mv_S} {M : mv_M} {i : Nat} {c : mv_L} (h : k.2.2.2[i]? = some c) : (mv_ws k M)[i]? = some (k.2.2.1 i, mv_cell k.2.1 k.2.2.1 M i c) := by
  unfold mv_ws
  rw [List.getElem?_mapIdx, h]
  rfl
theorem mv_ws_get {k : mv_S} {M : mv_M} {i : Nat} {q : Nat × va_E} (h : (mv_ws k M)[i]? = some q) : ∃ c, k.2.2.2[i]? = some c ∧ q = (k.2.2.1 i, mv_cell k.2.1 k.2.2.1 M i c) := by
  unfold mv_ws at h
  rw [List.getElem?_mapIdx] at h
  cases hc : k.2.2.2[i]? with
  | none => rw [hc] at h; cases h
  | some c => rw [hc] at h; exact ⟨c, rfl, (Option.some.inj h).symm⟩
theorem mv_ws_set {k : mv_S} {M M' : mv_M} {i : Nat} {c : mv_L} {e : va_E} (h : k.2.2.2[i]? = some c) (he : e = mv_cell k.2.1 k.2.2.1 M' i c) (ho : ∀ j, j ≠ i → ∀ c', mv_cell k.2.1 k.2.2.1 M' j c' = mv_cell k.2.1 k.2.2.1 M j c') : (mv_ws k M).set i (k.2.2.1 i, e) = mv_ws k M' := by
  apply List.ext_getElem?
  intro j
  by_cases hj : j = i
  · subst hj
    rw [mv_ws_at h, List.getElem?_set_self (List.getElem?_eq_some_iff.mp (mv_ws_at (M := M) h)).1, he]
  · rw [List.getElem?_set_ne (Ne.symm hj)]
    unfold mv_ws
    rw [List.getElem?_mapIdx, List.getElem?_mapIdx]
    cases k.2.2.2[j]? with
    | none => rfl
    | some c' => exact congrArg some (congrArg (Prod.mk _) (ho j hj c').symm)
def mv_DD (k : mv_S) : Prop := ∀ i j : Nat, i < k.2.2.2.length → j < k.2.2.2.length → k.2.2.1 i = k.2.2.1 j → i = j
def mv_A (k : mv_S) : Nat → Prop := fun q => ∃ i, i < k.2.2.2.length ∧ q = k.2.2.1 i
theorem mv_ws_D {k : mv_S} (M : mv_M) (h : mv_DD k) : va_D (mv_A k) (mv_ws k M) := by
  refine ⟨fun i j p q hp hq hpq => ?_, fun i q hq => ?_⟩
  · obtain ⟨c, h1, rfl⟩ := mv_ws_get hp
    obtain ⟨c', h2, rfl⟩ := mv_ws_get hq
    exact h i j (List.getElem?_eq_some_iff.mp h1).1 (List.getElem?_eq_some_iff.mp h2).1 hpq
  · obtain ⟨c, h1, rfl⟩ := mv_ws_get hq
    exact ⟨i, (List.getElem?_eq_some_iff.mp h1).1, rfl⟩
abbrev mv_tys (cA : Nat → ClassId) : List (ClassId × FieldType) := [(cA 0, .int), (cA 1, .long), (cA 2, .boolean), (cA 3, .object RX7), (cA 4, .array .int), (cA 5, .array .long)]
/-- what the tables say at a state -/
def mv_SP (k : mv_S) (U : State) : Prop := va_K k.1 vwCl (mv_tys k.2.1) U ∧ (∀ w ∈ mv_nw, va_Nw w U) ∧ mv_DD k
theorem mv_nw_kind : ∀ w ∈ mv_nw, (∃ a i b n d h, w = Cond.fieldLinkNest a i b n d h) ∨ ∃ a i x h, w = Cond.methodLinkNest a i x h := by
  unfold mv_nw
  repeat' refine List.forall_mem_cons.mpr ⟨?_, ?_⟩
  all_goals first | exact Or.inl ⟨_, _, _, _, _, _, rfl⟩ | exact Or.inr ⟨_, _, _, _, rfl⟩ | exact fun _ h => absurd h List.not_mem_nil
theorem mv_SP.warm {k : mv_S} {s U : State} (hW : s.WarmedH U.vm) (h : mv_SP k s) : mv_SP k U := by
  refine ⟨va_K.moved hW.alike h.1, fun w hw => ?_, h.2.2⟩
  have hz := h.2.1 w hw
  rcases mv_nw_kind w hw with ⟨a, i, b, n, d, hh, rfl⟩ | ⟨a, i, x, hh, rfl⟩
  · exact va_Nw.warmF hW hz
  · exact va_Nw.warmM hW hz
/-- one invocation: program, launch, env, room, state, method, args, below, method's record, code -/
abbrev mv_X : Type := Program × Launch × Env × Room × State × MethodId × Array Value × List Frame × Method × Code
/-- a method: bytes, locals, its owner's name, what it returns, its room -/
abbrev mv_Y : Type := ByteArray × Nat × String × Option FieldType × Room
def mv_w (yn : MethodName) (y : mv_Y) : List Cond := Cond.code yn y.1 y.2.1 y.2.2.2.1 :: mv_all
def mv_G (x : mv_X) (k : mv_S) (y : mv_Y) : Prop :=
  x.1.tables.exec = Jvm.exec ∧ x.2.2.2.2.2.2.2.2.2.code = y.1 ∧ x.2.2.2.2.2.2.2.2.2.maxLocals = y.2.1 ∧ x.2.2.2.2.1.vm.findClass y.2.2.1 = some x.2.2.2.2.2.1.cls ∧ (∀ w ∈ mv_all, w.before x.2.2.2.2.2.2.1 x.2.2.2.2.1 = true) ∧ x.2.2.2.2.2.2.2.2.1.sig.returnType = y.2.2.2.1 ∧ x.2.2.2.2.2.2.2.2.1.locks = false ∧ x.2.2.2.1 = y.2.2.2.2 ∧ mv_SP k x.2.2.2.2.1
def mv_Q (k : mv_S) (rM : Option Value × mv_M) : Array Value → State → Outcome → State → Prop := fun _ st o t => (o = .returned rM.1 ∧ va_P k.1 vwCl (mv_ws k rM.2) t.heap) ∧ va_F (mv_A k) st t
abbrev mv_WW (x : mv_X) (k : mv_S) (rM : Option Value × mv_M) (H : Heap) (locs : List Loc) (g : JFrame) : Prop :=
  W x.1 x.2.1 x.2.2.1 x.2.2.2.1 x.2.2.2.2.1 x.2.2.2.2.2.1 x.2.2.2.2.2.2.1 x.2.2.2.2.2.2.2.1 x.2.2.2.2.2.2.2.2.1 x.2.2.2.2.2.2.2.2.2 H locs 0 0 (MQ x.2.2.2.2.2.2.2.1 (mv_Q k rM) x.2.2.2.2.2.2.1 x.2.2.2.2.1 0 0 (mv_A k)) g
/-- from here on the method returns what G says, if G says something -/
def mv_V {α : Type} (x : mv_X) (k : mv_S) (y : mv_Y) (ρ : α → Option Value × mv_M) (pc : Nat) (ls : List (Nat × Value)) (st : List Value) (M : mv_M) (G : Option α) : Prop :=
  mv_G x k y → ∀ r, G = some r → ∀ (H : Heap) (locs : List Loc) (lsA : Array Slot), va_P k.1 vwCl (mv_ws k M) H → va_S (mv_A k) x.2.2.2.2.1.heap H locs → lv_has lsA y.2.1 ls → mv_WW x k (ρ r) H locs (F0 x.2.2.2.2.2.1 pc lsA st)
def mv_C {α : Type} (l : Launch) (k : mv_S) (yn : MethodName) (y : mv_Y) (ρ : α → Option Value × mv_M) (args : List Value) (M : mv_M) (G : Option α) : Prop :=
  ∀ r, G = some r → Met l yn (mv_w yn y) y.2.2.2.2 (va_Pc args (fun U => va_P k.1 vwCl (mv_ws k M) U.heap ∧ mv_SP k U)) (mv_Q k (ρ r)) 0 0 (mv_A k)
theorem mv_C.ofV {α : Type} {l : Launch} {k : mv_S} {yn : MethodName} {y : mv_Y} {ρ : α → Option Value × mv_M} {args : List Value} {ls : List (Nat × Value)} {M : mv_M} {G : Option α} (hp : plainName yn.cls = true) (ho : yn.cls = y.2.2.1) (hn : (lg_sl args).length ≤ y.2.1) (hl : lv_args 0 args = ls)
    (kk : ∀ x : mv_X, x.2.1 = l → mv_V x k y ρ 0 ls [] M G) : mv_C l k yn y ρ args M G := by
  intro r hr
  refine Met.ofW (cc := y.1) (maxL := y.2.1) (ret := y.2.2.2.1) hp rfl ?_
  intro p e s m args' below meth c s₁ B hml hv
  obtain ⟨rfl, hP, hSP⟩ := hv
  have hts := atoms_spec (ws := mv_w yn y) B.pre
  have hown : s.vm.findClass yn.cls = some m.cls := findClass_of_methodNamed B.named
  rw [lg_entry_eq]
  have h := kk (p, l, e, (headSpec (mv_w yn y) y.2.2.2.2).room, s, m, args.toArray, below, meth, c) rfl ⟨B.exec, B.bytes, hml, ho ▸ hown, fun w hw => hts w (List.mem_cons_of_mem _ hw), B.returns, B.notSynchronized, rfl, hSP⟩ r hr s.heap [] _ hP va_S.rf (hl ▸ lv_entry args hn)
  exact h
def mv_ri (r : Int32 × mv_M) : Option Value × mv_M := (some (.int r.1), r.2)
def mv_rl (r : Int64 × mv_M) : Option Value × mv_M := (some (.long r.1), r.2)
def mv_rv (r : mv_M) : Option Value × mv_M := (none, r)
/-! the words of the walk: naming, guards, loops -/
def mv_let {α β : Type} (v : α) (g : α → β) : β := g v
def mv_ob {α : Type} (i : Int32) (n : Nat) (G : Option α) : Option α := if i < 0 ∨ n ≤ i.toNatClampNeg then none else G
def mv_nz {α : Type} (i : Int32) (G : Option α) : Option α := if i = 0 then none else G
def mv_nzl {α : Type} (i : Int64) (G : Option α) : Option α := if i = 0 then none else G
def mv_bi {α : Type} (G : Option (Int32 × mv_M)) (g : Int32 → mv_M → Option α) : Option α := G.bind fun q => g q.1 q.2
def mv_bl {α : Type} (G : Option (Int64 × mv_M)) (g : Int64 → mv_M → Option α) : Option α := G.bind fun q => g q.1 q.2
def mv_bv {α : Type} (G : Option mv_M) (g : mv_M → Option α) : Option α := G.bind g
def mv_lp {σ α : Type} (B : (σ → Option α) → σ → Option α) : Nat → σ → Option α
  | 0, _ => none
  | n + 1, s => B (mv_lp B n) s
theorem mv_lp_ind {σ α : Type} {B : (σ → Option α) → σ → Option α} (P : σ → Option α → Prop) (hz : ∀ s, P s none) (hs : ∀ f : σ → Option α, (∀ s, P s (f s)) → ∀ s, P s (B f s)) : ∀ n s, P s (mv_lp B n s)
  | 0, s => hz s
  | n + 1, s => hs (mv_lp B n) (mv_lp_ind P hz hs n) s
section MV
variable {α : Type} {x : mv_X} {k : mv_S} {y : mv_Y} {ρ : α → Option Value × mv_M} {pc : Nat} {ls : List (Nat × Value)} {st : List Value} {M : mv_M} {G : Option α}
theorem mv_none : mv_V x k y ρ pc ls st M (none : Option α) := fun _ r hr => by cases hr
theorem mv_sub (ks : List Nat) {ls' : List (Nat × Value)} (h : lv_pick ls ks = ls') (kk : mv_V x k y ρ pc ls' st M G) : mv_V x k y ρ pc ls st M G :=
  fun hg r hr H locs lsA hP hS hl => kk hg r hr H locs lsA hP hS (lv_sub hl ks h)
theorem mv_eqv {G' : Option α} {st' : List Value} {pc' : Nat} (e1 : pc = pc') (e2 : st = st') (e3 : G = G') (kk : mv_V x k y ρ pc' ls st' M G') : mv_V x k y ρ pc ls st M G := by subst e1; subst e2; subst e3; exact kk
theorem mv_jp {σ : Type} {pj : Nat} {lj : σ → List (Nat × Value)} {sj : σ → List Value} {Mj : σ → mv_M} {F : σ → Option α} {g : (σ → Option α) → Option α} (hF : ∀ s, mv_V x k y ρ pj (lj s) (sj s) (Mj s) (F s)) (hg : ∀ f : σ → Option α, (∀ s, mv_V x k y ρ pj (lj s) (sj s) (Mj s) (f s)) → mv_V x k y ρ pc ls st M (g f)) : mv_V x k y ρ pc ls st M (mv_let F g) := hg F hF
theorem mv_loop {σ : Type} {lj : σ → List (Nat × Value)} {Mj : σ → mv_M} {B : (σ → Option α) → σ → Option α} (hs : ∀ f : σ → Option α, (∀ s, mv_V x k y ρ pc (lj s) [] (Mj s) (f s)) → ∀ s, mv_V x k y ρ pc (lj s) [] (Mj s) (B f s)) (n : Nat) (s : σ) : mv_V x k y ρ pc (lj s) [] (Mj s) (mv_lp B n s) :=
  mv_lp_ind (fun s G => mv_V x k y ρ pc (lj s) [] (Mj s) G) (fun _ => mv_none) hs n s
/-! one row an instruction -/
theorem mv_iload_n {n : Fin 4} {i : Nat} {v : Int32} (j : Nat) (h : decode y.1 pc = .ok (.iload_n n, 1)) (hi : (n : Nat) = i) (hj : ls[j]? = some (i, .int v)) (kk : mv_V x k y ρ (pc + 1) ls (.int v :: st) M G) : mv_V x k y ρ pc ls st M G :=
  fun hg r hr H locs lsA hP hS hl => lv_iload_n hg.1 hg.2.1 h hi (lv_at hl j hj) (kk hg r hr H locs lsA hP hS hl)
theorem mv_iload {i : Nat} {v : Int32} (j : Nat) (h : decode y.1 pc = .ok (.iload i, 2)) (hj : ls[j]? = some (i, .int v)) (kk : mv_V x k y ρ (pc + 2) ls (.int v :: st) M G) : mv_V x k y ρ pc ls st M G :=
  fun hg r hr H locs lsA hP hS hl => lv_iload hg.1 hg.2.1 h (lv_at hl j hj) (kk hg r hr H locs lsA hP hS hl)
theorem mv_lload_n {n : Fin 4} {i : Nat} {v : Int64} (j : Nat) (h : decode y.1 pc = .ok (.lload_n n, 1)) (hi : (n : Nat) = i) (hj : ls[j]? = some (i, .long v)) (kk : mv_V x k y ρ (pc + 1) ls (.long v :: st) M G) : mv_V x k y ρ pc ls st M G :=
  fun hg r hr H locs lsA hP hS hl => lv_lload_n hg.1 hg.2.1 h hi (lv_at hl j hj) (kk hg r hr H locs lsA hP hS hl)
theorem mv_lload {i : Nat} {v : Int64} (j : Nat) (h : decode y.1 pc = .ok (.lload i, 2)) (hj : ls[j]? = some (i, .long v)) (kk : mv_V x k y ρ (pc + 2) ls (.long v :: st) M G) : mv_V x k y ρ pc ls st M G :=
  fun hg r hr H locs lsA hP hS hl => lv_lload hg.1 hg.2.1 h (lv_at hl j hj) (kk hg r hr H locs lsA hP hS hl)
theorem mv_aload_n {n : Fin 4} {i : Nat} {v : Nat} (j : Nat) (h : decode y.1 pc = .ok (.aload_n n, 1)) (hi : (n : Nat) = i) (hj : ls[j]? = some (i, .ref v)) (kk : mv_V x k y ρ (pc + 1) ls (.ref v :: st) M G) : mv_V x k y ρ pc ls st M G :=
  fun hg r hr H locs lsA hP hS hl => lv_aload_n hg.1 hg.2.1 h hi (lv_at hl j hj) (kk hg r hr H locs lsA hP hS hl)
theorem mv_aload {i : Nat} {v : Nat} (j : Nat) (h : decode y.1 pc = .ok (.aload i, 2)) (hj : ls[j]? = some (i, .ref v)) (kk : mv_V x k y ρ (pc + 2) ls (.ref v :: st) M G) : mv_V x k y ρ pc ls st M G :=
  fun hg r hr H locs lsA hP hS hl => lv_aload hg.1 hg.2.1 h (lv_at hl j hj) (kk hg r hr H locs lsA hP hS hl)
/-- what is kept of the locals when one slot is written -/
def mv_cut (i : Nat) (l : List (Nat × Value)) : List (Nat × Value) := l.filter (fun q => !(q.1 == i) && !(q.1 + 1 == i && q.2.category == 2))
def mv_cutl (i : Nat) (l : List (Nat × Value)) : List (Nat × Value) := l.filter (fun q => !(q.1 == i) && (!(q.1 == i + 1) && !(q.1 + 1 == i && q.2.category == 2)))
theorem mv_istore_n {n : Fin 4} {i : Nat} {v : Int32} {ls' : List (Nat × Value)} {g : Int32 → Option α} (h : decode y.1 pc = .ok (.istore_n n, 1)) (hi : (n : Nat) = i) (hn : i < y.2.1) (hl' : mv_cut i ls = ls') (kk : ∀ v : Int32, mv_V x k y ρ (pc + 1) ((i, .int v) :: ls') st M (g v)) : mv_V x k y ρ pc ls (.int v :: st) M (mv_let v g) :=
  fun hg r hr H locs lsA hP hS hl => lv_istore_n hg.1 hg.2.1 h hi hl hn (congrArg _ hl') (fun lsB hB => kk v hg r hr H locs lsB hP hS hB)
theorem mv_istore {i : Nat} {v : Int32} {ls' : List (Nat × Value)} {g : Int32 → Option α} (h : decode y.1 pc = .ok (.istore i, 2)) (hn : i < y.2.1) (hl' : mv_cut i ls = ls') (kk : ∀ v : Int32, mv_V x k y ρ (pc + 2) ((i, .int v) :: ls') st M (g v)) : mv_V x k y ρ pc ls (.int v :: st) M (mv_let v g) :=
  fun hg r hr H locs lsA hP hS hl => lv_istore hg.1 hg.2.1 h hl hn (congrArg _ hl') (fun lsB hB => kk v hg r hr H locs lsB hP hS hB)
theorem mv_lstore_n {n : Fin 4} {i : Nat} {v : Int64} {ls' : List (Nat × Value)} {g : Int64 → Option α} (h : decode y.1 pc = .ok (.lstore_n n, 1)) (hi : (n : Nat) = i) (hn : i + 1 < y.2.1) (hl' : mv_cutl i ls = ls') (kk : ∀ v : Int64, mv_V x k y ρ (pc + 1) ((i, .long v) :: ls') st M (g v)) : mv_V x k y ρ pc ls (.long v :: st) M (mv_let v g) :=
  fun hg r hr H locs lsA hP hS hl => lv_lstore_n hg.1 hg.2.1 h hi hl hn (congrArg _ hl') (fun lsB hB => kk v hg r hr H locs lsB hP hS hB)
theorem mv_lstore {i : Nat} {v : Int64} {ls' : List (Nat × Value)} {g : Int64 → Option α} (h : decode y.1 pc = .ok (.lstore i, 2)) (hn : i + 1 < y.2.1) (hl' : mv_cutl i ls = ls') (kk : ∀ v : Int64, mv_V x k y ρ (pc + 2) ((i, .long v) :: ls') st M (g v)) : mv_V x k y ρ pc ls (.long v :: st) M (mv_let v g) :=
  fun hg r hr H locs lsA hP hS hl => lv_lstore hg.1 hg.2.1 h hl hn (congrArg _ hl') (fun lsB hB => kk v hg r hr H locs lsB hP hS hB)
theorem mv_astore_n {n : Fin 4} {i a : Nat} {ls' : List (Nat × Value)} (h : decode y.1 pc = .ok (.astore_n n, 1)) (hi : (n : Nat) = i) (hn : i < y.2.1) (hl' : mv_cut i ls = ls') (kk : mv_V x k y ρ (pc + 1) ((i, .ref a) :: ls') st M G) : mv_V x k y ρ pc ls (.ref a :: st) M G :=
  fun hg r hr H locs lsA hP hS hl => lv_astore_n hg.1 hg.2.1 h hi hl hn (congrArg _ hl') (fun lsB hB => kk hg r hr H locs lsB hP hS hB)
theorem mv_astore {i a : Nat} {ls' : List (Nat × Value)} (h : decode y.1 pc = .ok (.astore i, 2)) (hn : i < y.2.1) (hl' : mv_cut i ls = ls') (kk : mv_V x k y ρ (pc + 2) ((i, .ref a) :: ls') st M G) : mv_V x k y ρ pc ls (.ref a :: st) M G :=
  fun hg r hr H locs lsA hP hS hl => lv_astore hg.1 hg.2.1 h hl hn (congrArg _ hl') (fun lsB hB => kk hg r hr H locs lsB hP hS hB)
theorem mv_iinc {i : Nat} {n : Int} {v d : Int32} {ls' : List (Nat × Value)} {g : Int32 → Option α} (j : Nat) (h : decode y.1 pc = .ok (.iinc i n, 3)) (hj : ls[j]? = some (i, .int v)) (hd : Int32.ofInt n = d) (hn : i < y.2.1) (hl' : mv_cut i ls = ls') (kk : ∀ v : Int32, mv_V x k y ρ (pc + 3) ((i, .int v) :: ls') st M (g v)) : mv_V x k y ρ pc ls st M (mv_let (v + d) g) :=
  fun hg r hr H locs lsA hP hS hl => lv_iinc (v := v + d) hg.1 hg.2.1 h hl hj (by rw [hd]) hn (congrArg _ hl') (fun lsB hB => kk (v + d) hg r hr H locs lsB hP hS hB)
theorem mv_iconst {n : Int} {v : Int32} (h : decode y.1 pc = .ok (.iconst n, 1)) (hv : Int32.ofInt n = v) (kk : mv_V x k y ρ (pc + 1) ls (.int v :: st) M G) : mv_V x k y ρ pc ls st M G :=
  fun hg r hr H locs lsA hP hS hl => lv_iconst hg.1 hg.2.1 h hv (kk hg r hr H locs lsA hP hS hl)
theorem mv_lconst {n : Fin 2} {v : Int64} (h : decode y.1 pc = .ok (.lconst n, 1)) (hv : Int64.ofNat (n : Nat) = v) (kk : mv_V x k y ρ (pc + 1) ls (.long v :: st) M G) : mv_V x k y ρ pc ls st M G :=
  fun hg r hr H locs lsA hP hS hl => lv_lconst hg.1 hg.2.1 h hv (kk hg r hr H locs lsA hP hS hl)
theorem mv_bipush {n : Int} {v : Int32} (h : decode y.1 pc = .ok (.bipush n, 2)) (hv : (Int8.ofInt n).toInt32 = v) (kk : mv_V x k y ρ (pc + 2) ls (.int v :: st) M G) : mv_V x k y ρ pc ls st M G :=
  fun hg r hr H locs lsA hP hS hl => lv_bipush hg.1 hg.2.1 h hv (kk hg r hr H locs lsA hP hS hl)
theorem mv_sipush {n : Int} {v : Int32} (h : decode y.1 pc = .ok (.sipush n, 3)) (hv : (Int16.ofInt n).toInt32 = v) (kk : mv_V x k y ρ (pc + 3) ls (.int v :: st) M G) : mv_V x k y ρ pc ls st M G :=
  fun hg r hr H locs lsA hP hS hl => lv_sipush hg.1 hg.2.1 h hv (kk hg r hr H locs lsA hP hS hl)
theorem mv_ldc {n : Nat} {v : Int32} (h : decode y.1 pc = .ok (.ldc n, 2)) (hw : Cond.constant y.2.2.1 n v ∈ mv_all) (kk : mv_V x k y ρ (pc + 2) ls (.int v :: st) M G) : mv_V x k y ρ pc ls st M G :=
  fun hg r hr H locs lsA hP hS hl => lv_ldc hg.1 hg.2.1 hg.2.2.2.1 (hg.2.2.2.2.1 _ hw) h (kk hg r hr H locs lsA hP hS hl)
theorem mv_ldc_w {n : Nat} {v : Int32} (h : decode y.1 pc = .ok (.ldc_w n, 3)) (hw : Cond.constant y.2.2.1 n v ∈ mv_all) (kk : mv_V x k y ρ (pc + 3) ls (.int v :: st) M G) : mv_V x k y ρ pc ls st M G :=
  fun hg r hr H locs lsA hP hS hl => lv_ldcw hg.1 hg.2.1 hg.2.2.2.1 (hg.2.2.2.2.1 _ hw) h (kk hg r hr H locs lsA hP hS hl)
theorem mv_ldc2_w {n : Nat} {v : Int64} (h : decode y.1 pc = .ok (.ldc2_w n, 3)) (hw : Cond.constantLong y.2.2.1 n v ∈ mv_all) (kk : mv_V x k y ρ (pc + 3) ls (.long v :: st) M G) : mv_V x k y ρ pc ls st M G :=
  fun hg r hr H locs lsA hP hS hl => lv_ldc2 hg.1 hg.2.1 hg.2.2.2.1 (hg.2.2.2.2.1 _ hw) h (kk hg r hr H locs lsA hP hS hl)
theorem mv_dup {v : Value} (h : decode y.1 pc = .ok (.dup, 1)) (hv : v.category = 1) (kk : mv_V x k y ρ (pc + 1) ls (v :: v :: st) M G) : mv_V x k y ρ pc ls (v :: st) M G :=
  fun hg r hr H locs lsA hP hS hl => lv_dup hg.1 hg.2.1 h hv (kk hg r hr H locs lsA hP hS hl)
theorem mv_dup2 {v w : Value} (h : decode y.1 pc = .ok (.dup2, 1)) (hv : v.category = 1) (hw : w.category = 1) (kk : mv_V x k y ρ (pc + 1) ls (v :: w :: v :: w :: st) M G) : mv_V x k y ρ pc ls (v :: w :: st) M G :=
  fun hg r hr H locs lsA hP hS hl => lv_dup2_11 hg.1 hg.2.1 h hv hw (kk hg r hr H locs lsA hP hS hl)
theorem mv_pop {v : Value} (h : decode y.1 pc = .ok (.pop, 1)) (hv : v.category = 1) (kk : mv_V x k y ρ (pc + 1) ls st M G) : mv_V x k y ρ pc ls (v :: st) M G :=
  fun hg r hr H locs lsA hP hS hl => lv_pop hg.1 hg.2.1 h hv (kk hg r hr H locs lsA hP hS hl)
theorem mv_iadd {a b : Int32} (h : decode y.1 pc = .ok (.iadd, 1)) (kk : mv_V x k y ρ (pc + 1) ls (.int (a + b) :: st) M G) : mv_V x k y ρ pc ls (.int b :: .int a :: st) M G :=
  fun hg r hr H locs lsA hP hS hl => lv_iadd hg.1 hg.2.1 h (kk hg r hr H locs lsA hP hS hl)
theorem mv_isub {a b : Int32} (h : decode y.1 pc = .ok (.isub, 1)) (kk : mv_V x k y ρ (pc + 1) ls (.int (a - b) :: st) M G) : mv_V x k y ρ pc ls (.int b :: .int a :: st) M G :=
  fun hg r hr H locs lsA hP hS hl => lv_isub hg.1 hg.2.1 h (kk hg r hr H locs lsA hP hS hl)
theorem mv_imul {a b : Int32} (h : decode y.1 pc = .ok (.imul, 1)) (kk : mv_V x k y ρ (pc + 1) ls (.int (a * b) :: st) M G) : mv_V x k y ρ pc ls (.int b :: .int a :: st) M G :=
  fun hg r hr H locs lsA hP hS hl => lv_imul hg.1 hg.2.1 h (kk hg r hr H locs lsA hP hS hl)
theorem mv_iand {a b : Int32} (h : decode y.1 pc = .ok (.iand, 1)) (kk : mv_V x k y ρ (pc + 1) ls (.int (a &&& b) :: st) M G) : mv_V x k y ρ pc ls (.int b :: .int a :: st) M G :=
  fun hg r hr H locs lsA hP hS hl => lv_iand hg.1 hg.2.1 h (kk hg r hr H locs lsA hP hS hl)
theorem mv_ior {a b : Int32} (h : decode y.1 pc = .ok (.ior, 1)) (kk : mv_V x k y ρ (pc + 1) ls (.int (a ||| b) :: st) M G) : mv_V x k y ρ pc ls (.int b :: .int a :: st) M G :=
  fun hg r hr H locs lsA hP hS hl => lv_ior hg.1 hg.2.1 h (kk hg r hr H locs lsA hP hS hl)
theorem mv_ixor {a b : Int32} (h : decode y.1 pc = .ok (.ixor, 1)) (kk : mv_V x k y ρ (pc + 1) ls (.int (a ^^^ b) :: st) M G) : mv_V x k y ρ pc ls (.int b :: .int a :: st) M G :=
  fun hg r hr H locs lsA hP hS hl => lv_ixor hg.1 hg.2.1 h (kk hg r hr H locs lsA hP hS hl)
theorem mv_ishl {a b : Int32} (h : decode y.1 pc = .ok (.ishl, 1)) (kk : mv_V x k y ρ (pc + 1) ls (.int (a <<< (b &&& 31)) :: st) M G) : mv_V x k y ρ pc ls (.int b :: .int a :: st) M G :=
  fun hg r hr H locs lsA hP hS hl => lv_ishl hg.1 hg.2.1 h (kk hg r hr H locs lsA hP hS hl)
theorem mv_ishr {a b : Int32} (h : decode y.1 pc = .ok (.ishr, 1)) (kk : mv_V x k y ρ (pc + 1) ls (.int (a >>> (b &&& 31)) :: st) M G) : mv_V x k y ρ pc ls (.int b :: .int a :: st) M G :=
  fun hg r hr H locs lsA hP hS hl => lv_ishr hg.1 hg.2.1 h (kk hg r hr H locs lsA hP hS hl)
theorem mv_ineg {a : Int32} (h : decode y.1 pc = .ok (.ineg, 1)) (kk : mv_V x k y ρ (pc + 1) ls (.int (-a) :: st) M G) : mv_V x k y ρ pc ls (.int a :: st) M G :=
  fun hg r hr H locs lsA hP hS hl => lv_ineg hg.1 hg.2.1 h (kk hg r hr H locs lsA hP hS hl)
theorem mv_i2b {a : Int32} (h : decode y.1 pc = .ok (.i2b, 1)) (kk : mv_V x k y ρ (pc + 1) ls (.int a.toInt8.toInt32 :: st) M G) : mv_V x k y ρ pc ls (.int a :: st) M G :=
  fun hg r hr H locs lsA hP hS hl => lv_i2b hg.1 hg.2.1 h rfl (kk hg r hr H locs lsA hP hS hl)
theorem mv_i2s {a : Int32} (h : decode y.1 pc = .ok (.i2s, 1)) (kk : mv_V x k y ρ (pc + 1) ls (.int a.toInt16.toInt32 :: st) M G) : mv_V x k y ρ pc ls (.int a :: st) M G :=
  fun hg r hr H locs lsA hP hS hl => lv_i2s hg.1 hg.2.1 h rfl (kk hg r hr H locs lsA hP hS hl)
theorem mv_i2l {a : Int32} (h : decode y.1 pc = .ok (.i2l, 1)) (kk : mv_V x k y ρ (pc + 1) ls (.long a.toInt64 :: st) M G) : mv_V x k y ρ pc ls (.int a :: st) M G :=
  fun hg r hr H locs lsA hP hS hl => lv_i2l hg.1 hg.2.1 h rfl (kk hg r hr H locs lsA hP hS hl)
theorem mv_l2i {a : Int64} (h : decode y.1 pc = .ok (.l2i, 1)) (kk : mv_V x k y ρ (pc + 1) ls (.int a.toInt32 :: st) M G) : mv_V x k y ρ pc ls (.long a :: st) M G :=
  fun hg r hr H locs lsA hP hS hl => lv_l2i hg.1 hg.2.1 h rfl (kk hg r hr H locs lsA hP hS hl)
theorem mv_ladd {a b : Int64} (h : decode y.1 pc = .ok (.ladd, 1)) (kk : mv_V x k y ρ (pc + 1) ls (.long (a + b) :: st) M G) : mv_V x k y ρ pc ls (.long b :: .long a :: st) M G :=
  fun hg r hr H locs lsA hP hS hl => lv_ladd hg.1 hg.2.1 h (kk hg r hr H locs lsA hP hS hl)
theorem mv_lsub {a b : Int64} (h : decode y.1 pc = .ok (.lsub, 1)) (kk : mv_V x k y ρ (pc + 1) ls (.long (a - b) :: st) M G) : mv_V x k y ρ pc ls (.long b :: .long a :: st) M G :=
  fun hg r hr H locs lsA hP hS hl => lv_lsub hg.1 hg.2.1 h (kk hg r hr H locs lsA hP hS hl)
theorem mv_lmul {a b : Int64} (h : decode y.1 pc = .ok (.lmul, 1)) (kk : mv_V x k y ρ (pc + 1) ls (.long (a * b) :: st) M G) : mv_V x k y ρ pc ls (.long b :: .long a :: st) M G :=
  fun hg r hr H locs lsA hP hS hl => lv_lmul hg.1 hg.2.1 h (kk hg r hr H locs lsA hP hS hl)
theorem mv_lcmp {a b : Int64} (h : decode y.1 pc = .ok (.lcmp, 1)) (kk : mv_V x k y ρ (pc + 1) ls (.int (lg_cmp a b) :: st) M G) : mv_V x k y ρ pc ls (.long b :: .long a :: st) M G :=
  fun hg r hr H locs lsA hP hS hl => W.lcmp hg.1 hg.2.1 h (kk hg r hr H locs lsA hP hS hl)
theorem mv_idiv {a b : Int32} (h : decode y.1 pc = .ok (.idiv, 1)) (kk : mv_V x k y ρ (pc + 1) ls (.int (a / b) :: st) M G) : mv_V x k y ρ pc ls (.int b :: .int a :: st) M (mv_nz b G) := by
  intro hg r hr H locs lsA hP hS hl
  unfold mv_nz at hr
  by_cases hb : b = 0
  · rw [if_pos hb] at hr; cases hr
  · rw [if_neg hb] at hr
    exact lv_idiv hg.1 hg.2.1 h hb (kk hg r hr H locs lsA hP hS hl)
theorem mv_lrem {a b : Int64} (h : decode y.1 pc = .ok (.lrem, 1)) (kk : mv_V x k y ρ (pc + 1) ls (.long (a - a / b * b) :: st) M G) : mv_V x k y ρ pc ls (.long b :: .long a :: st) M (mv_nzl b G) := by
  intro hg r hr H locs lsA hP hS hl
  unfold mv_nzl at hr
  by_cases hb : b = 0
  · rw [if_pos hb] at hr; cases hr
  · rw [if_neg hb] at hr
    exact lv_lrem hg.1 hg.2.1 h hb (kk hg r hr H locs lsA hP hS hl)
theorem mv_goto {off : Int} {tgt : Nat} (h : decode y.1 pc = .ok (.goto off, 3)) (ht : (pc : Int) + off = (tgt : Int)) (kk : mv_V x k y ρ tgt ls st M G) : mv_V x k y ρ pc ls st M G :=
  fun hg r hr H locs lsA hP hS hl => lv_goto hg.1 hg.2.1 h ht (kk hg r hr H locs lsA hP hS hl)
theorem mv_icmp_eq {a b : Int32} {off : Int} {tgt : Nat} {G1 G2 : Option α} (h : decode y.1 pc = .ok (.if_icmp .eq off, 3)) (ht : (pc : Int) + off = (tgt : Int)) (kt : mv_V x k y ρ tgt ls st M G1) (kf : mv_V x k y ρ (pc + 3) ls st M G2) : mv_V x k y ρ pc ls (.int b :: .int a :: st) M (if a = b then G1 else G2) :=
  fun hg r hr H locs lsA hP hS hl => lv_icmp_eq hg.1 hg.2.1 h ht (fun hc => kt hg r (by rw [if_pos hc] at hr; exact hr) H locs lsA hP hS hl) (fun hc => kf hg r (by rw [if_neg hc] at hr; exact hr) H locs lsA hP hS hl)
theorem mv_if_eq {a : Int32} {off : Int} {tgt : Nat} {G1 G2 : Option α} (h : decode y.1 pc = .ok (.ifCond .eq off, 3)) (ht : (pc : Int) + off = (tgt : Int)) (kt : mv_V x k y ρ tgt ls st M G1) (kf : mv_V x k y ρ (pc + 3) ls st M G2) : mv_V x k y ρ pc ls (.int a :: st) M (if a = 0 then G1 else G2) :=
  fun hg r hr H locs lsA hP hS hl => lv_if_eq hg.1 hg.2.1 h ht (fun hc => kt hg r (by rw [if_pos hc] at hr; exact hr) H locs lsA hP hS hl) (fun hc => kf hg r (by rw [if_neg hc] at hr; exact hr) H locs lsA hP hS hl)
theorem mv_icmp_ne {a b : Int32} {off : Int} {tgt : Nat} {G1 G2 : Option α} (h : decode y.1 pc = .ok (.if_icmp .ne off, 3)) (ht : (pc : Int) + off = (tgt : Int)) (kt : mv_V x k y ρ tgt ls st M G1) (kf : mv_V x k y ρ (pc + 3) ls st M G2) : mv_V x k y ρ pc ls (.int b :: .int a :: st) M (if a = b then G2 else G1) :=
  fun hg r hr H locs lsA hP hS hl => lv_icmp_ne hg.1 hg.2.1 h ht (fun hc => kt hg r (by rw [if_neg hc] at hr; exact hr) H locs lsA hP hS hl) (fun hc => kf hg r (by rw [if_pos hc] at hr; exact hr) H locs lsA hP hS hl)
theorem mv_if_ne {a : Int32} {off : Int} {tgt : Nat} {G1 G2 : Option α} (h : decode y.1 pc = .ok (.ifCond .ne off, 3)) (ht : (pc : Int) + off = (tgt : Int)) (kt : mv_V x k y ρ tgt ls st M G1) (kf : mv_V x k y ρ (pc + 3) ls st M G2) : mv_V x k y ρ pc ls (.int a :: st) M (if a = 0 then G2 else G1) :=
  fun hg r hr H locs lsA hP hS hl => lv_if_ne hg.1 hg.2.1 h ht (fun hc => kt hg r (by rw [if_neg hc] at hr; exact hr) H locs lsA hP hS hl) (fun hc => kf hg r (by rw [if_pos hc] at hr; exact hr) H locs lsA hP hS hl)
theorem mv_icmp_lt {a b : Int32} {off : Int} {tgt : Nat} {G1 G2 : Option α} (h : decode y.1 pc = .ok (.if_icmp .lt off, 3)) (ht : (pc : Int) + off = (tgt : Int)) (kt : mv_V x k y ρ tgt ls st M G1) (kf : mv_V x k y ρ (pc + 3) ls st M G2) : mv_V x k y ρ pc ls (.int b :: .int a :: st) M (if a < b then G1 else G2) :=
  fun hg r hr H locs lsA hP hS hl => lv_icmp_lt hg.1 hg.2.1 h ht (fun hc => kt hg r (by rw [if_pos hc] at hr; exact hr) H locs lsA hP hS hl) (fun hc => kf hg r (by rw [if_neg hc] at hr; exact hr) H locs lsA hP hS hl)
theorem mv_if_lt {a : Int32} {off : Int} {tgt : Nat} {G1 G2 : Option α} (h : decode y.1 pc = .ok (.ifCond .lt off, 3)) (ht : (pc : Int) + off = (tgt : Int)) (kt : mv_V x k y ρ tgt ls st M G1) (kf : mv_V x k y ρ (pc + 3) ls st M G2) : mv_V x k y ρ pc ls (.int a :: st) M (if a < 0 then G1 else G2) :=
  fun hg r hr H locs lsA hP hS hl => lv_if_lt hg.1 hg.2.1 h ht (fun hc => kt hg r (by rw [if_pos hc] at hr; exact hr) H locs lsA hP hS hl) (fun hc => kf hg r (by rw [if_neg hc] at hr; exact hr) H locs lsA hP hS hl)
theorem mv_icmp_ge {a b : Int32} {off : Int} {tgt : Nat} {G1 G2 : Option α} (h : decode y.1 pc = .ok (.if_icmp .ge off, 3)) (ht : (pc : Int) + off = (tgt : Int)) (kt : mv_V x k y ρ tgt ls st M G1) (kf : mv_V x k y ρ (pc + 3) ls st M G2) : mv_V x k y ρ pc ls (.int b :: .int a :: st) M (if b ≤ a then G1 else G2) :=
  fun hg r hr H locs lsA hP hS hl => lv_icmp_ge hg.1 hg.2.1 h ht (fun hc => kt hg r (by rw [if_pos hc] at hr; exact hr) H locs lsA hP hS hl) (fun hc => kf hg r (by rw [if_neg hc] at hr; exact hr) H locs lsA hP hS hl)
theorem mv_if_ge {a : Int32} {off : Int} {tgt : Nat} {G1 G2 : Option α} (h : decode y.1 pc = .ok (.ifCond .ge off, 3)) (ht : (pc : Int) + off = (tgt : Int)) (kt : mv_V x k y ρ tgt ls st M G1) (kf : mv_V x k y ρ (pc + 3) ls st M G2) : mv_V x k y ρ pc ls (.int a :: st) M (if 0 ≤ a then G1 else G2) :=
  fun hg r hr H locs lsA hP hS hl => lv_if_ge hg.1 hg.2.1 h ht (fun hc => kt hg r (by rw [if_pos hc] at hr; exact hr) H locs lsA hP hS hl) (fun hc => kf hg r (by rw [if_neg hc] at hr; exact hr) H locs lsA hP hS hl)
theorem mv_icmp_gt {a b : Int32} {off : Int} {tgt : Nat} {G1 G2 : Option α} (h : decode y.1 pc = .ok (.if_icmp .gt off, 3)) (ht : (pc : Int) + off = (tgt : Int)) (kt : mv_V x k y ρ tgt ls st M G1) (kf : mv_V x k y ρ (pc + 3) ls st M G2) : mv_V x k y ρ pc ls (.int b :: .int a :: st) M (if b < a then G1 else G2) :=
  fun hg r hr H locs lsA hP hS hl => lv_icmp_gt hg.1 hg.2.1 h ht (fun hc => kt hg r (by rw [if_pos hc] at hr; exact hr) H locs lsA hP hS hl) (fun hc => kf hg r (by rw [if_neg hc] at hr; exact hr) H locs lsA hP hS hl)
theorem mv_if_gt {a : Int32} {off : Int} {tgt : Nat} {G1 G2 : Option α} (h : decode y.1 pc = .ok (.ifCond .gt off, 3)) (ht : (pc : Int) + off = (tgt : Int)) (kt : mv_V x k y ρ tgt ls st M G1) (kf : mv_V x k y ρ (pc + 3) ls st M G2) : mv_V x k y ρ pc ls (.int a :: st) M (if 0 < a then G1 else G2) :=
  fun hg r hr H locs lsA hP hS hl => lv_if_gt hg.1 hg.2.1 h ht (fun hc => kt hg r (by rw [if_pos hc] at hr; exact hr) H locs lsA hP hS hl) (fun hc => kf hg r (by rw [if_neg hc] at hr; exact hr) H locs lsA hP hS hl)
theorem mv_icmp_le {a b : Int32} {off : Int} {tgt : Nat} {G1 G2 : Option α} (h : decode y.1 pc = .ok (.if_icmp .le off, 3)) (ht : (pc : Int) + off = (tgt : Int)) (kt : mv_V x k y ρ tgt ls st M G1) (kf : mv_V x k y ρ (pc + 3) ls st M G2) : mv_V x k y ρ pc ls (.int b :: .int a :: st) M (if a ≤ b then G1 else G2) :=
  fun hg r hr H locs lsA hP hS hl => lv_icmp_le hg.1 hg.2.1 h ht (fun hc => kt hg r (by rw [if_pos hc] at hr; exact hr) H locs lsA hP hS hl) (fun hc => kf hg r (by rw [if_neg hc] at hr; exact hr) H locs lsA hP hS hl)
theorem mv_if_le {a : Int32} {off : Int} {tgt : Nat} {G1 G2 : Option α} (h : decode y.1 pc = .ok (.ifCond .le off, 3)) (ht : (pc : Int) + off = (tgt : Int)) (kt : mv_V x k y ρ tgt ls st M G1) (kf : mv_V x k y ρ (pc + 3) ls st M G2) : mv_V x k y ρ pc ls (.int a :: st) M (if a ≤ 0 then G1 else G2) :=
  fun hg r hr H locs lsA hP hS hl => lv_if_le hg.1 hg.2.1 h ht (fun hc => kt hg r (by rw [if_pos hc] at hr; exact hr) H locs lsA hP hS hl) (fun hc => kf hg r (by rw [if_neg hc] at hr; exact hr) H locs lsA hP hS hl)
/-! switches: a case, the rest -/
theorem mv_swc {dflt lo hi : Int} {offs : Array Int} {len : Nat} {a v : Int32} {off : Int} {tgt : Nat} {G1 G2 : Option α} (h : decode y.1 pc = .ok (.tableswitch dflt lo hi offs, len)) (h1 : ¬ v.toInt < lo) (h2 : ¬ hi < v.toInt) (ho : offs[(v.toInt - lo).toNat]? = some off) (ht : (pc : Int) + off = (tgt : Int))
    (kt : mv_V x k y ρ tgt ls st M G1) (kf : ¬ a = v → mv_V x k y ρ pc ls (.int a :: st) M G2) : mv_V x k y ρ pc ls (.int a :: st) M (if a = v then G1 else G2) := by
  intro hg r hr H locs lsA hP hS hl
  by_cases hv : a = v
  · subst hv
    rw [if_pos rfl] at hr
    exact lv_tableIn hg.1 hg.2.1 h h1 h2 ho ht (kt hg r hr H locs lsA hP hS hl)
  · rw [if_neg hv] at hr
    exact kf hv hg r hr H locs lsA hP hS hl
theorem mv_swd {dflt lo hi : Int} {offs : Array Int} {len : Nat} {a : Int32} {tgt : Nat} (h : decode y.1 pc = .ok (.tableswitch dflt lo hi offs, len)) (ha : a.toInt < lo ∨ hi < a.toInt) (ht : (pc : Int) + dflt = (tgt : Int)) (kk : mv_V x k y ρ tgt ls st M G) : mv_V x k y ρ pc ls (.int a :: st) M G :=
  fun hg r hr H locs lsA hP hS hl => lv_tableOut hg.1 hg.2.1 h ha ht (kk hg r hr H locs lsA hP hS hl)
theorem mv_lkc {dflt : Int} {ps : Array (Int × Int)} {len : Nat} {a v : Int32} {off : Int} {tgt : Nat} {G1 G2 : Option α} (h : decode y.1 pc = .ok (.lookupswitch dflt ps, len)) (hp : (ps.toList.zip (ps.toList.drop 1)).all (fun (a, next) => a.1 < next.1) = true) (ho : Op.lookupswitch.offset ps.toList dflt v.toInt = off) (ht : (pc : Int) + off = (tgt : Int))
    (kt : mv_V x k y ρ tgt ls st M G1) (kf : ¬ a = v → mv_V x k y ρ pc ls (.int a :: st) M G2) : mv_V x k y ρ pc ls (.int a :: st) M (if a = v then G1 else G2) := by
  intro hg r hr H locs lsA hP hS hl
  by_cases hv : a = v
  · subst hv
    rw [if_pos rfl] at hr
    exact lv_lookup hg.1 hg.2.1 h hp ho ht (kt hg r hr H locs lsA hP hS hl)
  · rw [if_neg hv] at hr
    exact kf hv hg r hr H locs lsA hP hS hl
theorem mv_lkd {dflt : Int} {ps : Array (Int × Int)} {len : Nat} {a : Int32} {tgt : Nat} (h : decode y.1 pc = .ok (.lookupswitch dflt ps, len)) (hp : (ps.toList.zip (ps.toList.drop 1)).all (fun (a, next) => a.1 < next.1) = true) (ho : Op.lookupswitch.offset ps.toList dflt a.toInt = dflt) (ht : (pc : Int) + dflt = (tgt : Int)) (kk : mv_V x k y ρ tgt ls st M G) : mv_V x k y ρ pc ls (.int a :: st) M G :=
  fun hg r hr H locs lsA hP hS hl => lv_lookup hg.1 hg.2.1 h hp ho ht (kk hg r hr H locs lsA hP hS hl)
/-! ends -/
theorem mv_q {rM : Option Value × mv_M} {H : Heap} {locs : List Loc} {s t : State} {a : Array Value} (hP : va_P k.1 vwCl (mv_ws k rM.2) H) (hS : va_S (mv_A k) s.heap H locs) (ht : t.heap = H) : mv_Q k rM a s (.returned rM.1) t := ⟨⟨rfl, by rw [ht]; exact hP⟩, hS.F ht⟩
theorem mv_ireturn {a : Int32} (h : decode y.1 pc = .ok (.ireturn, 1)) (hr : y.2.2.2.1 = some .int) : mv_V x k y mv_ri pc ls [.int a] M (some (a, M)) := by
  intro hg r hr' H locs lsA hP hS hl
  cases hr'
  exact W.iret hg.1 hg.2.1 (hg.2.2.2.2.2.1.trans hr) (fun t ht _ => mv_q (rM := mv_ri (a, M)) hP hS ht) hS.2.2 h (hlocks := hg.2.2.2.2.2.2.1)
/-- a truth value -/
def mv_b1 {α : Type} (a : Int32) (G : Option α) : Option α := if a = 0 ∨ a = 1 then G else none
theorem mv_nb : ∀ a : Int32, a = 0 ∨ a = 1 → narrow .boolean (.int a) = .int a := by
  rintro a (rfl | rfl) <;> decide +kernel
theorem mv_zreturn {a : Int32} (h : decode y.1 pc = .ok (.ireturn, 1)) (hr : y.2.2.2.1 = some .boolean) : mv_V x k y mv_ri pc ls [.int a] M (mv_b1 a (some (a, M))) := by
  intro hg r hr' H locs lsA hP hS hl
  unfold mv_b1 at hr'
  by_cases hb : a = 0 ∨ a = 1
  · rw [if_pos hb] at hr'
    cases hr'
    exact W.zret hg.1 hg.2.1 (hg.2.2.2.2.2.1.trans hr) (mv_nb a hb) (fun t ht _ => mv_q (rM := mv_ri (a, M)) hP hS ht) hS.2.2 h (hlocks := hg.2.2.2.2.2.2.1)
  · rw [if_neg hb] at hr'
    cases hr'
theorem mv_lreturn {a : Int64} (h : decode y.1 pc = .ok (.lreturn, 1)) (hr : y.2.2.2.1 = some .long) : mv_V x k y mv_rl pc ls [.long a] M (some (a, M)) := by
  intro hg r hr' H locs lsA hP hS hl
  cases hr'
  exact W.lret hg.1 hg.2.1 (hg.2.2.2.2.2.1.trans hr) (fun t ht _ => mv_q (rM := mv_rl (a, M)) hP hS ht) hS.2.2 h (hlocks := hg.2.2.2.2.2.2.1)
theorem mv_return (h : decode y.1 pc = .ok (.return_, 1)) (hr : y.2.2.2.1 = none) : mv_V x k y mv_rv pc ls [] M (some M) := by
  intro hg r hr' H locs lsA hP hS hl
  cases hr'
  exact W.vret hg.1 hg.2.1 (hg.2.2.2.2.2.1.trans hr) (fun t ht _ => mv_q (rM := mv_rv M) hP hS ht) hS.2.2 h (hlocks := hg.2.2.2.2.2.2.1)
/-! fields -/
def mv_FL (own : String) (idx ci kf : Nat) : Prop := ∃ (C : String) (T : u_T) (N : Nat), vwCl[ci]? = some (C, T, N) ∧ (∀ w ∈ u_ws C T N, w ∈ mv_all) ∧ kf < N ∧ (Cond.fieldLink own idx (T kf).1 (T kf).2.1 (T kf).2.2.1 ∈ mv_all ∨ ∃ host, Cond.fieldLinkNest own idx (T kf).1 (T kf).2.1 (T kf).2.2.1 host ∈ mv_nw)
theorem mv_get {idx ci kf i f : Nat} {fs : List Nat} (h : decode y.1 pc = .ok (.getfield idx, 3)) (hF : mv_FL y.2.2.1 idx ci kf) (hL : k.2.2.2[i]? = some (0, ci, fs)) (hf : fs[kf]? = some f) (kk : mv_V x k y ρ (pc + 3) ls (mv_fv k.2.2.1 M i kf f :: st) M G) : mv_V x k y ρ pc ls (.ref (k.2.2.1 i) :: st) M G := by
  intro hg r hr H locs lsA hP hS hl
  obtain ⟨C, T, N, hc, hin, hk, hw⟩ := hF
  have he : (mv_ws k M)[i]? = some (k.2.2.1 i, .inr (ci, fs.mapIdx (fun k' f' => mv_fv k.2.2.1 M i k' f'))) := mv_ws_at hL
  have hv : (fs.mapIdx (fun k' f' => mv_fv k.2.2.1 M i k' f'))[kf]? = some (mv_fv k.2.2.1 M i kf f) := by rw [List.getElem?_mapIdx, hf]; rfl
  have hsp := hg.2.2.2.2.2.2.2.2
  rcases hw with hw | ⟨host, hw⟩
  · exact va_get hg.1 hg.2.1 hg.2.2.2.2.1 hin hg.2.2.2.1 hsp.1 hP i he hc kf hk (hg.2.2.2.2.1 _ hw) (fun _ h9 => h9) hv h (kk hg r hr H locs lsA hP hS hl)
  · exact va_getN hg.1 hg.2.1 hg.2.2.2.2.1 hin hg.2.2.2.1 hsp.1 hP i he hc kf hk (va_Nw.use rfl (hsp.2.1 _ hw)) (fun _ h9 => h9) hv h (kk hg r hr H locs lsA hP hS hl)
theorem mv_getI {idx ci kf i : Nat} {fs : List Nat} (h : decode y.1 pc = .ok (.getfield idx, 3)) (hF : mv_FL y.2.2.1 idx ci kf) (hL : k.2.2.2[i]? = some (0, ci, fs)) (hf : fs[kf]? = some 0) (kk : mv_V x k y ρ (pc + 3) ls (.int (M.1 i kf) :: st) M G) : mv_V x k y ρ pc ls (.ref (k.2.2.1 i) :: st) M G := mv_get h hF hL hf kk
theorem mv_getL {idx ci kf i : Nat} {fs : List Nat} (h : decode y.1 pc = .ok (.getfield idx, 3)) (hF : mv_FL y.2.2.1 idx ci kf) (hL : k.2.2.2[i]? = some (0, ci, fs)) (hf : fs[kf]? = some 1) (kk : mv_V x k y ρ (pc + 3) ls (.long (M.2 i kf) :: st) M G) : mv_V x k y ρ pc ls (.ref (k.2.2.1 i) :: st) M G := mv_get h hF hL hf kk
theorem mv_getR {idx ci kf i j : Nat} {fs : List Nat} (h : decode y.1 pc = .ok (.getfield idx, 3)) (hF : mv_FL y.2.2.1 idx ci kf) (hL : k.2.2.2[i]? = some (0, ci, fs)) (hf : fs[kf]? = some (j + 2)) (kk : mv_V x k y ρ (pc + 3) ls (.ref (k.2.2.1 j) :: st) M G) : mv_V x k y ρ pc ls (.ref (k.2.2.1 i) :: st) M G := mv_get h hF hL hf kk
def mv_FP (ci kf : Nat) (ty : FieldType) : Prop := ∃ (C : String) (T : u_T) (N : Nat) (ty0 : Nat → FieldType), vwCl[ci]? = some (C, T, N) ∧ (∀ k, k < N → parseFieldDescriptor (T k).2.2.1 = some (ty0 k)) ∧ (∀ a, a < N → ∀ b, b < N → a ≠ b → (T a).2.1 ≠ (T b).2.1) ∧ (T kf).2.2.2 = false ∧ parseFieldDescriptor (T kf).2.2.1 = some ty
theorem mv_put {idx ci kf i f : Nat} {fs : List Nat} {ty : FieldType} {v : Value} {M' : mv_M} (h : decode y.1 pc = .ok (.putfield idx, 3)) (hF : mv_FL y.2.2.1 idx ci kf) (hT : mv_FP ci kf ty) (hL : k.2.2.2[i]? = some (0, ci, fs)) (hf : fs[kf]? = some f) (hn : narrow ty v = v) (hfit : fits ty v = true)
    (he' : (fs.mapIdx (fun k' f' => mv_fv k.2.2.1 M i k' f')).set kf v = fs.mapIdx (fun k' f' => mv_fv k.2.2.1 M' i k' f')) (ho : ∀ j, j ≠ i → ∀ c', mv_cell k.2.1 k.2.2.1 M' j c' = mv_cell k.2.1 k.2.2.1 M j c') (kk : mv_V x k y ρ (pc + 3) ls st M' G) : mv_V x k y ρ pc ls (v :: .ref (k.2.2.1 i) :: st) M G := by
  intro hg r hr H locs lsA hP hS hl
  obtain ⟨C, T, N, hc, hin, hk, hw⟩ := hF
  obtain ⟨C', T', N', ty0, hc', hty, hnm, hfin, hd⟩ := hT
  have hcc : (C, T, N) = (C', T', N') := Option.some.inj (hc.symm.trans hc')
  cases hcc
  have he : (mv_ws k M)[i]? = some (k.2.2.1 i, .inr (ci, fs.mapIdx (fun k' f' => mv_fv k.2.2.1 M i k' f'))) := mv_ws_at hL
  have hlen : kf < (fs.mapIdx (fun k' f' => mv_fv k.2.2.1 M i k' f')).length := by rw [List.length_mapIdx]; exact (List.getElem?_eq_some_iff.mp hf).1
  have hsp := hg.2.2.2.2.2.2.2.2
  have hset : (mv_ws k M).set i (k.2.2.1 i, .inr (ci, (fs.mapIdx (fun k' f' => mv_fv k.2.2.1 M i k' f')).set kf v)) = mv_ws k M' := mv_ws_set hL (by rw [he']; rfl) ho
  have kk2 : ∀ (H1 : Heap) (locs1 : List Loc), va_P k.1 vwCl ((mv_ws k M).set i (k.2.2.1 i, .inr (ci, (fs.mapIdx (fun k' f' => mv_fv k.2.2.1 M i k' f')).set kf v))) H1 → va_D (mv_A k) ((mv_ws k M).set i (k.2.2.1 i, .inr (ci, (fs.mapIdx (fun k' f' => mv_fv k.2.2.1 M i k' f')).set kf v))) → va_S (mv_A k) x.2.2.2.2.1.heap H1 locs1 → mv_WW x k (ρ r) H1 locs1 (F0 x.2.2.2.2.2.1 (pc + 3) lsA st) := fun H1 locs1 hP1 _ hS1 => kk hg r hr H1 locs1 lsA (by rw [← hset]; exact hP1) hS1 hl
  rcases hw with hw | ⟨host, hw⟩
  · exact va_put hg.1 hg.2.1 hg.2.2.2.2.1 hin ty0 hty hnm hg.2.2.2.1 hsp.1 hP (mv_ws_D M hsp.2.2) hS i he hc kf hk (hg.2.2.2.2.1 _ hw) (fun _ h9 => h9) hfin hd hn hfit hlen h kk2
  · exact va_putN hg.1 hg.2.1 hg.2.2.2.2.1 hin ty0 hty hnm hg.2.2.2.1 hsp.1 hP (mv_ws_D M hsp.2.2) hS i he hc kf hk (va_Nw.use rfl (hsp.2.1 _ hw)) (fun _ h9 => h9) hfin hd hn hfit hlen h kk2
theorem mv_cell_wI {cA : Nat → ClassId} {ad : Nat → Nat} {a kk : Nat} {v : Int32} : ∀ j, j ≠ a → ∀ c', mv_cell cA ad (mv_wI M a kk v) j c' = mv_cell cA ad M j c' := by
  intro j hj c'
  have e : (mv_wI M a kk v).1 j = M.1 j := by unfold mv_wI; exact if_neg hj
  have e2 : (mv_wI M a kk v).2 = M.2 := rfl
  unfold mv_cell mv_fv
  rw [e, e2]
theorem mv_cell_wL {cA : Nat → ClassId} {ad : Nat → Nat} {a kk : Nat} {v : Int64} : ∀ j, j ≠ a → ∀ c', mv_cell cA ad (mv_wL M a kk v) j c' = mv_cell cA ad M j c' := by
  intro j hj c'
  have e : (mv_wL M a kk v).2 j = M.2 j := by unfold mv_wL; exact if_neg hj
  have e2 : (mv_wL M a kk v).1 = M.1 := rfl
  unfold mv_cell mv_fv
  rw [e, e2]
theorem mv_cell_wA {cA : Nat → ClassId} {ad : Nat → Nat} {a : Nat} {f : Nat → Int32} : ∀ j, j ≠ a → ∀ c', mv_cell cA ad (mv_wA M a f) j c' = mv_cell cA ad M j c' := by
  intro j hj c'
  have e : (mv_wA M a f).1 j = M.1 j := by unfold mv_wA; exact if_neg hj
  have e2 : (mv_wA M a f).2 = M.2 := rfl
  unfold mv_cell mv_fv
  rw [e, e2]
theorem mv_wI_a {a kk : Nat} {v : Int32} : (mv_wI M a kk v).1 a = upd (M.1 a) kk v := by unfold mv_wI; exact if_pos rfl
theorem mv_wL_a {a kk : Nat} {v : Int64} : (mv_wL M a kk v).2 a = vp_updL (M.2 a) kk v := by unfold mv_wL; exact if_pos rfl
theorem mv_wA_a {a : Nat} {f : Nat → Int32} : (mv_wA M a f).1 a = f := by unfold mv_wA; exact if_pos rfl
theorem mv_putI {idx ci kf i : Nat} {fs : List Nat} {v : Int32} {g : mv_M → Option α} (h : decode y.1 pc = .ok (.putfield idx, 3)) (hF : mv_FL y.2.2.1 idx ci kf) (hT : mv_FP ci kf .int ∨ (mv_FP ci kf .boolean ∧ (v = 0 ∨ v = 1))) (hL : k.2.2.2[i]? = some (0, ci, fs)) (hf : fs[kf]? = some 0) (kk : ∀ M' : mv_M, mv_V x k y ρ (pc + 3) ls st M' (g M')) : mv_V x k y ρ pc ls (.int v :: .ref (k.2.2.1 i) :: st) M (mv_let (mv_wI M i kf v) g) := by
  have he' : (fs.mapIdx (fun k' f' => mv_fv k.2.2.1 M i k' f')).set kf (.int v) = fs.mapIdx (fun k' f' => mv_fv k.2.2.1 (mv_wI M i kf v) i k' f') := by
    apply List.ext_getElem?
    intro j
    by_cases hj : j = kf
    · subst hj
      rw [List.getElem?_set_self (by rw [List.length_mapIdx]; exact (List.getElem?_eq_some_iff.mp hf).1), List.getElem?_mapIdx, hf]
      show some (Value.int v) = some (Value.int ((mv_wI M i j v).1 i j))
      rw [mv_wI_a]; unfold upd; rw [if_pos rfl]
    · rw [List.getElem?_set_ne (Ne.symm hj), List.getElem?_mapIdx, List.getElem?_mapIdx]
      cases fs[j]? with
      | none => rfl
      | some f =>
        show some (mv_fv _ _ _ _ _) = some (mv_fv _ _ _ _ _)
        unfold mv_fv
        rw [mv_wI_a]; unfold upd; rw [if_neg hj]; rfl
  rcases hT with hT | ⟨hT, hv⟩
  · exact mv_put (ty := .int) h hF hT hL hf rfl rfl he' mv_cell_wI (kk _)
  · exact mv_put (ty := .boolean) h hF hT hL hf (by rcases hv with rfl | rfl <;> rfl) (by rcases hv with rfl | rfl <;> rfl) he' mv_cell_wI (kk _)
theorem mv_putL {idx ci kf i : Nat} {fs : List Nat} {v : Int64} {g : mv_M → Option α} (h : decode y.1 pc = .ok (.putfield idx, 3)) (hF : mv_FL y.2.2.1 idx ci kf) (hT : mv_FP ci kf .long) (hL : k.2.2.2[i]? = some (0, ci, fs)) (hf : fs[kf]? = some 1) (kk : ∀ M' : mv_M, mv_V x k y ρ (pc + 3) ls st M' (g M')) : mv_V x k y ρ pc ls (.long v :: .ref (k.2.2.1 i) :: st) M (mv_let (mv_wL M i kf v) g) := by
  have he' : (fs.mapIdx (fun k' f' => mv_fv k.2.2.1 M i k' f')).set kf (.long v) = fs.mapIdx (fun k' f' => mv_fv k.2.2.1 (mv_wL M i kf v) i k' f') := by
    apply List.ext_getElem?
    intro j
    by_cases hj : j = kf
    · subst hj
      rw [List.getElem?_set_self (by rw [List.length_mapIdx]; exact (List.getElem?_eq_some_iff.mp hf).1), List.getElem?_mapIdx, hf]
      show some (Value.long v) = some (Value.long ((mv_wL M i j v).2 i j))
      rw [mv_wL_a]; unfold vp_updL; rw [if_pos rfl]
    · rw [List.getElem?_set_ne (Ne.symm hj), List.getElem?_mapIdx, List.getElem?_mapIdx]
      cases fs[j]? with
      | none => rfl
      | some f =>
        show some (mv_fv _ _ _ _ _) = some (mv_fv _ _ _ _ _)
        unfold mv_fv
        rw [mv_wL_a]; unfold vp_updL; rw [if_neg hj]; rfl
  exact mv_put (ty := .long) h hF hT hL hf rfl rfl he' mv_cell_wL (kk _)
/-! rows of numbers -/
theorem mv_in {i : Int32} {n : Nat} {r : α} (h : mv_ob i n G = some r) : vp_in i n ∧ G = some r := by
  unfold mv_ob at h
  by_cases hc : i < 0 ∨ n ≤ i.toNatClampNeg
  · rw [if_pos hc] at h; cases h
  · rw [if_neg hc] at h; exact ⟨hc, h⟩
theorem mv_iald {i n : Nat} {j : Int32} {fs : List Nat} (h : decode y.1 pc = .ok (.iaload, 1)) (hL : k.2.2.2[i]? = some (1, n, fs)) (kk : mv_V x k y ρ (pc + 1) ls (.int (M.1 i j.toNatClampNeg) :: st) M G) : mv_V x k y ρ pc ls (.int j :: .ref (k.2.2.1 i) :: st) M (mv_ob j n G) := by
  intro hg r hr H locs lsA hP hS hl
  obtain ⟨hin, hr⟩ := mv_in hr
  exact va_iald hg.1 hg.2.1 hg.2.2.2.2.2.2.2.2.1 hP i 0 (mv_ws_at hL) rfl hin h (kk hg r hr H locs lsA hP hS hl)
theorem mv_zald {i n : Nat} {j : Int32} {fs : List Nat} (h : decode y.1 pc = .ok (.baload, 1)) (hL : k.2.2.2[i]? = some (3, n, fs)) (kk : mv_V x k y ρ (pc + 1) ls (.int (M.1 i j.toNatClampNeg) :: st) M G) : mv_V x k y ρ pc ls (.int j :: .ref (k.2.2.1 i) :: st) M (mv_ob j n G) := by
  intro hg r hr H locs lsA hP hS hl
  obtain ⟨hin, hr⟩ := mv_in hr
  exact va_zald hg.1 hg.2.1 hg.2.2.2.2.2.2.2.2.1 hP i 2 (mv_ws_at hL) rfl hin h (kk hg r hr H locs lsA hP hS hl)
theorem mv_lald {i n : Nat} {j : Int32} {fs : List Nat} (h : decode y.1 pc = .ok (.laload, 1)) (hL : k.2.2.2[i]? = some (2, n, fs)) (kk : mv_V x k y ρ (pc + 1) ls (.long (M.2 i j.toNatClampNeg) :: st) M G) : mv_V x k y ρ pc ls (.int j :: .ref (k.2.2.1 i) :: st) M (mv_ob j n G) := by
  intro hg r hr H locs lsA hP hS hl
  obtain ⟨hin, hr⟩ := mv_in hr
  exact va_lald hg.1 hg.2.1 hg.2.2.2.2.2.2.2.2.1 hP i 1 (mv_ws_at hL) rfl hin h (kk hg r hr H locs lsA hP hS hl)
theorem mv_iast {i n : Nat} {j v : Int32} {fs : List Nat} {g : mv_M → Option α} (h : decode y.1 pc = .ok (.iastore, 1)) (hL : k.2.2.2[i]? = some (1, n, fs)) (kk : ∀ M' : mv_M, mv_V x k y ρ (pc + 1) ls st M' (g M')) : mv_V x k y ρ pc ls (.int v :: .int j :: .ref (k.2.2.1 i) :: st) M (mv_ob j n (mv_let (mv_wI M i j.toNatClampNeg v) g)) := by
  intro hg r hr H locs lsA hP hS hl
  obtain ⟨hin, hr⟩ := mv_in hr
  have hsp := hg.2.2.2.2.2.2.2.2
  have hset : (mv_ws k M).set i (k.2.2.1 i, .inl (k.2.1 0, n, .inl (upd (M.1 i) j.toNatClampNeg v))) = mv_ws k (mv_wI M i j.toNatClampNeg v) := mv_ws_set hL (by show _ = (Sum.inl (k.2.1 0, n, Sum.inl ((mv_wI M i j.toNatClampNeg v).1 i)) : va_E); rw [mv_wI_a]) mv_cell_wI
  exact va_iast hg.1 hg.2.1 hsp.1 hP (mv_ws_D M hsp.2.2) hS i 0 (mv_ws_at hL) rfl hin h (fun H1 locs1 hP1 _ hS1 => kk _ hg r hr H1 locs1 lsA (by rw [← hset]; exact hP1) hS1 hl)
theorem mv_zast {i n : Nat} {j v : Int32} {fs : List Nat} {g : mv_M → Option α} (h : decode y.1 pc = .ok (.bastore, 1)) (hL : k.2.2.2[i]? = some (3, n, fs)) (hv : v = 0 ∨ v = 1) (kk : ∀ M' : mv_M, mv_V x k y ρ (pc + 1) ls st M' (g M')) : mv_V x k y ρ pc ls (.int v :: .int j :: .ref (k.2.2.1 i) :: st) M (mv_ob j n (mv_let (mv_wI M i j.toNatClampNeg v) g)) := by
  intro hg r hr H locs lsA hP hS hl
  obtain ⟨hin, hr⟩ := mv_in hr
  have hsp := hg.2.2.2.2.2.2.2.2
  have hnar : vp_nar .boolean v = v := by rcases hv with rfl | rfl <;> decide +kernel
  have hset : (mv_ws k M).set i (k.2.2.1 i, .inl (k.2.1 2, n, .inl (upd (M.1 i) j.toNatClampNeg (vp_nar .boolean v)))) = mv_ws k (mv_wI M i j.toNatClampNeg v) := mv_ws_set hL (by show _ = (Sum.inl (k.2.1 2, n, Sum.inl ((mv_wI M i j.toNatClampNeg v).1 i)) : va_E); rw [mv_wI_a, hnar]) mv_cell_wI
  exact va_zast hg.1 hg.2.1 hsp.1 hP (mv_ws_D M hsp.2.2) hS i 2 (mv_ws_at hL) rfl hin h (fun H1 locs1 hP1 _ hS1 => kk _ hg r hr H1 locs1 lsA (by rw [← hset]; exact hP1) hS1 hl)
theorem mv_last {i n : Nat} {j : Int32} {v : Int64} {fs : List Nat} {g : mv_M → Option α} (h : decode y.1 pc = .ok (.lastore, 1)) (hL : k.2.2.2[i]? = some (2, n, fs)) (kk : ∀ M' : mv_M, mv_V x k y ρ (pc + 1) ls st M' (g M')) : mv_V x k y ρ pc ls (.long v :: .int j :: .ref (k.2.2.1 i) :: st) M (mv_ob j n (mv_let (mv_wL M i j.toNatClampNeg v) g)) := by
  intro hg r hr H locs lsA hP hS hl
  obtain ⟨hin, hr⟩ := mv_in hr
  have hsp := hg.2.2.2.2.2.2.2.2
  have hset : (mv_ws k M).set i (k.2.2.1 i, .inl (k.2.1 1, n, .inr (.inl (vp_updL (M.2 i) j.toNatClampNeg v)))) = mv_ws k (mv_wL M i j.toNatClampNeg v) := mv_ws_set hL (by show _ = (Sum.inl (k.2.1 1, n, Sum.inr (Sum.inl ((mv_wL M i j.toNatClampNeg v).2 i))) : va_E); rw [mv_wL_a]) mv_cell_wL
  exact va_last hg.1 hg.2.1 hsp.1 hP (mv_ws_D M hsp.2.2) hS i 1 (mv_ws_at hL) rfl hin h (fun H1 locs1 hP1 _ hS1 => kk _ hg r hr H1 locs1 lsA (by rw [← hset]; exact hP1) hS1 hl)
theorem mv_alen {i n t : Nat} {v : Int32} {fs : List Nat} (h : decode y.1 pc = .ok (.arraylength, 1)) (hL : k.2.2.2[i]? = some (1, n, fs)) (hv : Int32.ofNat n = v) (kk : mv_V x k y ρ (pc + 1) ls (.int v :: st) M G) : mv_V x k y ρ pc ls (.ref (k.2.2.1 i) :: st) M G :=
  fun hg r hr H locs lsA hP hS hl => va_alen hg.1 hg.2.1 hg.2.2.2.2.2.2.2.2.1 hP i 0 (mv_ws_at hL) rfl hv h (kk hg r hr H locs lsA hP hS hl)
/-- a row out of a row of rows, or of cells -/
theorem mv_aald {i n b t : Nat} {j : Int32} {fs : List Nat} (h : decode y.1 pc = .ok (.aaload, 1)) (hL : k.2.2.2[i]? = some (t + 4, n, fs)) (ht : t < 3) (hb : ∀ q : Nat, q < n → fs[q]? = some (b + q)) (kk : j.toNatClampNeg < n → mv_V x k y ρ (pc + 1) ls (.ref (k.2.2.1 (b + j.toNatClampNeg)) :: st) M G) : mv_V x k y ρ pc ls (.int j :: .ref (k.2.2.1 i) :: st) M (mv_ob j n G) := by
  intro hg r hr H locs lsA hP hS hl
  obtain ⟨hin, hr⟩ := mv_in hr
  have hlt : j.toNatClampNeg < n := Nat.not_le.mp fun q => hin (Or.inr q)
  have hK := hg.2.2.2.2.2.2.2.2.1
  have hv : va_rf ((fs[j.toNatClampNeg]?).map k.2.2.1) = .ref (k.2.2.1 (b + j.toNatClampNeg)) := by rw [hb _ hlt]; rfl
  have key : ∀ (cA : ClassId) (ty : FieldType), ty.isReference = true → ArrOfT x.2.2.2.2.1 cA ty → H[k.2.2.1 i]? = some (arrV cA n (fun q => va_rf ((fs[q]?).map k.2.2.1))) → mv_WW x k (ρ r) H locs (F0 x.2.2.2.2.2.1 pc lsA (.int j :: .ref (k.2.2.1 i) :: st)) := fun cA ty hty ha hH =>
    W.aald (v := .ref (k.2.2.1 (b + j.toNatClampNeg))) (ty := ty) hg.1 hg.2.1 hH (ha n _) hty (fun q => by cases q) (by show ¬ (j < 0 ∨ (arrV _ _ _).slots.size ≤ _); rw [arrV_size]; exact hin) (by show (arrV _ _ _).slots[_]? = _; rw [arrV_read _ _ hlt, hv]) rfl rfl h (kk hlt hg r hr H locs lsA hP hS hl)
  rcases (show t = 0 ∨ t = 1 ∨ t = 2 by omega) with rfl | rfl | rfl
  · exact key (k.2.1 3) (.object RX7) rfl (hK.2 3 _ rfl).1 (hP i _ (mv_ws_at hL))
  · exact key (k.2.1 4) (.array .int) rfl (hK.2 4 _ rfl).1 (hP i _ (mv_ws_at hL))
  · exact key (k.2.1 5) (.array .long) rfl (hK.2 5 _ rfl).1 (hP i _ (mv_ws_at hL))
/-! calls -/
theorem mv_after {rM rM' : Option Value × mv_M} {H : Heap} {locs : List Loc} {lsA : Array Slot} {st0 rest : List Value} {a : Array Value}
    (hr : va_Run x.1 x.2.1 x.2.2.1 x.2.2.2.1 x.2.2.2.2.1 x.2.2.2.2.2.1 x.2.2.2.2.2.2.1 x.2.2.2.2.2.2.2.1 x.2.2.2.2.2.2.2.2.1 x.2.2.2.2.2.2.2.2.2 H locs 0 0 0 0 (F0 x.2.2.2.2.2.1 pc lsA st0) rest (mv_Q k rM' a) (mv_A k)) (hS : va_S (mv_A k) x.2.2.2.2.1.heap H locs)
    (kk : ∀ (H1 : Heap) (locs1 : List Loc), va_P k.1 vwCl (mv_ws k rM'.2) H1 → va_S (mv_A k) x.2.2.2.2.1.heap H1 locs1 → mv_WW x k rM H1 locs1 (F0 x.2.2.2.2.2.1 (pc + 3) lsA (rM'.1.toList ++ rest))) : mv_WW x k rM H locs (F0 x.2.2.2.2.2.1 pc lsA st0) := by
  intro T hT X
  obtain ⟨v, st₀, t, T', L, h0, X', hL, e1, e2, ⟨⟨hv, hP⟩, hz, hk⟩, sg⟩ := hr T hT X
  cases hv
  rw [h0] at hz hk
  obtain ⟨t2, a1, b1⟩ := kk T'.heap (locs ++ L) (by rw [e1]; exact hP)
    ⟨Nat.le_trans hS.1 (by rw [e1]; exact hz), fun q h1 h2 => by rw [e1, hk q (Nat.lt_of_lt_of_le h1 hS.1) h2]; exact hS.2.1 q h1 h2, fun q hq => by
      rcases List.mem_append.mp hq with h | h
      · exact hS.2.2 q h
      · exact hL q h⟩ T' rfl X'
  exact ⟨t2, sg t2 a1, b1⟩
theorem mv_blind {args : List Value} : FrameBlind (va_Pc args (fun U => va_P k.1 vwCl (mv_ws k M) U.heap ∧ mv_SP k U)) := fun a U g mk q => by
  obtain ⟨q0, qP, qK, qN, qD⟩ := q
  exact ⟨q0, qP, va_K.moved (u := U) (U := U.calling g mk a) (Vm.Alike.refl U.vm) qK, fun w hw => by
    have hz := qN w hw
    rcases mv_nw_kind w hw with ⟨a1, i1, b1, n1, d1, hh, rfl⟩ | ⟨a1, i1, x1, hh, rfl⟩
    · exact va_Nw.same (u := U) (U := U.calling g mk a) rfl rfl hz
    · exact va_Nw.same (u := U) (U := U.calling g mk a) rfl rfl hz, qD⟩
/-- a method that can be called: its code, its kind is ready, its name's shape -/
def mv_MC (yn : MethodName) (y : mv_Y) (n : Nat) : Prop := Cond.code yn y.1 y.2.1 y.2.2.2.1 ∈ mv_all ∧ Cond.initialized yn.cls ∈ mv_all ∧ (yn.cls ≠ "java/lang/invoke/MethodHandle" ∧ yn.cls ≠ "java/lang/invoke/VarHandle" ∧ (parseMethodDescriptor yn.desc).map (fun d => d.parameters.length) = some n) ∧ y.2.2.2.2.cells = 0 ∧ y.2.2.2.2.slots = 0
def mv_MV (yn : MethodName) (y : mv_Y) (n : Nat) : Prop := mv_MC yn y n ∧ Cond.instanceMethod yn ∈ mv_all ∧ Cond.selects yn.cls yn yn ∈ mv_all
def mv_MS (yn : MethodName) (y : mv_Y) (n : Nat) : Prop := mv_MC yn y n ∧ Cond.static yn ∈ mv_all
def mv_ML (own : String) (idx : Nat) (yn : MethodName) : Prop := Cond.methodLink own idx yn ∈ mv_all ∨ ∃ host, Cond.methodLinkNest own idx yn host ∈ mv_nw
def mv_RR (y yc : mv_Y) : Prop := yc.2.2.2.2.frames + 1 ≤ y.2.2.2.2.frames ∧ 8 + (yc.2.1 + 11) + yc.2.2.2.2.locals ≤ y.2.2.2.2.locals
theorem mv_goodw {yn : MethodName} {y : mv_Y} (h : Cond.code yn y.1 y.2.1 y.2.2.2.1 ∈ mv_all) : GoodIn mv_all (mv_w yn y) := fun w hw => by
  rcases List.mem_cons.mp hw with rfl | hw
  · exact mv_goodS _ h
  · exact mv_goodS _ hw
theorem mv_callV {β : Type} {idx i ci n N : Nat} {T : u_T} {fs : List Nat} {yn : MethodName} {yc : mv_Y} {ρ' : β → Option Value × mv_M} {As : List Value} {G' : Option β} {g : β → Option α} (h : decode y.1 pc = .ok (.invokevirtual idx, 3)) (hl' : mv_ML y.2.2.1 idx yn) (hm : mv_MV yn yc n) (hR : mv_RR y yc) (hL : k.2.2.2[i]? = some (0, ci, fs)) (hcl : vwCl[ci]? = some (yn.cls, T, N)) (hn : As.length = n) (hst : (st.map fun v => v.category).sum ≤ 8)
    (hC : mv_C x.2.1 k yn yc ρ' (.ref (k.2.2.1 i) :: As) M G') (kk : ∀ r', mv_V x k y ρ (pc + 3) ls ((ρ' r').1.toList ++ st) (ρ' r').2 (g r')) : mv_V x k y ρ pc ls (As.reverse ++ .ref (k.2.2.1 i) :: st) M (G'.bind g) := by
  intro hg r hr H locs lsA hP hS hl
  obtain ⟨r', hr', hr⟩ := Option.bind_eq_some_iff.mp hr
  obtain ⟨⟨hc, hi, hd, hz1, hz2⟩, him, hse⟩ := hm
  obtain ⟨hx, hb, hml, hown, hts, hret, hlk, hroom, hsp⟩ := hg
  have hRR : yc.2.2.2.2.frames + 1 ≤ x.2.2.2.1.frames ∧ 8 + (yc.2.1 + 11) + yc.2.2.2.2.locals ≤ x.2.2.2.1.locals := by rw [hroom]; exact hR
  have hp : PreV x.2.2.2.2.1 H yn.cls (k.2.2.1 i) (va_Pc (.ref (k.2.2.1 i) :: As) (fun U => va_P k.1 vwCl (mv_ws k M) U.heap ∧ mv_SP k U)) As :=
    ⟨mv_blind, va_recv hsp.1 hP hcl (mv_ws_at hL), fun U hU hW => ⟨rfl, by rw [hU]; exact hP, hsp.warm hW⟩⟩
  have run : va_Run x.1 x.2.1 x.2.2.1 x.2.2.2.1 x.2.2.2.2.1 x.2.2.2.2.2.1 x.2.2.2.2.2.2.1 x.2.2.2.2.2.2.2.1 x.2.2.2.2.2.2.2.2.1 x.2.2.2.2.2.2.2.2.2 H locs 0 0 0 0 (F0 x.2.2.2.2.2.1 pc lsA (As.reverse ++ .ref (k.2.2.1 i) :: st)) st (mv_Q k (ρ' r') (Value.ref (k.2.2.1 i) :: As).toArray) (mv_A k) := by
    rcases hl' with hl' | ⟨host, hl'⟩
    · exact va_runV (C := yn.cls) ⟨hx, hb, hml, hown, hts⟩ (hC r' hr') ⟨callB_of n hts (mv_goodw hc) rfl hz1 hz2 (hts _ hi) (hts _ hl') hd hRR, hts _ him, hts _ hse⟩ hp rfl hn hl.1 rfl (by show 2 * 0 + _ ≤ 8; omega) h ⟨by omega, by omega⟩
    · exact va_runVN (C := yn.cls) (host := host) ⟨hx, hb, hml, hown, hts⟩ (hC r' hr') ⟨va_cnB n hts (mv_goodw hc) rfl hz1 hz2 (hsp.2.1 _ hl') (hts _ hi) hd hRR, hts _ him, hts _ hse⟩ hp rfl hn hl.1 rfl (by show 2 * 0 + _ ≤ 8; omega) h ⟨by omega, by omega⟩
  exact mv_after run hS (fun H1 locs1 hP1 hS1 => kk r' ⟨hx, hb, hml, hown, hts, hret, hlk, hroom, hsp⟩ r hr H1 locs1 lsA hP1 hS1 hl)
theorem mv_callS {β : Type} {idx n : Nat} {yn : MethodName} {yc : mv_Y} {ρ' : β → Option Value × mv_M} {As : List Value} {G' : Option β} {g : β → Option α} (h : decode y.1 pc = .ok (.invokestatic idx, 3)) (hl' : mv_ML y.2.2.1 idx yn) (hm : mv_MS yn yc n) (hR : mv_RR y yc) (hn : As.length = n) (hst : (st.map fun v => v.category).sum ≤ 8)
    (hC : mv_C x.2.1 k yn yc ρ' As M G') (kk : ∀ r', mv_V x k y ρ (pc + 3) ls ((ρ' r').1.toList ++ st) (ρ' r').2 (g r')) : mv_V x k y ρ pc ls (As.reverse ++ st) M (G'.bind g) := by
  intro hg r hr H locs lsA hP hS hl
  obtain ⟨r', hr', hr⟩ := Option.bind_eq_some_iff.mp hr
  obtain ⟨⟨hc, hi, hd, hz1, hz2⟩, hstat⟩ := hm
  obtain ⟨hx, hb, hml, hown, hts, hret, hlk, hroom, hsp⟩ := hg
  have hRR : yc.2.2.2.2.frames + 1 ≤ x.2.2.2.1.frames ∧ 8 + (yc.2.1 + 11) + yc.2.2.2.2.locals ≤ x.2.2.2.1.locals := by rw [hroom]; exact hR
  have hp : PreS x.2.2.2.2.1 H (va_Pc As (fun U => va_P k.1 vwCl (mv_ws k M) U.heap ∧ mv_SP k U)) As :=
    ⟨mv_blind, fun U hU hW => ⟨rfl, by rw [hU]; exact hP, hsp.warm hW⟩⟩
  have run : va_Run x.1 x.2.1 x.2.2.1 x.2.2.2.1 x.2.2.2.2.1 x.2.2.2.2.2.1 x.2.2.2.2.2.2.1 x.2.2.2.2.2.2.2.1 x.2.2.2.2.2.2.2.2.1 x.2.2.2.2.2.2.2.2.2 H locs 0 0 0 0 (F0 x.2.2.2.2.2.1 pc lsA (As.reverse ++ st)) st (mv_Q k (ρ' r') As.toArray) (mv_A k) := by
    rcases hl' with hl' | ⟨host, hl'⟩
    · exact va_runS ⟨hx, hb, hml, hown, hts⟩ (hC r' hr') ⟨callB_of n hts (mv_goodw hc) rfl hz1 hz2 (hts _ hi) (hts _ hl') hd hRR, hts _ hstat⟩ hp rfl hn hl.1 rfl (by show 2 * 0 + _ ≤ 8; omega) h ⟨by omega, by omega⟩
    · exact va_runSN (host := host) ⟨hx, hb, hml, hown, hts⟩ (hC r' hr') ⟨va_cnB n hts (mv_goodw hc) rfl hz1 hz2 (hsp.2.1 _ hl') (hts _ hi) hd hRR, hts _ hstat, trivial⟩ hp rfl hn hl.1 rfl (by show 2 * 0 + _ ≤ 8; omega) h ⟨by omega, by omega⟩
  exact mv_after run hS (fun H1 locs1 hP1 hS1 => kk r' ⟨hx, hb, hml, hown, hts, hret, hlk, hroom, hsp⟩ r hr H1 locs1 lsA hP1 hS1 hl)
theorem mv_callVi {idx i ci n N : Nat} {T : u_T} {fs : List Nat} {yn : MethodName} {yc : mv_Y} {As : List Value} {G' : Option (Int32 × mv_M)} {g : Int32 → mv_M → Option α} (h : decode y.1 pc = .ok (.invokevirtual idx, 3)) (hl' : mv_ML y.2.2.1 idx yn) (hm : mv_MV yn yc n) (hR : mv_RR y yc) (hL : k.2.2.2[i]? = some (0, ci, fs)) (hcl : vwCl[ci]? = some (yn.cls, T, N)) (hn : As.length = n) (hst : (st.map fun v => v.category).sum ≤ 8)
    (hC : mv_C x.2.1 k yn yc mv_ri (.ref (k.2.2.1 i) :: As) M G') (kk : ∀ (v : Int32) (M : mv_M), mv_V x k y ρ (pc + 3) ls (.int v :: st) M (g v M)) : mv_V x k y ρ pc ls (As.reverse ++ .ref (k.2.2.1 i) :: st) M (mv_bi G' g) := mv_callV h hl' hm hR hL hcl hn hst hC (fun r' => kk r'.1 r'.2)
theorem mv_callVl {idx i ci n N : Nat} {T : u_T} {fs : List Nat} {yn : MethodName} {yc : mv_Y} {As : List Value} {G' : Option (Int64 × mv_M)} {g : Int64 → mv_M → Option α} (h : decode y.1 pc = .ok (.invokevirtual idx, 3)) (hl' : mv_ML y.2.2.1 idx yn) (hm : mv_MV yn yc n) (hR : mv_RR y yc) (hL : k.2.2.2[i]? = some (0, ci, fs)) (hcl : vwCl[ci]? = some (yn.cls, T, N)) (hn : As.length = n) (hst : (st.map fun v => v.category).sum ≤ 8)
    (hC : mv_C x.2.1 k yn yc mv_rl (.ref (k.2.2.1 i) :: As) M G') (kk : ∀ (v : Int64) (M : mv_M), mv_V x k y ρ (pc + 3) ls (.long v :: st) M (g v M)) : mv_V x k y ρ pc ls (As.reverse ++ .ref (k.2.2.1 i) :: st) M (mv_bl G' g) := mv_callV h hl' hm hR hL hcl hn hst hC (fun r' => kk r'.1 r'.2)
theorem mv_callVv {idx i ci n N : Nat} {T : u_T} {fs : List Nat} {yn : MethodName} {yc : mv_Y} {As : List Value} {G' : Option mv_M} {g : mv_M → Option α} (h : decode y.1 pc = .ok (.invokevirtual idx, 3)) (hl' : mv_ML y.2.2.1 idx yn) (hm : mv_MV yn yc n) (hR : mv_RR y yc) (hL : k.2.2.2[i]? = some (0, ci, fs)) (hcl : vwCl[ci]? = some (yn.cls, T, N)) (hn : As.length = n) (hst : (st.map fun v => v.category).sum ≤ 8)
    (hC : mv_C x.2.1 k yn yc mv_rv (.ref (k.2.2.1 i) :: As) M G') (kk : ∀ (M : mv_M), mv_V x k y ρ (pc + 3) ls st M (g M)) : mv_V x k y ρ pc ls (As.reverse ++ .ref (k.2.2.1 i) :: st) M (mv_bv G' g) := mv_callV h hl' hm hR hL hcl hn hst hC (fun r' => kk r')
theorem mv_callSi {idx n : Nat} {yn : MethodName} {yc : mv_Y} {As : List Value} {G' : Option (Int32 × mv_M)} {g : Int32 → mv_M → Option α} (h : decode y.1 pc = .ok (.invokestatic idx, 3)) (hl' : mv_ML y.2.2.1 idx yn) (hm : mv_MS yn yc n) (hR : mv_RR y yc) (hn : As.length = n) (hst : (st.map fun v => v.category).sum ≤ 8)
    (hC : mv_C x.2.1 k yn yc mv_ri As M G') (kk : ∀ (v : Int32) (M : mv_M), mv_V x k y ρ (pc + 3) ls (.int v :: st) M (g v M)) : mv_V x k y ρ pc ls (As.reverse ++ st) M (mv_bi G' g) := mv_callS h hl' hm hR hn hst hC (fun r' => kk r'.1 r'.2)
theorem mv_callSl {idx n : Nat} {yn : MethodName} {yc : mv_Y} {As : List Value} {G' : Option (Int64 × mv_M)} {g : Int64 → mv_M → Option α} (h : decode y.1 pc = .ok (.invokestatic idx, 3)) (hl' : mv_ML y.2.2.1 idx yn) (hm : mv_MS yn yc n) (hR : mv_RR y yc) (hn : As.length = n) (hst : (st.map fun v => v.category).sum ≤ 8)
    (hC : mv_C x.2.1 k yn yc mv_rl As M G') (kk : ∀ (v : Int64) (M : mv_M), mv_V x k y ρ (pc + 3) ls (.long v :: st) M (g v M)) : mv_V x k y ρ pc ls (As.reverse ++ st) M (mv_bl G' g) := mv_callS h hl' hm hR hn hst hC (fun r' => kk r'.1 r'.2)
theorem mv_callSv {idx n : Nat} {yn : MethodName} {yc : mv_Y} {As : List Value} {G' : Option mv_M} {g : mv_M → Option α} (h : decode y.1 pc = .ok (.invokestatic idx, 3)) (hl' : mv_ML y.2.2.1 idx yn) (hm : mv_MS yn yc n) (hR : mv_RR y yc) (hn : As.length = n) (hst : (st.map fun v => v.category).sum ≤ 8)
    (hC : mv_C x.2.1 k yn yc mv_rv As M G') (kk : ∀ (M : mv_M), mv_V x k y ρ (pc + 3) ls st M (g M)) : mv_V x k y ρ pc ls (As.reverse ++ st) M (mv_bv G' g) := mv_callS h hl' hm hR hn hst hC (fun r' => kk r')
theorem mv_max {idx : Nat} {a b : Int32} (h : decode y.1 pc = .ok (.invokestatic idx, 3)) (hl' : Cond.methodLink y.2.2.1 idx Lib.Math.max.name ∈ mv_all) (hw : Cond.static Lib.Math.max.name ∈ mv_all ∧ Cond.initialized "java/lang/Math" ∈ mv_all ∧ Cond.code Lib.Math.max.name Lib.Math.max.code 2 (some .int) ∈ mv_all) (hR : 1 ≤ y.2.2.2.2.frames ∧ (st.map fun v => v.category).sum + 13 ≤ y.2.2.2.2.locals) (kk : mv_V x k y ρ (pc + 3) ls (.int (if a < b then b else a) :: st) M G) : mv_V x k y ρ pc ls (.int b :: .int a :: st) M G := by
  intro hg r hr H locs lsA hP hS hl
  exact va_mmax hg.1 hg.2.1 (hg.2.2.1.trans hl.1.symm) hg.2.2.2.1 (hg.2.2.2.2.1 _ hl') (hg.2.2.2.2.1 _ hw.1) (hg.2.2.2.2.1 _ hw.2.1) (hg.2.2.2.2.1 _ hw.2.2) (by rw [hg.2.2.2.2.2.2.2.1]; exact hR.1) (by rw [hg.2.2.2.2.2.2.2.1]; exact hR.2) (Nat.zero_le _) (Nat.zero_le _) h (kk hg r hr H locs lsA hP hS hl)
theorem mv_minl {idx : Nat} {a b : Int64} (h : decode y.1 pc = .ok (.invokestatic idx, 3)) (hl' : Cond.methodLink y.2.2.1 idx Lib.MathLoose.min_long.x ∈ mv_all) (hw : Cond.static Lib.MathLoose.min_long.x ∈ mv_all ∧ Cond.initialized "java/lang/Math" ∈ mv_all ∧ Cond.code Lib.MathLoose.min_long.x Lib.MathLoose.min_long.code 4 (some .long) ∈ mv_all) (hR : 1 ≤ y.2.2.2.2.frames ∧ (st.map fun v => v.category).sum + 15 ≤ y.2.2.2.2.locals) (kk : mv_V x k y ρ (pc + 3) ls (.long (if b < a then b else a) :: st) M G) : mv_V x k y ρ pc ls (.long b :: .long a :: st) M G := by
  intro hg r hr H locs lsA hP hS hl
  exact va_mmin_long hg.1 hg.2.1 (hg.2.2.1.trans hl.1.symm) hg.2.2.2.1 (hg.2.2.2.2.1 _ hl') (hg.2.2.2.2.1 _ hw.1) (hg.2.2.2.2.1 _ hw.2.1) (hg.2.2.2.2.1 _ hw.2.2) (by rw [hg.2.2.2.2.2.2.2.1]; exact hR.1) (by rw [hg.2.2.2.2.2.2.2.1]; exact hR.2) (Nat.zero_le _) (Nat.zero_le _) h (kk hg r hr H locs lsA hP hS hl)
/-- what arraycopy asks -/
def mv_cp {α : Type} (sp dp n : Int32) (n0 n1 : Nat) (G : Option α) : Option α := if sp < 0 ∨ dp < 0 ∨ n < 0 ∨ n0 < sp.toNatClampNeg + n.toNatClampNeg ∨ n1 < dp.toNatClampNeg + n.toNatClampNeg then none else G
theorem mv_copy {idx i j n0 n1 : Nat} {fs fs' : List Nat} {sp dp n : Int32} {g : mv_M → Option α} (h : decode y.1 pc = .ok (.invokestatic idx, 3)) (hl' : Cond.methodLink y.2.2.1 idx arraycopyName ∈ mv_all) (hL : k.2.2.2[i]? = some (1, n0, fs)) (hL' : k.2.2.2[j]? = some (1, n1, fs')) (hR : 1 ≤ y.2.2.2.2.frames ∧ (st.map fun v => v.category).sum + 18 ≤ y.2.2.2.2.locals) (kk : ∀ M' : mv_M, mv_V x k y ρ (pc + 3) ls st M' (g M')) : mv_V x k y ρ pc ls (.int n :: .int dp :: .ref (k.2.2.1 j) :: .int sp :: .ref (k.2.2.1 i) :: st) M (mv_cp sp dp n n0 n1 (mv_let (mv_wA M j (va_cpy (M.1 i) (M.1 j) sp.toNatClampNeg dp.toNatClampNeg n.toNatClampNeg)) g)) := by
  intro hg r hr H locs lsA hP hS hl
  unfold mv_cp at hr
  by_cases hc : sp < 0 ∨ dp < 0 ∨ n < 0 ∨ n0 < sp.toNatClampNeg + n.toNatClampNeg ∨ n1 < dp.toNatClampNeg + n.toNatClampNeg
  · rw [if_pos hc] at hr; cases hr
  rw [if_neg hc] at hr
  have hsp := hg.2.2.2.2.2.2.2.2
  have h1 : ¬ sp < 0 := fun q => hc (Or.inl q)
  have h2 : ¬ dp < 0 := fun q => hc (Or.inr (Or.inl q))
  have h3 : ¬ n < 0 := fun q => hc (Or.inr (Or.inr (Or.inl q)))
  have h4 : sp.toNatClampNeg + n.toNatClampNeg ≤ n0 := Nat.not_lt.mp fun q => hc (Or.inr (Or.inr (Or.inr (Or.inl q))))
  have h5 : dp.toNatClampNeg + n.toNatClampNeg ≤ n1 := Nat.not_lt.mp fun q => hc (Or.inr (Or.inr (Or.inr (Or.inr q))))
  have hset : (mv_ws k M).set j (k.2.2.1 j, .inl (k.2.1 0, n1, .inl (va_cpy (M.1 i) (M.1 j) sp.toNatClampNeg dp.toNatClampNeg n.toNatClampNeg))) = mv_ws k (mv_wA M j (va_cpy (M.1 i) (M.1 j) sp.toNatClampNeg dp.toNatClampNeg n.toNatClampNeg)) := mv_ws_set hL' (by show _ = (Sum.inl (k.2.1 0, n1, Sum.inl ((mv_wA M j (va_cpy (M.1 i) (M.1 j) sp.toNatClampNeg dp.toNatClampNeg n.toNatClampNeg)).1 j)) : va_E); rw [mv_wA_a]) mv_cell_wA
  exact va_copyi (ty := .int) hg.1 hg.2.1 (hg.2.2.1.trans hl.1.symm) hg.2.2.2.1 (hg.2.2.2.2.1 _ hl') (hg.2.2.2.2.1 _ vwcopy) (hg.2.2.2.2.1 _ swcopy) (hg.2.2.2.2.1 _ nwJ10) hsp.1 hP (mv_ws_D M hsp.2.2) hS i j 0 0 (mv_ws_at hL) (mv_ws_at hL') rfl rfl rfl h1 h2 h3 h4 h5 (fun _ _ => rfl) (by rw [hg.2.2.2.2.2.2.2.1]; exact hR.1) (by rw [hg.2.2.2.2.2.2.2.1]; exact hR.2) h (fun H1 locs1 hP1 _ hS1 => kk _ hg r hr H1 locs1 lsA (by rw [← hset]; exact hP1) hS1 hl)
end MV
end
