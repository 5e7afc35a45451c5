section
-- ===== PART A: goes FIRST, ahead of the names: the tables' words, and 'selects' of the private methods out of them =====
/-- a private method of a class that the tables say can be made, by its rows of tables_1 -/
def lw_okq (q : MethodName × Nat) : Prop := (q.1.cls ≠ "java/lang/invoke/MethodHandle" ∧ q.1.cls ≠ "java/lang/invoke/VarHandle") ∧ Cond.instantiable q.1.cls q.2 ∈ tables_1 ∧ Cond.privateMethod q.1 ∈ tables_1 ∧ Cond.instanceMethod q.1 ∈ tables_1
theorem lw_p0 : lw_okq (⟨"AuntsPuzzle$Cut", "cutAnew", "(II)V"⟩, 7) := ⟨⟨by decide +kernel, by decide +kernel⟩, List.mem_of_getElem? (i := 35) (by decide +kernel), List.mem_of_getElem? (i := 138) (by decide +kernel), List.mem_of_getElem? (i := 139) (by decide +kernel)⟩
theorem lw_p1 : lw_okq (⟨"AuntsPuzzle$Cut", "neighbourAcross", "(II)I"⟩, 7) := ⟨⟨by decide +kernel, by decide +kernel⟩, List.mem_of_getElem? (i := 35) (by decide +kernel), List.mem_of_getElem? (i := 142) (by decide +kernel), List.mem_of_getElem? (i := 143) (by decide +kernel)⟩
theorem lw_p2 : lw_okq (⟨"AuntsPuzzle$Board", "clear", "()V"⟩, 5) := ⟨⟨by decide +kernel, by decide +kernel⟩, List.mem_of_getElem? (i := 81) (by decide +kernel), List.mem_of_getElem? (i := 146) (by decide +kernel), List.mem_of_getElem? (i := 147) (by decide +kernel)⟩
theorem lw_p3 : lw_okq (⟨"AuntsPuzzle", "refuse", "(I)I"⟩, 12) := ⟨⟨by decide +kernel, by decide +kernel⟩, List.mem_of_getElem? (i := 21) (by decide +kernel), List.mem_of_getElem? (i := 338) (by decide +kernel), List.mem_of_getElem? (i := 339) (by decide +kernel)⟩
theorem lw_p4 : lw_okq (⟨"AuntsPuzzle$Tape", "take", "(IJ)V"⟩, 4) := ⟨⟨by decide +kernel, by decide +kernel⟩, List.mem_of_getElem? (i := 175) (by decide +kernel), List.mem_of_getElem? (i := 342) (by decide +kernel), List.mem_of_getElem? (i := 343) (by decide +kernel)⟩
theorem lw_p5 : lw_okq (⟨"AuntsPuzzle$Game", "copyFrom", "(LAuntsPuzzle$Game;)V"⟩, 3) := ⟨⟨by decide +kernel, by decide +kernel⟩, List.mem_of_getElem? (i := 29) (by decide +kernel), List.mem_of_getElem? (i := 351) (by decide +kernel), List.mem_of_getElem? (i := 352) (by decide +kernel)⟩
theorem lw_p6 : lw_okq (⟨"AuntsPuzzle$Cut", "copyFrom", "(LAuntsPuzzle$Cut;)V"⟩, 7) := ⟨⟨by decide +kernel, by decide +kernel⟩, List.mem_of_getElem? (i := 35) (by decide +kernel), List.mem_of_getElem? (i := 355) (by decide +kernel), List.mem_of_getElem? (i := 356) (by decide +kernel)⟩
theorem lw_p7 : lw_okq (⟨"AuntsPuzzle$Board", "copyFrom", "(LAuntsPuzzle$Board;)V"⟩, 5) := ⟨⟨by decide +kernel, by decide +kernel⟩, List.mem_of_getElem? (i := 81) (by decide +kernel), List.mem_of_getElem? (i := 362) (by decide +kernel), List.mem_of_getElem? (i := 363) (by decide +kernel)⟩
theorem lw_p8 : lw_okq (⟨"AuntsPuzzle$People", "copyFrom", "(LAuntsPuzzle$People;)V"⟩, 4) := ⟨⟨by decide +kernel, by decide +kernel⟩, List.mem_of_getElem? (i := 111) (by decide +kernel), List.mem_of_getElem? (i := 366) (by decide +kernel), List.mem_of_getElem? (i := 367) (by decide +kernel)⟩
theorem lw_p9 : lw_okq (⟨"AuntsPuzzle$Tape", "readInto", "(LAuntsPuzzle$Game;)I"⟩, 4) := ⟨⟨by decide +kernel, by decide +kernel⟩, List.mem_of_getElem? (i := 175) (by decide +kernel), List.mem_of_getElem? (i := 371) (by decide +kernel), List.mem_of_getElem? (i := 372) (by decide +kernel)⟩
theorem lw_p10 : lw_okq (⟨"AuntsPuzzle$Tape", "passStatement", "()V"⟩, 4) := ⟨⟨by decide +kernel, by decide +kernel⟩, List.mem_of_getElem? (i := 175) (by decide +kernel), List.mem_of_getElem? (i := 375) (by decide +kernel), List.mem_of_getElem? (i := 376) (by decide +kernel)⟩
theorem lw_p11 : lw_okq (⟨"AuntsPuzzle$Tape", "passOneOf", "(Ljava/lang/String;)V"⟩, 4) := ⟨⟨by decide +kernel, by decide +kernel⟩, List.mem_of_getElem? (i := 175) (by decide +kernel), List.mem_of_getElem? (i := 380) (by decide +kernel), List.mem_of_getElem? (i := 381) (by decide +kernel)⟩
theorem lw_p12 : lw_okq (⟨"AuntsPuzzle$Tape", "isNext", "(Ljava/lang/String;)Z"⟩, 4) := ⟨⟨by decide +kernel, by decide +kernel⟩, List.mem_of_getElem? (i := 175) (by decide +kernel), List.mem_of_getElem? (i := 384) (by decide +kernel), List.mem_of_getElem? (i := 385) (by decide +kernel)⟩
theorem lw_p13 : lw_okq (⟨"AuntsPuzzle$Tape", "passCell", "()V"⟩, 4) := ⟨⟨by decide +kernel, by decide +kernel⟩, List.mem_of_getElem? (i := 175) (by decide +kernel), List.mem_of_getElem? (i := 475) (by decide +kernel), List.mem_of_getElem? (i := 476) (by decide +kernel)⟩
theorem lw_p14 : lw_okq (⟨"AuntsPuzzle$Tape", "obeyAll", "(LAuntsPuzzle$Game;)I"⟩, 4) := ⟨⟨by decide +kernel, by decide +kernel⟩, List.mem_of_getElem? (i := 175) (by decide +kernel), List.mem_of_getElem? (i := 484) (by decide +kernel), List.mem_of_getElem? (i := 485) (by decide +kernel)⟩
theorem lw_p15 : lw_okq (⟨"AuntsPuzzle$Tape", "obey", "(LAuntsPuzzle$Game;II)Z"⟩, 4) := ⟨⟨by decide +kernel, by decide +kernel⟩, List.mem_of_getElem? (i := 175) (by decide +kernel), List.mem_of_getElem? (i := 488) (by decide +kernel), List.mem_of_getElem? (i := 489) (by decide +kernel)⟩
def lw_privs_1 : List (MethodName × Nat) := [(⟨"AuntsPuzzle$Cut", "cutAnew", "(II)V"⟩, 7), (⟨"AuntsPuzzle$Cut", "neighbourAcross", "(II)I"⟩, 7), (⟨"AuntsPuzzle$Board", "clear", "()V"⟩, 5), (⟨"AuntsPuzzle", "refuse", "(I)I"⟩, 12), (⟨"AuntsPuzzle$Tape", "take", "(IJ)V"⟩, 4), (⟨"AuntsPuzzle$Game", "copyFrom", "(LAuntsPuzzle$Game;)V"⟩, 3), (⟨"AuntsPuzzle$Cut", "copyFrom", "(LAuntsPuzzle$Cut;)V"⟩, 7), (⟨"AuntsPuzzle$Board", "copyFrom", "(LAuntsPuzzle$Board;)V"⟩, 5), (⟨"AuntsPuzzle$People", "copyFrom", "(LAuntsPuzzle$People;)V"⟩, 4), (⟨"AuntsPuzzle$Tape", "readInto", "(LAuntsPuzzle$Game;)I"⟩, 4), (⟨"AuntsPuzzle$Tape", "passStatement", "()V"⟩, 4), (⟨"AuntsPuzzle$Tape", "passOneOf", "(Ljava/lang/String;)V"⟩, 4), (⟨"AuntsPuzzle$Tape", "isNext", "(Ljava/lang/String;)Z"⟩, 4), (⟨"AuntsPuzzle$Tape", "passCell", "()V"⟩, 4), (⟨"AuntsPuzzle$Tape", "obeyAll", "(LAuntsPuzzle$Game;)I"⟩, 4), (⟨"AuntsPuzzle$Tape", "obey", "(LAuntsPuzzle$Game;II)Z"⟩, 4)]
theorem lw_r1 : ∀ q ∈ lw_privs_1, lw_okq q := List.forall_mem_cons.mpr ⟨lw_p0, List.forall_mem_cons.mpr ⟨lw_p1, List.forall_mem_cons.mpr ⟨lw_p2, List.forall_mem_cons.mpr ⟨lw_p3, List.forall_mem_cons.mpr ⟨lw_p4, List.forall_mem_cons.mpr ⟨lw_p5, List.forall_mem_cons.mpr ⟨lw_p6, List.forall_mem_cons.mpr ⟨lw_p7, List.forall_mem_cons.mpr ⟨lw_p8, List.forall_mem_cons.mpr ⟨lw_p9, List.forall_mem_cons.mpr ⟨lw_p10, List.forall_mem_cons.mpr ⟨lw_p11, List.forall_mem_cons.mpr ⟨lw_p12, List.forall_mem_cons.mpr ⟨lw_p13, List.forall_mem_cons.mpr ⟨lw_p14, List.forall_mem_cons.mpr ⟨lw_p15, fun _ h => absurd h List.not_mem_nil⟩⟩⟩⟩⟩⟩⟩⟩⟩⟩⟩⟩⟩⟩⟩⟩
theorem lw_p16 : lw_okq (⟨"AuntsPuzzle$Tape", "digitAt", "(I)I"⟩, 4) := ⟨⟨by decide +kernel, by decide +kernel⟩, List.mem_of_getElem? (i := 175) (by decide +kernel), List.mem_of_getElem? (i := 492) (by decide +kernel), List.mem_of_getElem? (i := 493) (by decide +kernel)⟩
theorem lw_p17 : lw_okq (⟨"AuntsPuzzle$Tape", "obeySize", "(LAuntsPuzzle$Game;II)Z"⟩, 4) := ⟨⟨by decide +kernel, by decide +kernel⟩, List.mem_of_getElem? (i := 175) (by decide +kernel), List.mem_of_getElem? (i := 496) (by decide +kernel), List.mem_of_getElem? (i := 497) (by decide +kernel)⟩
theorem lw_p18 : lw_okq (⟨"AuntsPuzzle$Tape", "numberBetween", "(II)I"⟩, 4) := ⟨⟨by decide +kernel, by decide +kernel⟩, List.mem_of_getElem? (i := 175) (by decide +kernel), List.mem_of_getElem? (i := 502) (by decide +kernel), List.mem_of_getElem? (i := 503) (by decide +kernel)⟩
theorem lw_p19 : lw_okq (⟨"AuntsPuzzle$Tape", "obeyEdge", "(LAuntsPuzzle$Game;II)Z"⟩, 4) := ⟨⟨by decide +kernel, by decide +kernel⟩, List.mem_of_getElem? (i := 175) (by decide +kernel), List.mem_of_getElem? (i := 506) (by decide +kernel), List.mem_of_getElem? (i := 507) (by decide +kernel)⟩
theorem lw_p20 : lw_okq (⟨"AuntsPuzzle$Cut", "beside", "(II)I"⟩, 7) := ⟨⟨by decide +kernel, by decide +kernel⟩, List.mem_of_getElem? (i := 35) (by decide +kernel), List.mem_of_getElem? (i := 510) (by decide +kernel), List.mem_of_getElem? (i := 511) (by decide +kernel)⟩
theorem lw_p21 : lw_okq (⟨"AuntsPuzzle$Cut", "setEdge", "(III)V"⟩, 7) := ⟨⟨by decide +kernel, by decide +kernel⟩, List.mem_of_getElem? (i := 35) (by decide +kernel), List.mem_of_getElem? (i := 514) (by decide +kernel), List.mem_of_getElem? (i := 515) (by decide +kernel)⟩
theorem lw_p22 : lw_okq (⟨"AuntsPuzzle$Tape", "obeyColour", "(LAuntsPuzzle$Game;II)Z"⟩, 4) := ⟨⟨by decide +kernel, by decide +kernel⟩, List.mem_of_getElem? (i := 175) (by decide +kernel), List.mem_of_getElem? (i := 519) (by decide +kernel), List.mem_of_getElem? (i := 520) (by decide +kernel)⟩
theorem lw_p23 : lw_okq (⟨"AuntsPuzzle$Tape", "obeyPerson", "(LAuntsPuzzle$Game;II)Z"⟩, 4) := ⟨⟨by decide +kernel, by decide +kernel⟩, List.mem_of_getElem? (i := 175) (by decide +kernel), List.mem_of_getElem? (i := 523) (by decide +kernel), List.mem_of_getElem? (i := 524) (by decide +kernel)⟩
theorem lw_p24 : lw_okq (⟨"AuntsPuzzle$People", "add", "(II)V"⟩, 4) := ⟨⟨by decide +kernel, by decide +kernel⟩, List.mem_of_getElem? (i := 111) (by decide +kernel), List.mem_of_getElem? (i := 527) (by decide +kernel), List.mem_of_getElem? (i := 528) (by decide +kernel)⟩
theorem lw_p25 : lw_okq (⟨"AuntsPuzzle", "isCell", "(I)Z"⟩, 12) := ⟨⟨by decide +kernel, by decide +kernel⟩, List.mem_of_getElem? (i := 21) (by decide +kernel), List.mem_of_getElem? (i := 536) (by decide +kernel), List.mem_of_getElem? (i := 537) (by decide +kernel)⟩
theorem lw_p26 : lw_okq (⟨"AuntsPuzzle", "isTurn", "(I)Z"⟩, 12) := ⟨⟨by decide +kernel, by decide +kernel⟩, List.mem_of_getElem? (i := 21) (by decide +kernel), List.mem_of_getElem? (i := 541) (by decide +kernel), List.mem_of_getElem? (i := 542) (by decide +kernel)⟩
theorem lw_p27 : lw_okq (⟨"AuntsPuzzle$Cut", "sideOf", "(III)I"⟩, 7) := ⟨⟨by decide +kernel, by decide +kernel⟩, List.mem_of_getElem? (i := 35) (by decide +kernel), List.mem_of_getElem? (i := 545) (by decide +kernel), List.mem_of_getElem? (i := 546) (by decide +kernel)⟩
theorem lw_p28 : lw_okq (⟨"AuntsPuzzle", "isPerson", "(I)Z"⟩, 12) := ⟨⟨by decide +kernel, by decide +kernel⟩, List.mem_of_getElem? (i := 21) (by decide +kernel), List.mem_of_getElem? (i := 557) (by decide +kernel), List.mem_of_getElem? (i := 558) (by decide +kernel)⟩
theorem lw_p29 : lw_okq (⟨"AuntsPuzzle$Board", "laidBy", "(I)I"⟩, 5) := ⟨⟨by decide +kernel, by decide +kernel⟩, List.mem_of_getElem? (i := 81) (by decide +kernel), List.mem_of_getElem? (i := 561) (by decide +kernel), List.mem_of_getElem? (i := 562) (by decide +kernel)⟩
theorem lw_p30 : lw_okq (⟨"AuntsPuzzle$Board", "isFilled", "(I)Z"⟩, 5) := ⟨⟨by decide +kernel, by decide +kernel⟩, List.mem_of_getElem? (i := 81) (by decide +kernel), List.mem_of_getElem? (i := 565) (by decide +kernel), List.mem_of_getElem? (i := 566) (by decide +kernel)⟩
theorem lw_p31 : lw_okq (⟨"AuntsPuzzle$Cut", "isFit", "(LAuntsPuzzle$Board;III)Z"⟩, 7) := ⟨⟨by decide +kernel, by decide +kernel⟩, List.mem_of_getElem? (i := 35) (by decide +kernel), List.mem_of_getElem? (i := 578) (by decide +kernel), List.mem_of_getElem? (i := 579) (by decide +kernel)⟩
def lw_privs_2 : List (MethodName × Nat) := [(⟨"AuntsPuzzle$Tape", "digitAt", "(I)I"⟩, 4), (⟨"AuntsPuzzle$Tape", "obeySize", "(LAuntsPuzzle$Game;II)Z"⟩, 4), (⟨"AuntsPuzzle$Tape", "numberBetween", "(II)I"⟩, 4), (⟨"AuntsPuzzle$Tape", "obeyEdge", "(LAuntsPuzzle$Game;II)Z"⟩, 4), (⟨"AuntsPuzzle$Cut", "beside", "(II)I"⟩, 7), (⟨"AuntsPuzzle$Cut", "setEdge", "(III)V"⟩, 7), (⟨"AuntsPuzzle$Tape", "obeyColour", "(LAuntsPuzzle$Game;II)Z"⟩, 4), (⟨"AuntsPuzzle$Tape", "obeyPerson", "(LAuntsPuzzle$Game;II)Z"⟩, 4), (⟨"AuntsPuzzle$People", "add", "(II)V"⟩, 4), (⟨"AuntsPuzzle", "isCell", "(I)Z"⟩, 12), (⟨"AuntsPuzzle", "isTurn", "(I)Z"⟩, 12), (⟨"AuntsPuzzle$Cut", "sideOf", "(III)I"⟩, 7), (⟨"AuntsPuzzle", "isPerson", "(I)Z"⟩, 12), (⟨"AuntsPuzzle$Board", "laidBy", "(I)I"⟩, 5), (⟨"AuntsPuzzle$Board", "isFilled", "(I)Z"⟩, 5), (⟨"AuntsPuzzle$Cut", "isFit", "(LAuntsPuzzle$Board;III)Z"⟩, 7)]
theorem lw_r2 : ∀ q ∈ lw_privs_2, lw_okq q := List.forall_mem_cons.mpr ⟨lw_p16, List.forall_mem_cons.mpr ⟨lw_p17, List.forall_mem_cons.mpr ⟨lw_p18, List.forall_mem_cons.mpr ⟨lw_p19, List.forall_mem_cons.mpr ⟨lw_p20, List.forall_mem_cons.mpr ⟨lw_p21, List.forall_mem_cons.mpr ⟨lw_p22, List.forall_mem_cons.mpr ⟨lw_p23, List.forall_mem_cons.mpr ⟨lw_p24, List.forall_mem_cons.mpr ⟨lw_p25, List.forall_mem_cons.mpr ⟨lw_p26, List.forall_mem_cons.mpr ⟨lw_p27, List.forall_mem_cons.mpr ⟨lw_p28, List.forall_mem_cons.mpr ⟨lw_p29, List.forall_mem_cons.mpr ⟨lw_p30, List.forall_mem_cons.mpr ⟨lw_p31, fun _ h => absurd h List.not_mem_nil⟩⟩⟩⟩⟩⟩⟩⟩⟩⟩⟩⟩⟩⟩⟩⟩
theorem lw_p32 : lw_okq (⟨"AuntsPuzzle$Cut", "suitsRim", "(III)Z"⟩, 7) := ⟨⟨by decide +kernel, by decide +kernel⟩, List.mem_of_getElem? (i := 35) (by decide +kernel), List.mem_of_getElem? (i := 582) (by decide +kernel), List.mem_of_getElem? (i := 583) (by decide +kernel)⟩
theorem lw_p33 : lw_okq (⟨"AuntsPuzzle$Cut", "suitsNeighbours", "(LAuntsPuzzle$Board;III)Z"⟩, 7) := ⟨⟨by decide +kernel, by decide +kernel⟩, List.mem_of_getElem? (i := 35) (by decide +kernel), List.mem_of_getElem? (i := 587) (by decide +kernel), List.mem_of_getElem? (i := 588) (by decide +kernel)⟩
theorem lw_p34 : lw_okq (⟨"AuntsPuzzle", "refusalOfTry", "(IIII)I"⟩, 12) := ⟨⟨by decide +kernel, by decide +kernel⟩, List.mem_of_getElem? (i := 21) (by decide +kernel), List.mem_of_getElem? (i := 596) (by decide +kernel), List.mem_of_getElem? (i := 597) (by decide +kernel)⟩
theorem lw_p35 : lw_okq (⟨"AuntsPuzzle$Cut", "kindOf", "(LAuntsPuzzle$Board;III)I"⟩, 7) := ⟨⟨by decide +kernel, by decide +kernel⟩, List.mem_of_getElem? (i := 35) (by decide +kernel), List.mem_of_getElem? (i := 600) (by decide +kernel), List.mem_of_getElem? (i := 601) (by decide +kernel)⟩
theorem lw_p36 : lw_okq (⟨"AuntsPuzzle$Game", "costOf", "(IIII)I"⟩, 3) := ⟨⟨by decide +kernel, by decide +kernel⟩, List.mem_of_getElem? (i := 29) (by decide +kernel), List.mem_of_getElem? (i := 604) (by decide +kernel), List.mem_of_getElem? (i := 605) (by decide +kernel)⟩
theorem lw_p37 : lw_okq (⟨"AuntsPuzzle$Game", "plainCost", "(III)I"⟩, 3) := ⟨⟨by decide +kernel, by decide +kernel⟩, List.mem_of_getElem? (i := 29) (by decide +kernel), List.mem_of_getElem? (i := 608) (by decide +kernel), List.mem_of_getElem? (i := 609) (by decide +kernel)⟩
theorem lw_p38 : lw_okq (⟨"AuntsPuzzle$Game", "costByColour", "(III)I"⟩, 3) := ⟨⟨by decide +kernel, by decide +kernel⟩, List.mem_of_getElem? (i := 29) (by decide +kernel), List.mem_of_getElem? (i := 612) (by decide +kernel), List.mem_of_getElem? (i := 613) (by decide +kernel)⟩
theorem lw_p39 : lw_okq (⟨"AuntsPuzzle$Board", "isAway", "(I)Z"⟩, 5) := ⟨⟨by decide +kernel, by decide +kernel⟩, List.mem_of_getElem? (i := 81) (by decide +kernel), List.mem_of_getElem? (i := 620) (by decide +kernel), List.mem_of_getElem? (i := 621) (by decide +kernel)⟩
theorem lw_p40 : lw_okq (⟨"AuntsPuzzle$Board", "put", "(IIII)V"⟩, 5) := ⟨⟨by decide +kernel, by decide +kernel⟩, List.mem_of_getElem? (i := 81) (by decide +kernel), List.mem_of_getElem? (i := 624) (by decide +kernel), List.mem_of_getElem? (i := 625) (by decide +kernel)⟩
theorem lw_p41 : lw_okq (⟨"AuntsPuzzle$Board", "takeUp", "(I)I"⟩, 5) := ⟨⟨by decide +kernel, by decide +kernel⟩, List.mem_of_getElem? (i := 81) (by decide +kernel), List.mem_of_getElem? (i := 632) (by decide +kernel), List.mem_of_getElem? (i := 633) (by decide +kernel)⟩
theorem lw_p42 : lw_okq (⟨"AuntsPuzzle$Board", "howManyLost", "()I"⟩, 5) := ⟨⟨by decide +kernel, by decide +kernel⟩, List.mem_of_getElem? (i := 81) (by decide +kernel), List.mem_of_getElem? (i := 640) (by decide +kernel), List.mem_of_getElem? (i := 641) (by decide +kernel)⟩
theorem lw_p43 : lw_okq (⟨"AuntsPuzzle$Search", "goThrough", "(LAuntsPuzzle$Cut;)V"⟩, 5) := ⟨⟨by decide +kernel, by decide +kernel⟩, List.mem_of_getElem? (i := 210) (by decide +kernel), List.mem_of_getElem? (i := 652) (by decide +kernel), List.mem_of_getElem? (i := 653) (by decide +kernel)⟩
theorem lw_p44 : lw_okq (⟨"AuntsPuzzle$Search", "layFrom", "(LAuntsPuzzle$Cut;I)V"⟩, 5) := ⟨⟨by decide +kernel, by decide +kernel⟩, List.mem_of_getElem? (i := 210) (by decide +kernel), List.mem_of_getElem? (i := 657) (by decide +kernel), List.mem_of_getElem? (i := 658) (by decide +kernel)⟩
theorem lw_p45 : lw_okq (⟨"AuntsPuzzle$Search", "layTurned", "(LAuntsPuzzle$Cut;II)V"⟩, 5) := ⟨⟨by decide +kernel, by decide +kernel⟩, List.mem_of_getElem? (i := 210) (by decide +kernel), List.mem_of_getElem? (i := 663) (by decide +kernel), List.mem_of_getElem? (i := 664) (by decide +kernel)⟩
theorem lw_p46 : lw_okq (⟨"AuntsPuzzle", "refusalOfPlan", "(II)I"⟩, 12) := ⟨⟨by decide +kernel, by decide +kernel⟩, List.mem_of_getElem? (i := 21) (by decide +kernel), List.mem_of_getElem? (i := 678) (by decide +kernel), List.mem_of_getElem? (i := 679) (by decide +kernel)⟩
theorem lw_p47 : lw_okq (⟨"AuntsPuzzle", "isRule", "(I)Z"⟩, 12) := ⟨⟨by decide +kernel, by decide +kernel⟩, List.mem_of_getElem? (i := 21) (by decide +kernel), List.mem_of_getElem? (i := 682) (by decide +kernel), List.mem_of_getElem? (i := 683) (by decide +kernel)⟩
def lw_privs_3 : List (MethodName × Nat) := [(⟨"AuntsPuzzle$Cut", "suitsRim", "(III)Z"⟩, 7), (⟨"AuntsPuzzle$Cut", "suitsNeighbours", "(LAuntsPuzzle$Board;III)Z"⟩, 7), (⟨"AuntsPuzzle", "refusalOfTry", "(IIII)I"⟩, 12), (⟨"AuntsPuzzle$Cut", "kindOf", "(LAuntsPuzzle$Board;III)I"⟩, 7), (⟨"AuntsPuzzle$Game", "costOf", "(IIII)I"⟩, 3), (⟨"AuntsPuzzle$Game", "plainCost", "(III)I"⟩, 3), (⟨"AuntsPuzzle$Game", "costByColour", "(III)I"⟩, 3), (⟨"AuntsPuzzle$Board", "isAway", "(I)Z"⟩, 5), (⟨"AuntsPuzzle$Board", "put", "(IIII)V"⟩, 5), (⟨"AuntsPuzzle$Board", "takeUp", "(I)I"⟩, 5), (⟨"AuntsPuzzle$Board", "howManyLost", "()I"⟩, 5), (⟨"AuntsPuzzle$Search", "goThrough", "(LAuntsPuzzle$Cut;)V"⟩, 5), (⟨"AuntsPuzzle$Search", "layFrom", "(LAuntsPuzzle$Cut;I)V"⟩, 5), (⟨"AuntsPuzzle$Search", "layTurned", "(LAuntsPuzzle$Cut;II)V"⟩, 5), (⟨"AuntsPuzzle", "refusalOfPlan", "(II)I"⟩, 12), (⟨"AuntsPuzzle", "isRule", "(I)Z"⟩, 12)]
theorem lw_r3 : ∀ q ∈ lw_privs_3, lw_okq q := List.forall_mem_cons.mpr ⟨lw_p32, List.forall_mem_cons.mpr ⟨lw_p33, List.forall_mem_cons.mpr ⟨lw_p34, List.forall_mem_cons.mpr ⟨lw_p35, List.forall_mem_cons.mpr ⟨lw_p36, List.forall_mem_cons.mpr ⟨lw_p37, List.forall_mem_cons.mpr ⟨lw_p38, List.forall_mem_cons.mpr ⟨lw_p39, List.forall_mem_cons.mpr ⟨lw_p40, List.forall_mem_cons.mpr ⟨lw_p41, List.forall_mem_cons.mpr ⟨lw_p42, List.forall_mem_cons.mpr ⟨lw_p43, List.forall_mem_cons.mpr ⟨lw_p44, List.forall_mem_cons.mpr ⟨lw_p45, List.forall_mem_cons.mpr ⟨lw_p46, List.forall_mem_cons.mpr ⟨lw_p47, fun _ h => absurd h List.not_mem_nil⟩⟩⟩⟩⟩⟩⟩⟩⟩⟩⟩⟩⟩⟩⟩⟩
theorem lw_p48 : lw_okq (⟨"AuntsPuzzle$Work", "wholeBy", "(LAuntsPuzzle$Game;II)I"⟩, 6) := ⟨⟨by decide +kernel, by decide +kernel⟩, List.mem_of_getElem? (i := 238) (by decide +kernel), List.mem_of_getElem? (i := 686) (by decide +kernel), List.mem_of_getElem? (i := 687) (by decide +kernel)⟩
theorem lw_p49 : lw_okq (⟨"AuntsPuzzle$Work", "begin", "(LAuntsPuzzle$Game;I)V"⟩, 6) := ⟨⟨by decide +kernel, by decide +kernel⟩, List.mem_of_getElem? (i := 238) (by decide +kernel), List.mem_of_getElem? (i := 690) (by decide +kernel), List.mem_of_getElem? (i := 691) (by decide +kernel)⟩
theorem lw_p50 : lw_okq (⟨"AuntsPuzzle$Work", "addCells", "(ZZ)V"⟩, 6) := ⟨⟨by decide +kernel, by decide +kernel⟩, List.mem_of_getElem? (i := 238) (by decide +kernel), List.mem_of_getElem? (i := 695) (by decide +kernel), List.mem_of_getElem? (i := 696) (by decide +kernel)⟩
theorem lw_p51 : lw_okq (⟨"AuntsPuzzle$Work", "sortingCost", "(LAuntsPuzzle$Board;)I"⟩, 6) := ⟨⟨by decide +kernel, by decide +kernel⟩, List.mem_of_getElem? (i := 238) (by decide +kernel), List.mem_of_getElem? (i := 700) (by decide +kernel), List.mem_of_getElem? (i := 701) (by decide +kernel)⟩
theorem lw_p52 : lw_okq (⟨"AuntsPuzzle$Work", "share", "(LAuntsPuzzle$Game;IIII)I"⟩, 6) := ⟨⟨by decide +kernel, by decide +kernel⟩, List.mem_of_getElem? (i := 238) (by decide +kernel), List.mem_of_getElem? (i := 705) (by decide +kernel), List.mem_of_getElem? (i := 706) (by decide +kernel)⟩
theorem lw_p53 : lw_okq (⟨"AuntsPuzzle$Work", "fillCell", "(II)I"⟩, 6) := ⟨⟨by decide +kernel, by decide +kernel⟩, List.mem_of_getElem? (i := 238) (by decide +kernel), List.mem_of_getElem? (i := 710) (by decide +kernel), List.mem_of_getElem? (i := 711) (by decide +kernel)⟩
theorem lw_p54 : lw_okq (⟨"AuntsPuzzle$Work", "isChosen", "(II)Z"⟩, 6) := ⟨⟨by decide +kernel, by decide +kernel⟩, List.mem_of_getElem? (i := 238) (by decide +kernel), List.mem_of_getElem? (i := 714) (by decide +kernel), List.mem_of_getElem? (i := 715) (by decide +kernel)⟩
theorem lw_p55 : lw_okq (⟨"AuntsPuzzle$Cut", "nubsOf", "(I)I"⟩, 7) := ⟨⟨by decide +kernel, by decide +kernel⟩, List.mem_of_getElem? (i := 35) (by decide +kernel), List.mem_of_getElem? (i := 718) (by decide +kernel), List.mem_of_getElem? (i := 719) (by decide +kernel)⟩
theorem lw_p56 : lw_okq (⟨"AuntsPuzzle$Work", "isMarked", "(II)Z"⟩, 6) := ⟨⟨by decide +kernel, by decide +kernel⟩, List.mem_of_getElem? (i := 238) (by decide +kernel), List.mem_of_getElem? (i := 722) (by decide +kernel), List.mem_of_getElem? (i := 723) (by decide +kernel)⟩
theorem lw_p57 : lw_okq (⟨"AuntsPuzzle$Cut", "codeOf", "(II)I"⟩, 7) := ⟨⟨by decide +kernel, by decide +kernel⟩, List.mem_of_getElem? (i := 35) (by decide +kernel), List.mem_of_getElem? (i := 726) (by decide +kernel), List.mem_of_getElem? (i := 727) (by decide +kernel)⟩
theorem lw_p58 : lw_okq (⟨"AuntsPuzzle$Work", "mark", "(II)V"⟩, 6) := ⟨⟨by decide +kernel, by decide +kernel⟩, List.mem_of_getElem? (i := 238) (by decide +kernel), List.mem_of_getElem? (i := 733) (by decide +kernel), List.mem_of_getElem? (i := 734) (by decide +kernel)⟩
theorem lw_p59 : lw_okq (⟨"AuntsPuzzle$Work", "halfBy", "(LAuntsPuzzle$Game;II)I"⟩, 6) := ⟨⟨by decide +kernel, by decide +kernel⟩, List.mem_of_getElem? (i := 238) (by decide +kernel), List.mem_of_getElem? (i := 741) (by decide +kernel), List.mem_of_getElem? (i := 742) (by decide +kernel)⟩
theorem lw_p60 : lw_okq (⟨"AuntsPuzzle$Work", "together", "(LAuntsPuzzle$Game;II)I"⟩, 6) := ⟨⟨by decide +kernel, by decide +kernel⟩, List.mem_of_getElem? (i := 238) (by decide +kernel), List.mem_of_getElem? (i := 755) (by decide +kernel), List.mem_of_getElem? (i := 756) (by decide +kernel)⟩
theorem lw_p61 : lw_okq (⟨"AuntsPuzzle$Pile", "seemingPairs", "(LAuntsPuzzle$Cut;LAuntsPuzzle$Board;)I"⟩, 3) := ⟨⟨by decide +kernel, by decide +kernel⟩, List.mem_of_getElem? (i := 265) (by decide +kernel), List.mem_of_getElem? (i := 767) (by decide +kernel), List.mem_of_getElem? (i := 768) (by decide +kernel)⟩
theorem lw_p62 : lw_okq (⟨"AuntsPuzzle$Board", "isRight", "(I)Z"⟩, 5) := ⟨⟨by decide +kernel, by decide +kernel⟩, List.mem_of_getElem? (i := 81) (by decide +kernel), List.mem_of_getElem? (i := 780) (by decide +kernel), List.mem_of_getElem? (i := 781) (by decide +kernel)⟩
theorem lw_p63 : lw_okq (⟨"AuntsPuzzle$Game", "hasPlaceFor", "(I)Z"⟩, 3) := ⟨⟨by decide +kernel, by decide +kernel⟩, List.mem_of_getElem? (i := 29) (by decide +kernel), List.mem_of_getElem? (i := 792) (by decide +kernel), List.mem_of_getElem? (i := 793) (by decide +kernel)⟩
def lw_privs_4 : List (MethodName × Nat) := [(⟨"AuntsPuzzle$Work", "wholeBy", "(LAuntsPuzzle$Game;II)I"⟩, 6), (⟨"AuntsPuzzle$Work", "begin", "(LAuntsPuzzle$Game;I)V"⟩, 6), (⟨"AuntsPuzzle$Work", "addCells", "(ZZ)V"⟩, 6), (⟨"AuntsPuzzle$Work", "sortingCost", "(LAuntsPuzzle$Board;)I"⟩, 6), (⟨"AuntsPuzzle$Work", "share", "(LAuntsPuzzle$Game;IIII)I"⟩, 6), (⟨"AuntsPuzzle$Work", "fillCell", "(II)I"⟩, 6), (⟨"AuntsPuzzle$Work", "isChosen", "(II)Z"⟩, 6), (⟨"AuntsPuzzle$Cut", "nubsOf", "(I)I"⟩, 7), (⟨"AuntsPuzzle$Work", "isMarked", "(II)Z"⟩, 6), (⟨"AuntsPuzzle$Cut", "codeOf", "(II)I"⟩, 7), (⟨"AuntsPuzzle$Work", "mark", "(II)V"⟩, 6), (⟨"AuntsPuzzle$Work", "halfBy", "(LAuntsPuzzle$Game;II)I"⟩, 6), (⟨"AuntsPuzzle$Work", "together", "(LAuntsPuzzle$Game;II)I"⟩, 6), (⟨"AuntsPuzzle$Pile", "seemingPairs", "(LAuntsPuzzle$Cut;LAuntsPuzzle$Board;)I"⟩, 3), (⟨"AuntsPuzzle$Board", "isRight", "(I)Z"⟩, 5), (⟨"AuntsPuzzle$Game", "hasPlaceFor", "(I)Z"⟩, 3)]
theorem lw_r4 : ∀ q ∈ lw_privs_4, lw_okq q := List.forall_mem_cons.mpr ⟨lw_p48, List.forall_mem_cons.mpr ⟨lw_p49, List.forall_mem_cons.mpr ⟨lw_p50, List.forall_mem_cons.mpr ⟨lw_p51, List.forall_mem_cons.mpr ⟨lw_p52, List.forall_mem_cons.mpr ⟨lw_p53, List.forall_mem_cons.mpr ⟨lw_p54, List.forall_mem_cons.mpr ⟨lw_p55, List.forall_mem_cons.mpr ⟨lw_p56, List.forall_mem_cons.mpr ⟨lw_p57, List.forall_mem_cons.mpr ⟨lw_p58, List.forall_mem_cons.mpr ⟨lw_p59, List.forall_mem_cons.mpr ⟨lw_p60, List.forall_mem_cons.mpr ⟨lw_p61, List.forall_mem_cons.mpr ⟨lw_p62, List.forall_mem_cons.mpr ⟨lw_p63, fun _ h => absurd h List.not_mem_nil⟩⟩⟩⟩⟩⟩⟩⟩⟩⟩⟩⟩⟩⟩⟩⟩
theorem lw_p64 : lw_okq (⟨"AuntsPuzzle$Game", "fitsSomehow", "(II)Z"⟩, 3) := ⟨⟨by decide +kernel, by decide +kernel⟩, List.mem_of_getElem? (i := 29) (by decide +kernel), List.mem_of_getElem? (i := 797) (by decide +kernel), List.mem_of_getElem? (i := 798) (by decide +kernel)⟩
theorem lw_p65 : lw_okq (⟨"AuntsPuzzle$Pile", "weigh", "(LAuntsPuzzle$Game;)V"⟩, 3) := ⟨⟨by decide +kernel, by decide +kernel⟩, List.mem_of_getElem? (i := 265) (by decide +kernel), List.mem_of_getElem? (i := 806) (by decide +kernel), List.mem_of_getElem? (i := 807) (by decide +kernel)⟩
theorem lw_p66 : lw_okq (⟨"AuntsPuzzle$Pile", "isShort", "()Z"⟩, 3) := ⟨⟨by decide +kernel, by decide +kernel⟩, List.mem_of_getElem? (i := 265) (by decide +kernel), List.mem_of_getElem? (i := 823) (by decide +kernel), List.mem_of_getElem? (i := 824) (by decide +kernel)⟩
theorem lw_p67 : lw_okq (⟨"AuntsPuzzle$Pile", "suspects", "(LAuntsPuzzle$Cut;)I"⟩, 3) := ⟨⟨by decide +kernel, by decide +kernel⟩, List.mem_of_getElem? (i := 265) (by decide +kernel), List.mem_of_getElem? (i := 831) (by decide +kernel), List.mem_of_getElem? (i := 832) (by decide +kernel)⟩
theorem lw_p68 : lw_okq (⟨"AuntsPuzzle$Pile", "isAsHere", "()Z"⟩, 3) := ⟨⟨by decide +kernel, by decide +kernel⟩, List.mem_of_getElem? (i := 265) (by decide +kernel), List.mem_of_getElem? (i := 836) (by decide +kernel), List.mem_of_getElem? (i := 837) (by decide +kernel)⟩
theorem lw_p69 : lw_okq (⟨"AuntsPuzzle$People", "spentByAll", "()I"⟩, 4) := ⟨⟨by decide +kernel, by decide +kernel⟩, List.mem_of_getElem? (i := 111) (by decide +kernel), List.mem_of_getElem? (i := 844) (by decide +kernel), List.mem_of_getElem? (i := 845) (by decide +kernel)⟩
theorem lw_p70 : lw_okq (⟨"AuntsPuzzle$Cut", "reclass", "(I)V"⟩, 7) := ⟨⟨by decide +kernel, by decide +kernel⟩, List.mem_of_getElem? (i := 35) (by decide +kernel), List.mem_of_getElem? (i := 856) (by decide +kernel), List.mem_of_getElem? (i := 857) (by decide +kernel)⟩
theorem lw_p71 : lw_okq (⟨"AuntsPuzzle$Evening", "spend", "(LAuntsPuzzle$Game;II)I"⟩, 2) := ⟨⟨by decide +kernel, by decide +kernel⟩, List.mem_of_getElem? (i := 282) (by decide +kernel), List.mem_of_getElem? (i := 869) (by decide +kernel), List.mem_of_getElem? (i := 870) (by decide +kernel)⟩
theorem lw_p72 : lw_okq (⟨"AuntsPuzzle$Evening", "draw", "(I)I"⟩, 2) := ⟨⟨by decide +kernel, by decide +kernel⟩, List.mem_of_getElem? (i := 282) (by decide +kernel), List.mem_of_getElem? (i := 874) (by decide +kernel), List.mem_of_getElem? (i := 875) (by decide +kernel)⟩
theorem lw_p73 : lw_okq (⟨"AuntsPuzzle$Told", "add", "(I)I"⟩, 2) := ⟨⟨by decide +kernel, by decide +kernel⟩, List.mem_of_getElem? (i := 196) (by decide +kernel), List.mem_of_getElem? (i := 889) (by decide +kernel), List.mem_of_getElem? (i := 890) (by decide +kernel)⟩
theorem lw_p74 : lw_okq (⟨"AuntsPuzzle$Told", "compareWith", "(LAuntsPuzzle$Game;)I"⟩, 2) := ⟨⟨by decide +kernel, by decide +kernel⟩, List.mem_of_getElem? (i := 196) (by decide +kernel), List.mem_of_getElem? (i := 897) (by decide +kernel), List.mem_of_getElem? (i := 898) (by decide +kernel)⟩
theorem lw_p75 : lw_okq (⟨"AuntsPuzzle$Board", "howManyFilled", "()I"⟩, 5) := ⟨⟨by decide +kernel, by decide +kernel⟩, List.mem_of_getElem? (i := 81) (by decide +kernel), List.mem_of_getElem? (i := 907) (by decide +kernel), List.mem_of_getElem? (i := 908) (by decide +kernel)⟩
theorem lw_p76 : lw_okq (⟨"AuntsPuzzle$Cut", "innerEdges", "()I"⟩, 7) := ⟨⟨by decide +kernel, by decide +kernel⟩, List.mem_of_getElem? (i := 35) (by decide +kernel), List.mem_of_getElem? (i := 919) (by decide +kernel), List.mem_of_getElem? (i := 920) (by decide +kernel)⟩
theorem lw_p77 : lw_okq (⟨"AuntsPuzzleModel", "anew", "(II)V"⟩, 40) := ⟨⟨by decide +kernel, by decide +kernel⟩, List.mem_of_getElem? (i := 923) (by decide +kernel), List.mem_of_getElem? (i := 929) (by decide +kernel), List.mem_of_getElem? (i := 930) (by decide +kernel)⟩
theorem lw_p78 : lw_okq (⟨"AuntsPuzzleModel", "no", "(I)I"⟩, 40) := ⟨⟨by decide +kernel, by decide +kernel⟩, List.mem_of_getElem? (i := 923) (by decide +kernel), List.mem_of_getElem? (i := 1061) (by decide +kernel), List.mem_of_getElem? (i := 1062) (by decide +kernel)⟩
theorem lw_p79 : lw_okq (⟨"AuntsPuzzleModel", "statement", "()Z"⟩, 40) := ⟨⟨by decide +kernel, by decide +kernel⟩, List.mem_of_getElem? (i := 923) (by decide +kernel), List.mem_of_getElem? (i := 1070) (by decide +kernel), List.mem_of_getElem? (i := 1071) (by decide +kernel)⟩
def lw_privs_5 : List (MethodName × Nat) := [(⟨"AuntsPuzzle$Game", "fitsSomehow", "(II)Z"⟩, 3), (⟨"AuntsPuzzle$Pile", "weigh", "(LAuntsPuzzle$Game;)V"⟩, 3), (⟨"AuntsPuzzle$Pile", "isShort", "()Z"⟩, 3), (⟨"AuntsPuzzle$Pile", "suspects", "(LAuntsPuzzle$Cut;)I"⟩, 3), (⟨"AuntsPuzzle$Pile", "isAsHere", "()Z"⟩, 3), (⟨"AuntsPuzzle$People", "spentByAll", "()I"⟩, 4), (⟨"AuntsPuzzle$Cut", "reclass", "(I)V"⟩, 7), (⟨"AuntsPuzzle$Evening", "spend", "(LAuntsPuzzle$Game;II)I"⟩, 2), (⟨"AuntsPuzzle$Evening", "draw", "(I)I"⟩, 2), (⟨"AuntsPuzzle$Told", "add", "(I)I"⟩, 2), (⟨"AuntsPuzzle$Told", "compareWith", "(LAuntsPuzzle$Game;)I"⟩, 2), (⟨"AuntsPuzzle$Board", "howManyFilled", "()I"⟩, 5), (⟨"AuntsPuzzle$Cut", "innerEdges", "()I"⟩, 7), (⟨"AuntsPuzzleModel", "anew", "(II)V"⟩, 40), (⟨"AuntsPuzzleModel", "no", "(I)I"⟩, 40), (⟨"AuntsPuzzleModel", "statement", "()Z"⟩, 40)]
theorem lw_r5 : ∀ q ∈ lw_privs_5, lw_okq q := List.forall_mem_cons.mpr ⟨lw_p64, List.forall_mem_cons.mpr ⟨lw_p65, List.forall_mem_cons.mpr ⟨lw_p66, List.forall_mem_cons.mpr ⟨lw_p67, List.forall_mem_cons.mpr ⟨lw_p68, List.forall_mem_cons.mpr ⟨lw_p69, List.forall_mem_cons.mpr ⟨lw_p70, List.forall_mem_cons.mpr ⟨lw_p71, List.forall_mem_cons.mpr ⟨lw_p72, List.forall_mem_cons.mpr ⟨lw_p73, List.forall_mem_cons.mpr ⟨lw_p74, List.forall_mem_cons.mpr ⟨lw_p75, List.forall_mem_cons.mpr ⟨lw_p76, List.forall_mem_cons.mpr ⟨lw_p77, List.forall_mem_cons.mpr ⟨lw_p78, List.forall_mem_cons.mpr ⟨lw_p79, fun _ h => absurd h List.not_mem_nil⟩⟩⟩⟩⟩⟩⟩⟩⟩⟩⟩⟩⟩⟩⟩⟩
theorem lw_p80 : lw_okq (⟨"AuntsPuzzleModel", "nextByte", "()I"⟩, 40) := ⟨⟨by decide +kernel, by decide +kernel⟩, List.mem_of_getElem? (i := 923) (by decide +kernel), List.mem_of_getElem? (i := 1074) (by decide +kernel), List.mem_of_getElem? (i := 1075) (by decide +kernel)⟩
theorem lw_p81 : lw_okq (⟨"AuntsPuzzleModel", "readsEdge", "(I)Z"⟩, 40) := ⟨⟨by decide +kernel, by decide +kernel⟩, List.mem_of_getElem? (i := 923) (by decide +kernel), List.mem_of_getElem? (i := 1078) (by decide +kernel), List.mem_of_getElem? (i := 1079) (by decide +kernel)⟩
theorem lw_p82 : lw_okq (⟨"AuntsPuzzleModel", "number", "(I)I"⟩, 40) := ⟨⟨by decide +kernel, by decide +kernel⟩, List.mem_of_getElem? (i := 923) (by decide +kernel), List.mem_of_getElem? (i := 1082) (by decide +kernel), List.mem_of_getElem? (i := 1083) (by decide +kernel)⟩
theorem lw_p83 : lw_okq (⟨"AuntsPuzzleModel", "isNext", "(I)Z"⟩, 40) := ⟨⟨by decide +kernel, by decide +kernel⟩, List.mem_of_getElem? (i := 923) (by decide +kernel), List.mem_of_getElem? (i := 1089) (by decide +kernel), List.mem_of_getElem? (i := 1090) (by decide +kernel)⟩
theorem lw_p84 : lw_okq (⟨"AuntsPuzzleModel", "passesAll", "(IZ)V"⟩, 40) := ⟨⟨by decide +kernel, by decide +kernel⟩, List.mem_of_getElem? (i := 923) (by decide +kernel), List.mem_of_getElem? (i := 1096) (by decide +kernel), List.mem_of_getElem? (i := 1097) (by decide +kernel)⟩
theorem lw_p85 : lw_okq (⟨"AuntsPuzzleModel", "passes", "([I)V"⟩, 40) := ⟨⟨by decide +kernel, by decide +kernel⟩, List.mem_of_getElem? (i := 923) (by decide +kernel), List.mem_of_getElem? (i := 1100) (by decide +kernel), List.mem_of_getElem? (i := 1101) (by decide +kernel)⟩
theorem lw_p86 : lw_okq (⟨"AuntsPuzzleModel", "passOne", "(I)I"⟩, 40) := ⟨⟨by decide +kernel, by decide +kernel⟩, List.mem_of_getElem? (i := 923) (by decide +kernel), List.mem_of_getElem? (i := 1104) (by decide +kernel), List.mem_of_getElem? (i := 1105) (by decide +kernel)⟩
theorem lw_p87 : lw_okq (⟨"AuntsPuzzleModel", "comes", "(I)Z"⟩, 40) := ⟨⟨by decide +kernel, by decide +kernel⟩, List.mem_of_getElem? (i := 923) (by decide +kernel), List.mem_of_getElem? (i := 1108) (by decide +kernel), List.mem_of_getElem? (i := 1109) (by decide +kernel)⟩
theorem lw_p88 : lw_okq (⟨"AuntsPuzzleModel", "isCell", "(I)Z"⟩, 40) := ⟨⟨by decide +kernel, by decide +kernel⟩, List.mem_of_getElem? (i := 923) (by decide +kernel), List.mem_of_getElem? (i := 1112) (by decide +kernel), List.mem_of_getElem? (i := 1113) (by decide +kernel)⟩
theorem lw_p89 : lw_okq (⟨"AuntsPuzzleModel", "cells", "()I"⟩, 40) := ⟨⟨by decide +kernel, by decide +kernel⟩, List.mem_of_getElem? (i := 923) (by decide +kernel), List.mem_of_getElem? (i := 1116) (by decide +kernel), List.mem_of_getElem? (i := 1117) (by decide +kernel)⟩
theorem lw_p90 : lw_okq (⟨"AuntsPuzzleModel", "beside", "(II)I"⟩, 40) := ⟨⟨by decide +kernel, by decide +kernel⟩, List.mem_of_getElem? (i := 923) (by decide +kernel), List.mem_of_getElem? (i := 1120) (by decide +kernel), List.mem_of_getElem? (i := 1121) (by decide +kernel)⟩
theorem lw_p91 : lw_okq (⟨"AuntsPuzzleModel", "lower", "(I)I"⟩, 40) := ⟨⟨by decide +kernel, by decide +kernel⟩, List.mem_of_getElem? (i := 923) (by decide +kernel), List.mem_of_getElem? (i := 1128) (by decide +kernel), List.mem_of_getElem? (i := 1129) (by decide +kernel)⟩
theorem lw_p92 : lw_okq (⟨"AuntsPuzzleModel", "turned", "(III)I"⟩, 40) := ⟨⟨by decide +kernel, by decide +kernel⟩, List.mem_of_getElem? (i := 923) (by decide +kernel), List.mem_of_getElem? (i := 1133) (by decide +kernel), List.mem_of_getElem? (i := 1134) (by decide +kernel)⟩
theorem lw_p93 : lw_okq (⟨"AuntsPuzzleModel", "sideOf", "(II)I"⟩, 40) := ⟨⟨by decide +kernel, by decide +kernel⟩, List.mem_of_getElem? (i := 923) (by decide +kernel), List.mem_of_getElem? (i := 1137) (by decide +kernel), List.mem_of_getElem? (i := 1138) (by decide +kernel)⟩
theorem lw_p94 : lw_okq (⟨"AuntsPuzzleModel", "isPerson", "(I)Z"⟩, 40) := ⟨⟨by decide +kernel, by decide +kernel⟩, List.mem_of_getElem? (i := 923) (by decide +kernel), List.mem_of_getElem? (i := 1149) (by decide +kernel), List.mem_of_getElem? (i := 1150) (by decide +kernel)⟩
theorem lw_p95 : lw_okq (⟨"AuntsPuzzleModel", "doesFit", "(III)Z"⟩, 40) := ⟨⟨by decide +kernel, by decide +kernel⟩, List.mem_of_getElem? (i := 923) (by decide +kernel), List.mem_of_getElem? (i := 1161) (by decide +kernel), List.mem_of_getElem? (i := 1162) (by decide +kernel)⟩
def lw_privs_6 : List (MethodName × Nat) := [(⟨"AuntsPuzzleModel", "nextByte", "()I"⟩, 40), (⟨"AuntsPuzzleModel", "readsEdge", "(I)Z"⟩, 40), (⟨"AuntsPuzzleModel", "number", "(I)I"⟩, 40), (⟨"AuntsPuzzleModel", "isNext", "(I)Z"⟩, 40), (⟨"AuntsPuzzleModel", "passesAll", "(IZ)V"⟩, 40), (⟨"AuntsPuzzleModel", "passes", "([I)V"⟩, 40), (⟨"AuntsPuzzleModel", "passOne", "(I)I"⟩, 40), (⟨"AuntsPuzzleModel", "comes", "(I)Z"⟩, 40), (⟨"AuntsPuzzleModel", "isCell", "(I)Z"⟩, 40), (⟨"AuntsPuzzleModel", "cells", "()I"⟩, 40), (⟨"AuntsPuzzleModel", "beside", "(II)I"⟩, 40), (⟨"AuntsPuzzleModel", "lower", "(I)I"⟩, 40), (⟨"AuntsPuzzleModel", "turned", "(III)I"⟩, 40), (⟨"AuntsPuzzleModel", "sideOf", "(II)I"⟩, 40), (⟨"AuntsPuzzleModel", "isPerson", "(I)Z"⟩, 40), (⟨"AuntsPuzzleModel", "doesFit", "(III)Z"⟩, 40)]
theorem lw_r6 : ∀ q ∈ lw_privs_6, lw_okq q := List.forall_mem_cons.mpr ⟨lw_p80, List.forall_mem_cons.mpr ⟨lw_p81, List.forall_mem_cons.mpr ⟨lw_p82, List.forall_mem_cons.mpr ⟨lw_p83, List.forall_mem_cons.mpr ⟨lw_p84, List.forall_mem_cons.mpr ⟨lw_p85, List.forall_mem_cons.mpr ⟨lw_p86, List.forall_mem_cons.mpr ⟨lw_p87, List.forall_mem_cons.mpr ⟨lw_p88, List.forall_mem_cons.mpr ⟨lw_p89, List.forall_mem_cons.mpr ⟨lw_p90, List.forall_mem_cons.mpr ⟨lw_p91, List.forall_mem_cons.mpr ⟨lw_p92, List.forall_mem_cons.mpr ⟨lw_p93, List.forall_mem_cons.mpr ⟨lw_p94, List.forall_mem_cons.mpr ⟨lw_p95, fun _ h => absurd h List.not_mem_nil⟩⟩⟩⟩⟩⟩⟩⟩⟩⟩⟩⟩⟩⟩⟩⟩
theorem lw_p96 : lw_okq (⟨"AuntsPuzzleModel", "isAtRim", "(III)Z"⟩, 40) := ⟨⟨by decide +kernel, by decide +kernel⟩, List.mem_of_getElem? (i := 923) (by decide +kernel), List.mem_of_getElem? (i := 1165) (by decide +kernel), List.mem_of_getElem? (i := 1166) (by decide +kernel)⟩
theorem lw_p97 : lw_okq (⟨"AuntsPuzzleModel", "secondsOf", "(IIII)I"⟩, 40) := ⟨⟨by decide +kernel, by decide +kernel⟩, List.mem_of_getElem? (i := 923) (by decide +kernel), List.mem_of_getElem? (i := 1173) (by decide +kernel), List.mem_of_getElem? (i := 1174) (by decide +kernel)⟩
theorem lw_p98 : lw_okq (⟨"AuntsPuzzleModel", "isRim", "(I)Z"⟩, 40) := ⟨⟨by decide +kernel, by decide +kernel⟩, List.mem_of_getElem? (i := 923) (by decide +kernel), List.mem_of_getElem? (i := 1180) (by decide +kernel), List.mem_of_getElem? (i := 1181) (by decide +kernel)⟩
theorem lw_p99 : lw_okq (⟨"AuntsPuzzleModel", "kindAt", "(III)I"⟩, 40) := ⟨⟨by decide +kernel, by decide +kernel⟩, List.mem_of_getElem? (i := 923) (by decide +kernel), List.mem_of_getElem? (i := 1184) (by decide +kernel), List.mem_of_getElem? (i := 1185) (by decide +kernel)⟩
theorem lw_p100 : lw_okq (⟨"AuntsPuzzleModel", "isLaid", "(I)Z"⟩, 40) := ⟨⟨by decide +kernel, by decide +kernel⟩, List.mem_of_getElem? (i := 923) (by decide +kernel), List.mem_of_getElem? (i := 1192) (by decide +kernel), List.mem_of_getElem? (i := 1193) (by decide +kernel)⟩
theorem lw_p101 : lw_okq (⟨"AuntsPuzzleModel", "tries", "(IIII)I"⟩, 40) := ⟨⟨by decide +kernel, by decide +kernel⟩, List.mem_of_getElem? (i := 923) (by decide +kernel), List.mem_of_getElem? (i := 1196) (by decide +kernel), List.mem_of_getElem? (i := 1197) (by decide +kernel)⟩
theorem lw_p102 : lw_okq (⟨"AuntsPuzzleModel", "lostMany", "()I"⟩, 40) := ⟨⟨by decide +kernel, by decide +kernel⟩, List.mem_of_getElem? (i := 923) (by decide +kernel), List.mem_of_getElem? (i := 1208) (by decide +kernel), List.mem_of_getElem? (i := 1209) (by decide +kernel)⟩
theorem lw_p103 : lw_okq (⟨"AuntsPuzzleModel", "findWays", "()V"⟩, 40) := ⟨⟨by decide +kernel, by decide +kernel⟩, List.mem_of_getElem? (i := 923) (by decide +kernel), List.mem_of_getElem? (i := 1220) (by decide +kernel), List.mem_of_getElem? (i := 1221) (by decide +kernel)⟩
theorem lw_p104 : lw_okq (⟨"AuntsPuzzleModel", "doneOf", "(II)I"⟩, 40) := ⟨⟨by decide +kernel, by decide +kernel⟩, List.mem_of_getElem? (i := 923) (by decide +kernel), List.mem_of_getElem? (i := 1232) (by decide +kernel), List.mem_of_getElem? (i := 1233) (by decide +kernel)⟩
theorem lw_p105 : lw_okq (⟨"AuntsPuzzleModel", "sortsFor", "(I)I"⟩, 40) := ⟨⟨by decide +kernel, by decide +kernel⟩, List.mem_of_getElem? (i := 923) (by decide +kernel), List.mem_of_getElem? (i := 1236) (by decide +kernel), List.mem_of_getElem? (i := 1237) (by decide +kernel)⟩
theorem lw_p106 : lw_okq (⟨"AuntsPuzzleModel", "doneBy", "(IIIII)I"⟩, 40) := ⟨⟨by decide +kernel, by decide +kernel⟩, List.mem_of_getElem? (i := 923) (by decide +kernel), List.mem_of_getElem? (i := 1240) (by decide +kernel), List.mem_of_getElem? (i := 1241) (by decide +kernel)⟩
theorem lw_p107 : lw_okq (⟨"AuntsPuzzleModel", "findOrder", "(I)V"⟩, 40) := ⟨⟨by decide +kernel, by decide +kernel⟩, List.mem_of_getElem? (i := 923) (by decide +kernel), List.mem_of_getElem? (i := 1244) (by decide +kernel), List.mem_of_getElem? (i := 1245) (by decide +kernel)⟩
theorem lw_p108 : lw_okq (⟨"AuntsPuzzleModel", "goesThrough", "(III)I"⟩, 40) := ⟨⟨by decide +kernel, by decide +kernel⟩, List.mem_of_getElem? (i := 923) (by decide +kernel), List.mem_of_getElem? (i := 1248) (by decide +kernel), List.mem_of_getElem? (i := 1249) (by decide +kernel)⟩
theorem lw_p109 : lw_okq (⟨"AuntsPuzzleModel", "isAsked", "(III)Z"⟩, 40) := ⟨⟨by decide +kernel, by decide +kernel⟩, List.mem_of_getElem? (i := 923) (by decide +kernel), List.mem_of_getElem? (i := 1252) (by decide +kernel), List.mem_of_getElem? (i := 1253) (by decide +kernel)⟩
theorem lw_p110 : lw_okq (⟨"AuntsPuzzleModel", "hasFlat", "(I)Z"⟩, 40) := ⟨⟨by decide +kernel, by decide +kernel⟩, List.mem_of_getElem? (i := 923) (by decide +kernel), List.mem_of_getElem? (i := 1256) (by decide +kernel), List.mem_of_getElem? (i := 1257) (by decide +kernel)⟩
theorem lw_p111 : lw_okq (⟨"AuntsPuzzleModel", "nubs", "(I)I"⟩, 40) := ⟨⟨by decide +kernel, by decide +kernel⟩, List.mem_of_getElem? (i := 923) (by decide +kernel), List.mem_of_getElem? (i := 1260) (by decide +kernel), List.mem_of_getElem? (i := 1261) (by decide +kernel)⟩
def lw_privs_7 : List (MethodName × Nat) := [(⟨"AuntsPuzzleModel", "isAtRim", "(III)Z"⟩, 40), (⟨"AuntsPuzzleModel", "secondsOf", "(IIII)I"⟩, 40), (⟨"AuntsPuzzleModel", "isRim", "(I)Z"⟩, 40), (⟨"AuntsPuzzleModel", "kindAt", "(III)I"⟩, 40), (⟨"AuntsPuzzleModel", "isLaid", "(I)Z"⟩, 40), (⟨"AuntsPuzzleModel", "tries", "(IIII)I"⟩, 40), (⟨"AuntsPuzzleModel", "lostMany", "()I"⟩, 40), (⟨"AuntsPuzzleModel", "findWays", "()V"⟩, 40), (⟨"AuntsPuzzleModel", "doneOf", "(II)I"⟩, 40), (⟨"AuntsPuzzleModel", "sortsFor", "(I)I"⟩, 40), (⟨"AuntsPuzzleModel", "doneBy", "(IIIII)I"⟩, 40), (⟨"AuntsPuzzleModel", "findOrder", "(I)V"⟩, 40), (⟨"AuntsPuzzleModel", "goesThrough", "(III)I"⟩, 40), (⟨"AuntsPuzzleModel", "isAsked", "(III)Z"⟩, 40), (⟨"AuntsPuzzleModel", "hasFlat", "(I)Z"⟩, 40), (⟨"AuntsPuzzleModel", "nubs", "(I)I"⟩, 40)]
theorem lw_r7 : ∀ q ∈ lw_privs_7, lw_okq q := List.forall_mem_cons.mpr ⟨lw_p96, List.forall_mem_cons.mpr ⟨lw_p97, List.forall_mem_cons.mpr ⟨lw_p98, List.forall_mem_cons.mpr ⟨lw_p99, List.forall_mem_cons.mpr ⟨lw_p100, List.forall_mem_cons.mpr ⟨lw_p101, List.forall_mem_cons.mpr ⟨lw_p102, List.forall_mem_cons.mpr ⟨lw_p103, List.forall_mem_cons.mpr ⟨lw_p104, List.forall_mem_cons.mpr ⟨lw_p105, List.forall_mem_cons.mpr ⟨lw_p106, List.forall_mem_cons.mpr ⟨lw_p107, List.forall_mem_cons.mpr ⟨lw_p108, List.forall_mem_cons.mpr ⟨lw_p109, List.forall_mem_cons.mpr ⟨lw_p110, List.forall_mem_cons.mpr ⟨lw_p111, fun _ h => absurd h List.not_mem_nil⟩⟩⟩⟩⟩⟩⟩⟩⟩⟩⟩⟩⟩⟩⟩⟩
theorem lw_p112 : lw_okq (⟨"AuntsPuzzleModel", "formOf", "(II)I"⟩, 40) := ⟨⟨by decide +kernel, by decide +kernel⟩, List.mem_of_getElem? (i := 923) (by decide +kernel), List.mem_of_getElem? (i := 1264) (by decide +kernel), List.mem_of_getElem? (i := 1265) (by decide +kernel)⟩
theorem lw_p113 : lw_okq (⟨"AuntsPuzzleModel", "hasFailed", "(I)Z"⟩, 40) := ⟨⟨by decide +kernel, by decide +kernel⟩, List.mem_of_getElem? (i := 923) (by decide +kernel), List.mem_of_getElem? (i := 1268) (by decide +kernel), List.mem_of_getElem? (i := 1269) (by decide +kernel)⟩
theorem lw_p114 : lw_okq (⟨"AuntsPuzzleModel", "tableOf", "(II)I"⟩, 40) := ⟨⟨by decide +kernel, by decide +kernel⟩, List.mem_of_getElem? (i := 923) (by decide +kernel), List.mem_of_getElem? (i := 1284) (by decide +kernel), List.mem_of_getElem? (i := 1285) (by decide +kernel)⟩
theorem lw_p115 : lw_okq (⟨"AuntsPuzzleModel", "seemsOf", "()I"⟩, 40) := ⟨⟨by decide +kernel, by decide +kernel⟩, List.mem_of_getElem? (i := 923) (by decide +kernel), List.mem_of_getElem? (i := 1296) (by decide +kernel), List.mem_of_getElem? (i := 1297) (by decide +kernel)⟩
theorem lw_p116 : lw_okq (⟨"AuntsPuzzleModel", "isOwn", "(I)Z"⟩, 40) := ⟨⟨by decide +kernel, by decide +kernel⟩, List.mem_of_getElem? (i := 923) (by decide +kernel), List.mem_of_getElem? (i := 1304) (by decide +kernel), List.mem_of_getElem? (i := 1305) (by decide +kernel)⟩
theorem lw_p117 : lw_okq (⟨"AuntsPuzzleModel", "fitsSomewhere", "(I)Z"⟩, 40) := ⟨⟨by decide +kernel, by decide +kernel⟩, List.mem_of_getElem? (i := 923) (by decide +kernel), List.mem_of_getElem? (i := 1316) (by decide +kernel), List.mem_of_getElem? (i := 1317) (by decide +kernel)⟩
theorem lw_p118 : lw_okq (⟨"AuntsPuzzleModel", "balanceOf", "(I)I"⟩, 40) := ⟨⟨by decide +kernel, by decide +kernel⟩, List.mem_of_getElem? (i := 923) (by decide +kernel), List.mem_of_getElem? (i := 1324) (by decide +kernel), List.mem_of_getElem? (i := 1325) (by decide +kernel)⟩
theorem lw_p119 : lw_okq (⟨"AuntsPuzzleModel", "balanceOn", "(II)I"⟩, 40) := ⟨⟨by decide +kernel, by decide +kernel⟩, List.mem_of_getElem? (i := 923) (by decide +kernel), List.mem_of_getElem? (i := 1328) (by decide +kernel), List.mem_of_getElem? (i := 1329) (by decide +kernel)⟩
theorem lw_p120 : lw_okq (⟨"AuntsPuzzleModel", "doesLack", "()Z"⟩, 40) := ⟨⟨by decide +kernel, by decide +kernel⟩, List.mem_of_getElem? (i := 923) (by decide +kernel), List.mem_of_getElem? (i := 1336) (by decide +kernel), List.mem_of_getElem? (i := 1337) (by decide +kernel)⟩
theorem lw_p121 : lw_okq (⟨"AuntsPuzzleModel", "classed", "(II)I"⟩, 40) := ⟨⟨by decide +kernel, by decide +kernel⟩, List.mem_of_getElem? (i := 923) (by decide +kernel), List.mem_of_getElem? (i := 1355) (by decide +kernel), List.mem_of_getElem? (i := 1356) (by decide +kernel)⟩
theorem lw_p122 : lw_okq (⟨"AuntsPuzzleModel", "laidMany", "()I"⟩, 40) := ⟨⟨by decide +kernel, by decide +kernel⟩, List.mem_of_getElem? (i := 923) (by decide +kernel), List.mem_of_getElem? (i := 1367) (by decide +kernel), List.mem_of_getElem? (i := 1368) (by decide +kernel)⟩
theorem lw_p123 : lw_okq (⟨"AuntsPuzzleModel", "draw", "(I)I"⟩, 40) := ⟨⟨by decide +kernel, by decide +kernel⟩, List.mem_of_getElem? (i := 923) (by decide +kernel), List.mem_of_getElem? (i := 1371) (by decide +kernel), List.mem_of_getElem? (i := 1372) (by decide +kernel)⟩
def lw_privs_8 : List (MethodName × Nat) := [(⟨"AuntsPuzzleModel", "formOf", "(II)I"⟩, 40), (⟨"AuntsPuzzleModel", "hasFailed", "(I)Z"⟩, 40), (⟨"AuntsPuzzleModel", "tableOf", "(II)I"⟩, 40), (⟨"AuntsPuzzleModel", "seemsOf", "()I"⟩, 40), (⟨"AuntsPuzzleModel", "isOwn", "(I)Z"⟩, 40), (⟨"AuntsPuzzleModel", "fitsSomewhere", "(I)Z"⟩, 40), (⟨"AuntsPuzzleModel", "balanceOf", "(I)I"⟩, 40), (⟨"AuntsPuzzleModel", "balanceOn", "(II)I"⟩, 40), (⟨"AuntsPuzzleModel", "doesLack", "()Z"⟩, 40), (⟨"AuntsPuzzleModel", "classed", "(II)I"⟩, 40), (⟨"AuntsPuzzleModel", "laidMany", "()I"⟩, 40), (⟨"AuntsPuzzleModel", "draw", "(I)I"⟩, 40)]
theorem lw_r8 : ∀ q ∈ lw_privs_8, lw_okq q := List.forall_mem_cons.mpr ⟨lw_p112, List.forall_mem_cons.mpr ⟨lw_p113, List.forall_mem_cons.mpr ⟨lw_p114, List.forall_mem_cons.mpr ⟨lw_p115, List.forall_mem_cons.mpr ⟨lw_p116, List.forall_mem_cons.mpr ⟨lw_p117, List.forall_mem_cons.mpr ⟨lw_p118, List.forall_mem_cons.mpr ⟨lw_p119, List.forall_mem_cons.mpr ⟨lw_p120, List.forall_mem_cons.mpr ⟨lw_p121, List.forall_mem_cons.mpr ⟨lw_p122, List.forall_mem_cons.mpr ⟨lw_p123, fun _ h => absurd h List.not_mem_nil⟩⟩⟩⟩⟩⟩⟩⟩⟩⟩⟩⟩
def lw_privs : List (MethodName × Nat) := lw_privs_1 ++ (lw_privs_2 ++ (lw_privs_3 ++ (lw_privs_4 ++ (lw_privs_5 ++ (lw_privs_6 ++ (lw_privs_7 ++ (lw_privs_8)))))))
def lw_tbl : List Cond := k2_sels lw_privs ++ tables_1
theorem lw_privs_ok : ∀ q ∈ lw_privs, lw_okq q := by
  show ∀ q ∈ lw_privs_1 ++ (lw_privs_2 ++ (lw_privs_3 ++ (lw_privs_4 ++ (lw_privs_5 ++ (lw_privs_6 ++ (lw_privs_7 ++ (lw_privs_8))))))), lw_okq q
  exact List.forall_mem_append.mpr ⟨lw_r1, List.forall_mem_append.mpr ⟨lw_r2, List.forall_mem_append.mpr ⟨lw_r3, List.forall_mem_append.mpr ⟨lw_r4, List.forall_mem_append.mpr ⟨lw_r5, List.forall_mem_append.mpr ⟨lw_r6, List.forall_mem_append.mpr ⟨lw_r7, lw_r8⟩⟩⟩⟩⟩⟩⟩
end
section
def RX0 : String := "AuntsPuzzle$Board"
def TX0 : u_T := fun k => match k with
  | 0 => ("AuntsPuzzle$Board", "pieces", "[I", true)
  | 1 => ("AuntsPuzzle$Board", "turns", "[I", true)
  | 2 => ("AuntsPuzzle$Board", "layers", "[I", true)
  | 3 => ("AuntsPuzzle$Board", "isPut", "[Z", true)
  | _ => ("AuntsPuzzle$Board", "isLost", "[Z", true)
def tyX0 : Nat → FieldType := fun k => match k with
  | 0 => .array .int
  | 1 => .array .int
  | 2 => .array .int
  | 3 => .array .boolean
  | _ => .array .boolean
abbrev wsX00 : List Cond := u_ws RX0 TX0 5
theorem nmX0 : ∀ a, a < 5 → ∀ b, b < 5 → a ≠ b → (TX0 a).2.1 ≠ (TX0 b).2.1 := by decide +kernel
theorem tyX0_ok : ∀ k, k < 5 → parseFieldDescriptor (TX0 k).2.2.1 = some (tyX0 k) := by decide +kernel
abbrev cX0_init : ByteArray := prog_2_method_1_code
def yX0_init : MethodName := ⟨RX0, "<init>", "()V"⟩
abbrev cX0_clear : ByteArray := prog_2_method_2_code
def yX0_clear : MethodName := ⟨RX0, "clear", "()V"⟩
abbrev cX0_isFilled : ByteArray := prog_2_method_3_code
def yX0_isFilled : MethodName := ⟨RX0, "isFilled", "(I)Z"⟩
abbrev cX0_isAway : ByteArray := prog_2_method_4_code
def yX0_isAway : MethodName := ⟨RX0, "isAway", "(I)Z"⟩
abbrev cX0_isRight : ByteArray := prog_2_method_5_code
def yX0_isRight : MethodName := ⟨RX0, "isRight", "(I)Z"⟩
abbrev cX0_put : ByteArray := prog_2_method_6_code
def yX0_put : MethodName := ⟨RX0, "put", "(IIII)V"⟩
abbrev cX0_takeUp : ByteArray := prog_2_method_7_code
def yX0_takeUp : MethodName := ⟨RX0, "takeUp", "(I)I"⟩
abbrev cX0_laidBy : ByteArray := prog_2_method_8_code
def yX0_laidBy : MethodName := ⟨RX0, "laidBy", "(I)I"⟩
abbrev cX0_howManyFilled : ByteArray := prog_2_method_9_code
def yX0_howManyFilled : MethodName := ⟨RX0, "howManyFilled", "()I"⟩
abbrev cX0_howManyLost : ByteArray := prog_2_method_10_code
def yX0_howManyLost : MethodName := ⟨RX0, "howManyLost", "()I"⟩
abbrev cX0_copyFrom : ByteArray := prog_2_method_11_code
def yX0_copyFrom : MethodName := ⟨RX0, "copyFrom", "(LAuntsPuzzle$Board;)V"⟩
def RX1 : String := "AuntsPuzzle$Cut"
def TX1 : u_T := fun k => match k with
  | 0 => ("AuntsPuzzle$Cut", "rows", "I", false)
  | 1 => ("AuntsPuzzle$Cut", "columns", "I", false)
  | 2 => ("AuntsPuzzle$Cut", "cells", "I", false)
  | 3 => ("AuntsPuzzle$Cut", "sides", "[I", true)
  | 4 => ("AuntsPuzzle$Cut", "neighbours", "[I", true)
  | 5 => ("AuntsPuzzle$Cut", "isAtRim", "[Z", true)
  | _ => ("AuntsPuzzle$Cut", "colours", "[I", true)
def tyX1 : Nat → FieldType := fun k => match k with
  | 0 => .int
  | 1 => .int
  | 2 => .int
  | 3 => .array .int
  | 4 => .array .int
  | 5 => .array .boolean
  | _ => .array .int
abbrev wsX10 : List Cond := u_ws RX1 TX1 7
theorem nmX1 : ∀ a, a < 7 → ∀ b, b < 7 → a ≠ b → (TX1 a).2.1 ≠ (TX1 b).2.1 := by decide +kernel
theorem tyX1_ok : ∀ k, k < 7 → parseFieldDescriptor (TX1 k).2.2.1 = some (tyX1 k) := by decide +kernel
abbrev cX1_init : ByteArray := prog_3_method_1_code
def yX1_init : MethodName := ⟨RX1, "<init>", "()V"⟩
abbrev cX1_cutAnew : ByteArray := prog_3_method_2_code
def yX1_cutAnew : MethodName := ⟨RX1, "cutAnew", "(II)V"⟩
abbrev cX1_neighbourAcross : ByteArray := prog_3_method_3_code
def yX1_neighbourAcross : MethodName := ⟨RX1, "neighbourAcross", "(II)I"⟩
abbrev cX1_beside : ByteArray := prog_3_method_4_code
def yX1_beside : MethodName := ⟨RX1, "beside", "(II)I"⟩
abbrev cX1_sideOf : ByteArray := prog_3_method_5_code
def yX1_sideOf : MethodName := ⟨RX1, "sideOf", "(III)I"⟩
abbrev cX1_setEdge : ByteArray := prog_3_method_6_code
def yX1_setEdge : MethodName := ⟨RX1, "setEdge", "(III)V"⟩
abbrev cX1_innerEdges : ByteArray := prog_3_method_7_code
def yX1_innerEdges : MethodName := ⟨RX1, "innerEdges", "()I"⟩
abbrev cX1_nubsOf : ByteArray := prog_3_method_8_code
def yX1_nubsOf : MethodName := ⟨RX1, "nubsOf", "(I)I"⟩
abbrev cX1_codeOf : ByteArray := prog_3_method_9_code
def yX1_codeOf : MethodName := ⟨RX1, "codeOf", "(II)I"⟩
abbrev cX1_suitsRim : ByteArray := prog_3_method_10_code
def yX1_suitsRim : MethodName := ⟨RX1, "suitsRim", "(III)Z"⟩
abbrev cX1_suitsNeighbours : ByteArray := prog_3_method_11_code
def yX1_suitsNeighbours : MethodName := ⟨RX1, "suitsNeighbours", "(LAuntsPuzzle$Board;III)Z"⟩
abbrev cX1_isFit : ByteArray := prog_3_method_12_code
def yX1_isFit : MethodName := ⟨RX1, "isFit", "(LAuntsPuzzle$Board;III)Z"⟩
abbrev cX1_kindOf : ByteArray := prog_3_method_13_code
def yX1_kindOf : MethodName := ⟨RX1, "kindOf", "(LAuntsPuzzle$Board;III)I"⟩
abbrev cX1_reclass : ByteArray := prog_3_method_14_code
def yX1_reclass : MethodName := ⟨RX1, "reclass", "(I)V"⟩
abbrev cX1_copyFrom : ByteArray := prog_3_method_15_code
def yX1_copyFrom : MethodName := ⟨RX1, "copyFrom", "(LAuntsPuzzle$Cut;)V"⟩
def RX2 : String := "AuntsPuzzle$Evening"
def TX2 : u_T := fun k => match k with
  | 0 => ("AuntsPuzzle$Evening", "mind", "LAuntsPuzzle$Board;", true)
  | _ => ("AuntsPuzzle$Evening", "seed", "I", false)
def tyX2 : Nat → FieldType := fun k => match k with
  | 0 => .object "AuntsPuzzle$Board"
  | _ => .int
abbrev wsX20 : List Cond := u_ws RX2 TX2 2
theorem nmX2 : ∀ a, a < 2 → ∀ b, b < 2 → a ≠ b → (TX2 a).2.1 ≠ (TX2 b).2.1 := by decide +kernel
theorem tyX2_ok : ∀ k, k < 2 → parseFieldDescriptor (TX2 k).2.2.1 = some (tyX2 k) := by decide +kernel
abbrev cX2_init : ByteArray := prog_4_method_1_code
def yX2_init : MethodName := ⟨RX2, "<init>", "()V"⟩
abbrev cX2_spend : ByteArray := prog_4_method_2_code
def yX2_spend : MethodName := ⟨RX2, "spend", "(LAuntsPuzzle$Game;II)I"⟩
abbrev cX2_draw : ByteArray := prog_4_method_3_code
def yX2_draw : MethodName := ⟨RX2, "draw", "(I)I"⟩
def RX3 : String := "AuntsPuzzle$Game"
def TX3 : u_T := fun k => match k with
  | 0 => ("AuntsPuzzle$Game", "cut", "LAuntsPuzzle$Cut;", true)
  | 1 => ("AuntsPuzzle$Game", "board", "LAuntsPuzzle$Board;", true)
  | _ => ("AuntsPuzzle$Game", "people", "LAuntsPuzzle$People;", true)
def tyX3 : Nat → FieldType := fun k => match k with
  | 0 => .object "AuntsPuzzle$Cut"
  | 1 => .object "AuntsPuzzle$Board"
  | _ => .object "AuntsPuzzle$People"
abbrev wsX30 : List Cond := u_ws RX3 TX3 3
theorem nmX3 : ∀ a, a < 3 → ∀ b, b < 3 → a ≠ b → (TX3 a).2.1 ≠ (TX3 b).2.1 := by decide +kernel
theorem tyX3_ok : ∀ k, k < 3 → parseFieldDescriptor (TX3 k).2.2.1 = some (tyX3 k) := by decide +kernel
abbrev cX3_init : ByteArray := prog_5_method_1_code
def yX3_init : MethodName := ⟨RX3, "<init>", "()V"⟩
abbrev cX3_costOf : ByteArray := prog_5_method_2_code
def yX3_costOf : MethodName := ⟨RX3, "costOf", "(IIII)I"⟩
abbrev cX3_plainCost : ByteArray := prog_5_method_3_code
def yX3_plainCost : MethodName := ⟨RX3, "plainCost", "(III)I"⟩
abbrev cX3_costByColour : ByteArray := prog_5_method_4_code
def yX3_costByColour : MethodName := ⟨RX3, "costByColour", "(III)I"⟩
abbrev cX3_hasPlaceFor : ByteArray := prog_5_method_5_code
def yX3_hasPlaceFor : MethodName := ⟨RX3, "hasPlaceFor", "(I)Z"⟩
abbrev cX3_fitsSomehow : ByteArray := prog_5_method_6_code
def yX3_fitsSomehow : MethodName := ⟨RX3, "fitsSomehow", "(II)Z"⟩
abbrev cX3_copyFrom : ByteArray := prog_5_method_7_code
def yX3_copyFrom : MethodName := ⟨RX3, "copyFrom", "(LAuntsPuzzle$Game;)V"⟩
def RX4 : String := "AuntsPuzzle$People"
def TX4 : u_T := fun k => match k with
  | 0 => ("AuntsPuzzle$People", "number", "I", false)
  | 1 => ("AuntsPuzzle$People", "kinds", "[I", true)
  | 2 => ("AuntsPuzzle$People", "paces", "[I", true)
  | _ => ("AuntsPuzzle$People", "spent", "[I", true)
def tyX4 : Nat → FieldType := fun k => match k with
  | 0 => .int
  | 1 => .array .int
  | 2 => .array .int
  | _ => .array .int
abbrev wsX40 : List Cond := u_ws RX4 TX4 4
theorem nmX4 : ∀ a, a < 4 → ∀ b, b < 4 → a ≠ b → (TX4 a).2.1 ≠ (TX4 b).2.1 := by decide +kernel
theorem tyX4_ok : ∀ k, k < 4 → parseFieldDescriptor (TX4 k).2.2.1 = some (tyX4 k) := by decide +kernel
abbrev cX4_init : ByteArray := prog_6_method_1_code
def yX4_init : MethodName := ⟨RX4, "<init>", "()V"⟩
abbrev cX4_add : ByteArray := prog_6_method_2_code
def yX4_add : MethodName := ⟨RX4, "add", "(II)V"⟩
abbrev cX4_spentByAll : ByteArray := prog_6_method_3_code
def yX4_spentByAll : MethodName := ⟨RX4, "spentByAll", "()I"⟩
abbrev cX4_commonDivisor : ByteArray := prog_6_method_4_code
def yX4_commonDivisor : MethodName := ⟨RX4, "commonDivisor", "(II)I"⟩
abbrev cX4_copyFrom : ByteArray := prog_6_method_5_code
def yX4_copyFrom : MethodName := ⟨RX4, "copyFrom", "(LAuntsPuzzle$People;)V"⟩
def RX5 : String := "AuntsPuzzle$Pile"
def TX5 : u_T := fun k => match k with
  | 0 => ("AuntsPuzzle$Pile", "all", "[I", true)
  | 1 => ("AuntsPuzzle$Pile", "here", "[I", true)
  | _ => ("AuntsPuzzle$Pile", "guess", "[I", true)
def tyX5 : Nat → FieldType := fun k => match k with
  | 0 => .array .int
  | 1 => .array .int
  | _ => .array .int
abbrev wsX50 : List Cond := u_ws RX5 TX5 3
theorem nmX5 : ∀ a, a < 3 → ∀ b, b < 3 → a ≠ b → (TX5 a).2.1 ≠ (TX5 b).2.1 := by decide +kernel
theorem tyX5_ok : ∀ k, k < 3 → parseFieldDescriptor (TX5 k).2.2.1 = some (tyX5 k) := by decide +kernel
abbrev cX5_init : ByteArray := prog_7_method_1_code
def yX5_init : MethodName := ⟨RX5, "<init>", "()V"⟩
abbrev cX5_weigh : ByteArray := prog_7_method_2_code
def yX5_weigh : MethodName := ⟨RX5, "weigh", "(LAuntsPuzzle$Game;)V"⟩
abbrev cX5_isShort : ByteArray := prog_7_method_3_code
def yX5_isShort : MethodName := ⟨RX5, "isShort", "()Z"⟩
abbrev cX5_suspects : ByteArray := prog_7_method_4_code
def yX5_suspects : MethodName := ⟨RX5, "suspects", "(LAuntsPuzzle$Cut;)I"⟩
abbrev cX5_isAsHere : ByteArray := prog_7_method_5_code
def yX5_isAsHere : MethodName := ⟨RX5, "isAsHere", "()Z"⟩
abbrev cX5_clear : ByteArray := prog_7_method_6_code
def yX5_clear : MethodName := ⟨RX5, "clear", "([I)V"⟩
abbrev cX5_add : ByteArray := prog_7_method_7_code
def yX5_add : MethodName := ⟨RX5, "add", "([ILAuntsPuzzle$Cut;II)V"⟩
abbrev cX5_seemingPairs : ByteArray := prog_7_method_8_code
def yX5_seemingPairs : MethodName := ⟨RX5, "seemingPairs", "(LAuntsPuzzle$Cut;LAuntsPuzzle$Board;)I"⟩
abbrev cX5_seemingSides : ByteArray := prog_7_method_9_code
def yX5_seemingSides : MethodName := ⟨RX5, "seemingSides", "(LAuntsPuzzle$Cut;II)I"⟩
def RX6 : String := "AuntsPuzzle$Search"
def TX6 : u_T := fun k => match k with
  | 0 => ("AuntsPuzzle$Search", "mind", "LAuntsPuzzle$Board;", true)
  | 1 => ("AuntsPuzzle$Search", "firstFound", "LAuntsPuzzle$Board;", true)
  | 2 => ("AuntsPuzzle$Search", "isKnown", "Z", false)
  | 3 => ("AuntsPuzzle$Search", "found", "I", false)
  | _ => ("AuntsPuzzle$Search", "tried", "I", false)
def tyX6 : Nat → FieldType := fun k => match k with
  | 0 => .object "AuntsPuzzle$Board"
  | 1 => .object "AuntsPuzzle$Board"
  | 2 => .boolean
  | 3 => .int
  | _ => .int
abbrev wsX60 : List Cond := u_ws RX6 TX6 5
theorem nmX6 : ∀ a, a < 5 → ∀ b, b < 5 → a ≠ b → (TX6 a).2.1 ≠ (TX6 b).2.1 := by decide +kernel
theorem tyX6_ok : ∀ k, k < 5 → parseFieldDescriptor (TX6 k).2.2.1 = some (tyX6 k) := by decide +kernel
abbrev cX6_init : ByteArray := prog_8_method_1_code
def yX6_init : MethodName := ⟨RX6, "<init>", "()V"⟩
abbrev cX6_goThrough : ByteArray := prog_8_method_2_code
def yX6_goThrough : MethodName := ⟨RX6, "goThrough", "(LAuntsPuzzle$Cut;)V"⟩
abbrev cX6_layFrom : ByteArray := prog_8_method_3_code
def yX6_layFrom : MethodName := ⟨RX6, "layFrom", "(LAuntsPuzzle$Cut;I)V"⟩
abbrev cX6_layTurned : ByteArray := prog_8_method_4_code
def yX6_layTurned : MethodName := ⟨RX6, "layTurned", "(LAuntsPuzzle$Cut;II)V"⟩
def RX7 : String := "AuntsPuzzle$Tape"
def TX7 : u_T := fun k => match k with
  | 0 => ("AuntsPuzzle$Tape", "signs", "[C", true)
  | 1 => ("AuntsPuzzle$Tape", "length", "I", false)
  | 2 => ("AuntsPuzzle$Tape", "place", "I", false)
  | _ => ("AuntsPuzzle$Tape", "isBroken", "Z", false)
def tyX7 : Nat → FieldType := fun k => match k with
  | 0 => .array .char
  | 1 => .int
  | 2 => .int
  | _ => .boolean
abbrev wsX70 : List Cond := u_ws RX7 TX7 4
theorem nmX7 : ∀ a, a < 4 → ∀ b, b < 4 → a ≠ b → (TX7 a).2.1 ≠ (TX7 b).2.1 := by decide +kernel
theorem tyX7_ok : ∀ k, k < 4 → parseFieldDescriptor (TX7 k).2.2.1 = some (tyX7 k) := by decide +kernel
abbrev cX7_init : ByteArray := prog_9_method_1_code
def yX7_init : MethodName := ⟨RX7, "<init>", "()V"⟩
abbrev cX7_take : ByteArray := prog_9_method_2_code
def yX7_take : MethodName := ⟨RX7, "take", "(IJ)V"⟩
abbrev cX7_readInto : ByteArray := prog_9_method_3_code
def yX7_readInto : MethodName := ⟨RX7, "readInto", "(LAuntsPuzzle$Game;)I"⟩
abbrev cX7_passStatement : ByteArray := prog_9_method_4_code
def yX7_passStatement : MethodName := ⟨RX7, "passStatement", "()V"⟩
abbrev cX7_passCell : ByteArray := prog_9_method_5_code
def yX7_passCell : MethodName := ⟨RX7, "passCell", "()V"⟩
abbrev cX7_passOneOf : ByteArray := prog_9_method_6_code
def yX7_passOneOf : MethodName := ⟨RX7, "passOneOf", "(Ljava/lang/String;)V"⟩
abbrev cX7_isNext : ByteArray := prog_9_method_7_code
def yX7_isNext : MethodName := ⟨RX7, "isNext", "(Ljava/lang/String;)Z"⟩
abbrev cX7_obeyAll : ByteArray := prog_9_method_8_code
def yX7_obeyAll : MethodName := ⟨RX7, "obeyAll", "(LAuntsPuzzle$Game;)I"⟩
abbrev cX7_obey : ByteArray := prog_9_method_9_code
def yX7_obey : MethodName := ⟨RX7, "obey", "(LAuntsPuzzle$Game;II)Z"⟩
abbrev cX7_obeySize : ByteArray := prog_9_method_10_code
def yX7_obeySize : MethodName := ⟨RX7, "obeySize", "(LAuntsPuzzle$Game;II)Z"⟩
abbrev cX7_obeyEdge : ByteArray := prog_9_method_11_code
def yX7_obeyEdge : MethodName := ⟨RX7, "obeyEdge", "(LAuntsPuzzle$Game;II)Z"⟩
abbrev cX7_obeyColour : ByteArray := prog_9_method_12_code
def yX7_obeyColour : MethodName := ⟨RX7, "obeyColour", "(LAuntsPuzzle$Game;II)Z"⟩
abbrev cX7_obeyPerson : ByteArray := prog_9_method_13_code
def yX7_obeyPerson : MethodName := ⟨RX7, "obeyPerson", "(LAuntsPuzzle$Game;II)Z"⟩
abbrev cX7_digitAt : ByteArray := prog_9_method_14_code
def yX7_digitAt : MethodName := ⟨RX7, "digitAt", "(I)I"⟩
abbrev cX7_numberBetween : ByteArray := prog_9_method_15_code
def yX7_numberBetween : MethodName := ⟨RX7, "numberBetween", "(II)I"⟩
def RX8 : String := "AuntsPuzzle$Told"
def TX8 : u_T := fun k => match k with
  | 0 => ("AuntsPuzzle$Told", "pieces", "[I", true)
  | _ => ("AuntsPuzzle$Told", "length", "I", false)
def tyX8 : Nat → FieldType := fun k => match k with
  | 0 => .array .int
  | _ => .int
abbrev wsX80 : List Cond := u_ws RX8 TX8 2
theorem nmX8 : ∀ a, a < 2 → ∀ b, b < 2 → a ≠ b → (TX8 a).2.1 ≠ (TX8 b).2.1 := by decide +kernel
theorem tyX8_ok : ∀ k, k < 2 → parseFieldDescriptor (TX8 k).2.2.1 = some (tyX8 k) := by decide +kernel
abbrev cX8_init : ByteArray := prog_10_method_1_code
def yX8_init : MethodName := ⟨RX8, "<init>", "()V"⟩
abbrev cX8_add : ByteArray := prog_10_method_2_code
def yX8_add : MethodName := ⟨RX8, "add", "(I)I"⟩
abbrev cX8_compareWith : ByteArray := prog_10_method_3_code
def yX8_compareWith : MethodName := ⟨RX8, "compareWith", "(LAuntsPuzzle$Game;)I"⟩
def RX9 : String := "AuntsPuzzle$Work"
def TX9 : u_T := fun k => match k with
  | 0 => ("AuntsPuzzle$Work", "mind", "LAuntsPuzzle$Game;", true)
  | 1 => ("AuntsPuzzle$Work", "order", "[I", true)
  | 2 => ("AuntsPuzzle$Work", "marks", "[I", true)
  | 3 => ("AuntsPuzzle$Work", "rule", "I", false)
  | 4 => ("AuntsPuzzle$Work", "toDo", "I", false)
  | _ => ("AuntsPuzzle$Work", "marked", "I", false)
def tyX9 : Nat → FieldType := fun k => match k with
  | 0 => .object "AuntsPuzzle$Game"
  | 1 => .array .int
  | 2 => .array .int
  | 3 => .int
  | 4 => .int
  | _ => .int
abbrev wsX90 : List Cond := u_ws RX9 TX9 6
theorem nmX9 : ∀ a, a < 6 → ∀ b, b < 6 → a ≠ b → (TX9 a).2.1 ≠ (TX9 b).2.1 := by decide +kernel
theorem tyX9_ok : ∀ k, k < 6 → parseFieldDescriptor (TX9 k).2.2.1 = some (tyX9 k) := by decide +kernel
abbrev cX9_init : ByteArray := prog_11_method_1_code
def yX9_init : MethodName := ⟨RX9, "<init>", "()V"⟩
abbrev cX9_wholeBy : ByteArray := prog_11_method_2_code
def yX9_wholeBy : MethodName := ⟨RX9, "wholeBy", "(LAuntsPuzzle$Game;II)I"⟩
abbrev cX9_halfBy : ByteArray := prog_11_method_3_code
def yX9_halfBy : MethodName := ⟨RX9, "halfBy", "(LAuntsPuzzle$Game;II)I"⟩
abbrev cX9_together : ByteArray := prog_11_method_4_code
def yX9_together : MethodName := ⟨RX9, "together", "(LAuntsPuzzle$Game;II)I"⟩
abbrev cX9_begin : ByteArray := prog_11_method_5_code
def yX9_begin : MethodName := ⟨RX9, "begin", "(LAuntsPuzzle$Game;I)V"⟩
abbrev cX9_addCells : ByteArray := prog_11_method_6_code
def yX9_addCells : MethodName := ⟨RX9, "addCells", "(ZZ)V"⟩
abbrev cX9_sortingCost : ByteArray := prog_11_method_7_code
def yX9_sortingCost : MethodName := ⟨RX9, "sortingCost", "(LAuntsPuzzle$Board;)I"⟩
abbrev cX9_share : ByteArray := prog_11_method_8_code
def yX9_share : MethodName := ⟨RX9, "share", "(LAuntsPuzzle$Game;IIII)I"⟩
abbrev cX9_fillCell : ByteArray := prog_11_method_9_code
def yX9_fillCell : MethodName := ⟨RX9, "fillCell", "(II)I"⟩
abbrev cX9_isChosen : ByteArray := prog_11_method_10_code
def yX9_isChosen : MethodName := ⟨RX9, "isChosen", "(II)Z"⟩
abbrev cX9_mark : ByteArray := prog_11_method_11_code
def yX9_mark : MethodName := ⟨RX9, "mark", "(II)V"⟩
abbrev cX9_isMarked : ByteArray := prog_11_method_12_code
def yX9_isMarked : MethodName := ⟨RX9, "isMarked", "(II)Z"⟩
def RX10 : String := "AuntsPuzzle"
def TX10 : u_T := fun k => match k with
  | 0 => ("AuntsPuzzle", "now", "LAuntsPuzzle$Game;", true)
  | 1 => ("AuntsPuzzle", "draft", "LAuntsPuzzle$Game;", true)
  | 2 => ("AuntsPuzzle", "kept", "LAuntsPuzzle$Game;", true)
  | 3 => ("AuntsPuzzle", "tape", "LAuntsPuzzle$Tape;", true)
  | 4 => ("AuntsPuzzle", "told", "LAuntsPuzzle$Told;", true)
  | 5 => ("AuntsPuzzle", "search", "LAuntsPuzzle$Search;", true)
  | 6 => ("AuntsPuzzle", "work", "LAuntsPuzzle$Work;", true)
  | 7 => ("AuntsPuzzle", "pile", "LAuntsPuzzle$Pile;", true)
  | 8 => ("AuntsPuzzle", "night", "LAuntsPuzzle$Evening;", true)
  | 9 => ("AuntsPuzzle", "refusals", "[I", true)
  | 10 => ("AuntsPuzzle", "hasImage", "Z", false)
  | _ => ("AuntsPuzzle", "tries", "I", false)
def tyX10 : Nat → FieldType := fun k => match k with
  | 0 => .object "AuntsPuzzle$Game"
  | 1 => .object "AuntsPuzzle$Game"
  | 2 => .object "AuntsPuzzle$Game"
  | 3 => .object "AuntsPuzzle$Tape"
  | 4 => .object "AuntsPuzzle$Told"
  | 5 => .object "AuntsPuzzle$Search"
  | 6 => .object "AuntsPuzzle$Work"
  | 7 => .object "AuntsPuzzle$Pile"
  | 8 => .object "AuntsPuzzle$Evening"
  | 9 => .array .int
  | 10 => .boolean
  | _ => .int
abbrev wsX100 : List Cond := u_ws RX10 TX10 12
theorem nmX10 : ∀ a, a < 12 → ∀ b, b < 12 → a ≠ b → (TX10 a).2.1 ≠ (TX10 b).2.1 := by decide +kernel
theorem tyX10_ok : ∀ k, k < 12 → parseFieldDescriptor (TX10 k).2.2.1 = some (tyX10 k) := by decide +kernel
abbrev cX10_init : ByteArray := prog_1_method_1_code
def yX10_init : MethodName := ⟨RX10, "<init>", "()V"⟩
abbrev cX10_feed : ByteArray := prog_1_method_2_code
def yX10_feed : MethodName := ⟨RX10, "feed", "(IJ)I"⟩
abbrev cX10_puzzle : ByteArray := prog_1_method_3_code
def yX10_puzzle : MethodName := ⟨RX10, "puzzle", "()I"⟩
abbrev cX10_side : ByteArray := prog_1_method_4_code
def yX10_side : MethodName := ⟨RX10, "side", "(III)I"⟩
abbrev cX10_colour : ByteArray := prog_1_method_5_code
def yX10_colour : MethodName := ⟨RX10, "colour", "(I)I"⟩
abbrev cX10_person : ByteArray := prog_1_method_6_code
def yX10_person : MethodName := ⟨RX10, "person", "(II)I"⟩
abbrev cX10_laid : ByteArray := prog_1_method_7_code
def yX10_laid : MethodName := ⟨RX10, "laid", "(II)I"⟩
abbrev cX10_fits : ByteArray := prog_1_method_8_code
def yX10_fits : MethodName := ⟨RX10, "fits", "(III)I"⟩
abbrev cX10_seconds : ByteArray := prog_1_method_9_code
def yX10_seconds : MethodName := ⟨RX10, "seconds", "(IIII)I"⟩
abbrev cX10_tryIt : ByteArray := prog_1_method_10_code
def yX10_tryIt : MethodName := ⟨RX10, "tryIt", "(IIII)I"⟩
abbrev cX10_lift : ByteArray := prog_1_method_11_code
def yX10_lift : MethodName := ⟨RX10, "lift", "(I)I"⟩
abbrev cX10_pocket : ByteArray := prog_1_method_12_code
def yX10_pocket : MethodName := ⟨RX10, "pocket", "(I)I"⟩
abbrev cX10_find : ByteArray := prog_1_method_13_code
def yX10_find : MethodName := ⟨RX10, "find", "(I)I"⟩
abbrev cX10_ways : ByteArray := prog_1_method_14_code
def yX10_ways : MethodName := ⟨RX10, "ways", "(I)I"⟩
abbrev cX10_first : ByteArray := prog_1_method_15_code
def yX10_first : MethodName := ⟨RX10, "first", "(II)I"⟩
abbrev cX10_done : ByteArray := prog_1_method_16_code
def yX10_done : MethodName := ⟨RX10, "done", "(II)I"⟩
abbrev cX10_half : ByteArray := prog_1_method_17_code
def yX10_half : MethodName := ⟨RX10, "half", "(II)I"⟩
abbrev cX10_bestRule : ByteArray := prog_1_method_18_code
def yX10_bestRule : MethodName := ⟨RX10, "bestRule", "(I)I"⟩
abbrev cX10_table : ByteArray := prog_1_method_19_code
def yX10_table : MethodName := ⟨RX10, "table", "(II)I"⟩
abbrev cX10_line : ByteArray := prog_1_method_20_code
def yX10_line : MethodName := ⟨RX10, "line", "(I)I"⟩
abbrev cX10_seems : ByteArray := prog_1_method_21_code
def yX10_seems : MethodName := ⟨RX10, "seems", "()I"⟩
abbrev cX10_wrong : ByteArray := prog_1_method_22_code
def yX10_wrong : MethodName := ⟨RX10, "wrong", "()I"⟩
abbrev cX10_falseOne : ByteArray := prog_1_method_23_code
def yX10_falseOne : MethodName := ⟨RX10, "falseOne", "()I"⟩
abbrev cX10_over : ByteArray := prog_1_method_24_code
def yX10_over : MethodName := ⟨RX10, "over", "()I"⟩
abbrev cX10_balance : ByteArray := prog_1_method_25_code
def yX10_balance : MethodName := ⟨RX10, "balance", "(I)I"⟩
abbrev cX10_lacks : ByteArray := prog_1_method_26_code
def yX10_lacks : MethodName := ⟨RX10, "lacks", "()I"⟩
abbrev cX10_which : ByteArray := prog_1_method_27_code
def yX10_which : MethodName := ⟨RX10, "which", "()I"⟩
abbrev cX10_mine : ByteArray := prog_1_method_28_code
def yX10_mine : MethodName := ⟨RX10, "mine", "(II)I"⟩
abbrev cX10_hardest : ByteArray := prog_1_method_29_code
def yX10_hardest : MethodName := ⟨RX10, "hardest", "()I"⟩
abbrev cX10_keeper : ByteArray := prog_1_method_30_code
def yX10_keeper : MethodName := ⟨RX10, "keeper", "(II)I"⟩
abbrev cX10_evening : ByteArray := prog_1_method_31_code
def yX10_evening : MethodName := ⟨RX10, "evening", "(II)I"⟩
abbrev cX10_row : ByteArray := prog_1_method_32_code
def yX10_row : MethodName := ⟨RX10, "row", "(I)I"⟩
abbrev cX10_judge : ByteArray := prog_1_method_33_code
def yX10_judge : MethodName := ⟨RX10, "judge", "()I"⟩
abbrev cX10_image : ByteArray := prog_1_method_34_code
def yX10_image : MethodName := ⟨RX10, "image", "()I"⟩
abbrev cX10_on : ByteArray := prog_1_method_35_code
def yX10_on : MethodName := ⟨RX10, "on", "()I"⟩
abbrev cX10_count : ByteArray := prog_1_method_36_code
def yX10_count : MethodName := ⟨RX10, "count", "(I)I"⟩
abbrev cX10_refuse : ByteArray := prog_1_method_37_code
def yX10_refuse : MethodName := ⟨RX10, "refuse", "(I)I"⟩
abbrev cX10_isCell : ByteArray := prog_1_method_38_code
def yX10_isCell : MethodName := ⟨RX10, "isCell", "(I)Z"⟩
abbrev cX10_isPerson : ByteArray := prog_1_method_39_code
def yX10_isPerson : MethodName := ⟨RX10, "isPerson", "(I)Z"⟩
abbrev cX10_isTurn : ByteArray := prog_1_method_40_code
def yX10_isTurn : MethodName := ⟨RX10, "isTurn", "(I)Z"⟩
abbrev cX10_isRule : ByteArray := prog_1_method_41_code
def yX10_isRule : MethodName := ⟨RX10, "isRule", "(I)Z"⟩
abbrev cX10_refusalOfTry : ByteArray := prog_1_method_42_code
def yX10_refusalOfTry : MethodName := ⟨RX10, "refusalOfTry", "(IIII)I"⟩
abbrev cX10_refusalOfPlan : ByteArray := prog_1_method_43_code
def yX10_refusalOfPlan : MethodName := ⟨RX10, "refusalOfPlan", "(II)I"⟩
def RX11 : String := "AuntsPuzzleModel"
def TX11 : u_T := fun k => match k with
  | 0 => ("AuntsPuzzleModel", "refused", "[I", true)
  | 1 => ("AuntsPuzzleModel", "right", "[I", true)
  | 2 => ("AuntsPuzzleModel", "down", "[I", true)
  | 3 => ("AuntsPuzzleModel", "colour", "[I", true)
  | 4 => ("AuntsPuzzleModel", "piece", "[I", true)
  | 5 => ("AuntsPuzzleModel", "turn", "[I", true)
  | 6 => ("AuntsPuzzleModel", "by", "[I", true)
  | 7 => ("AuntsPuzzleModel", "lost", "[I", true)
  | 8 => ("AuntsPuzzleModel", "kind", "[I", true)
  | 9 => ("AuntsPuzzleModel", "pace", "[I", true)
  | 10 => ("AuntsPuzzleModel", "spent", "[I", true)
  | 11 => ("AuntsPuzzleModel", "rows", "I", false)
  | 12 => ("AuntsPuzzleModel", "columns", "I", false)
  | 13 => ("AuntsPuzzleModel", "people", "I", false)
  | 14 => ("AuntsPuzzleModel", "tries", "I", false)
  | 15 => ("AuntsPuzzleModel", "tape", "[I", true)
  | 16 => ("AuntsPuzzleModel", "letter", "[I", true)
  | 17 => ("AuntsPuzzleModel", "letterAt", "[I", true)
  | 18 => ("AuntsPuzzleModel", "first", "[I", true)
  | 19 => ("AuntsPuzzleModel", "second", "[I", true)
  | 20 => ("AuntsPuzzleModel", "third", "[I", true)
  | 21 => ("AuntsPuzzleModel", "taped", "I", false)
  | 22 => ("AuntsPuzzleModel", "at", "I", false)
  | 23 => ("AuntsPuzzleModel", "statements", "I", false)
  | 24 => ("AuntsPuzzleModel", "kept", "[I", true)
  | 25 => ("AuntsPuzzleModel", "hasImage", "Z", false)
  | 26 => ("AuntsPuzzleModel", "isKeeping", "Z", false)
  | 27 => ("AuntsPuzzleModel", "cursor", "I", false)
  | 28 => ("AuntsPuzzleModel", "firstPiece", "[I", true)
  | 29 => ("AuntsPuzzleModel", "firstTurn", "[I", true)
  | 30 => ("AuntsPuzzleModel", "ways", "I", false)
  | 31 => ("AuntsPuzzleModel", "tried", "I", false)
  | 32 => ("AuntsPuzzleModel", "hasFirst", "Z", false)
  | 33 => ("AuntsPuzzleModel", "order", "[I", true)
  | 34 => ("AuntsPuzzleModel", "failed", "[I", true)
  | 35 => ("AuntsPuzzleModel", "ordered", "I", false)
  | 36 => ("AuntsPuzzleModel", "failedMany", "I", false)
  | 37 => ("AuntsPuzzleModel", "lots", "I", false)
  | 38 => ("AuntsPuzzleModel", "row", "[I", true)
  | _ => ("AuntsPuzzleModel", "rowMany", "I", false)
def tyX11 : Nat → FieldType := fun k => match k with
  | 0 => .array .int
  | 1 => .array .int
  | 2 => .array .int
  | 3 => .array .int
  | 4 => .array .int
  | 5 => .array .int
  | 6 => .array .int
  | 7 => .array .int
  | 8 => .array .int
  | 9 => .array .int
  | 10 => .array .int
  | 11 => .int
  | 12 => .int
  | 13 => .int
  | 14 => .int
  | 15 => .array .int
  | 16 => .array .int
  | 17 => .array .int
  | 18 => .array .int
  | 19 => .array .int
  | 20 => .array .int
  | 21 => .int
  | 22 => .int
  | 23 => .int
  | 24 => .array .int
  | 25 => .boolean
  | 26 => .boolean
  | 27 => .int
  | 28 => .array .int
  | 29 => .array .int
  | 30 => .int
  | 31 => .int
  | 32 => .boolean
  | 33 => .array .int
  | 34 => .array .int
  | 35 => .int
  | 36 => .int
  | 37 => .int
  | 38 => .array .int
  | _ => .int
abbrev wsX110 : List Cond := u_ws RX11 TX11 40
theorem nmX11 : ∀ a, a < 40 → ∀ b, b < 40 → a ≠ b → (TX11 a).2.1 ≠ (TX11 b).2.1 := by decide +kernel
theorem tyX11_ok : ∀ k, k < 40 → parseFieldDescriptor (TX11 k).2.2.1 = some (tyX11 k) := by decide +kernel
abbrev cX11_init : ByteArray := prog_13_method_1_code
def yX11_init : MethodName := ⟨RX11, "<init>", "()V"⟩
abbrev cX11_no : ByteArray := prog_13_method_2_code
def yX11_no : MethodName := ⟨RX11, "no", "(I)I"⟩
abbrev cX11_lower : ByteArray := prog_13_method_3_code
def yX11_lower : MethodName := ⟨RX11, "lower", "(I)I"⟩
abbrev cX11_isIn : ByteArray := prog_13_method_4_code
def yX11_isIn : MethodName := ⟨RX11, "isIn", "(III)Z"⟩
abbrev cX11_bound : ByteArray := prog_13_method_5_code
def yX11_bound : MethodName := ⟨RX11, "bound", "(III)I"⟩
abbrev cX11_cells : ByteArray := prog_13_method_6_code
def yX11_cells : MethodName := ⟨RX11, "cells", "()I"⟩
abbrev cX11_anew : ByteArray := prog_13_method_7_code
def yX11_anew : MethodName := ⟨RX11, "anew", "(II)V"⟩
abbrev cX11_isCell : ByteArray := prog_13_method_8_code
def yX11_isCell : MethodName := ⟨RX11, "isCell", "(I)Z"⟩
abbrev cX11_isPerson : ByteArray := prog_13_method_9_code
def yX11_isPerson : MethodName := ⟨RX11, "isPerson", "(I)Z"⟩
abbrev cX11_beside : ByteArray := prog_13_method_10_code
def yX11_beside : MethodName := ⟨RX11, "beside", "(II)I"⟩
abbrev cX11_sideOf : ByteArray := prog_13_method_11_code
def yX11_sideOf : MethodName := ⟨RX11, "sideOf", "(II)I"⟩
abbrev cX11_turned : ByteArray := prog_13_method_12_code
def yX11_turned : MethodName := ⟨RX11, "turned", "(III)I"⟩
abbrev cX11_isRim : ByteArray := prog_13_method_13_code
def yX11_isRim : MethodName := ⟨RX11, "isRim", "(I)Z"⟩
abbrev cX11_feed : ByteArray := prog_13_method_14_code
def yX11_feed : MethodName := ⟨RX11, "feed", "(IJ)I"⟩
abbrev cX11_nextByte : ByteArray := prog_13_method_15_code
def yX11_nextByte : MethodName := ⟨RX11, "nextByte", "()I"⟩
abbrev cX11_isNext : ByteArray := prog_13_method_16_code
def yX11_isNext : MethodName := ⟨RX11, "isNext", "(I)Z"⟩
abbrev cX11_number : ByteArray := prog_13_method_17_code
def yX11_number : MethodName := ⟨RX11, "number", "(I)I"⟩
abbrev cX11_kindOf : ByteArray := prog_13_method_18_code
def yX11_kindOf : MethodName := ⟨RX11, "kindOf", "(I)I"⟩
abbrev cX11_readsEdge : ByteArray := prog_13_method_19_code
def yX11_readsEdge : MethodName := ⟨RX11, "readsEdge", "(I)Z"⟩
abbrev cX11_statement : ByteArray := prog_13_method_20_code
def yX11_statement : MethodName := ⟨RX11, "statement", "()Z"⟩
abbrev cX11_comes : ByteArray := prog_13_method_21_code
def yX11_comes : MethodName := ⟨RX11, "comes", "(I)Z"⟩
abbrev cX11_puzzle : ByteArray := prog_13_method_22_code
def yX11_puzzle : MethodName := ⟨RX11, "puzzle", "()I"⟩
abbrev cX11_passes : ByteArray := prog_13_method_23_code
def yX11_passes : MethodName := ⟨RX11, "passes", "([I)V"⟩
abbrev cX11_passOne : ByteArray := prog_13_method_24_code
def yX11_passOne : MethodName := ⟨RX11, "passOne", "(I)I"⟩
abbrev cX11_passesAll : ByteArray := prog_13_method_25_code
def yX11_passesAll : MethodName := ⟨RX11, "passesAll", "(IZ)V"⟩
abbrev cX11_isAtRim : ByteArray := prog_13_method_26_code
def yX11_isAtRim : MethodName := ⟨RX11, "isAtRim", "(III)Z"⟩
abbrev cX11_doesFit : ByteArray := prog_13_method_27_code
def yX11_doesFit : MethodName := ⟨RX11, "doesFit", "(III)Z"⟩
abbrev cX11_kindAt : ByteArray := prog_13_method_28_code
def yX11_kindAt : MethodName := ⟨RX11, "kindAt", "(III)I"⟩
abbrev cX11_halfUp : ByteArray := prog_13_method_29_code
def yX11_halfUp : MethodName := ⟨RX11, "halfUp", "(I)I"⟩
abbrev cX11_secondsOf : ByteArray := prog_13_method_30_code
def yX11_secondsOf : MethodName := ⟨RX11, "secondsOf", "(IIII)I"⟩
abbrev cX11_isLaid : ByteArray := prog_13_method_31_code
def yX11_isLaid : MethodName := ⟨RX11, "isLaid", "(I)Z"⟩
abbrev cX11_laidMany : ByteArray := prog_13_method_32_code
def yX11_laidMany : MethodName := ⟨RX11, "laidMany", "()I"⟩
abbrev cX11_lostMany : ByteArray := prog_13_method_33_code
def yX11_lostMany : MethodName := ⟨RX11, "lostMany", "()I"⟩
abbrev cX11_side : ByteArray := prog_13_method_34_code
def yX11_side : MethodName := ⟨RX11, "side", "(III)I"⟩
abbrev cX11_colour : ByteArray := prog_13_method_35_code
def yX11_colour : MethodName := ⟨RX11, "colour", "(I)I"⟩
abbrev cX11_person : ByteArray := prog_13_method_36_code
def yX11_person : MethodName := ⟨RX11, "person", "(II)I"⟩
abbrev cX11_laid : ByteArray := prog_13_method_37_code
def yX11_laid : MethodName := ⟨RX11, "laid", "(II)I"⟩
abbrev cX11_fits : ByteArray := prog_13_method_38_code
def yX11_fits : MethodName := ⟨RX11, "fits", "(III)I"⟩
abbrev cX11_seconds : ByteArray := prog_13_method_39_code
def yX11_seconds : MethodName := ⟨RX11, "seconds", "(IIII)I"⟩
abbrev cX11_tries : ByteArray := prog_13_method_40_code
def yX11_tries : MethodName := ⟨RX11, "tries", "(IIII)I"⟩
abbrev cX11_tryIt : ByteArray := prog_13_method_41_code
def yX11_tryIt : MethodName := ⟨RX11, "tryIt", "(IIII)I"⟩
abbrev cX11_lift : ByteArray := prog_13_method_42_code
def yX11_lift : MethodName := ⟨RX11, "lift", "(I)I"⟩
abbrev cX11_pocket : ByteArray := prog_13_method_43_code
def yX11_pocket : MethodName := ⟨RX11, "pocket", "(I)I"⟩
abbrev cX11_find : ByteArray := prog_13_method_44_code
def yX11_find : MethodName := ⟨RX11, "find", "(I)I"⟩
abbrev cX11_findWays : ByteArray := prog_13_method_45_code
def yX11_findWays : MethodName := ⟨RX11, "findWays", "()V"⟩
abbrev cX11_ways : ByteArray := prog_13_method_46_code
def yX11_ways : MethodName := ⟨RX11, "ways", "(I)I"⟩
abbrev cX11_first : ByteArray := prog_13_method_47_code
def yX11_first : MethodName := ⟨RX11, "first", "(II)I"⟩
abbrev cX11_findOrder : ByteArray := prog_13_method_48_code
def yX11_findOrder : MethodName := ⟨RX11, "findOrder", "(I)V"⟩
abbrev cX11_nubs : ByteArray := prog_13_method_49_code
def yX11_nubs : MethodName := ⟨RX11, "nubs", "(I)I"⟩
abbrev cX11_hasFlat : ByteArray := prog_13_method_50_code
def yX11_hasFlat : MethodName := ⟨RX11, "hasFlat", "(I)Z"⟩
abbrev cX11_isAsked : ByteArray := prog_13_method_51_code
def yX11_isAsked : MethodName := ⟨RX11, "isAsked", "(III)Z"⟩
abbrev cX11_sortsFor : ByteArray := prog_13_method_52_code
def yX11_sortsFor : MethodName := ⟨RX11, "sortsFor", "(I)I"⟩
abbrev cX11_formOf : ByteArray := prog_13_method_53_code
def yX11_formOf : MethodName := ⟨RX11, "formOf", "(II)I"⟩
abbrev cX11_hasFailed : ByteArray := prog_13_method_54_code
def yX11_hasFailed : MethodName := ⟨RX11, "hasFailed", "(I)Z"⟩
abbrev cX11_goesThrough : ByteArray := prog_13_method_55_code
def yX11_goesThrough : MethodName := ⟨RX11, "goesThrough", "(III)I"⟩
abbrev cX11_doneBy : ByteArray := prog_13_method_56_code
def yX11_doneBy : MethodName := ⟨RX11, "doneBy", "(IIIII)I"⟩
abbrev cX11_doneOf : ByteArray := prog_13_method_57_code
def yX11_doneOf : MethodName := ⟨RX11, "doneOf", "(II)I"⟩
abbrev cX11_done : ByteArray := prog_13_method_58_code
def yX11_done : MethodName := ⟨RX11, "done", "(II)I"⟩
abbrev cX11_half : ByteArray := prog_13_method_59_code
def yX11_half : MethodName := ⟨RX11, "half", "(II)I"⟩
abbrev cX11_bestRule : ByteArray := prog_13_method_60_code
def yX11_bestRule : MethodName := ⟨RX11, "bestRule", "(I)I"⟩
abbrev cX11_tableOf : ByteArray := prog_13_method_61_code
def yX11_tableOf : MethodName := ⟨RX11, "tableOf", "(II)I"⟩
abbrev cX11_table : ByteArray := prog_13_method_62_code
def yX11_table : MethodName := ⟨RX11, "table", "(II)I"⟩
abbrev cX11_line : ByteArray := prog_13_method_63_code
def yX11_line : MethodName := ⟨RX11, "line", "(I)I"⟩
abbrev cX11_seemsOf : ByteArray := prog_13_method_64_code
def yX11_seemsOf : MethodName := ⟨RX11, "seemsOf", "()I"⟩
abbrev cX11_seems : ByteArray := prog_13_method_65_code
def yX11_seems : MethodName := ⟨RX11, "seems", "()I"⟩
abbrev cX11_isOwn : ByteArray := prog_13_method_66_code
def yX11_isOwn : MethodName := ⟨RX11, "isOwn", "(I)Z"⟩
abbrev cX11_wrong : ByteArray := prog_13_method_67_code
def yX11_wrong : MethodName := ⟨RX11, "wrong", "()I"⟩
abbrev cX11_falseOne : ByteArray := prog_13_method_68_code
def yX11_falseOne : MethodName := ⟨RX11, "falseOne", "()I"⟩
abbrev cX11_fitsSomewhere : ByteArray := prog_13_method_69_code
def yX11_fitsSomewhere : MethodName := ⟨RX11, "fitsSomewhere", "(I)Z"⟩
abbrev cX11_over : ByteArray := prog_13_method_70_code
def yX11_over : MethodName := ⟨RX11, "over", "()I"⟩
abbrev cX11_balanceOn : ByteArray := prog_13_method_71_code
def yX11_balanceOn : MethodName := ⟨RX11, "balanceOn", "(II)I"⟩
abbrev cX11_balanceOf : ByteArray := prog_13_method_72_code
def yX11_balanceOf : MethodName := ⟨RX11, "balanceOf", "(I)I"⟩
abbrev cX11_balance : ByteArray := prog_13_method_73_code
def yX11_balance : MethodName := ⟨RX11, "balance", "(I)I"⟩
abbrev cX11_doesLack : ByteArray := prog_13_method_74_code
def yX11_doesLack : MethodName := ⟨RX11, "doesLack", "()Z"⟩
abbrev cX11_lacks : ByteArray := prog_13_method_75_code
def yX11_lacks : MethodName := ⟨RX11, "lacks", "()I"⟩
abbrev cX11_which : ByteArray := prog_13_method_76_code
def yX11_which : MethodName := ⟨RX11, "which", "()I"⟩
abbrev cX11_divisor : ByteArray := prog_13_method_77_code
def yX11_divisor : MethodName := ⟨RX11, "divisor", "(II)I"⟩
abbrev cX11_mine : ByteArray := prog_13_method_78_code
def yX11_mine : MethodName := ⟨RX11, "mine", "(II)I"⟩
abbrev cX11_classed : ByteArray := prog_13_method_79_code
def yX11_classed : MethodName := ⟨RX11, "classed", "(II)I"⟩
abbrev cX11_hardest : ByteArray := prog_13_method_80_code
def yX11_hardest : MethodName := ⟨RX11, "hardest", "()I"⟩
abbrev cX11_keeper : ByteArray := prog_13_method_81_code
def yX11_keeper : MethodName := ⟨RX11, "keeper", "(II)I"⟩
abbrev cX11_draw : ByteArray := prog_13_method_82_code
def yX11_draw : MethodName := ⟨RX11, "draw", "(I)I"⟩
abbrev cX11_evening : ByteArray := prog_13_method_83_code
def yX11_evening : MethodName := ⟨RX11, "evening", "(II)I"⟩
abbrev cX11_row : ByteArray := prog_13_method_84_code
def yX11_row : MethodName := ⟨RX11, "row", "(I)I"⟩
abbrev cX11_judge : ByteArray := prog_13_method_85_code
def yX11_judge : MethodName := ⟨RX11, "judge", "()I"⟩
abbrev cX11_image : ByteArray := prog_13_method_86_code
def yX11_image : MethodName := ⟨RX11, "image", "()I"⟩
abbrev cX11_on : ByteArray := prog_13_method_87_code
def yX11_on : MethodName := ⟨RX11, "on", "()I"⟩
abbrev cX11_count : ByteArray := prog_13_method_88_code
def yX11_count : MethodName := ⟨RX11, "count", "(I)I"⟩
def RJ11 : String := "java/lang/Character"
def TJ11 : u_T := fun k => match k with
  | _ => ("", "", "", false)
def tyJ11 : Nat → FieldType := fun k => match k with
  | _ => .int
abbrev wsJ110 : List Cond := u_ws RJ11 TJ11 0
theorem nmJ11 : ∀ a, a < 0 → ∀ b, b < 0 → a ≠ b → (TJ11 a).2.1 ≠ (TJ11 b).2.1 := by decide +kernel
theorem tyJ11_ok : ∀ k, k < 0 → parseFieldDescriptor (TJ11 k).2.2.1 = some (tyJ11 k) := by decide +kernel
abbrev cJ11_isValidCodePoint_9a6ad : ByteArray := prog_14_method_11_code
def yJ11_isValidCodePoint_9a6ad : MethodName := ⟨RJ11, "isValidCodePoint", "(I)Z"⟩
abbrev cJ11_highSurrogate_5068e : ByteArray := prog_14_method_28_code
def yJ11_highSurrogate_5068e : MethodName := ⟨RJ11, "highSurrogate", "(I)C"⟩
abbrev cJ11_lowSurrogate_5068e : ByteArray := prog_14_method_29_code
def yJ11_lowSurrogate_5068e : MethodName := ⟨RJ11, "lowSurrogate", "(I)C"⟩
def RJ9 : String := "java/lang/Math"
def TJ9 : u_T := fun k => match k with
  | _ => ("", "", "", false)
def tyJ9 : Nat → FieldType := fun k => match k with
  | _ => .int
abbrev wsJ90 : List Cond := u_ws RJ9 TJ9 0
theorem nmJ9 : ∀ a, a < 0 → ∀ b, b < 0 → a ≠ b → (TJ9 a).2.1 ≠ (TJ9 b).2.1 := by decide +kernel
theorem tyJ9_ok : ∀ k, k < 0 → parseFieldDescriptor (TJ9 k).2.2.1 = some (tyJ9 k) := by decide +kernel
abbrev cJ9_abs_0f7a4 : ByteArray := prog_15_method_59_code
def yJ9_abs_0f7a4 : MethodName := ⟨RJ9, "abs", "(I)I"⟩
abbrev cJ9_max_7cf53 : ByteArray := prog_15_method_65_code
def yJ9_max_7cf53 : MethodName := ⟨RJ9, "max", "(II)I"⟩
abbrev cJ9_min_7cf53 : ByteArray := prog_15_method_69_code
def yJ9_min_7cf53 : MethodName := ⟨RJ9, "min", "(II)I"⟩
def RJ0 : String := "java/lang/String"
def TJ0 : u_T := fun k => match k with
  | _ => ("", "", "", false)
def tyJ0 : Nat → FieldType := fun k => match k with
  | _ => .int
abbrev wsJ00 : List Cond := u_ws RJ0 TJ0 0
theorem nmJ0 : ∀ a, a < 0 → ∀ b, b < 0 → a ≠ b → (TJ0 a).2.1 ≠ (TJ0 b).2.1 := by decide +kernel
theorem tyJ0_ok : ∀ k, k < 0 → parseFieldDescriptor (TJ0 k).2.2.1 = some (tyJ0 k) := by decide +kernel
abbrev cJ0_length_8abf5 : ByteArray := prog_16_method_54_code
def yJ0_length_8abf5 : MethodName := ⟨RJ0, "length", "()I"⟩
abbrev cJ0_indexOf_0f7a4 : ByteArray := prog_16_method_79_code
def yJ0_indexOf_0f7a4 : MethodName := ⟨RJ0, "indexOf", "(I)I"⟩
abbrev cJ0_indexOf_7cf53 : ByteArray := prog_16_method_80_code
def yJ0_indexOf_7cf53 : MethodName := ⟨RJ0, "indexOf", "(II)I"⟩
abbrev cJ0_coder_7d493 : ByteArray := prog_16_method_152_code
def yJ0_coder_7d493 : MethodName := ⟨RJ0, "coder", "()B"⟩
abbrev cJ0_isLatin1_aae02 : ByteArray := prog_16_method_154_code
def yJ0_isLatin1_aae02 : MethodName := ⟨RJ0, "isLatin1", "()Z"⟩
abbrev cJ0_checkBoundsBeginEnd_23922 : ByteArray := prog_16_method_158_code
def yJ0_checkBoundsBeginEnd_23922 : MethodName := ⟨RJ0, "checkBoundsBeginEnd", "(III)V"⟩
def RJ1 : String := "java/lang/StringLatin1"
def TJ1 : u_T := fun k => match k with
  | _ => ("", "", "", false)
def tyJ1 : Nat → FieldType := fun k => match k with
  | _ => .int
abbrev wsJ10 : List Cond := u_ws RJ1 TJ1 0
theorem nmJ1 : ∀ a, a < 0 → ∀ b, b < 0 → a ≠ b → (TJ1 a).2.1 ≠ (TJ1 b).2.1 := by decide +kernel
theorem tyJ1_ok : ∀ k, k < 0 → parseFieldDescriptor (TJ1 k).2.2.1 = some (tyJ1 k) := by decide +kernel
abbrev cJ1_canEncode_9a6ad : ByteArray := prog_17_method_4_code
def yJ1_canEncode_9a6ad : MethodName := ⟨RJ1, "canEncode", "(I)Z"⟩
abbrev cJ1_indexOf_4cfef : ByteArray := prog_17_method_22_code
def yJ1_indexOf_4cfef : MethodName := ⟨RJ1, "indexOf", "([BIII)I"⟩
abbrev cJ1_indexOfChar_4cfef : ByteArray := prog_17_method_23_code
def yJ1_indexOfChar_4cfef : MethodName := ⟨RJ1, "indexOfChar", "([BIII)I"⟩
def RJ2 : String := "java/lang/StringUTF16"
def TJ2 : u_T := fun k => match k with
  | _ => ("", "", "", false)
def tyJ2 : Nat → FieldType := fun k => match k with
  | _ => .int
abbrev wsJ20 : List Cond := u_ws RJ2 TJ2 0
theorem nmJ2 : ∀ a, a < 0 → ∀ b, b < 0 → a ≠ b → (TJ2 a).2.1 ≠ (TJ2 b).2.1 := by decide +kernel
theorem tyJ2_ok : ∀ k, k < 0 → parseFieldDescriptor (TJ2 k).2.2.1 = some (tyJ2 k) := by decide +kernel
abbrev cJ2_getChar_3b067 : ByteArray := prog_18_method_5_code
def yJ2_getChar_3b067 : MethodName := ⟨RJ2, "getChar", "([BI)C"⟩
abbrev cJ2_length_9d52b : ByteArray := prog_18_method_6_code
def yJ2_length_9d52b : MethodName := ⟨RJ2, "length", "([B)I"⟩
abbrev cJ2_indexOf_4cfef : ByteArray := prog_18_method_40_code
def yJ2_indexOf_4cfef : MethodName := ⟨RJ2, "indexOf", "([BIII)I"⟩
abbrev cJ2_indexOfChar_4cfef : ByteArray := prog_18_method_47_code
def yJ2_indexOfChar_4cfef : MethodName := ⟨RJ2, "indexOfChar", "([BIII)I"⟩
abbrev cJ2_indexOfCharUnsafe_4cfef : ByteArray := prog_18_method_48_code
def yJ2_indexOfCharUnsafe_4cfef : MethodName := ⟨RJ2, "indexOfCharUnsafe", "([BIII)I"⟩
abbrev cJ2_indexOfSupplementary_4cfef : ByteArray := prog_18_method_49_code
def yJ2_indexOfSupplementary_4cfef : MethodName := ⟨RJ2, "indexOfSupplementary", "([BIII)I"⟩
abbrev cJ2_checkBoundsBeginEnd_d044e : ByteArray := prog_18_method_93_code
def yJ2_checkBoundsBeginEnd_d044e : MethodName := ⟨RJ2, "checkBoundsBeginEnd", "(II[B)V"⟩
def RJ10 : String := "java/lang/System"
def TJ10 : u_T := fun k => match k with
  | _ => ("", "", "", false)
def tyJ10 : Nat → FieldType := fun k => match k with
  | _ => .int
abbrev wsJ100 : List Cond := u_ws RJ10 TJ10 0
theorem nmJ10 : ∀ a, a < 0 → ∀ b, b < 0 → a ≠ b → (TJ10 a).2.1 ≠ (TJ10 b).2.1 := by decide +kernel
theorem tyJ10_ok : ∀ k, k < 0 → parseFieldDescriptor (TJ10 k).2.2.1 = some (tyJ10 k) := by decide +kernel
def RJ3 : String := "jdk/internal/util/Preconditions"
def TJ3 : u_T := fun k => match k with
  | _ => ("", "", "", false)
def tyJ3 : Nat → FieldType := fun k => match k with
  | _ => .int
abbrev wsJ30 : List Cond := u_ws RJ3 TJ3 0
theorem nmJ3 : ∀ a, a < 0 → ∀ b, b < 0 → a ≠ b → (TJ3 a).2.1 ≠ (TJ3 b).2.1 := by decide +kernel
theorem tyJ3_ok : ∀ k, k < 0 → parseFieldDescriptor (TJ3 k).2.2.1 = some (tyJ3 k) := by decide +kernel
abbrev cJ3_checkFromToIndex_8c36e : ByteArray := prog_20_method_12_code
def yJ3_checkFromToIndex_8c36e : MethodName := ⟨RJ3, "checkFromToIndex", "(IIILjava/util/function/BiFunction;)I"⟩
def RL : String := "AuntsPuzzleLaw"
abbrev cL_law : ByteArray := code
def yL_law : MethodName := ⟨RL, "law", "([I)Z"⟩
abbrev vwCl : List vw_C := [(RX0, TX0, 5), (RX1, TX1, 7), (RX2, TX2, 2), (RX3, TX3, 3), (RX4, TX4, 4), (RX5, TX5, 3), (RX6, TX6, 5), (RX7, TX7, 4), (RX8, TX8, 2), (RX9, TX9, 6), (RX10, TX10, 12), (RX11, TX11, 40)]
end
section
theorem dX0_init_0 : decode cX0_init 0 = .ok (.aload_n 0, 1) := by decide +kernel
theorem dX0_init_1 : decode cX0_init 1 = .ok (.invokespecial 3, 3) := by decide +kernel
theorem dX0_init_4 : decode cX0_init 4 = .ok (.aload_n 0, 1) := by decide +kernel
theorem dX0_init_5 : decode cX0_init 5 = .ok (.bipush 16, 2) := by decide +kernel
theorem dX0_init_7 : decode cX0_init 7 = .ok (.newarray .int, 2) := by decide +kernel
theorem dX0_init_9 : decode cX0_init 9 = .ok (.putfield 9, 3) := by decide +kernel
theorem dX0_init_12 : decode cX0_init 12 = .ok (.aload_n 0, 1) := by decide +kernel
theorem dX0_init_13 : decode cX0_init 13 = .ok (.bipush 16, 2) := by decide +kernel
theorem dX0_init_15 : decode cX0_init 15 = .ok (.newarray .int, 2) := by decide +kernel
theorem dX0_init_17 : decode cX0_init 17 = .ok (.putfield 15, 3) := by decide +kernel
theorem dX0_init_20 : decode cX0_init 20 = .ok (.aload_n 0, 1) := by decide +kernel
theorem dX0_init_21 : decode cX0_init 21 = .ok (.bipush 16, 2) := by decide +kernel
theorem dX0_init_23 : decode cX0_init 23 = .ok (.newarray .int, 2) := by decide +kernel
theorem dX0_init_25 : decode cX0_init 25 = .ok (.putfield 18, 3) := by decide +kernel
theorem dX0_init_28 : decode cX0_init 28 = .ok (.aload_n 0, 1) := by decide +kernel
theorem dX0_init_29 : decode cX0_init 29 = .ok (.bipush 16, 2) := by decide +kernel
theorem dX0_init_31 : decode cX0_init 31 = .ok (.newarray .boolean, 2) := by decide +kernel
theorem dX0_init_33 : decode cX0_init 33 = .ok (.putfield 21, 3) := by decide +kernel
theorem dX0_init_36 : decode cX0_init 36 = .ok (.aload_n 0, 1) := by decide +kernel
theorem dX0_init_37 : decode cX0_init 37 = .ok (.bipush 16, 2) := by decide +kernel
theorem dX0_init_39 : decode cX0_init 39 = .ok (.newarray .boolean, 2) := by decide +kernel
theorem dX0_init_41 : decode cX0_init 41 = .ok (.putfield 25, 3) := by decide +kernel
theorem dX0_init_44 : decode cX0_init 44 = .ok (.return_, 1) := by decide +kernel
theorem dX0_clear_0 : decode cX0_clear 0 = .ok (.iconst 0, 1) := by decide +kernel
theorem dX0_clear_1 : decode cX0_clear 1 = .ok (.istore_n 1, 1) := by decide +kernel
theorem dX0_clear_2 : decode cX0_clear 2 = .ok (.iload_n 1, 1) := by decide +kernel
theorem dX0_clear_3 : decode cX0_clear 3 = .ok (.bipush 16, 2) := by decide +kernel
theorem dX0_clear_5 : decode cX0_clear 5 = .ok (.if_icmp .ge 30, 3) := by decide +kernel
theorem dX0_clear_8 : decode cX0_clear 8 = .ok (.aload_n 0, 1) := by decide +kernel
theorem dX0_clear_9 : decode cX0_clear 9 = .ok (.getfield 9, 3) := by decide +kernel
theorem dX0_clear_12 : decode cX0_clear 12 = .ok (.iload_n 1, 1) := by decide +kernel
theorem dX0_clear_13 : decode cX0_clear 13 = .ok (.iconst (-1), 1) := by decide +kernel
theorem dX0_clear_14 : decode cX0_clear 14 = .ok (.iastore, 1) := by decide +kernel
theorem dX0_clear_15 : decode cX0_clear 15 = .ok (.aload_n 0, 1) := by decide +kernel
theorem dX0_clear_16 : decode cX0_clear 16 = .ok (.getfield 21, 3) := by decide +kernel
theorem dX0_clear_19 : decode cX0_clear 19 = .ok (.iload_n 1, 1) := by decide +kernel
theorem dX0_clear_20 : decode cX0_clear 20 = .ok (.iconst 0, 1) := by decide +kernel
theorem dX0_clear_21 : decode cX0_clear 21 = .ok (.bastore, 1) := by decide +kernel
theorem dX0_clear_22 : decode cX0_clear 22 = .ok (.aload_n 0, 1) := by decide +kernel
theorem dX0_clear_23 : decode cX0_clear 23 = .ok (.getfield 25, 3) := by decide +kernel
theorem dX0_clear_26 : decode cX0_clear 26 = .ok (.iload_n 1, 1) := by decide +kernel
theorem dX0_clear_27 : decode cX0_clear 27 = .ok (.iconst 0, 1) := by decide +kernel
theorem dX0_clear_28 : decode cX0_clear 28 = .ok (.bastore, 1) := by decide +kernel
theorem dX0_clear_29 : decode cX0_clear 29 = .ok (.iinc 1 1, 3) := by decide +kernel
theorem dX0_clear_32 : decode cX0_clear 32 = .ok (.goto (-30), 3) := by decide +kernel
theorem dX0_clear_35 : decode cX0_clear 35 = .ok (.return_, 1) := by decide +kernel
theorem dX0_isFilled_0 : decode cX0_isFilled 0 = .ok (.aload_n 0, 1) := by decide +kernel
theorem dX0_isFilled_1 : decode cX0_isFilled 1 = .ok (.getfield 9, 3) := by decide +kernel
theorem dX0_isFilled_4 : decode cX0_isFilled 4 = .ok (.iload_n 1, 1) := by decide +kernel
theorem dX0_isFilled_5 : decode cX0_isFilled 5 = .ok (.iaload, 1) := by decide +kernel
theorem dX0_isFilled_6 : decode cX0_isFilled 6 = .ok (.iconst (-1), 1) := by decide +kernel
theorem dX0_isFilled_7 : decode cX0_isFilled 7 = .ok (.if_icmp .eq 7, 3) := by decide +kernel
theorem dX0_isFilled_10 : decode cX0_isFilled 10 = .ok (.iconst 1, 1) := by decide +kernel
theorem dX0_isFilled_11 : decode cX0_isFilled 11 = .ok (.goto 4, 3) := by decide +kernel
theorem dX0_isFilled_14 : decode cX0_isFilled 14 = .ok (.iconst 0, 1) := by decide +kernel
theorem dX0_isFilled_15 : decode cX0_isFilled 15 = .ok (.ireturn, 1) := by decide +kernel
theorem dX0_isAway_0 : decode cX0_isAway 0 = .ok (.aload_n 0, 1) := by decide +kernel
theorem dX0_isAway_1 : decode cX0_isAway 1 = .ok (.getfield 21, 3) := by decide +kernel
theorem dX0_isAway_4 : decode cX0_isAway 4 = .ok (.iload_n 1, 1) := by decide +kernel
theorem dX0_isAway_5 : decode cX0_isAway 5 = .ok (.baload, 1) := by decide +kernel
theorem dX0_isAway_6 : decode cX0_isAway 6 = .ok (.ifCond .ne 12, 3) := by decide +kernel
theorem dX0_isAway_9 : decode cX0_isAway 9 = .ok (.aload_n 0, 1) := by decide +kernel
theorem dX0_isAway_10 : decode cX0_isAway 10 = .ok (.getfield 25, 3) := by decide +kernel
theorem dX0_isAway_13 : decode cX0_isAway 13 = .ok (.iload_n 1, 1) := by decide +kernel
theorem dX0_isAway_14 : decode cX0_isAway 14 = .ok (.baload, 1) := by decide +kernel
theorem dX0_isAway_15 : decode cX0_isAway 15 = .ok (.ifCond .eq 7, 3) := by decide +kernel
theorem dX0_isAway_18 : decode cX0_isAway 18 = .ok (.iconst 1, 1) := by decide +kernel
theorem dX0_isAway_19 : decode cX0_isAway 19 = .ok (.goto 4, 3) := by decide +kernel
theorem dX0_isAway_22 : decode cX0_isAway 22 = .ok (.iconst 0, 1) := by decide +kernel
theorem dX0_isAway_23 : decode cX0_isAway 23 = .ok (.ireturn, 1) := by decide +kernel
theorem dX0_isRight_0 : decode cX0_isRight 0 = .ok (.aload_n 0, 1) := by decide +kernel
theorem dX0_isRight_1 : decode cX0_isRight 1 = .ok (.getfield 9, 3) := by decide +kernel
theorem dX0_isRight_4 : decode cX0_isRight 4 = .ok (.iload_n 1, 1) := by decide +kernel
theorem dX0_isRight_5 : decode cX0_isRight 5 = .ok (.iaload, 1) := by decide +kernel
theorem dX0_isRight_6 : decode cX0_isRight 6 = .ok (.iload_n 1, 1) := by decide +kernel
theorem dX0_isRight_7 : decode cX0_isRight 7 = .ok (.if_icmp .ne 16, 3) := by decide +kernel
theorem dX0_isRight_10 : decode cX0_isRight 10 = .ok (.aload_n 0, 1) := by decide +kernel
theorem dX0_isRight_11 : decode cX0_isRight 11 = .ok (.getfield 15, 3) := by decide +kernel
theorem dX0_isRight_14 : decode cX0_isRight 14 = .ok (.iload_n 1, 1) := by decide +kernel
theorem dX0_isRight_15 : decode cX0_isRight 15 = .ok (.iaload, 1) := by decide +kernel
theorem dX0_isRight_16 : decode cX0_isRight 16 = .ok (.ifCond .ne 7, 3) := by decide +kernel
theorem dX0_isRight_19 : decode cX0_isRight 19 = .ok (.iconst 1, 1) := by decide +kernel
theorem dX0_isRight_20 : decode cX0_isRight 20 = .ok (.goto 4, 3) := by decide +kernel
theorem dX0_isRight_23 : decode cX0_isRight 23 = .ok (.iconst 0, 1) := by decide +kernel
theorem dX0_isRight_24 : decode cX0_isRight 24 = .ok (.ireturn, 1) := by decide +kernel
theorem dX0_put_0 : decode cX0_put 0 = .ok (.aload_n 0, 1) := by decide +kernel
theorem dX0_put_1 : decode cX0_put 1 = .ok (.getfield 9, 3) := by decide +kernel
theorem dX0_put_4 : decode cX0_put 4 = .ok (.iload_n 1, 1) := by decide +kernel
theorem dX0_put_5 : decode cX0_put 5 = .ok (.iload_n 2, 1) := by decide +kernel
theorem dX0_put_6 : decode cX0_put 6 = .ok (.iastore, 1) := by decide +kernel
theorem dX0_put_7 : decode cX0_put 7 = .ok (.aload_n 0, 1) := by decide +kernel
theorem dX0_put_8 : decode cX0_put 8 = .ok (.getfield 15, 3) := by decide +kernel
theorem dX0_put_11 : decode cX0_put 11 = .ok (.iload_n 1, 1) := by decide +kernel
theorem dX0_put_12 : decode cX0_put 12 = .ok (.iload_n 3, 1) := by decide +kernel
theorem dX0_put_13 : decode cX0_put 13 = .ok (.iastore, 1) := by decide +kernel
theorem dX0_put_14 : decode cX0_put 14 = .ok (.aload_n 0, 1) := by decide +kernel
theorem dX0_put_15 : decode cX0_put 15 = .ok (.getfield 18, 3) := by decide +kernel
theorem dX0_put_18 : decode cX0_put 18 = .ok (.iload_n 1, 1) := by decide +kernel
theorem dX0_put_19 : decode cX0_put 19 = .ok (.iload 4, 2) := by decide +kernel
theorem dX0_put_21 : decode cX0_put 21 = .ok (.iastore, 1) := by decide +kernel
theorem dX0_put_22 : decode cX0_put 22 = .ok (.aload_n 0, 1) := by decide +kernel
theorem dX0_put_23 : decode cX0_put 23 = .ok (.getfield 21, 3) := by decide +kernel
theorem dX0_put_26 : decode cX0_put 26 = .ok (.iload_n 2, 1) := by decide +kernel
theorem dX0_put_27 : decode cX0_put 27 = .ok (.iconst 1, 1) := by decide +kernel
theorem dX0_put_28 : decode cX0_put 28 = .ok (.bastore, 1) := by decide +kernel
theorem dX0_put_29 : decode cX0_put 29 = .ok (.return_, 1) := by decide +kernel
theorem dX0_takeUp_0 : decode cX0_takeUp 0 = .ok (.aload_n 0, 1) := by decide +kernel
theorem dX0_takeUp_1 : decode cX0_takeUp 1 = .ok (.getfield 9, 3) := by decide +kernel
theorem dX0_takeUp_4 : decode cX0_takeUp 4 = .ok (.iload_n 1, 1) := by decide +kernel
theorem dX0_takeUp_5 : decode cX0_takeUp 5 = .ok (.iaload, 1) := by decide +kernel
theorem dX0_takeUp_6 : decode cX0_takeUp 6 = .ok (.istore_n 2, 1) := by decide +kernel
theorem dX0_takeUp_7 : decode cX0_takeUp 7 = .ok (.iload_n 2, 1) := by decide +kernel
theorem dX0_takeUp_8 : decode cX0_takeUp 8 = .ok (.iconst (-1), 1) := by decide +kernel
theorem dX0_takeUp_9 : decode cX0_takeUp 9 = .ok (.if_icmp .eq 17, 3) := by decide +kernel
theorem dX0_takeUp_12 : decode cX0_takeUp 12 = .ok (.aload_n 0, 1) := by decide +kernel
theorem dX0_takeUp_13 : decode cX0_takeUp 13 = .ok (.getfield 21, 3) := by decide +kernel
theorem dX0_takeUp_16 : decode cX0_takeUp 16 = .ok (.iload_n 2, 1) := by decide +kernel
theorem dX0_takeUp_17 : decode cX0_takeUp 17 = .ok (.iconst 0, 1) := by decide +kernel
theorem dX0_takeUp_18 : decode cX0_takeUp 18 = .ok (.bastore, 1) := by decide +kernel
theorem dX0_takeUp_19 : decode cX0_takeUp 19 = .ok (.aload_n 0, 1) := by decide +kernel
theorem dX0_takeUp_20 : decode cX0_takeUp 20 = .ok (.getfield 9, 3) := by decide +kernel
theorem dX0_takeUp_23 : decode cX0_takeUp 23 = .ok (.iload_n 1, 1) := by decide +kernel
theorem dX0_takeUp_24 : decode cX0_takeUp 24 = .ok (.iconst (-1), 1) := by decide +kernel
theorem dX0_takeUp_25 : decode cX0_takeUp 25 = .ok (.iastore, 1) := by decide +kernel
theorem dX0_takeUp_26 : decode cX0_takeUp 26 = .ok (.iload_n 2, 1) := by decide +kernel
theorem dX0_takeUp_27 : decode cX0_takeUp 27 = .ok (.ireturn, 1) := by decide +kernel
theorem dX0_laidBy_0 : decode cX0_laidBy 0 = .ok (.iconst 0, 1) := by decide +kernel
theorem dX0_laidBy_1 : decode cX0_laidBy 1 = .ok (.istore_n 2, 1) := by decide +kernel
theorem dX0_laidBy_2 : decode cX0_laidBy 2 = .ok (.iconst 0, 1) := by decide +kernel
theorem dX0_laidBy_3 : decode cX0_laidBy 3 = .ok (.istore_n 3, 1) := by decide +kernel
theorem dX0_laidBy_4 : decode cX0_laidBy 4 = .ok (.iload_n 3, 1) := by decide +kernel
theorem dX0_laidBy_5 : decode cX0_laidBy 5 = .ok (.bipush 16, 2) := by decide +kernel
theorem dX0_laidBy_7 : decode cX0_laidBy 7 = .ok (.if_icmp .ge 30, 3) := by decide +kernel
theorem dX0_laidBy_10 : decode cX0_laidBy 10 = .ok (.aload_n 0, 1) := by decide +kernel
theorem dX0_laidBy_11 : decode cX0_laidBy 11 = .ok (.iload_n 3, 1) := by decide +kernel
theorem dX0_laidBy_12 : decode cX0_laidBy 12 = .ok (.invokevirtual 28, 3) := by decide +kernel
theorem dX0_laidBy_15 : decode cX0_laidBy 15 = .ok (.ifCond .eq 16, 3) := by decide +kernel
theorem dX0_laidBy_18 : decode cX0_laidBy 18 = .ok (.aload_n 0, 1) := by decide +kernel
theorem dX0_laidBy_19 : decode cX0_laidBy 19 = .ok (.getfield 18, 3) := by decide +kernel
theorem dX0_laidBy_22 : decode cX0_laidBy 22 = .ok (.iload_n 3, 1) := by decide +kernel
theorem dX0_laidBy_23 : decode cX0_laidBy 23 = .ok (.iaload, 1) := by decide +kernel
theorem dX0_laidBy_24 : decode cX0_laidBy 24 = .ok (.iload_n 1, 1) := by decide +kernel
theorem dX0_laidBy_25 : decode cX0_laidBy 25 = .ok (.if_icmp .ne 6, 3) := by decide +kernel
theorem dX0_laidBy_28 : decode cX0_laidBy 28 = .ok (.iinc 2 1, 3) := by decide +kernel
theorem dX0_laidBy_31 : decode cX0_laidBy 31 = .ok (.iinc 3 1, 3) := by decide +kernel
theorem dX0_laidBy_34 : decode cX0_laidBy 34 = .ok (.goto (-30), 3) := by decide +kernel
theorem dX0_laidBy_37 : decode cX0_laidBy 37 = .ok (.iload_n 2, 1) := by decide +kernel
theorem dX0_laidBy_38 : decode cX0_laidBy 38 = .ok (.ireturn, 1) := by decide +kernel
theorem dX0_howManyFilled_0 : decode cX0_howManyFilled 0 = .ok (.iconst 0, 1) := by decide +kernel
theorem dX0_howManyFilled_1 : decode cX0_howManyFilled 1 = .ok (.istore_n 1, 1) := by decide +kernel
theorem dX0_howManyFilled_2 : decode cX0_howManyFilled 2 = .ok (.iconst 0, 1) := by decide +kernel
theorem dX0_howManyFilled_3 : decode cX0_howManyFilled 3 = .ok (.istore_n 2, 1) := by decide +kernel
theorem dX0_howManyFilled_4 : decode cX0_howManyFilled 4 = .ok (.iload_n 2, 1) := by decide +kernel
theorem dX0_howManyFilled_5 : decode cX0_howManyFilled 5 = .ok (.bipush 16, 2) := by decide +kernel
theorem dX0_howManyFilled_7 : decode cX0_howManyFilled 7 = .ok (.if_icmp .ge 20, 3) := by decide +kernel
theorem dX0_howManyFilled_10 : decode cX0_howManyFilled 10 = .ok (.aload_n 0, 1) := by decide +kernel
theorem dX0_howManyFilled_11 : decode cX0_howManyFilled 11 = .ok (.iload_n 2, 1) := by decide +kernel
theorem dX0_howManyFilled_12 : decode cX0_howManyFilled 12 = .ok (.invokevirtual 28, 3) := by decide +kernel
theorem dX0_howManyFilled_15 : decode cX0_howManyFilled 15 = .ok (.ifCond .eq 6, 3) := by decide +kernel
theorem dX0_howManyFilled_18 : decode cX0_howManyFilled 18 = .ok (.iinc 1 1, 3) := by decide +kernel
theorem dX0_howManyFilled_21 : decode cX0_howManyFilled 21 = .ok (.iinc 2 1, 3) := by decide +kernel
theorem dX0_howManyFilled_24 : decode cX0_howManyFilled 24 = .ok (.goto (-20), 3) := by decide +kernel
theorem dX0_howManyFilled_27 : decode cX0_howManyFilled 27 = .ok (.iload_n 1, 1) := by decide +kernel
theorem dX0_howManyFilled_28 : decode cX0_howManyFilled 28 = .ok (.ireturn, 1) := by decide +kernel
theorem dX0_howManyLost_0 : decode cX0_howManyLost 0 = .ok (.iconst 0, 1) := by decide +kernel
theorem dX0_howManyLost_1 : decode cX0_howManyLost 1 = .ok (.istore_n 1, 1) := by decide +kernel
theorem dX0_howManyLost_2 : decode cX0_howManyLost 2 = .ok (.iconst 0, 1) := by decide +kernel
theorem dX0_howManyLost_3 : decode cX0_howManyLost 3 = .ok (.istore_n 2, 1) := by decide +kernel
theorem dX0_howManyLost_4 : decode cX0_howManyLost 4 = .ok (.iload_n 2, 1) := by decide +kernel
theorem dX0_howManyLost_5 : decode cX0_howManyLost 5 = .ok (.bipush 16, 2) := by decide +kernel
theorem dX0_howManyLost_7 : decode cX0_howManyLost 7 = .ok (.if_icmp .ge 21, 3) := by decide +kernel
theorem dX0_howManyLost_10 : decode cX0_howManyLost 10 = .ok (.aload_n 0, 1) := by decide +kernel
theorem dX0_howManyLost_11 : decode cX0_howManyLost 11 = .ok (.getfield 25, 3) := by decide +kernel
theorem dX0_howManyLost_14 : decode cX0_howManyLost 14 = .ok (.iload_n 2, 1) := by decide +kernel
theorem dX0_howManyLost_15 : decode cX0_howManyLost 15 = .ok (.baload, 1) := by decide +kernel
theorem dX0_howManyLost_16 : decode cX0_howManyLost 16 = .ok (.ifCond .eq 6, 3) := by decide +kernel
theorem dX0_howManyLost_19 : decode cX0_howManyLost 19 = .ok (.iinc 1 1, 3) := by decide +kernel
theorem dX0_howManyLost_22 : decode cX0_howManyLost 22 = .ok (.iinc 2 1, 3) := by decide +kernel
theorem dX0_howManyLost_25 : decode cX0_howManyLost 25 = .ok (.goto (-21), 3) := by decide +kernel
theorem dX0_howManyLost_28 : decode cX0_howManyLost 28 = .ok (.iload_n 1, 1) := by decide +kernel
theorem dX0_howManyLost_29 : decode cX0_howManyLost 29 = .ok (.ireturn, 1) := by decide +kernel
theorem dX0_copyFrom_0 : decode cX0_copyFrom 0 = .ok (.iconst 0, 1) := by decide +kernel
theorem dX0_copyFrom_1 : decode cX0_copyFrom 1 = .ok (.istore_n 2, 1) := by decide +kernel
theorem dX0_copyFrom_2 : decode cX0_copyFrom 2 = .ok (.iload_n 2, 1) := by decide +kernel
theorem dX0_copyFrom_3 : decode cX0_copyFrom 3 = .ok (.bipush 16, 2) := by decide +kernel
theorem dX0_copyFrom_5 : decode cX0_copyFrom 5 = .ok (.if_icmp .ge 69, 3) := by decide +kernel
theorem dX0_copyFrom_8 : decode cX0_copyFrom 8 = .ok (.aload_n 0, 1) := by decide +kernel
theorem dX0_copyFrom_9 : decode cX0_copyFrom 9 = .ok (.getfield 9, 3) := by decide +kernel
theorem dX0_copyFrom_12 : decode cX0_copyFrom 12 = .ok (.iload_n 2, 1) := by decide +kernel
theorem dX0_copyFrom_13 : decode cX0_copyFrom 13 = .ok (.aload_n 1, 1) := by decide +kernel
theorem dX0_copyFrom_14 : decode cX0_copyFrom 14 = .ok (.getfield 9, 3) := by decide +kernel
theorem dX0_copyFrom_17 : decode cX0_copyFrom 17 = .ok (.iload_n 2, 1) := by decide +kernel
theorem dX0_copyFrom_18 : decode cX0_copyFrom 18 = .ok (.iaload, 1) := by decide +kernel
theorem dX0_copyFrom_19 : decode cX0_copyFrom 19 = .ok (.iastore, 1) := by decide +kernel
theorem dX0_copyFrom_20 : decode cX0_copyFrom 20 = .ok (.aload_n 0, 1) := by decide +kernel
theorem dX0_copyFrom_21 : decode cX0_copyFrom 21 = .ok (.getfield 15, 3) := by decide +kernel
theorem dX0_copyFrom_24 : decode cX0_copyFrom 24 = .ok (.iload_n 2, 1) := by decide +kernel
theorem dX0_copyFrom_25 : decode cX0_copyFrom 25 = .ok (.aload_n 1, 1) := by decide +kernel
theorem dX0_copyFrom_26 : decode cX0_copyFrom 26 = .ok (.getfield 15, 3) := by decide +kernel
theorem dX0_copyFrom_29 : decode cX0_copyFrom 29 = .ok (.iload_n 2, 1) := by decide +kernel
theorem dX0_copyFrom_30 : decode cX0_copyFrom 30 = .ok (.iaload, 1) := by decide +kernel
theorem dX0_copyFrom_31 : decode cX0_copyFrom 31 = .ok (.iastore, 1) := by decide +kernel
theorem dX0_copyFrom_32 : decode cX0_copyFrom 32 = .ok (.aload_n 0, 1) := by decide +kernel
theorem dX0_copyFrom_33 : decode cX0_copyFrom 33 = .ok (.getfield 18, 3) := by decide +kernel
theorem dX0_copyFrom_36 : decode cX0_copyFrom 36 = .ok (.iload_n 2, 1) := by decide +kernel
theorem dX0_copyFrom_37 : decode cX0_copyFrom 37 = .ok (.aload_n 1, 1) := by decide +kernel
theorem dX0_copyFrom_38 : decode cX0_copyFrom 38 = .ok (.getfield 18, 3) := by decide +kernel
theorem dX0_copyFrom_41 : decode cX0_copyFrom 41 = .ok (.iload_n 2, 1) := by decide +kernel
theorem dX0_copyFrom_42 : decode cX0_copyFrom 42 = .ok (.iaload, 1) := by decide +kernel
theorem dX0_copyFrom_43 : decode cX0_copyFrom 43 = .ok (.iastore, 1) := by decide +kernel
theorem dX0_copyFrom_44 : decode cX0_copyFrom 44 = .ok (.aload_n 0, 1) := by decide +kernel
theorem dX0_copyFrom_45 : decode cX0_copyFrom 45 = .ok (.getfield 21, 3) := by decide +kernel
theorem dX0_copyFrom_48 : decode cX0_copyFrom 48 = .ok (.iload_n 2, 1) := by decide +kernel
theorem dX0_copyFrom_49 : decode cX0_copyFrom 49 = .ok (.aload_n 1, 1) := by decide +kernel
theorem dX0_copyFrom_50 : decode cX0_copyFrom 50 = .ok (.getfield 21, 3) := by decide +kernel
theorem dX0_copyFrom_53 : decode cX0_copyFrom 53 = .ok (.iload_n 2, 1) := by decide +kernel
theorem dX0_copyFrom_54 : decode cX0_copyFrom 54 = .ok (.baload, 1) := by decide +kernel
theorem dX0_copyFrom_55 : decode cX0_copyFrom 55 = .ok (.bastore, 1) := by decide +kernel
theorem dX0_copyFrom_56 : decode cX0_copyFrom 56 = .ok (.aload_n 0, 1) := by decide +kernel
theorem dX0_copyFrom_57 : decode cX0_copyFrom 57 = .ok (.getfield 25, 3) := by decide +kernel
theorem dX0_copyFrom_60 : decode cX0_copyFrom 60 = .ok (.iload_n 2, 1) := by decide +kernel
theorem dX0_copyFrom_61 : decode cX0_copyFrom 61 = .ok (.aload_n 1, 1) := by decide +kernel
theorem dX0_copyFrom_62 : decode cX0_copyFrom 62 = .ok (.getfield 25, 3) := by decide +kernel
theorem dX0_copyFrom_65 : decode cX0_copyFrom 65 = .ok (.iload_n 2, 1) := by decide +kernel
theorem dX0_copyFrom_66 : decode cX0_copyFrom 66 = .ok (.baload, 1) := by decide +kernel
theorem dX0_copyFrom_67 : decode cX0_copyFrom 67 = .ok (.bastore, 1) := by decide +kernel
theorem dX0_copyFrom_68 : decode cX0_copyFrom 68 = .ok (.iinc 2 1, 3) := by decide +kernel
theorem dX0_copyFrom_71 : decode cX0_copyFrom 71 = .ok (.goto (-69), 3) := by decide +kernel
theorem dX0_copyFrom_74 : decode cX0_copyFrom 74 = .ok (.return_, 1) := by decide +kernel
theorem dX1_init_0 : decode cX1_init 0 = .ok (.aload_n 0, 1) := by decide +kernel
theorem dX1_init_1 : decode cX1_init 1 = .ok (.invokespecial 3, 3) := by decide +kernel
theorem dX1_init_4 : decode cX1_init 4 = .ok (.aload_n 0, 1) := by decide +kernel
theorem dX1_init_5 : decode cX1_init 5 = .ok (.bipush 64, 2) := by decide +kernel
theorem dX1_init_7 : decode cX1_init 7 = .ok (.newarray .int, 2) := by decide +kernel
theorem dX1_init_9 : decode cX1_init 9 = .ok (.putfield 9, 3) := by decide +kernel
theorem dX1_init_12 : decode cX1_init 12 = .ok (.aload_n 0, 1) := by decide +kernel
theorem dX1_init_13 : decode cX1_init 13 = .ok (.bipush 64, 2) := by decide +kernel
theorem dX1_init_15 : decode cX1_init 15 = .ok (.newarray .int, 2) := by decide +kernel
theorem dX1_init_17 : decode cX1_init 17 = .ok (.putfield 15, 3) := by decide +kernel
theorem dX1_init_20 : decode cX1_init 20 = .ok (.aload_n 0, 1) := by decide +kernel
theorem dX1_init_21 : decode cX1_init 21 = .ok (.bipush 16, 2) := by decide +kernel
theorem dX1_init_23 : decode cX1_init 23 = .ok (.newarray .boolean, 2) := by decide +kernel
theorem dX1_init_25 : decode cX1_init 25 = .ok (.putfield 18, 3) := by decide +kernel
theorem dX1_init_28 : decode cX1_init 28 = .ok (.aload_n 0, 1) := by decide +kernel
theorem dX1_init_29 : decode cX1_init 29 = .ok (.bipush 16, 2) := by decide +kernel
theorem dX1_init_31 : decode cX1_init 31 = .ok (.newarray .int, 2) := by decide +kernel
theorem dX1_init_33 : decode cX1_init 33 = .ok (.putfield 22, 3) := by decide +kernel
theorem dX1_init_36 : decode cX1_init 36 = .ok (.return_, 1) := by decide +kernel
theorem dX1_cutAnew_0 : decode cX1_cutAnew 0 = .ok (.aload_n 0, 1) := by decide +kernel
theorem dX1_cutAnew_1 : decode cX1_cutAnew 1 = .ok (.iload_n 1, 1) := by decide +kernel
theorem dX1_cutAnew_2 : decode cX1_cutAnew 2 = .ok (.putfield 25, 3) := by decide +kernel
theorem dX1_cutAnew_5 : decode cX1_cutAnew 5 = .ok (.aload_n 0, 1) := by decide +kernel
theorem dX1_cutAnew_6 : decode cX1_cutAnew 6 = .ok (.iload_n 2, 1) := by decide +kernel
theorem dX1_cutAnew_7 : decode cX1_cutAnew 7 = .ok (.putfield 29, 3) := by decide +kernel
theorem dX1_cutAnew_10 : decode cX1_cutAnew 10 = .ok (.aload_n 0, 1) := by decide +kernel
theorem dX1_cutAnew_11 : decode cX1_cutAnew 11 = .ok (.iload_n 1, 1) := by decide +kernel
theorem dX1_cutAnew_12 : decode cX1_cutAnew 12 = .ok (.iload_n 2, 1) := by decide +kernel
theorem dX1_cutAnew_13 : decode cX1_cutAnew 13 = .ok (.imul, 1) := by decide +kernel
theorem dX1_cutAnew_14 : decode cX1_cutAnew 14 = .ok (.putfield 32, 3) := by decide +kernel
theorem dX1_cutAnew_17 : decode cX1_cutAnew 17 = .ok (.iconst 0, 1) := by decide +kernel
theorem dX1_cutAnew_18 : decode cX1_cutAnew 18 = .ok (.istore_n 3, 1) := by decide +kernel
theorem dX1_cutAnew_19 : decode cX1_cutAnew 19 = .ok (.iload_n 3, 1) := by decide +kernel
theorem dX1_cutAnew_20 : decode cX1_cutAnew 20 = .ok (.aload_n 0, 1) := by decide +kernel
theorem dX1_cutAnew_21 : decode cX1_cutAnew 21 = .ok (.getfield 32, 3) := by decide +kernel
theorem dX1_cutAnew_24 : decode cX1_cutAnew 24 = .ok (.if_icmp .ge 136, 3) := by decide +kernel
theorem dX1_cutAnew_27 : decode cX1_cutAnew 27 = .ok (.aload_n 0, 1) := by decide +kernel
theorem dX1_cutAnew_28 : decode cX1_cutAnew 28 = .ok (.getfield 22, 3) := by decide +kernel
theorem dX1_cutAnew_31 : decode cX1_cutAnew 31 = .ok (.iload_n 3, 1) := by decide +kernel
theorem dX1_cutAnew_32 : decode cX1_cutAnew 32 = .ok (.iconst 0, 1) := by decide +kernel
theorem dX1_cutAnew_33 : decode cX1_cutAnew 33 = .ok (.iastore, 1) := by decide +kernel
theorem dX1_cutAnew_34 : decode cX1_cutAnew 34 = .ok (.aload_n 0, 1) := by decide +kernel
theorem dX1_cutAnew_35 : decode cX1_cutAnew 35 = .ok (.getfield 18, 3) := by decide +kernel
theorem dX1_cutAnew_38 : decode cX1_cutAnew 38 = .ok (.iload_n 3, 1) := by decide +kernel
theorem dX1_cutAnew_39 : decode cX1_cutAnew 39 = .ok (.iconst 0, 1) := by decide +kernel
theorem dX1_cutAnew_40 : decode cX1_cutAnew 40 = .ok (.bastore, 1) := by decide +kernel
theorem dX1_cutAnew_41 : decode cX1_cutAnew 41 = .ok (.iconst 0, 1) := by decide +kernel
theorem dX1_cutAnew_42 : decode cX1_cutAnew 42 = .ok (.istore 4, 2) := by decide +kernel
theorem dX1_cutAnew_44 : decode cX1_cutAnew 44 = .ok (.iload 4, 2) := by decide +kernel
theorem dX1_cutAnew_46 : decode cX1_cutAnew 46 = .ok (.iconst 4, 1) := by decide +kernel
theorem dX1_cutAnew_47 : decode cX1_cutAnew 47 = .ok (.if_icmp .ge 107, 3) := by decide +kernel
theorem dX1_cutAnew_50 : decode cX1_cutAnew 50 = .ok (.aload_n 0, 1) := by decide +kernel
theorem dX1_cutAnew_51 : decode cX1_cutAnew 51 = .ok (.iload_n 3, 1) := by decide +kernel
theorem dX1_cutAnew_52 : decode cX1_cutAnew 52 = .ok (.iload 4, 2) := by decide +kernel
theorem dX1_cutAnew_54 : decode cX1_cutAnew 54 = .ok (.invokevirtual 35, 3) := by decide +kernel
theorem dX1_cutAnew_57 : decode cX1_cutAnew 57 = .ok (.istore 5, 2) := by decide +kernel
theorem dX1_cutAnew_59 : decode cX1_cutAnew 59 = .ok (.iload 4, 2) := by decide +kernel
theorem dX1_cutAnew_61 : decode cX1_cutAnew 61 = .ok (.iconst 1, 1) := by decide +kernel
theorem dX1_cutAnew_62 : decode cX1_cutAnew 62 = .ok (.if_icmp .eq 9, 3) := by decide +kernel
theorem dX1_cutAnew_65 : decode cX1_cutAnew 65 = .ok (.iload 4, 2) := by decide +kernel
theorem dX1_cutAnew_67 : decode cX1_cutAnew 67 = .ok (.iconst 2, 1) := by decide +kernel
theorem dX1_cutAnew_68 : decode cX1_cutAnew 68 = .ok (.if_icmp .ne 7, 3) := by decide +kernel
theorem dX1_cutAnew_71 : decode cX1_cutAnew 71 = .ok (.iconst 1, 1) := by decide +kernel
theorem dX1_cutAnew_72 : decode cX1_cutAnew 72 = .ok (.goto 4, 3) := by decide +kernel
theorem dX1_cutAnew_75 : decode cX1_cutAnew 75 = .ok (.iconst 0, 1) := by decide +kernel
theorem dX1_cutAnew_76 : decode cX1_cutAnew 76 = .ok (.istore 6, 2) := by decide +kernel
theorem dX1_cutAnew_78 : decode cX1_cutAnew 78 = .ok (.aload_n 0, 1) := by decide +kernel
theorem dX1_cutAnew_79 : decode cX1_cutAnew 79 = .ok (.getfield 15, 3) := by decide +kernel
theorem dX1_cutAnew_82 : decode cX1_cutAnew 82 = .ok (.iload_n 3, 1) := by decide +kernel
theorem dX1_cutAnew_83 : decode cX1_cutAnew 83 = .ok (.iconst 4, 1) := by decide +kernel
theorem dX1_cutAnew_84 : decode cX1_cutAnew 84 = .ok (.imul, 1) := by decide +kernel
theorem dX1_cutAnew_85 : decode cX1_cutAnew 85 = .ok (.iload 4, 2) := by decide +kernel
theorem dX1_cutAnew_87 : decode cX1_cutAnew 87 = .ok (.iadd, 1) := by decide +kernel
theorem dX1_cutAnew_88 : decode cX1_cutAnew 88 = .ok (.iload 5, 2) := by decide +kernel
theorem dX1_cutAnew_90 : decode cX1_cutAnew 90 = .ok (.iastore, 1) := by decide +kernel
theorem dX1_cutAnew_91 : decode cX1_cutAnew 91 = .ok (.aload_n 0, 1) := by decide +kernel
theorem dX1_cutAnew_92 : decode cX1_cutAnew 92 = .ok (.getfield 18, 3) := by decide +kernel
theorem dX1_cutAnew_95 : decode cX1_cutAnew 95 = .ok (.iload_n 3, 1) := by decide +kernel
theorem dX1_cutAnew_96 : decode cX1_cutAnew 96 = .ok (.aload_n 0, 1) := by decide +kernel
theorem dX1_cutAnew_97 : decode cX1_cutAnew 97 = .ok (.getfield 18, 3) := by decide +kernel
theorem dX1_cutAnew_100 : decode cX1_cutAnew 100 = .ok (.iload_n 3, 1) := by decide +kernel
theorem dX1_cutAnew_101 : decode cX1_cutAnew 101 = .ok (.baload, 1) := by decide +kernel
theorem dX1_cutAnew_102 : decode cX1_cutAnew 102 = .ok (.ifCond .ne 9, 3) := by decide +kernel
theorem dX1_cutAnew_105 : decode cX1_cutAnew 105 = .ok (.iload 5, 2) := by decide +kernel
theorem dX1_cutAnew_107 : decode cX1_cutAnew 107 = .ok (.iconst (-1), 1) := by decide +kernel
theorem dX1_cutAnew_108 : decode cX1_cutAnew 108 = .ok (.if_icmp .ne 7, 3) := by decide +kernel
theorem dX1_cutAnew_111 : decode cX1_cutAnew 111 = .ok (.iconst 1, 1) := by decide +kernel
theorem dX1_cutAnew_112 : decode cX1_cutAnew 112 = .ok (.goto 4, 3) := by decide +kernel
theorem dX1_cutAnew_115 : decode cX1_cutAnew 115 = .ok (.iconst 0, 1) := by decide +kernel
theorem dX1_cutAnew_116 : decode cX1_cutAnew 116 = .ok (.bastore, 1) := by decide +kernel
theorem dX1_cutAnew_117 : decode cX1_cutAnew 117 = .ok (.aload_n 0, 1) := by decide +kernel
theorem dX1_cutAnew_118 : decode cX1_cutAnew 118 = .ok (.getfield 9, 3) := by decide +kernel
theorem dX1_cutAnew_121 : decode cX1_cutAnew 121 = .ok (.iload_n 3, 1) := by decide +kernel
theorem dX1_cutAnew_122 : decode cX1_cutAnew 122 = .ok (.iconst 4, 1) := by decide +kernel
theorem dX1_cutAnew_123 : decode cX1_cutAnew 123 = .ok (.imul, 1) := by decide +kernel
theorem dX1_cutAnew_124 : decode cX1_cutAnew 124 = .ok (.iload 4, 2) := by decide +kernel
theorem dX1_cutAnew_126 : decode cX1_cutAnew 126 = .ok (.iadd, 1) := by decide +kernel
theorem dX1_cutAnew_127 : decode cX1_cutAnew 127 = .ok (.iload 5, 2) := by decide +kernel
theorem dX1_cutAnew_129 : decode cX1_cutAnew 129 = .ok (.iconst (-1), 1) := by decide +kernel
theorem dX1_cutAnew_130 : decode cX1_cutAnew 130 = .ok (.if_icmp .ne 7, 3) := by decide +kernel
theorem dX1_cutAnew_133 : decode cX1_cutAnew 133 = .ok (.iconst 0, 1) := by decide +kernel
theorem dX1_cutAnew_134 : decode cX1_cutAnew 134 = .ok (.goto 13, 3) := by decide +kernel
theorem dX1_cutAnew_137 : decode cX1_cutAnew 137 = .ok (.iload 6, 2) := by decide +kernel
theorem dX1_cutAnew_139 : decode cX1_cutAnew 139 = .ok (.ifCond .eq 7, 3) := by decide +kernel
theorem dX1_cutAnew_142 : decode cX1_cutAnew 142 = .ok (.iconst 1, 1) := by decide +kernel
theorem dX1_cutAnew_143 : decode cX1_cutAnew 143 = .ok (.goto 4, 3) := by decide +kernel
theorem dX1_cutAnew_146 : decode cX1_cutAnew 146 = .ok (.iconst (-1), 1) := by decide +kernel
theorem dX1_cutAnew_147 : decode cX1_cutAnew 147 = .ok (.iastore, 1) := by decide +kernel
theorem dX1_cutAnew_148 : decode cX1_cutAnew 148 = .ok (.iinc 4 1, 3) := by decide +kernel
theorem dX1_cutAnew_151 : decode cX1_cutAnew 151 = .ok (.goto (-107), 3) := by decide +kernel
theorem dX1_cutAnew_154 : decode cX1_cutAnew 154 = .ok (.iinc 3 1, 3) := by decide +kernel
theorem dX1_cutAnew_157 : decode cX1_cutAnew 157 = .ok (.goto (-138), 3) := by decide +kernel
theorem dX1_cutAnew_160 : decode cX1_cutAnew 160 = .ok (.return_, 1) := by decide +kernel
theorem dX1_neighbourAcross_0 : decode cX1_neighbourAcross 0 = .ok (.iload_n 1, 1) := by decide +kernel
theorem dX1_neighbourAcross_1 : decode cX1_neighbourAcross 1 = .ok (.aload_n 0, 1) := by decide +kernel
theorem dX1_neighbourAcross_2 : decode cX1_neighbourAcross 2 = .ok (.getfield 29, 3) := by decide +kernel
theorem dX1_neighbourAcross_5 : decode cX1_neighbourAcross 5 = .ok (.idiv, 1) := by decide +kernel
theorem dX1_neighbourAcross_6 : decode cX1_neighbourAcross 6 = .ok (.istore_n 3, 1) := by decide +kernel
theorem dX1_neighbourAcross_7 : decode cX1_neighbourAcross 7 = .ok (.iload_n 1, 1) := by decide +kernel
theorem dX1_neighbourAcross_8 : decode cX1_neighbourAcross 8 = .ok (.aload_n 0, 1) := by decide +kernel
theorem dX1_neighbourAcross_9 : decode cX1_neighbourAcross 9 = .ok (.getfield 29, 3) := by decide +kernel
theorem dX1_neighbourAcross_12 : decode cX1_neighbourAcross 12 = .ok (.irem, 1) := by decide +kernel
theorem dX1_neighbourAcross_13 : decode cX1_neighbourAcross 13 = .ok (.istore 4, 2) := by decide +kernel
theorem dX1_neighbourAcross_15 : decode cX1_neighbourAcross 15 = .ok (.iload_n 2, 1) := by decide +kernel
theorem dX1_neighbourAcross_16 : decode cX1_neighbourAcross 16 = .ok (.tableswitch 83 0 2 #[28, 43, 62], 28) := by decide +kernel
theorem dX1_neighbourAcross_44 : decode cX1_neighbourAcross 44 = .ok (.iload_n 3, 1) := by decide +kernel
theorem dX1_neighbourAcross_45 : decode cX1_neighbourAcross 45 = .ok (.ifCond .le 12, 3) := by decide +kernel
theorem dX1_neighbourAcross_48 : decode cX1_neighbourAcross 48 = .ok (.iload_n 1, 1) := by decide +kernel
theorem dX1_neighbourAcross_49 : decode cX1_neighbourAcross 49 = .ok (.aload_n 0, 1) := by decide +kernel
theorem dX1_neighbourAcross_50 : decode cX1_neighbourAcross 50 = .ok (.getfield 29, 3) := by decide +kernel
theorem dX1_neighbourAcross_53 : decode cX1_neighbourAcross 53 = .ok (.isub, 1) := by decide +kernel
theorem dX1_neighbourAcross_54 : decode cX1_neighbourAcross 54 = .ok (.goto 4, 3) := by decide +kernel
theorem dX1_neighbourAcross_57 : decode cX1_neighbourAcross 57 = .ok (.iconst (-1), 1) := by decide +kernel
theorem dX1_neighbourAcross_58 : decode cX1_neighbourAcross 58 = .ok (.ireturn, 1) := by decide +kernel
theorem dX1_neighbourAcross_59 : decode cX1_neighbourAcross 59 = .ok (.iload 4, 2) := by decide +kernel
theorem dX1_neighbourAcross_61 : decode cX1_neighbourAcross 61 = .ok (.aload_n 0, 1) := by decide +kernel
theorem dX1_neighbourAcross_62 : decode cX1_neighbourAcross 62 = .ok (.getfield 29, 3) := by decide +kernel
theorem dX1_neighbourAcross_65 : decode cX1_neighbourAcross 65 = .ok (.iconst 1, 1) := by decide +kernel
theorem dX1_neighbourAcross_66 : decode cX1_neighbourAcross 66 = .ok (.isub, 1) := by decide +kernel
theorem dX1_neighbourAcross_67 : decode cX1_neighbourAcross 67 = .ok (.if_icmp .ge 9, 3) := by decide +kernel
theorem dX1_neighbourAcross_70 : decode cX1_neighbourAcross 70 = .ok (.iload_n 1, 1) := by decide +kernel
theorem dX1_neighbourAcross_71 : decode cX1_neighbourAcross 71 = .ok (.iconst 1, 1) := by decide +kernel
theorem dX1_neighbourAcross_72 : decode cX1_neighbourAcross 72 = .ok (.iadd, 1) := by decide +kernel
theorem dX1_neighbourAcross_73 : decode cX1_neighbourAcross 73 = .ok (.goto 4, 3) := by decide +kernel
theorem dX1_neighbourAcross_76 : decode cX1_neighbourAcross 76 = .ok (.iconst (-1), 1) := by decide +kernel
theorem dX1_neighbourAcross_77 : decode cX1_neighbourAcross 77 = .ok (.ireturn, 1) := by decide +kernel
theorem dX1_neighbourAcross_78 : decode cX1_neighbourAcross 78 = .ok (.iload_n 3, 1) := by decide +kernel
theorem dX1_neighbourAcross_79 : decode cX1_neighbourAcross 79 = .ok (.aload_n 0, 1) := by decide +kernel
theorem dX1_neighbourAcross_80 : decode cX1_neighbourAcross 80 = .ok (.getfield 25, 3) := by decide +kernel
theorem dX1_neighbourAcross_83 : decode cX1_neighbourAcross 83 = .ok (.iconst 1, 1) := by decide +kernel
theorem dX1_neighbourAcross_84 : decode cX1_neighbourAcross 84 = .ok (.isub, 1) := by decide +kernel
theorem dX1_neighbourAcross_85 : decode cX1_neighbourAcross 85 = .ok (.if_icmp .ge 12, 3) := by decide +kernel
theorem dX1_neighbourAcross_88 : decode cX1_neighbourAcross 88 = .ok (.iload_n 1, 1) := by decide +kernel
theorem dX1_neighbourAcross_89 : decode cX1_neighbourAcross 89 = .ok (.aload_n 0, 1) := by decide +kernel
theorem dX1_neighbourAcross_90 : decode cX1_neighbourAcross 90 = .ok (.getfield 29, 3) := by decide +kernel
theorem dX1_neighbourAcross_93 : decode cX1_neighbourAcross 93 = .ok (.iadd, 1) := by decide +kernel
theorem dX1_neighbourAcross_94 : decode cX1_neighbourAcross 94 = .ok (.goto 4, 3) := by decide +kernel
theorem dX1_neighbourAcross_97 : decode cX1_neighbourAcross 97 = .ok (.iconst (-1), 1) := by decide +kernel
theorem dX1_neighbourAcross_98 : decode cX1_neighbourAcross 98 = .ok (.ireturn, 1) := by decide +kernel
theorem dX1_neighbourAcross_99 : decode cX1_neighbourAcross 99 = .ok (.iload 4, 2) := by decide +kernel
theorem dX1_neighbourAcross_101 : decode cX1_neighbourAcross 101 = .ok (.ifCond .le 9, 3) := by decide +kernel
theorem dX1_neighbourAcross_104 : decode cX1_neighbourAcross 104 = .ok (.iload_n 1, 1) := by decide +kernel
theorem dX1_neighbourAcross_105 : decode cX1_neighbourAcross 105 = .ok (.iconst 1, 1) := by decide +kernel
theorem dX1_neighbourAcross_106 : decode cX1_neighbourAcross 106 = .ok (.isub, 1) := by decide +kernel
theorem dX1_neighbourAcross_107 : decode cX1_neighbourAcross 107 = .ok (.goto 4, 3) := by decide +kernel
theorem dX1_neighbourAcross_110 : decode cX1_neighbourAcross 110 = .ok (.iconst (-1), 1) := by decide +kernel
theorem dX1_neighbourAcross_111 : decode cX1_neighbourAcross 111 = .ok (.ireturn, 1) := by decide +kernel
theorem dX1_beside_0 : decode cX1_beside 0 = .ok (.aload_n 0, 1) := by decide +kernel
theorem dX1_beside_1 : decode cX1_beside 1 = .ok (.getfield 15, 3) := by decide +kernel
theorem dX1_beside_4 : decode cX1_beside 4 = .ok (.iload_n 1, 1) := by decide +kernel
theorem dX1_beside_5 : decode cX1_beside 5 = .ok (.iconst 4, 1) := by decide +kernel
theorem dX1_beside_6 : decode cX1_beside 6 = .ok (.imul, 1) := by decide +kernel
theorem dX1_beside_7 : decode cX1_beside 7 = .ok (.iload_n 2, 1) := by decide +kernel
theorem dX1_beside_8 : decode cX1_beside 8 = .ok (.iadd, 1) := by decide +kernel
theorem dX1_beside_9 : decode cX1_beside 9 = .ok (.iaload, 1) := by decide +kernel
theorem dX1_beside_10 : decode cX1_beside 10 = .ok (.ireturn, 1) := by decide +kernel
theorem dX1_sideOf_0 : decode cX1_sideOf 0 = .ok (.aload_n 0, 1) := by decide +kernel
theorem dX1_sideOf_1 : decode cX1_sideOf 1 = .ok (.getfield 9, 3) := by decide +kernel
theorem dX1_sideOf_4 : decode cX1_sideOf 4 = .ok (.iload_n 1, 1) := by decide +kernel
theorem dX1_sideOf_5 : decode cX1_sideOf 5 = .ok (.iconst 4, 1) := by decide +kernel
theorem dX1_sideOf_6 : decode cX1_sideOf 6 = .ok (.imul, 1) := by decide +kernel
theorem dX1_sideOf_7 : decode cX1_sideOf 7 = .ok (.iload_n 3, 1) := by decide +kernel
theorem dX1_sideOf_8 : decode cX1_sideOf 8 = .ok (.iconst 4, 1) := by decide +kernel
theorem dX1_sideOf_9 : decode cX1_sideOf 9 = .ok (.iadd, 1) := by decide +kernel
theorem dX1_sideOf_10 : decode cX1_sideOf 10 = .ok (.iload_n 2, 1) := by decide +kernel
theorem dX1_sideOf_11 : decode cX1_sideOf 11 = .ok (.isub, 1) := by decide +kernel
theorem dX1_sideOf_12 : decode cX1_sideOf 12 = .ok (.iconst 4, 1) := by decide +kernel
theorem dX1_sideOf_13 : decode cX1_sideOf 13 = .ok (.irem, 1) := by decide +kernel
theorem dX1_sideOf_14 : decode cX1_sideOf 14 = .ok (.iadd, 1) := by decide +kernel
theorem dX1_sideOf_15 : decode cX1_sideOf 15 = .ok (.iaload, 1) := by decide +kernel
theorem dX1_sideOf_16 : decode cX1_sideOf 16 = .ok (.ireturn, 1) := by decide +kernel
theorem dX1_setEdge_0 : decode cX1_setEdge 0 = .ok (.aload_n 0, 1) := by decide +kernel
theorem dX1_setEdge_1 : decode cX1_setEdge 1 = .ok (.getfield 9, 3) := by decide +kernel
theorem dX1_setEdge_4 : decode cX1_setEdge 4 = .ok (.iload_n 1, 1) := by decide +kernel
theorem dX1_setEdge_5 : decode cX1_setEdge 5 = .ok (.iconst 4, 1) := by decide +kernel
theorem dX1_setEdge_6 : decode cX1_setEdge 6 = .ok (.imul, 1) := by decide +kernel
theorem dX1_setEdge_7 : decode cX1_setEdge 7 = .ok (.iload_n 2, 1) := by decide +kernel
theorem dX1_setEdge_8 : decode cX1_setEdge 8 = .ok (.iadd, 1) := by decide +kernel
theorem dX1_setEdge_9 : decode cX1_setEdge 9 = .ok (.iload_n 3, 1) := by decide +kernel
theorem dX1_setEdge_10 : decode cX1_setEdge 10 = .ok (.iastore, 1) := by decide +kernel
theorem dX1_setEdge_11 : decode cX1_setEdge 11 = .ok (.aload_n 0, 1) := by decide +kernel
theorem dX1_setEdge_12 : decode cX1_setEdge 12 = .ok (.getfield 9, 3) := by decide +kernel
theorem dX1_setEdge_15 : decode cX1_setEdge 15 = .ok (.aload_n 0, 1) := by decide +kernel
theorem dX1_setEdge_16 : decode cX1_setEdge 16 = .ok (.iload_n 1, 1) := by decide +kernel
theorem dX1_setEdge_17 : decode cX1_setEdge 17 = .ok (.iload_n 2, 1) := by decide +kernel
theorem dX1_setEdge_18 : decode cX1_setEdge 18 = .ok (.invokevirtual 39, 3) := by decide +kernel
theorem dX1_setEdge_21 : decode cX1_setEdge 21 = .ok (.iconst 4, 1) := by decide +kernel
theorem dX1_setEdge_22 : decode cX1_setEdge 22 = .ok (.imul, 1) := by decide +kernel
theorem dX1_setEdge_23 : decode cX1_setEdge 23 = .ok (.iload_n 2, 1) := by decide +kernel
theorem dX1_setEdge_24 : decode cX1_setEdge 24 = .ok (.iconst 2, 1) := by decide +kernel
theorem dX1_setEdge_25 : decode cX1_setEdge 25 = .ok (.iadd, 1) := by decide +kernel
theorem dX1_setEdge_26 : decode cX1_setEdge 26 = .ok (.iconst 4, 1) := by decide +kernel
theorem dX1_setEdge_27 : decode cX1_setEdge 27 = .ok (.irem, 1) := by decide +kernel
theorem dX1_setEdge_28 : decode cX1_setEdge 28 = .ok (.iadd, 1) := by decide +kernel
theorem dX1_setEdge_29 : decode cX1_setEdge 29 = .ok (.iload_n 3, 1) := by decide +kernel
theorem dX1_setEdge_30 : decode cX1_setEdge 30 = .ok (.ineg, 1) := by decide +kernel
theorem dX1_setEdge_31 : decode cX1_setEdge 31 = .ok (.iastore, 1) := by decide +kernel
theorem dX1_setEdge_32 : decode cX1_setEdge 32 = .ok (.return_, 1) := by decide +kernel
theorem dX1_innerEdges_0 : decode cX1_innerEdges 0 = .ok (.aload_n 0, 1) := by decide +kernel
theorem dX1_innerEdges_1 : decode cX1_innerEdges 1 = .ok (.getfield 25, 3) := by decide +kernel
theorem dX1_innerEdges_4 : decode cX1_innerEdges 4 = .ok (.aload_n 0, 1) := by decide +kernel
theorem dX1_innerEdges_5 : decode cX1_innerEdges 5 = .ok (.getfield 29, 3) := by decide +kernel
theorem dX1_innerEdges_8 : decode cX1_innerEdges 8 = .ok (.iconst 1, 1) := by decide +kernel
theorem dX1_innerEdges_9 : decode cX1_innerEdges 9 = .ok (.isub, 1) := by decide +kernel
theorem dX1_innerEdges_10 : decode cX1_innerEdges 10 = .ok (.imul, 1) := by decide +kernel
theorem dX1_innerEdges_11 : decode cX1_innerEdges 11 = .ok (.aload_n 0, 1) := by decide +kernel
theorem dX1_innerEdges_12 : decode cX1_innerEdges 12 = .ok (.getfield 29, 3) := by decide +kernel
theorem dX1_innerEdges_15 : decode cX1_innerEdges 15 = .ok (.aload_n 0, 1) := by decide +kernel
theorem dX1_innerEdges_16 : decode cX1_innerEdges 16 = .ok (.getfield 25, 3) := by decide +kernel
theorem dX1_innerEdges_19 : decode cX1_innerEdges 19 = .ok (.iconst 1, 1) := by decide +kernel
theorem dX1_innerEdges_20 : decode cX1_innerEdges 20 = .ok (.isub, 1) := by decide +kernel
theorem dX1_innerEdges_21 : decode cX1_innerEdges 21 = .ok (.imul, 1) := by decide +kernel
theorem dX1_innerEdges_22 : decode cX1_innerEdges 22 = .ok (.iadd, 1) := by decide +kernel
theorem dX1_innerEdges_23 : decode cX1_innerEdges 23 = .ok (.ireturn, 1) := by decide +kernel
theorem dX1_nubsOf_0 : decode cX1_nubsOf 0 = .ok (.iconst 0, 1) := by decide +kernel
theorem dX1_nubsOf_1 : decode cX1_nubsOf 1 = .ok (.istore_n 2, 1) := by decide +kernel
theorem dX1_nubsOf_2 : decode cX1_nubsOf 2 = .ok (.iconst 0, 1) := by decide +kernel
theorem dX1_nubsOf_3 : decode cX1_nubsOf 3 = .ok (.istore_n 3, 1) := by decide +kernel
theorem dX1_nubsOf_4 : decode cX1_nubsOf 4 = .ok (.iload_n 3, 1) := by decide +kernel
theorem dX1_nubsOf_5 : decode cX1_nubsOf 5 = .ok (.iconst 4, 1) := by decide +kernel
theorem dX1_nubsOf_6 : decode cX1_nubsOf 6 = .ok (.if_icmp .ge 25, 3) := by decide +kernel
theorem dX1_nubsOf_9 : decode cX1_nubsOf 9 = .ok (.aload_n 0, 1) := by decide +kernel
theorem dX1_nubsOf_10 : decode cX1_nubsOf 10 = .ok (.getfield 9, 3) := by decide +kernel
theorem dX1_nubsOf_13 : decode cX1_nubsOf 13 = .ok (.iload_n 1, 1) := by decide +kernel
theorem dX1_nubsOf_14 : decode cX1_nubsOf 14 = .ok (.iconst 4, 1) := by decide +kernel
theorem dX1_nubsOf_15 : decode cX1_nubsOf 15 = .ok (.imul, 1) := by decide +kernel
theorem dX1_nubsOf_16 : decode cX1_nubsOf 16 = .ok (.iload_n 3, 1) := by decide +kernel
theorem dX1_nubsOf_17 : decode cX1_nubsOf 17 = .ok (.iadd, 1) := by decide +kernel
theorem dX1_nubsOf_18 : decode cX1_nubsOf 18 = .ok (.iaload, 1) := by decide +kernel
theorem dX1_nubsOf_19 : decode cX1_nubsOf 19 = .ok (.ifCond .le 6, 3) := by decide +kernel
theorem dX1_nubsOf_22 : decode cX1_nubsOf 22 = .ok (.iinc 2 1, 3) := by decide +kernel
theorem dX1_nubsOf_25 : decode cX1_nubsOf 25 = .ok (.iinc 3 1, 3) := by decide +kernel
theorem dX1_nubsOf_28 : decode cX1_nubsOf 28 = .ok (.goto (-24), 3) := by decide +kernel
theorem dX1_nubsOf_31 : decode cX1_nubsOf 31 = .ok (.iload_n 2, 1) := by decide +kernel
theorem dX1_nubsOf_32 : decode cX1_nubsOf 32 = .ok (.ireturn, 1) := by decide +kernel
theorem dX1_codeOf_0 : decode cX1_codeOf 0 = .ok (.iconst 0, 1) := by decide +kernel
theorem dX1_codeOf_1 : decode cX1_codeOf 1 = .ok (.istore_n 3, 1) := by decide +kernel
theorem dX1_codeOf_2 : decode cX1_codeOf 2 = .ok (.iconst 0, 1) := by decide +kernel
theorem dX1_codeOf_3 : decode cX1_codeOf 3 = .ok (.istore 4, 2) := by decide +kernel
theorem dX1_codeOf_5 : decode cX1_codeOf 5 = .ok (.iload 4, 2) := by decide +kernel
theorem dX1_codeOf_7 : decode cX1_codeOf 7 = .ok (.iconst 4, 1) := by decide +kernel
theorem dX1_codeOf_8 : decode cX1_codeOf 8 = .ok (.if_icmp .ge 26, 3) := by decide +kernel
theorem dX1_codeOf_11 : decode cX1_codeOf 11 = .ok (.iload_n 3, 1) := by decide +kernel
theorem dX1_codeOf_12 : decode cX1_codeOf 12 = .ok (.bipush 19, 2) := by decide +kernel
theorem dX1_codeOf_14 : decode cX1_codeOf 14 = .ok (.imul, 1) := by decide +kernel
theorem dX1_codeOf_15 : decode cX1_codeOf 15 = .ok (.aload_n 0, 1) := by decide +kernel
theorem dX1_codeOf_16 : decode cX1_codeOf 16 = .ok (.iload_n 1, 1) := by decide +kernel
theorem dX1_codeOf_17 : decode cX1_codeOf 17 = .ok (.iload_n 2, 1) := by decide +kernel
theorem dX1_codeOf_18 : decode cX1_codeOf 18 = .ok (.iload 4, 2) := by decide +kernel
theorem dX1_codeOf_20 : decode cX1_codeOf 20 = .ok (.invokevirtual 42, 3) := by decide +kernel
theorem dX1_codeOf_23 : decode cX1_codeOf 23 = .ok (.iadd, 1) := by decide +kernel
theorem dX1_codeOf_24 : decode cX1_codeOf 24 = .ok (.bipush 9, 2) := by decide +kernel
theorem dX1_codeOf_26 : decode cX1_codeOf 26 = .ok (.iadd, 1) := by decide +kernel
theorem dX1_codeOf_27 : decode cX1_codeOf 27 = .ok (.istore_n 3, 1) := by decide +kernel
theorem dX1_codeOf_28 : decode cX1_codeOf 28 = .ok (.iinc 4 1, 3) := by decide +kernel
theorem dX1_codeOf_31 : decode cX1_codeOf 31 = .ok (.goto (-26), 3) := by decide +kernel
theorem dX1_codeOf_34 : decode cX1_codeOf 34 = .ok (.iload_n 3, 1) := by decide +kernel
theorem dX1_codeOf_35 : decode cX1_codeOf 35 = .ok (.ireturn, 1) := by decide +kernel
theorem dX1_suitsRim_0 : decode cX1_suitsRim 0 = .ok (.iconst 0, 1) := by decide +kernel
theorem dX1_suitsRim_1 : decode cX1_suitsRim 1 = .ok (.istore 4, 2) := by decide +kernel
theorem dX1_suitsRim_3 : decode cX1_suitsRim 3 = .ok (.iload 4, 2) := by decide +kernel
theorem dX1_suitsRim_5 : decode cX1_suitsRim 5 = .ok (.iconst 4, 1) := by decide +kernel
theorem dX1_suitsRim_6 : decode cX1_suitsRim 6 = .ok (.if_icmp .ge 46, 3) := by decide +kernel
theorem dX1_suitsRim_9 : decode cX1_suitsRim 9 = .ok (.aload_n 0, 1) := by decide +kernel
theorem dX1_suitsRim_10 : decode cX1_suitsRim 10 = .ok (.iload_n 1, 1) := by decide +kernel
theorem dX1_suitsRim_11 : decode cX1_suitsRim 11 = .ok (.iload_n 2, 1) := by decide +kernel
theorem dX1_suitsRim_12 : decode cX1_suitsRim 12 = .ok (.iload 4, 2) := by decide +kernel
theorem dX1_suitsRim_14 : decode cX1_suitsRim 14 = .ok (.invokevirtual 42, 3) := by decide +kernel
theorem dX1_suitsRim_17 : decode cX1_suitsRim 17 = .ok (.ifCond .ne 7, 3) := by decide +kernel
theorem dX1_suitsRim_20 : decode cX1_suitsRim 20 = .ok (.iconst 1, 1) := by decide +kernel
theorem dX1_suitsRim_21 : decode cX1_suitsRim 21 = .ok (.goto 4, 3) := by decide +kernel
theorem dX1_suitsRim_24 : decode cX1_suitsRim 24 = .ok (.iconst 0, 1) := by decide +kernel
theorem dX1_suitsRim_25 : decode cX1_suitsRim 25 = .ok (.aload_n 0, 1) := by decide +kernel
theorem dX1_suitsRim_26 : decode cX1_suitsRim 26 = .ok (.iload_n 3, 1) := by decide +kernel
theorem dX1_suitsRim_27 : decode cX1_suitsRim 27 = .ok (.iload 4, 2) := by decide +kernel
theorem dX1_suitsRim_29 : decode cX1_suitsRim 29 = .ok (.invokevirtual 39, 3) := by decide +kernel
theorem dX1_suitsRim_32 : decode cX1_suitsRim 32 = .ok (.iconst (-1), 1) := by decide +kernel
theorem dX1_suitsRim_33 : decode cX1_suitsRim 33 = .ok (.if_icmp .ne 7, 3) := by decide +kernel
theorem dX1_suitsRim_36 : decode cX1_suitsRim 36 = .ok (.iconst 1, 1) := by decide +kernel
theorem dX1_suitsRim_37 : decode cX1_suitsRim 37 = .ok (.goto 4, 3) := by decide +kernel
theorem dX1_suitsRim_40 : decode cX1_suitsRim 40 = .ok (.iconst 0, 1) := by decide +kernel
theorem dX1_suitsRim_41 : decode cX1_suitsRim 41 = .ok (.if_icmp .eq 5, 3) := by decide +kernel
theorem dX1_suitsRim_44 : decode cX1_suitsRim 44 = .ok (.iconst 0, 1) := by decide +kernel
theorem dX1_suitsRim_45 : decode cX1_suitsRim 45 = .ok (.ireturn, 1) := by decide +kernel
theorem dX1_suitsRim_46 : decode cX1_suitsRim 46 = .ok (.iinc 4 1, 3) := by decide +kernel
theorem dX1_suitsRim_49 : decode cX1_suitsRim 49 = .ok (.goto (-46), 3) := by decide +kernel
theorem dX1_suitsRim_52 : decode cX1_suitsRim 52 = .ok (.iconst 1, 1) := by decide +kernel
theorem dX1_suitsRim_53 : decode cX1_suitsRim 53 = .ok (.ireturn, 1) := by decide +kernel
theorem dX1_suitsNeighbours_0 : decode cX1_suitsNeighbours 0 = .ok (.iconst 0, 1) := by decide +kernel
theorem dX1_suitsNeighbours_1 : decode cX1_suitsNeighbours 1 = .ok (.istore 5, 2) := by decide +kernel
theorem dX1_suitsNeighbours_3 : decode cX1_suitsNeighbours 3 = .ok (.iload 5, 2) := by decide +kernel
theorem dX1_suitsNeighbours_5 : decode cX1_suitsNeighbours 5 = .ok (.iconst 4, 1) := by decide +kernel
theorem dX1_suitsNeighbours_6 : decode cX1_suitsNeighbours 6 = .ok (.if_icmp .ge 90, 3) := by decide +kernel
theorem dX1_suitsNeighbours_9 : decode cX1_suitsNeighbours 9 = .ok (.aload_n 0, 1) := by decide +kernel
theorem dX1_suitsNeighbours_10 : decode cX1_suitsNeighbours 10 = .ok (.iload 4, 2) := by decide +kernel
theorem dX1_suitsNeighbours_12 : decode cX1_suitsNeighbours 12 = .ok (.iload 5, 2) := by decide +kernel
theorem dX1_suitsNeighbours_14 : decode cX1_suitsNeighbours 14 = .ok (.invokevirtual 39, 3) := by decide +kernel
theorem dX1_suitsNeighbours_17 : decode cX1_suitsNeighbours 17 = .ok (.istore 6, 2) := by decide +kernel
theorem dX1_suitsNeighbours_19 : decode cX1_suitsNeighbours 19 = .ok (.iload 6, 2) := by decide +kernel
theorem dX1_suitsNeighbours_21 : decode cX1_suitsNeighbours 21 = .ok (.iconst (-1), 1) := by decide +kernel
theorem dX1_suitsNeighbours_22 : decode cX1_suitsNeighbours 22 = .ok (.if_icmp .eq 68, 3) := by decide +kernel
theorem dX1_suitsNeighbours_25 : decode cX1_suitsNeighbours 25 = .ok (.aload_n 1, 1) := by decide +kernel
theorem dX1_suitsNeighbours_26 : decode cX1_suitsNeighbours 26 = .ok (.iload 6, 2) := by decide +kernel
theorem dX1_suitsNeighbours_28 : decode cX1_suitsNeighbours 28 = .ok (.invokevirtual 46, 3) := by decide +kernel
theorem dX1_suitsNeighbours_31 : decode cX1_suitsNeighbours 31 = .ok (.ifCond .eq 59, 3) := by decide +kernel
theorem dX1_suitsNeighbours_34 : decode cX1_suitsNeighbours 34 = .ok (.aload_n 1, 1) := by decide +kernel
theorem dX1_suitsNeighbours_35 : decode cX1_suitsNeighbours 35 = .ok (.getfield 52, 3) := by decide +kernel
theorem dX1_suitsNeighbours_38 : decode cX1_suitsNeighbours 38 = .ok (.iload 6, 2) := by decide +kernel
theorem dX1_suitsNeighbours_40 : decode cX1_suitsNeighbours 40 = .ok (.iaload, 1) := by decide +kernel
theorem dX1_suitsNeighbours_41 : decode cX1_suitsNeighbours 41 = .ok (.iload_n 2, 1) := by decide +kernel
theorem dX1_suitsNeighbours_42 : decode cX1_suitsNeighbours 42 = .ok (.if_icmp .ne 6, 3) := by decide +kernel
theorem dX1_suitsNeighbours_45 : decode cX1_suitsNeighbours 45 = .ok (.goto 45, 3) := by decide +kernel
theorem dX1_suitsNeighbours_48 : decode cX1_suitsNeighbours 48 = .ok (.aload_n 0, 1) := by decide +kernel
theorem dX1_suitsNeighbours_49 : decode cX1_suitsNeighbours 49 = .ok (.aload_n 1, 1) := by decide +kernel
theorem dX1_suitsNeighbours_50 : decode cX1_suitsNeighbours 50 = .ok (.getfield 52, 3) := by decide +kernel
theorem dX1_suitsNeighbours_53 : decode cX1_suitsNeighbours 53 = .ok (.iload 6, 2) := by decide +kernel
theorem dX1_suitsNeighbours_55 : decode cX1_suitsNeighbours 55 = .ok (.iaload, 1) := by decide +kernel
theorem dX1_suitsNeighbours_56 : decode cX1_suitsNeighbours 56 = .ok (.aload_n 1, 1) := by decide +kernel
theorem dX1_suitsNeighbours_57 : decode cX1_suitsNeighbours 57 = .ok (.getfield 55, 3) := by decide +kernel
theorem dX1_suitsNeighbours_60 : decode cX1_suitsNeighbours 60 = .ok (.iload 6, 2) := by decide +kernel
theorem dX1_suitsNeighbours_62 : decode cX1_suitsNeighbours 62 = .ok (.iaload, 1) := by decide +kernel
theorem dX1_suitsNeighbours_63 : decode cX1_suitsNeighbours 63 = .ok (.iload 5, 2) := by decide +kernel
theorem dX1_suitsNeighbours_65 : decode cX1_suitsNeighbours 65 = .ok (.iconst 2, 1) := by decide +kernel
theorem dX1_suitsNeighbours_66 : decode cX1_suitsNeighbours 66 = .ok (.iadd, 1) := by decide +kernel
theorem dX1_suitsNeighbours_67 : decode cX1_suitsNeighbours 67 = .ok (.iconst 4, 1) := by decide +kernel
theorem dX1_suitsNeighbours_68 : decode cX1_suitsNeighbours 68 = .ok (.irem, 1) := by decide +kernel
theorem dX1_suitsNeighbours_69 : decode cX1_suitsNeighbours 69 = .ok (.invokevirtual 42, 3) := by decide +kernel
theorem dX1_suitsNeighbours_72 : decode cX1_suitsNeighbours 72 = .ok (.istore 7, 2) := by decide +kernel
theorem dX1_suitsNeighbours_74 : decode cX1_suitsNeighbours 74 = .ok (.aload_n 0, 1) := by decide +kernel
theorem dX1_suitsNeighbours_75 : decode cX1_suitsNeighbours 75 = .ok (.iload_n 2, 1) := by decide +kernel
theorem dX1_suitsNeighbours_76 : decode cX1_suitsNeighbours 76 = .ok (.iload_n 3, 1) := by decide +kernel
theorem dX1_suitsNeighbours_77 : decode cX1_suitsNeighbours 77 = .ok (.iload 5, 2) := by decide +kernel
theorem dX1_suitsNeighbours_79 : decode cX1_suitsNeighbours 79 = .ok (.invokevirtual 42, 3) := by decide +kernel
theorem dX1_suitsNeighbours_82 : decode cX1_suitsNeighbours 82 = .ok (.iload 7, 2) := by decide +kernel
theorem dX1_suitsNeighbours_84 : decode cX1_suitsNeighbours 84 = .ok (.iadd, 1) := by decide +kernel
theorem dX1_suitsNeighbours_85 : decode cX1_suitsNeighbours 85 = .ok (.ifCond .eq 5, 3) := by decide +kernel
theorem dX1_suitsNeighbours_88 : decode cX1_suitsNeighbours 88 = .ok (.iconst 0, 1) := by decide +kernel
theorem dX1_suitsNeighbours_89 : decode cX1_suitsNeighbours 89 = .ok (.ireturn, 1) := by decide +kernel
theorem dX1_suitsNeighbours_90 : decode cX1_suitsNeighbours 90 = .ok (.iinc 5 1, 3) := by decide +kernel
theorem dX1_suitsNeighbours_93 : decode cX1_suitsNeighbours 93 = .ok (.goto (-90), 3) := by decide +kernel
theorem dX1_suitsNeighbours_96 : decode cX1_suitsNeighbours 96 = .ok (.iconst 1, 1) := by decide +kernel
theorem dX1_suitsNeighbours_97 : decode cX1_suitsNeighbours 97 = .ok (.ireturn, 1) := by decide +kernel
theorem dX1_isFit_0 : decode cX1_isFit 0 = .ok (.aload_n 0, 1) := by decide +kernel
theorem dX1_isFit_1 : decode cX1_isFit 1 = .ok (.iload_n 2, 1) := by decide +kernel
theorem dX1_isFit_2 : decode cX1_isFit 2 = .ok (.iload_n 3, 1) := by decide +kernel
theorem dX1_isFit_3 : decode cX1_isFit 3 = .ok (.iload 4, 2) := by decide +kernel
theorem dX1_isFit_5 : decode cX1_isFit 5 = .ok (.invokevirtual 58, 3) := by decide +kernel
theorem dX1_isFit_8 : decode cX1_isFit 8 = .ok (.ifCond .eq 19, 3) := by decide +kernel
theorem dX1_isFit_11 : decode cX1_isFit 11 = .ok (.aload_n 0, 1) := by decide +kernel
theorem dX1_isFit_12 : decode cX1_isFit 12 = .ok (.aload_n 1, 1) := by decide +kernel
theorem dX1_isFit_13 : decode cX1_isFit 13 = .ok (.iload_n 2, 1) := by decide +kernel
theorem dX1_isFit_14 : decode cX1_isFit 14 = .ok (.iload_n 3, 1) := by decide +kernel
theorem dX1_isFit_15 : decode cX1_isFit 15 = .ok (.iload 4, 2) := by decide +kernel
theorem dX1_isFit_17 : decode cX1_isFit 17 = .ok (.invokevirtual 62, 3) := by decide +kernel
theorem dX1_isFit_20 : decode cX1_isFit 20 = .ok (.ifCond .eq 7, 3) := by decide +kernel
theorem dX1_isFit_23 : decode cX1_isFit 23 = .ok (.iconst 1, 1) := by decide +kernel
theorem dX1_isFit_24 : decode cX1_isFit 24 = .ok (.goto 4, 3) := by decide +kernel
theorem dX1_isFit_27 : decode cX1_isFit 27 = .ok (.iconst 0, 1) := by decide +kernel
theorem dX1_isFit_28 : decode cX1_isFit 28 = .ok (.ireturn, 1) := by decide +kernel
theorem dX1_kindOf_0 : decode cX1_kindOf 0 = .ok (.aload_n 0, 1) := by decide +kernel
theorem dX1_kindOf_1 : decode cX1_kindOf 1 = .ok (.iload_n 2, 1) := by decide +kernel
theorem dX1_kindOf_2 : decode cX1_kindOf 2 = .ok (.iload_n 3, 1) := by decide +kernel
theorem dX1_kindOf_3 : decode cX1_kindOf 3 = .ok (.iload 4, 2) := by decide +kernel
theorem dX1_kindOf_5 : decode cX1_kindOf 5 = .ok (.invokevirtual 58, 3) := by decide +kernel
theorem dX1_kindOf_8 : decode cX1_kindOf 8 = .ok (.ifCond .ne 5, 3) := by decide +kernel
theorem dX1_kindOf_11 : decode cX1_kindOf 11 = .ok (.iconst 3, 1) := by decide +kernel
theorem dX1_kindOf_12 : decode cX1_kindOf 12 = .ok (.ireturn, 1) := by decide +kernel
theorem dX1_kindOf_13 : decode cX1_kindOf 13 = .ok (.aload_n 0, 1) := by decide +kernel
theorem dX1_kindOf_14 : decode cX1_kindOf 14 = .ok (.aload_n 1, 1) := by decide +kernel
theorem dX1_kindOf_15 : decode cX1_kindOf 15 = .ok (.iload_n 2, 1) := by decide +kernel
theorem dX1_kindOf_16 : decode cX1_kindOf 16 = .ok (.iload_n 3, 1) := by decide +kernel
theorem dX1_kindOf_17 : decode cX1_kindOf 17 = .ok (.iload 4, 2) := by decide +kernel
theorem dX1_kindOf_19 : decode cX1_kindOf 19 = .ok (.invokevirtual 62, 3) := by decide +kernel
theorem dX1_kindOf_22 : decode cX1_kindOf 22 = .ok (.ifCond .ne 5, 3) := by decide +kernel
theorem dX1_kindOf_25 : decode cX1_kindOf 25 = .ok (.iconst 4, 1) := by decide +kernel
theorem dX1_kindOf_26 : decode cX1_kindOf 26 = .ok (.ireturn, 1) := by decide +kernel
theorem dX1_kindOf_27 : decode cX1_kindOf 27 = .ok (.iload_n 2, 1) := by decide +kernel
theorem dX1_kindOf_28 : decode cX1_kindOf 28 = .ok (.iload 4, 2) := by decide +kernel
theorem dX1_kindOf_30 : decode cX1_kindOf 30 = .ok (.if_icmp .ne 11, 3) := by decide +kernel
theorem dX1_kindOf_33 : decode cX1_kindOf 33 = .ok (.iload_n 3, 1) := by decide +kernel
theorem dX1_kindOf_34 : decode cX1_kindOf 34 = .ok (.ifCond .ne 7, 3) := by decide +kernel
theorem dX1_kindOf_37 : decode cX1_kindOf 37 = .ok (.iconst 1, 1) := by decide +kernel
theorem dX1_kindOf_38 : decode cX1_kindOf 38 = .ok (.goto 4, 3) := by decide +kernel
theorem dX1_kindOf_41 : decode cX1_kindOf 41 = .ok (.iconst 2, 1) := by decide +kernel
theorem dX1_kindOf_42 : decode cX1_kindOf 42 = .ok (.ireturn, 1) := by decide +kernel
theorem dX1_reclass_0 : decode cX1_reclass 0 = .ok (.iconst 0, 1) := by decide +kernel
theorem dX1_reclass_1 : decode cX1_reclass 1 = .ok (.istore_n 2, 1) := by decide +kernel
theorem dX1_reclass_2 : decode cX1_reclass 2 = .ok (.iconst 0, 1) := by decide +kernel
theorem dX1_reclass_3 : decode cX1_reclass 3 = .ok (.istore_n 3, 1) := by decide +kernel
theorem dX1_reclass_4 : decode cX1_reclass 4 = .ok (.iload_n 3, 1) := by decide +kernel
theorem dX1_reclass_5 : decode cX1_reclass 5 = .ok (.aload_n 0, 1) := by decide +kernel
theorem dX1_reclass_6 : decode cX1_reclass 6 = .ok (.getfield 32, 3) := by decide +kernel
theorem dX1_reclass_9 : decode cX1_reclass 9 = .ok (.if_icmp .ge 71, 3) := by decide +kernel
theorem dX1_reclass_12 : decode cX1_reclass 12 = .ok (.iconst 1, 1) := by decide +kernel
theorem dX1_reclass_13 : decode cX1_reclass 13 = .ok (.istore 4, 2) := by decide +kernel
theorem dX1_reclass_15 : decode cX1_reclass 15 = .ok (.iload 4, 2) := by decide +kernel
theorem dX1_reclass_17 : decode cX1_reclass 17 = .ok (.iconst 2, 1) := by decide +kernel
theorem dX1_reclass_18 : decode cX1_reclass 18 = .ok (.if_icmp .gt 56, 3) := by decide +kernel
theorem dX1_reclass_21 : decode cX1_reclass 21 = .ok (.aload_n 0, 1) := by decide +kernel
theorem dX1_reclass_22 : decode cX1_reclass 22 = .ok (.iload_n 3, 1) := by decide +kernel
theorem dX1_reclass_23 : decode cX1_reclass 23 = .ok (.iload 4, 2) := by decide +kernel
theorem dX1_reclass_25 : decode cX1_reclass 25 = .ok (.invokevirtual 39, 3) := by decide +kernel
theorem dX1_reclass_28 : decode cX1_reclass 28 = .ok (.iconst (-1), 1) := by decide +kernel
theorem dX1_reclass_29 : decode cX1_reclass 29 = .ok (.if_icmp .eq 39, 3) := by decide +kernel
theorem dX1_reclass_32 : decode cX1_reclass 32 = .ok (.iconst 1, 1) := by decide +kernel
theorem dX1_reclass_33 : decode cX1_reclass 33 = .ok (.iload_n 2, 1) := by decide +kernel
theorem dX1_reclass_34 : decode cX1_reclass 34 = .ok (.iload_n 1, 1) := by decide +kernel
theorem dX1_reclass_35 : decode cX1_reclass 35 = .ok (.irem, 1) := by decide +kernel
theorem dX1_reclass_36 : decode cX1_reclass 36 = .ok (.iadd, 1) := by decide +kernel
theorem dX1_reclass_37 : decode cX1_reclass 37 = .ok (.istore 5, 2) := by decide +kernel
theorem dX1_reclass_39 : decode cX1_reclass 39 = .ok (.aload_n 0, 1) := by decide +kernel
theorem dX1_reclass_40 : decode cX1_reclass 40 = .ok (.iload_n 3, 1) := by decide +kernel
theorem dX1_reclass_41 : decode cX1_reclass 41 = .ok (.iload 4, 2) := by decide +kernel
theorem dX1_reclass_43 : decode cX1_reclass 43 = .ok (.aload_n 0, 1) := by decide +kernel
theorem dX1_reclass_44 : decode cX1_reclass 44 = .ok (.iload_n 3, 1) := by decide +kernel
theorem dX1_reclass_45 : decode cX1_reclass 45 = .ok (.iconst 0, 1) := by decide +kernel
theorem dX1_reclass_46 : decode cX1_reclass 46 = .ok (.iload 4, 2) := by decide +kernel
theorem dX1_reclass_48 : decode cX1_reclass 48 = .ok (.invokevirtual 42, 3) := by decide +kernel
theorem dX1_reclass_51 : decode cX1_reclass 51 = .ok (.ifCond .le 8, 3) := by decide +kernel
theorem dX1_reclass_54 : decode cX1_reclass 54 = .ok (.iload 5, 2) := by decide +kernel
theorem dX1_reclass_56 : decode cX1_reclass 56 = .ok (.goto 6, 3) := by decide +kernel
theorem dX1_reclass_59 : decode cX1_reclass 59 = .ok (.iload 5, 2) := by decide +kernel
theorem dX1_reclass_61 : decode cX1_reclass 61 = .ok (.ineg, 1) := by decide +kernel
theorem dX1_reclass_62 : decode cX1_reclass 62 = .ok (.invokevirtual 66, 3) := by decide +kernel
theorem dX1_reclass_65 : decode cX1_reclass 65 = .ok (.iinc 2 1, 3) := by decide +kernel
theorem dX1_reclass_68 : decode cX1_reclass 68 = .ok (.iinc 4 1, 3) := by decide +kernel
theorem dX1_reclass_71 : decode cX1_reclass 71 = .ok (.goto (-56), 3) := by decide +kernel
theorem dX1_reclass_74 : decode cX1_reclass 74 = .ok (.iinc 3 1, 3) := by decide +kernel
theorem dX1_reclass_77 : decode cX1_reclass 77 = .ok (.goto (-73), 3) := by decide +kernel
theorem dX1_reclass_80 : decode cX1_reclass 80 = .ok (.return_, 1) := by decide +kernel
theorem dX1_copyFrom_0 : decode cX1_copyFrom 0 = .ok (.aload_n 0, 1) := by decide +kernel
theorem dX1_copyFrom_1 : decode cX1_copyFrom 1 = .ok (.aload_n 1, 1) := by decide +kernel
theorem dX1_copyFrom_2 : decode cX1_copyFrom 2 = .ok (.getfield 25, 3) := by decide +kernel
theorem dX1_copyFrom_5 : decode cX1_copyFrom 5 = .ok (.putfield 25, 3) := by decide +kernel
theorem dX1_copyFrom_8 : decode cX1_copyFrom 8 = .ok (.aload_n 0, 1) := by decide +kernel
theorem dX1_copyFrom_9 : decode cX1_copyFrom 9 = .ok (.aload_n 1, 1) := by decide +kernel
theorem dX1_copyFrom_10 : decode cX1_copyFrom 10 = .ok (.getfield 29, 3) := by decide +kernel
theorem dX1_copyFrom_13 : decode cX1_copyFrom 13 = .ok (.putfield 29, 3) := by decide +kernel
theorem dX1_copyFrom_16 : decode cX1_copyFrom 16 = .ok (.aload_n 0, 1) := by decide +kernel
theorem dX1_copyFrom_17 : decode cX1_copyFrom 17 = .ok (.aload_n 1, 1) := by decide +kernel
theorem dX1_copyFrom_18 : decode cX1_copyFrom 18 = .ok (.getfield 32, 3) := by decide +kernel
theorem dX1_copyFrom_21 : decode cX1_copyFrom 21 = .ok (.putfield 32, 3) := by decide +kernel
theorem dX1_copyFrom_24 : decode cX1_copyFrom 24 = .ok (.aload_n 1, 1) := by decide +kernel
theorem dX1_copyFrom_25 : decode cX1_copyFrom 25 = .ok (.getfield 9, 3) := by decide +kernel
theorem dX1_copyFrom_28 : decode cX1_copyFrom 28 = .ok (.iconst 0, 1) := by decide +kernel
theorem dX1_copyFrom_29 : decode cX1_copyFrom 29 = .ok (.aload_n 0, 1) := by decide +kernel
theorem dX1_copyFrom_30 : decode cX1_copyFrom 30 = .ok (.getfield 9, 3) := by decide +kernel
theorem dX1_copyFrom_33 : decode cX1_copyFrom 33 = .ok (.iconst 0, 1) := by decide +kernel
theorem dX1_copyFrom_34 : decode cX1_copyFrom 34 = .ok (.aload_n 0, 1) := by decide +kernel
theorem dX1_copyFrom_35 : decode cX1_copyFrom 35 = .ok (.getfield 9, 3) := by decide +kernel
theorem dX1_copyFrom_38 : decode cX1_copyFrom 38 = .ok (.arraylength, 1) := by decide +kernel
theorem dX1_copyFrom_39 : decode cX1_copyFrom 39 = .ok (.invokestatic 70, 3) := by decide +kernel
theorem dX1_copyFrom_42 : decode cX1_copyFrom 42 = .ok (.aload_n 1, 1) := by decide +kernel
theorem dX1_copyFrom_43 : decode cX1_copyFrom 43 = .ok (.getfield 15, 3) := by decide +kernel
theorem dX1_copyFrom_46 : decode cX1_copyFrom 46 = .ok (.iconst 0, 1) := by decide +kernel
theorem dX1_copyFrom_47 : decode cX1_copyFrom 47 = .ok (.aload_n 0, 1) := by decide +kernel
theorem dX1_copyFrom_48 : decode cX1_copyFrom 48 = .ok (.getfield 15, 3) := by decide +kernel
theorem dX1_copyFrom_51 : decode cX1_copyFrom 51 = .ok (.iconst 0, 1) := by decide +kernel
theorem dX1_copyFrom_52 : decode cX1_copyFrom 52 = .ok (.aload_n 0, 1) := by decide +kernel
theorem dX1_copyFrom_53 : decode cX1_copyFrom 53 = .ok (.getfield 15, 3) := by decide +kernel
theorem dX1_copyFrom_56 : decode cX1_copyFrom 56 = .ok (.arraylength, 1) := by decide +kernel
theorem dX1_copyFrom_57 : decode cX1_copyFrom 57 = .ok (.invokestatic 70, 3) := by decide +kernel
theorem dX1_copyFrom_60 : decode cX1_copyFrom 60 = .ok (.iconst 0, 1) := by decide +kernel
theorem dX1_copyFrom_61 : decode cX1_copyFrom 61 = .ok (.istore_n 2, 1) := by decide +kernel
theorem dX1_copyFrom_62 : decode cX1_copyFrom 62 = .ok (.iload_n 2, 1) := by decide +kernel
theorem dX1_copyFrom_63 : decode cX1_copyFrom 63 = .ok (.bipush 16, 2) := by decide +kernel
theorem dX1_copyFrom_65 : decode cX1_copyFrom 65 = .ok (.if_icmp .ge 33, 3) := by decide +kernel
theorem dX1_copyFrom_68 : decode cX1_copyFrom 68 = .ok (.aload_n 0, 1) := by decide +kernel
theorem dX1_copyFrom_69 : decode cX1_copyFrom 69 = .ok (.getfield 18, 3) := by decide +kernel
theorem dX1_copyFrom_72 : decode cX1_copyFrom 72 = .ok (.iload_n 2, 1) := by decide +kernel
theorem dX1_copyFrom_73 : decode cX1_copyFrom 73 = .ok (.aload_n 1, 1) := by decide +kernel
theorem dX1_copyFrom_74 : decode cX1_copyFrom 74 = .ok (.getfield 18, 3) := by decide +kernel
theorem dX1_copyFrom_77 : decode cX1_copyFrom 77 = .ok (.iload_n 2, 1) := by decide +kernel
theorem dX1_copyFrom_78 : decode cX1_copyFrom 78 = .ok (.baload, 1) := by decide +kernel
theorem dX1_copyFrom_79 : decode cX1_copyFrom 79 = .ok (.bastore, 1) := by decide +kernel
theorem dX1_copyFrom_80 : decode cX1_copyFrom 80 = .ok (.aload_n 0, 1) := by decide +kernel
theorem dX1_copyFrom_81 : decode cX1_copyFrom 81 = .ok (.getfield 22, 3) := by decide +kernel
theorem dX1_copyFrom_84 : decode cX1_copyFrom 84 = .ok (.iload_n 2, 1) := by decide +kernel
theorem dX1_copyFrom_85 : decode cX1_copyFrom 85 = .ok (.aload_n 1, 1) := by decide +kernel
theorem dX1_copyFrom_86 : decode cX1_copyFrom 86 = .ok (.getfield 22, 3) := by decide +kernel
theorem dX1_copyFrom_89 : decode cX1_copyFrom 89 = .ok (.iload_n 2, 1) := by decide +kernel
theorem dX1_copyFrom_90 : decode cX1_copyFrom 90 = .ok (.iaload, 1) := by decide +kernel
theorem dX1_copyFrom_91 : decode cX1_copyFrom 91 = .ok (.iastore, 1) := by decide +kernel
theorem dX1_copyFrom_92 : decode cX1_copyFrom 92 = .ok (.iinc 2 1, 3) := by decide +kernel
theorem dX1_copyFrom_95 : decode cX1_copyFrom 95 = .ok (.goto (-33), 3) := by decide +kernel
theorem dX1_copyFrom_98 : decode cX1_copyFrom 98 = .ok (.return_, 1) := by decide +kernel
theorem dX2_init_0 : decode cX2_init 0 = .ok (.aload_n 0, 1) := by decide +kernel
theorem dX2_init_1 : decode cX2_init 1 = .ok (.invokespecial 3, 3) := by decide +kernel
theorem dX2_init_4 : decode cX2_init 4 = .ok (.aload_n 0, 1) := by decide +kernel
theorem dX2_init_5 : decode cX2_init 5 = .ok (.new 9, 3) := by decide +kernel
theorem dX2_init_8 : decode cX2_init 8 = .ok (.dup, 1) := by decide +kernel
theorem dX2_init_9 : decode cX2_init 9 = .ok (.invokespecial 11, 3) := by decide +kernel
theorem dX2_init_12 : decode cX2_init 12 = .ok (.putfield 12, 3) := by decide +kernel
theorem dX2_init_15 : decode cX2_init 15 = .ok (.return_, 1) := by decide +kernel
theorem dX2_spend_0 : decode cX2_spend 0 = .ok (.iconst 0, 1) := by decide +kernel
theorem dX2_spend_1 : decode cX2_spend 1 = .ok (.istore 4, 2) := by decide +kernel
theorem dX2_spend_3 : decode cX2_spend 3 = .ok (.aload_n 0, 1) := by decide +kernel
theorem dX2_spend_4 : decode cX2_spend 4 = .ok (.iload_n 3, 1) := by decide +kernel
theorem dX2_spend_5 : decode cX2_spend 5 = .ok (.putfield 18, 3) := by decide +kernel
theorem dX2_spend_8 : decode cX2_spend 8 = .ok (.aload_n 0, 1) := by decide +kernel
theorem dX2_spend_9 : decode cX2_spend 9 = .ok (.getfield 12, 3) := by decide +kernel
theorem dX2_spend_12 : decode cX2_spend 12 = .ok (.aload_n 1, 1) := by decide +kernel
theorem dX2_spend_13 : decode cX2_spend 13 = .ok (.getfield 22, 3) := by decide +kernel
theorem dX2_spend_16 : decode cX2_spend 16 = .ok (.invokevirtual 27, 3) := by decide +kernel
theorem dX2_spend_19 : decode cX2_spend 19 = .ok (.iconst 0, 1) := by decide +kernel
theorem dX2_spend_20 : decode cX2_spend 20 = .ok (.istore 5, 2) := by decide +kernel
theorem dX2_spend_22 : decode cX2_spend 22 = .ok (.iload 5, 2) := by decide +kernel
theorem dX2_spend_24 : decode cX2_spend 24 = .ok (.iload_n 2, 1) := by decide +kernel
theorem dX2_spend_25 : decode cX2_spend 25 = .ok (.if_icmp .ge 129, 3) := by decide +kernel
theorem dX2_spend_28 : decode cX2_spend 28 = .ok (.aload_n 0, 1) := by decide +kernel
theorem dX2_spend_29 : decode cX2_spend 29 = .ok (.aload_n 1, 1) := by decide +kernel
theorem dX2_spend_30 : decode cX2_spend 30 = .ok (.getfield 31, 3) := by decide +kernel
theorem dX2_spend_33 : decode cX2_spend 33 = .ok (.getfield 35, 3) := by decide +kernel
theorem dX2_spend_36 : decode cX2_spend 36 = .ok (.invokevirtual 40, 3) := by decide +kernel
theorem dX2_spend_39 : decode cX2_spend 39 = .ok (.istore 6, 2) := by decide +kernel
theorem dX2_spend_41 : decode cX2_spend 41 = .ok (.aload_n 0, 1) := by decide +kernel
theorem dX2_spend_42 : decode cX2_spend 42 = .ok (.aload_n 1, 1) := by decide +kernel
theorem dX2_spend_43 : decode cX2_spend 43 = .ok (.getfield 44, 3) := by decide +kernel
theorem dX2_spend_46 : decode cX2_spend 46 = .ok (.getfield 48, 3) := by decide +kernel
theorem dX2_spend_49 : decode cX2_spend 49 = .ok (.invokevirtual 40, 3) := by decide +kernel
theorem dX2_spend_52 : decode cX2_spend 52 = .ok (.istore 7, 2) := by decide +kernel
theorem dX2_spend_54 : decode cX2_spend 54 = .ok (.aload_n 0, 1) := by decide +kernel
theorem dX2_spend_55 : decode cX2_spend 55 = .ok (.iconst 4, 1) := by decide +kernel
theorem dX2_spend_56 : decode cX2_spend 56 = .ok (.invokevirtual 40, 3) := by decide +kernel
theorem dX2_spend_59 : decode cX2_spend 59 = .ok (.istore 8, 2) := by decide +kernel
theorem dX2_spend_61 : decode cX2_spend 61 = .ok (.aload_n 0, 1) := by decide +kernel
theorem dX2_spend_62 : decode cX2_spend 62 = .ok (.aload_n 1, 1) := by decide +kernel
theorem dX2_spend_63 : decode cX2_spend 63 = .ok (.getfield 44, 3) := by decide +kernel
theorem dX2_spend_66 : decode cX2_spend 66 = .ok (.getfield 48, 3) := by decide +kernel
theorem dX2_spend_69 : decode cX2_spend 69 = .ok (.invokevirtual 40, 3) := by decide +kernel
theorem dX2_spend_72 : decode cX2_spend 72 = .ok (.istore 9, 2) := by decide +kernel
theorem dX2_spend_74 : decode cX2_spend 74 = .ok (.aload_n 0, 1) := by decide +kernel
theorem dX2_spend_75 : decode cX2_spend 75 = .ok (.getfield 12, 3) := by decide +kernel
theorem dX2_spend_78 : decode cX2_spend 78 = .ok (.iload 9, 2) := by decide +kernel
theorem dX2_spend_80 : decode cX2_spend 80 = .ok (.invokevirtual 53, 3) := by decide +kernel
theorem dX2_spend_83 : decode cX2_spend 83 = .ok (.ifCond .ne 19, 3) := by decide +kernel
theorem dX2_spend_86 : decode cX2_spend 86 = .ok (.aload_n 0, 1) := by decide +kernel
theorem dX2_spend_87 : decode cX2_spend 87 = .ok (.getfield 12, 3) := by decide +kernel
theorem dX2_spend_90 : decode cX2_spend 90 = .ok (.iload 7, 2) := by decide +kernel
theorem dX2_spend_92 : decode cX2_spend 92 = .ok (.invokevirtual 57, 3) := by decide +kernel
theorem dX2_spend_95 : decode cX2_spend 95 = .ok (.ifCond .ne 7, 3) := by decide +kernel
theorem dX2_spend_98 : decode cX2_spend 98 = .ok (.iconst 1, 1) := by decide +kernel
theorem dX2_spend_99 : decode cX2_spend 99 = .ok (.goto 4, 3) := by decide +kernel
theorem dX2_spend_102 : decode cX2_spend 102 = .ok (.iconst 0, 1) := by decide +kernel
theorem dX2_spend_103 : decode cX2_spend 103 = .ok (.istore 10, 2) := by decide +kernel
theorem dX2_spend_105 : decode cX2_spend 105 = .ok (.iload 10, 2) := by decide +kernel
theorem dX2_spend_107 : decode cX2_spend 107 = .ok (.ifCond .eq 41, 3) := by decide +kernel
theorem dX2_spend_110 : decode cX2_spend 110 = .ok (.aload_n 1, 1) := by decide +kernel
theorem dX2_spend_111 : decode cX2_spend 111 = .ok (.getfield 44, 3) := by decide +kernel
theorem dX2_spend_114 : decode cX2_spend 114 = .ok (.aload_n 0, 1) := by decide +kernel
theorem dX2_spend_115 : decode cX2_spend 115 = .ok (.getfield 12, 3) := by decide +kernel
theorem dX2_spend_118 : decode cX2_spend 118 = .ok (.iload 7, 2) := by decide +kernel
theorem dX2_spend_120 : decode cX2_spend 120 = .ok (.iload 8, 2) := by decide +kernel
theorem dX2_spend_122 : decode cX2_spend 122 = .ok (.iload 9, 2) := by decide +kernel
theorem dX2_spend_124 : decode cX2_spend 124 = .ok (.invokevirtual 60, 3) := by decide +kernel
theorem dX2_spend_127 : decode cX2_spend 127 = .ok (.ifCond .eq 21, 3) := by decide +kernel
theorem dX2_spend_130 : decode cX2_spend 130 = .ok (.aload_n 0, 1) := by decide +kernel
theorem dX2_spend_131 : decode cX2_spend 131 = .ok (.getfield 12, 3) := by decide +kernel
theorem dX2_spend_134 : decode cX2_spend 134 = .ok (.iload 9, 2) := by decide +kernel
theorem dX2_spend_136 : decode cX2_spend 136 = .ok (.iload 7, 2) := by decide +kernel
theorem dX2_spend_138 : decode cX2_spend 138 = .ok (.iload 8, 2) := by decide +kernel
theorem dX2_spend_140 : decode cX2_spend 140 = .ok (.iload 6, 2) := by decide +kernel
theorem dX2_spend_142 : decode cX2_spend 142 = .ok (.invokevirtual 64, 3) := by decide +kernel
theorem dX2_spend_145 : decode cX2_spend 145 = .ok (.iinc 4 1, 3) := by decide +kernel
theorem dX2_spend_148 : decode cX2_spend 148 = .ok (.iinc 5 1, 3) := by decide +kernel
theorem dX2_spend_151 : decode cX2_spend 151 = .ok (.goto (-129), 3) := by decide +kernel
theorem dX2_spend_154 : decode cX2_spend 154 = .ok (.iload 4, 2) := by decide +kernel
theorem dX2_spend_156 : decode cX2_spend 156 = .ok (.ireturn, 1) := by decide +kernel
theorem dX2_draw_0 : decode cX2_draw 0 = .ok (.aload_n 0, 1) := by decide +kernel
theorem dX2_draw_1 : decode cX2_draw 1 = .ok (.aload_n 0, 1) := by decide +kernel
theorem dX2_draw_2 : decode cX2_draw 2 = .ok (.getfield 18, 3) := by decide +kernel
theorem dX2_draw_5 : decode cX2_draw 5 = .ok (.ldc 68, 2) := by decide +kernel
theorem dX2_draw_7 : decode cX2_draw 7 = .ok (.imul, 1) := by decide +kernel
theorem dX2_draw_8 : decode cX2_draw 8 = .ok (.ldc 69, 2) := by decide +kernel
theorem dX2_draw_10 : decode cX2_draw 10 = .ok (.iadd, 1) := by decide +kernel
theorem dX2_draw_11 : decode cX2_draw 11 = .ok (.putfield 18, 3) := by decide +kernel
theorem dX2_draw_14 : decode cX2_draw 14 = .ok (.iload_n 1, 1) := by decide +kernel
theorem dX2_draw_15 : decode cX2_draw 15 = .ok (.iconst 1, 1) := by decide +kernel
theorem dX2_draw_16 : decode cX2_draw 16 = .ok (.if_icmp .ge 7, 3) := by decide +kernel
theorem dX2_draw_19 : decode cX2_draw 19 = .ok (.iconst 0, 1) := by decide +kernel
theorem dX2_draw_20 : decode cX2_draw 20 = .ok (.goto 16, 3) := by decide +kernel
theorem dX2_draw_23 : decode cX2_draw 23 = .ok (.aload_n 0, 1) := by decide +kernel
theorem dX2_draw_24 : decode cX2_draw 24 = .ok (.getfield 18, 3) := by decide +kernel
theorem dX2_draw_27 : decode cX2_draw 27 = .ok (.ldc 70, 2) := by decide +kernel
theorem dX2_draw_29 : decode cX2_draw 29 = .ok (.iand, 1) := by decide +kernel
theorem dX2_draw_30 : decode cX2_draw 30 = .ok (.sipush 256, 3) := by decide +kernel
theorem dX2_draw_33 : decode cX2_draw 33 = .ok (.idiv, 1) := by decide +kernel
theorem dX2_draw_34 : decode cX2_draw 34 = .ok (.iload_n 1, 1) := by decide +kernel
theorem dX2_draw_35 : decode cX2_draw 35 = .ok (.irem, 1) := by decide +kernel
theorem dX2_draw_36 : decode cX2_draw 36 = .ok (.ireturn, 1) := by decide +kernel
theorem dX3_init_0 : decode cX3_init 0 = .ok (.aload_n 0, 1) := by decide +kernel
theorem dX3_init_1 : decode cX3_init 1 = .ok (.invokespecial 3, 3) := by decide +kernel
theorem dX3_init_4 : decode cX3_init 4 = .ok (.aload_n 0, 1) := by decide +kernel
theorem dX3_init_5 : decode cX3_init 5 = .ok (.new 9, 3) := by decide +kernel
theorem dX3_init_8 : decode cX3_init 8 = .ok (.dup, 1) := by decide +kernel
theorem dX3_init_9 : decode cX3_init 9 = .ok (.invokespecial 11, 3) := by decide +kernel
theorem dX3_init_12 : decode cX3_init 12 = .ok (.putfield 12, 3) := by decide +kernel
theorem dX3_init_15 : decode cX3_init 15 = .ok (.aload_n 0, 1) := by decide +kernel
theorem dX3_init_16 : decode cX3_init 16 = .ok (.new 18, 3) := by decide +kernel
theorem dX3_init_19 : decode cX3_init 19 = .ok (.dup, 1) := by decide +kernel
theorem dX3_init_20 : decode cX3_init 20 = .ok (.invokespecial 20, 3) := by decide +kernel
theorem dX3_init_23 : decode cX3_init 23 = .ok (.putfield 21, 3) := by decide +kernel
theorem dX3_init_26 : decode cX3_init 26 = .ok (.aload_n 0, 1) := by decide +kernel
theorem dX3_init_27 : decode cX3_init 27 = .ok (.new 25, 3) := by decide +kernel
theorem dX3_init_30 : decode cX3_init 30 = .ok (.dup, 1) := by decide +kernel
theorem dX3_init_31 : decode cX3_init 31 = .ok (.invokespecial 27, 3) := by decide +kernel
theorem dX3_init_34 : decode cX3_init 34 = .ok (.putfield 28, 3) := by decide +kernel
theorem dX3_init_37 : decode cX3_init 37 = .ok (.aload_n 0, 1) := by decide +kernel
theorem dX3_init_38 : decode cX3_init 38 = .ok (.getfield 12, 3) := by decide +kernel
theorem dX3_init_41 : decode cX3_init 41 = .ok (.iconst 3, 1) := by decide +kernel
theorem dX3_init_42 : decode cX3_init 42 = .ok (.iconst 3, 1) := by decide +kernel
theorem dX3_init_43 : decode cX3_init 43 = .ok (.invokevirtual 32, 3) := by decide +kernel
theorem dX3_init_46 : decode cX3_init 46 = .ok (.aload_n 0, 1) := by decide +kernel
theorem dX3_init_47 : decode cX3_init 47 = .ok (.getfield 21, 3) := by decide +kernel
theorem dX3_init_50 : decode cX3_init 50 = .ok (.invokevirtual 36, 3) := by decide +kernel
theorem dX3_init_53 : decode cX3_init 53 = .ok (.return_, 1) := by decide +kernel
theorem dX3_costOf_0 : decode cX3_costOf 0 = .ok (.aload_n 0, 1) := by decide +kernel
theorem dX3_costOf_1 : decode cX3_costOf 1 = .ok (.iload_n 1, 1) := by decide +kernel
theorem dX3_costOf_2 : decode cX3_costOf 2 = .ok (.iload_n 2, 1) := by decide +kernel
theorem dX3_costOf_3 : decode cX3_costOf 3 = .ok (.iload_n 3, 1) := by decide +kernel
theorem dX3_costOf_4 : decode cX3_costOf 4 = .ok (.invokevirtual 39, 3) := by decide +kernel
theorem dX3_costOf_7 : decode cX3_costOf 7 = .ok (.istore 5, 2) := by decide +kernel
theorem dX3_costOf_9 : decode cX3_costOf 9 = .ok (.iload 4, 2) := by decide +kernel
theorem dX3_costOf_11 : decode cX3_costOf 11 = .ok (.iconst 2, 1) := by decide +kernel
theorem dX3_costOf_12 : decode cX3_costOf 12 = .ok (.if_icmp .ne 10, 3) := by decide +kernel
theorem dX3_costOf_15 : decode cX3_costOf 15 = .ok (.iconst 2, 1) := by decide +kernel
theorem dX3_costOf_16 : decode cX3_costOf 16 = .ok (.iload 5, 2) := by decide +kernel
theorem dX3_costOf_18 : decode cX3_costOf 18 = .ok (.imul, 1) := by decide +kernel
theorem dX3_costOf_19 : decode cX3_costOf 19 = .ok (.goto 5, 3) := by decide +kernel
theorem dX3_costOf_22 : decode cX3_costOf 22 = .ok (.iload 5, 2) := by decide +kernel
theorem dX3_costOf_24 : decode cX3_costOf 24 = .ok (.ireturn, 1) := by decide +kernel
theorem dX3_plainCost_0 : decode cX3_plainCost 0 = .ok (.aload_n 0, 1) := by decide +kernel
theorem dX3_plainCost_1 : decode cX3_plainCost 1 = .ok (.getfield 28, 3) := by decide +kernel
theorem dX3_plainCost_4 : decode cX3_plainCost 4 = .ok (.getfield 43, 3) := by decide +kernel
theorem dX3_plainCost_7 : decode cX3_plainCost 7 = .ok (.iload_n 1, 1) := by decide +kernel
theorem dX3_plainCost_8 : decode cX3_plainCost 8 = .ok (.iaload, 1) := by decide +kernel
theorem dX3_plainCost_9 : decode cX3_plainCost 9 = .ok (.istore 4, 2) := by decide +kernel
theorem dX3_plainCost_11 : decode cX3_plainCost 11 = .ok (.aload_n 0, 1) := by decide +kernel
theorem dX3_plainCost_12 : decode cX3_plainCost 12 = .ok (.getfield 28, 3) := by decide +kernel
theorem dX3_plainCost_15 : decode cX3_plainCost 15 = .ok (.getfield 47, 3) := by decide +kernel
theorem dX3_plainCost_18 : decode cX3_plainCost 18 = .ok (.iload_n 1, 1) := by decide +kernel
theorem dX3_plainCost_19 : decode cX3_plainCost 19 = .ok (.iaload, 1) := by decide +kernel
theorem dX3_plainCost_20 : decode cX3_plainCost 20 = .ok (.tableswitch 101 1 4 #[32, 41, 67, 96], 32) := by decide +kernel
theorem dX3_plainCost_52 : decode cX3_plainCost 52 = .ok (.aload_n 0, 1) := by decide +kernel
theorem dX3_plainCost_53 : decode cX3_plainCost 53 = .ok (.iload 4, 2) := by decide +kernel
theorem dX3_plainCost_55 : decode cX3_plainCost 55 = .ok (.iload_n 2, 1) := by decide +kernel
theorem dX3_plainCost_56 : decode cX3_plainCost 56 = .ok (.iload_n 3, 1) := by decide +kernel
theorem dX3_plainCost_57 : decode cX3_plainCost 57 = .ok (.invokevirtual 50, 3) := by decide +kernel
theorem dX3_plainCost_60 : decode cX3_plainCost 60 = .ok (.ireturn, 1) := by decide +kernel
theorem dX3_plainCost_61 : decode cX3_plainCost 61 = .ok (.aload_n 0, 1) := by decide +kernel
theorem dX3_plainCost_62 : decode cX3_plainCost 62 = .ok (.getfield 12, 3) := by decide +kernel
theorem dX3_plainCost_65 : decode cX3_plainCost 65 = .ok (.getfield 53, 3) := by decide +kernel
theorem dX3_plainCost_68 : decode cX3_plainCost 68 = .ok (.iload_n 3, 1) := by decide +kernel
theorem dX3_plainCost_69 : decode cX3_plainCost 69 = .ok (.baload, 1) := by decide +kernel
theorem dX3_plainCost_70 : decode cX3_plainCost 70 = .ok (.ifCond .eq 12, 3) := by decide +kernel
theorem dX3_plainCost_73 : decode cX3_plainCost 73 = .ok (.iload 4, 2) := by decide +kernel
theorem dX3_plainCost_75 : decode cX3_plainCost 75 = .ok (.iconst 1, 1) := by decide +kernel
theorem dX3_plainCost_76 : decode cX3_plainCost 76 = .ok (.iadd, 1) := by decide +kernel
theorem dX3_plainCost_77 : decode cX3_plainCost 77 = .ok (.iconst 2, 1) := by decide +kernel
theorem dX3_plainCost_78 : decode cX3_plainCost 78 = .ok (.idiv, 1) := by decide +kernel
theorem dX3_plainCost_79 : decode cX3_plainCost 79 = .ok (.goto 7, 3) := by decide +kernel
theorem dX3_plainCost_82 : decode cX3_plainCost 82 = .ok (.iconst 2, 1) := by decide +kernel
theorem dX3_plainCost_83 : decode cX3_plainCost 83 = .ok (.iload 4, 2) := by decide +kernel
theorem dX3_plainCost_85 : decode cX3_plainCost 85 = .ok (.imul, 1) := by decide +kernel
theorem dX3_plainCost_86 : decode cX3_plainCost 86 = .ok (.ireturn, 1) := by decide +kernel
theorem dX3_plainCost_87 : decode cX3_plainCost 87 = .ok (.aload_n 0, 1) := by decide +kernel
theorem dX3_plainCost_88 : decode cX3_plainCost 88 = .ok (.getfield 12, 3) := by decide +kernel
theorem dX3_plainCost_91 : decode cX3_plainCost 91 = .ok (.getfield 57, 3) := by decide +kernel
theorem dX3_plainCost_94 : decode cX3_plainCost 94 = .ok (.iload_n 2, 1) := by decide +kernel
theorem dX3_plainCost_95 : decode cX3_plainCost 95 = .ok (.iaload, 1) := by decide +kernel
theorem dX3_plainCost_96 : decode cX3_plainCost 96 = .ok (.iconst 3, 1) := by decide +kernel
theorem dX3_plainCost_97 : decode cX3_plainCost 97 = .ok (.if_icmp .ne 10, 3) := by decide +kernel
theorem dX3_plainCost_100 : decode cX3_plainCost 100 = .ok (.iconst 3, 1) := by decide +kernel
theorem dX3_plainCost_101 : decode cX3_plainCost 101 = .ok (.iload 4, 2) := by decide +kernel
theorem dX3_plainCost_103 : decode cX3_plainCost 103 = .ok (.imul, 1) := by decide +kernel
theorem dX3_plainCost_104 : decode cX3_plainCost 104 = .ok (.goto 11, 3) := by decide +kernel
theorem dX3_plainCost_107 : decode cX3_plainCost 107 = .ok (.aload_n 0, 1) := by decide +kernel
theorem dX3_plainCost_108 : decode cX3_plainCost 108 = .ok (.iload 4, 2) := by decide +kernel
theorem dX3_plainCost_110 : decode cX3_plainCost 110 = .ok (.iload_n 2, 1) := by decide +kernel
theorem dX3_plainCost_111 : decode cX3_plainCost 111 = .ok (.iload_n 3, 1) := by decide +kernel
theorem dX3_plainCost_112 : decode cX3_plainCost 112 = .ok (.invokevirtual 50, 3) := by decide +kernel
theorem dX3_plainCost_115 : decode cX3_plainCost 115 = .ok (.ireturn, 1) := by decide +kernel
theorem dX3_plainCost_116 : decode cX3_plainCost 116 = .ok (.iload 4, 2) := by decide +kernel
theorem dX3_plainCost_118 : decode cX3_plainCost 118 = .ok (.iconst 2, 1) := by decide +kernel
theorem dX3_plainCost_119 : decode cX3_plainCost 119 = .ok (.iadd, 1) := by decide +kernel
theorem dX3_plainCost_120 : decode cX3_plainCost 120 = .ok (.ireturn, 1) := by decide +kernel
theorem dX3_plainCost_121 : decode cX3_plainCost 121 = .ok (.iload 4, 2) := by decide +kernel
theorem dX3_plainCost_123 : decode cX3_plainCost 123 = .ok (.ireturn, 1) := by decide +kernel
theorem dX3_costByColour_0 : decode cX3_costByColour 0 = .ok (.aload_n 0, 1) := by decide +kernel
theorem dX3_costByColour_1 : decode cX3_costByColour 1 = .ok (.getfield 12, 3) := by decide +kernel
theorem dX3_costByColour_4 : decode cX3_costByColour 4 = .ok (.getfield 57, 3) := by decide +kernel
theorem dX3_costByColour_7 : decode cX3_costByColour 7 = .ok (.iload_n 2, 1) := by decide +kernel
theorem dX3_costByColour_8 : decode cX3_costByColour 8 = .ok (.iaload, 1) := by decide +kernel
theorem dX3_costByColour_9 : decode cX3_costByColour 9 = .ok (.aload_n 0, 1) := by decide +kernel
theorem dX3_costByColour_10 : decode cX3_costByColour 10 = .ok (.getfield 12, 3) := by decide +kernel
theorem dX3_costByColour_13 : decode cX3_costByColour 13 = .ok (.getfield 57, 3) := by decide +kernel
theorem dX3_costByColour_16 : decode cX3_costByColour 16 = .ok (.iload_n 3, 1) := by decide +kernel
theorem dX3_costByColour_17 : decode cX3_costByColour 17 = .ok (.iaload, 1) := by decide +kernel
theorem dX3_costByColour_18 : decode cX3_costByColour 18 = .ok (.if_icmp .ne 11, 3) := by decide +kernel
theorem dX3_costByColour_21 : decode cX3_costByColour 21 = .ok (.iload_n 1, 1) := by decide +kernel
theorem dX3_costByColour_22 : decode cX3_costByColour 22 = .ok (.iconst 1, 1) := by decide +kernel
theorem dX3_costByColour_23 : decode cX3_costByColour 23 = .ok (.iadd, 1) := by decide +kernel
theorem dX3_costByColour_24 : decode cX3_costByColour 24 = .ok (.iconst 2, 1) := by decide +kernel
theorem dX3_costByColour_25 : decode cX3_costByColour 25 = .ok (.idiv, 1) := by decide +kernel
theorem dX3_costByColour_26 : decode cX3_costByColour 26 = .ok (.goto 4, 3) := by decide +kernel
theorem dX3_costByColour_29 : decode cX3_costByColour 29 = .ok (.iload_n 1, 1) := by decide +kernel
theorem dX3_costByColour_30 : decode cX3_costByColour 30 = .ok (.ireturn, 1) := by decide +kernel
theorem dX3_hasPlaceFor_0 : decode cX3_hasPlaceFor 0 = .ok (.iconst 0, 1) := by decide +kernel
theorem dX3_hasPlaceFor_1 : decode cX3_hasPlaceFor 1 = .ok (.istore_n 2, 1) := by decide +kernel
theorem dX3_hasPlaceFor_2 : decode cX3_hasPlaceFor 2 = .ok (.iload_n 2, 1) := by decide +kernel
theorem dX3_hasPlaceFor_3 : decode cX3_hasPlaceFor 3 = .ok (.aload_n 0, 1) := by decide +kernel
theorem dX3_hasPlaceFor_4 : decode cX3_hasPlaceFor 4 = .ok (.getfield 12, 3) := by decide +kernel
theorem dX3_hasPlaceFor_7 : decode cX3_hasPlaceFor 7 = .ok (.getfield 60, 3) := by decide +kernel
theorem dX3_hasPlaceFor_10 : decode cX3_hasPlaceFor 10 = .ok (.if_icmp .ge 31, 3) := by decide +kernel
theorem dX3_hasPlaceFor_13 : decode cX3_hasPlaceFor 13 = .ok (.aload_n 0, 1) := by decide +kernel
theorem dX3_hasPlaceFor_14 : decode cX3_hasPlaceFor 14 = .ok (.getfield 21, 3) := by decide +kernel
theorem dX3_hasPlaceFor_17 : decode cX3_hasPlaceFor 17 = .ok (.iload_n 2, 1) := by decide +kernel
theorem dX3_hasPlaceFor_18 : decode cX3_hasPlaceFor 18 = .ok (.invokevirtual 64, 3) := by decide +kernel
theorem dX3_hasPlaceFor_21 : decode cX3_hasPlaceFor 21 = .ok (.ifCond .ne 14, 3) := by decide +kernel
theorem dX3_hasPlaceFor_24 : decode cX3_hasPlaceFor 24 = .ok (.aload_n 0, 1) := by decide +kernel
theorem dX3_hasPlaceFor_25 : decode cX3_hasPlaceFor 25 = .ok (.iload_n 1, 1) := by decide +kernel
theorem dX3_hasPlaceFor_26 : decode cX3_hasPlaceFor 26 = .ok (.iload_n 2, 1) := by decide +kernel
theorem dX3_hasPlaceFor_27 : decode cX3_hasPlaceFor 27 = .ok (.invokevirtual 68, 3) := by decide +kernel
theorem dX3_hasPlaceFor_30 : decode cX3_hasPlaceFor 30 = .ok (.ifCond .eq 5, 3) := by decide +kernel
theorem dX3_hasPlaceFor_33 : decode cX3_hasPlaceFor 33 = .ok (.iconst 1, 1) := by decide +kernel
theorem dX3_hasPlaceFor_34 : decode cX3_hasPlaceFor 34 = .ok (.ireturn, 1) := by decide +kernel
theorem dX3_hasPlaceFor_35 : decode cX3_hasPlaceFor 35 = .ok (.iinc 2 1, 3) := by decide +kernel
theorem dX3_hasPlaceFor_38 : decode cX3_hasPlaceFor 38 = .ok (.goto (-36), 3) := by decide +kernel
theorem dX3_hasPlaceFor_41 : decode cX3_hasPlaceFor 41 = .ok (.iconst 0, 1) := by decide +kernel
theorem dX3_hasPlaceFor_42 : decode cX3_hasPlaceFor 42 = .ok (.ireturn, 1) := by decide +kernel
theorem dX3_fitsSomehow_0 : decode cX3_fitsSomehow 0 = .ok (.iconst 0, 1) := by decide +kernel
theorem dX3_fitsSomehow_1 : decode cX3_fitsSomehow 1 = .ok (.istore_n 3, 1) := by decide +kernel
theorem dX3_fitsSomehow_2 : decode cX3_fitsSomehow 2 = .ok (.iload_n 3, 1) := by decide +kernel
theorem dX3_fitsSomehow_3 : decode cX3_fitsSomehow 3 = .ok (.iconst 4, 1) := by decide +kernel
theorem dX3_fitsSomehow_4 : decode cX3_fitsSomehow 4 = .ok (.if_icmp .ge 28, 3) := by decide +kernel
theorem dX3_fitsSomehow_7 : decode cX3_fitsSomehow 7 = .ok (.aload_n 0, 1) := by decide +kernel
theorem dX3_fitsSomehow_8 : decode cX3_fitsSomehow 8 = .ok (.getfield 12, 3) := by decide +kernel
theorem dX3_fitsSomehow_11 : decode cX3_fitsSomehow 11 = .ok (.aload_n 0, 1) := by decide +kernel
theorem dX3_fitsSomehow_12 : decode cX3_fitsSomehow 12 = .ok (.getfield 21, 3) := by decide +kernel
theorem dX3_fitsSomehow_15 : decode cX3_fitsSomehow 15 = .ok (.iload_n 1, 1) := by decide +kernel
theorem dX3_fitsSomehow_16 : decode cX3_fitsSomehow 16 = .ok (.iload_n 3, 1) := by decide +kernel
theorem dX3_fitsSomehow_17 : decode cX3_fitsSomehow 17 = .ok (.iload_n 2, 1) := by decide +kernel
theorem dX3_fitsSomehow_18 : decode cX3_fitsSomehow 18 = .ok (.invokevirtual 72, 3) := by decide +kernel
theorem dX3_fitsSomehow_21 : decode cX3_fitsSomehow 21 = .ok (.ifCond .eq 5, 3) := by decide +kernel
theorem dX3_fitsSomehow_24 : decode cX3_fitsSomehow 24 = .ok (.iconst 1, 1) := by decide +kernel
theorem dX3_fitsSomehow_25 : decode cX3_fitsSomehow 25 = .ok (.ireturn, 1) := by decide +kernel
theorem dX3_fitsSomehow_26 : decode cX3_fitsSomehow 26 = .ok (.iinc 3 1, 3) := by decide +kernel
theorem dX3_fitsSomehow_29 : decode cX3_fitsSomehow 29 = .ok (.goto (-27), 3) := by decide +kernel
theorem dX3_fitsSomehow_32 : decode cX3_fitsSomehow 32 = .ok (.iconst 0, 1) := by decide +kernel
theorem dX3_fitsSomehow_33 : decode cX3_fitsSomehow 33 = .ok (.ireturn, 1) := by decide +kernel
theorem dX3_copyFrom_0 : decode cX3_copyFrom 0 = .ok (.aload_n 0, 1) := by decide +kernel
theorem dX3_copyFrom_1 : decode cX3_copyFrom 1 = .ok (.getfield 12, 3) := by decide +kernel
theorem dX3_copyFrom_4 : decode cX3_copyFrom 4 = .ok (.aload_n 1, 1) := by decide +kernel
theorem dX3_copyFrom_5 : decode cX3_copyFrom 5 = .ok (.getfield 12, 3) := by decide +kernel
theorem dX3_copyFrom_8 : decode cX3_copyFrom 8 = .ok (.invokevirtual 76, 3) := by decide +kernel
theorem dX3_copyFrom_11 : decode cX3_copyFrom 11 = .ok (.aload_n 0, 1) := by decide +kernel
theorem dX3_copyFrom_12 : decode cX3_copyFrom 12 = .ok (.getfield 21, 3) := by decide +kernel
theorem dX3_copyFrom_15 : decode cX3_copyFrom 15 = .ok (.aload_n 1, 1) := by decide +kernel
theorem dX3_copyFrom_16 : decode cX3_copyFrom 16 = .ok (.getfield 21, 3) := by decide +kernel
theorem dX3_copyFrom_19 : decode cX3_copyFrom 19 = .ok (.invokevirtual 80, 3) := by decide +kernel
theorem dX3_copyFrom_22 : decode cX3_copyFrom 22 = .ok (.aload_n 0, 1) := by decide +kernel
theorem dX3_copyFrom_23 : decode cX3_copyFrom 23 = .ok (.getfield 28, 3) := by decide +kernel
theorem dX3_copyFrom_26 : decode cX3_copyFrom 26 = .ok (.aload_n 1, 1) := by decide +kernel
theorem dX3_copyFrom_27 : decode cX3_copyFrom 27 = .ok (.getfield 28, 3) := by decide +kernel
theorem dX3_copyFrom_30 : decode cX3_copyFrom 30 = .ok (.invokevirtual 83, 3) := by decide +kernel
theorem dX3_copyFrom_33 : decode cX3_copyFrom 33 = .ok (.return_, 1) := by decide +kernel
theorem dX4_init_0 : decode cX4_init 0 = .ok (.aload_n 0, 1) := by decide +kernel
theorem dX4_init_1 : decode cX4_init 1 = .ok (.invokespecial 3, 3) := by decide +kernel
theorem dX4_init_4 : decode cX4_init 4 = .ok (.aload_n 0, 1) := by decide +kernel
theorem dX4_init_5 : decode cX4_init 5 = .ok (.bipush 6, 2) := by decide +kernel
theorem dX4_init_7 : decode cX4_init 7 = .ok (.newarray .int, 2) := by decide +kernel
theorem dX4_init_9 : decode cX4_init 9 = .ok (.putfield 9, 3) := by decide +kernel
theorem dX4_init_12 : decode cX4_init 12 = .ok (.aload_n 0, 1) := by decide +kernel
theorem dX4_init_13 : decode cX4_init 13 = .ok (.bipush 6, 2) := by decide +kernel
theorem dX4_init_15 : decode cX4_init 15 = .ok (.newarray .int, 2) := by decide +kernel
theorem dX4_init_17 : decode cX4_init 17 = .ok (.putfield 15, 3) := by decide +kernel
theorem dX4_init_20 : decode cX4_init 20 = .ok (.aload_n 0, 1) := by decide +kernel
theorem dX4_init_21 : decode cX4_init 21 = .ok (.bipush 6, 2) := by decide +kernel
theorem dX4_init_23 : decode cX4_init 23 = .ok (.newarray .int, 2) := by decide +kernel
theorem dX4_init_25 : decode cX4_init 25 = .ok (.putfield 18, 3) := by decide +kernel
theorem dX4_init_28 : decode cX4_init 28 = .ok (.return_, 1) := by decide +kernel
theorem dX4_add_0 : decode cX4_add 0 = .ok (.aload_n 0, 1) := by decide +kernel
theorem dX4_add_1 : decode cX4_add 1 = .ok (.getfield 9, 3) := by decide +kernel
theorem dX4_add_4 : decode cX4_add 4 = .ok (.aload_n 0, 1) := by decide +kernel
theorem dX4_add_5 : decode cX4_add 5 = .ok (.getfield 21, 3) := by decide +kernel
theorem dX4_add_8 : decode cX4_add 8 = .ok (.iload_n 1, 1) := by decide +kernel
theorem dX4_add_9 : decode cX4_add 9 = .ok (.iastore, 1) := by decide +kernel
theorem dX4_add_10 : decode cX4_add 10 = .ok (.aload_n 0, 1) := by decide +kernel
theorem dX4_add_11 : decode cX4_add 11 = .ok (.getfield 15, 3) := by decide +kernel
theorem dX4_add_14 : decode cX4_add 14 = .ok (.aload_n 0, 1) := by decide +kernel
theorem dX4_add_15 : decode cX4_add 15 = .ok (.getfield 21, 3) := by decide +kernel
theorem dX4_add_18 : decode cX4_add 18 = .ok (.iload_n 2, 1) := by decide +kernel
theorem dX4_add_19 : decode cX4_add 19 = .ok (.iastore, 1) := by decide +kernel
theorem dX4_add_20 : decode cX4_add 20 = .ok (.aload_n 0, 1) := by decide +kernel
theorem dX4_add_21 : decode cX4_add 21 = .ok (.getfield 18, 3) := by decide +kernel
theorem dX4_add_24 : decode cX4_add 24 = .ok (.aload_n 0, 1) := by decide +kernel
theorem dX4_add_25 : decode cX4_add 25 = .ok (.getfield 21, 3) := by decide +kernel
theorem dX4_add_28 : decode cX4_add 28 = .ok (.iconst 0, 1) := by decide +kernel
theorem dX4_add_29 : decode cX4_add 29 = .ok (.iastore, 1) := by decide +kernel
theorem dX4_add_30 : decode cX4_add 30 = .ok (.aload_n 0, 1) := by decide +kernel
theorem dX4_add_31 : decode cX4_add 31 = .ok (.dup, 1) := by decide +kernel
theorem dX4_add_32 : decode cX4_add 32 = .ok (.getfield 21, 3) := by decide +kernel
theorem dX4_add_35 : decode cX4_add 35 = .ok (.iconst 1, 1) := by decide +kernel
theorem dX4_add_36 : decode cX4_add 36 = .ok (.iadd, 1) := by decide +kernel
theorem dX4_add_37 : decode cX4_add 37 = .ok (.putfield 21, 3) := by decide +kernel
theorem dX4_add_40 : decode cX4_add 40 = .ok (.return_, 1) := by decide +kernel
theorem dX4_spentByAll_0 : decode cX4_spentByAll 0 = .ok (.iconst 0, 1) := by decide +kernel
theorem dX4_spentByAll_1 : decode cX4_spentByAll 1 = .ok (.istore_n 1, 1) := by decide +kernel
theorem dX4_spentByAll_2 : decode cX4_spentByAll 2 = .ok (.iconst 0, 1) := by decide +kernel
theorem dX4_spentByAll_3 : decode cX4_spentByAll 3 = .ok (.istore_n 2, 1) := by decide +kernel
theorem dX4_spentByAll_4 : decode cX4_spentByAll 4 = .ok (.iload_n 2, 1) := by decide +kernel
theorem dX4_spentByAll_5 : decode cX4_spentByAll 5 = .ok (.aload_n 0, 1) := by decide +kernel
theorem dX4_spentByAll_6 : decode cX4_spentByAll 6 = .ok (.getfield 21, 3) := by decide +kernel
theorem dX4_spentByAll_9 : decode cX4_spentByAll 9 = .ok (.if_icmp .ge 18, 3) := by decide +kernel
theorem dX4_spentByAll_12 : decode cX4_spentByAll 12 = .ok (.iload_n 1, 1) := by decide +kernel
theorem dX4_spentByAll_13 : decode cX4_spentByAll 13 = .ok (.aload_n 0, 1) := by decide +kernel
theorem dX4_spentByAll_14 : decode cX4_spentByAll 14 = .ok (.getfield 18, 3) := by decide +kernel
theorem dX4_spentByAll_17 : decode cX4_spentByAll 17 = .ok (.iload_n 2, 1) := by decide +kernel
theorem dX4_spentByAll_18 : decode cX4_spentByAll 18 = .ok (.iaload, 1) := by decide +kernel
theorem dX4_spentByAll_19 : decode cX4_spentByAll 19 = .ok (.iadd, 1) := by decide +kernel
theorem dX4_spentByAll_20 : decode cX4_spentByAll 20 = .ok (.istore_n 1, 1) := by decide +kernel
theorem dX4_spentByAll_21 : decode cX4_spentByAll 21 = .ok (.iinc 2 1, 3) := by decide +kernel
theorem dX4_spentByAll_24 : decode cX4_spentByAll 24 = .ok (.goto (-20), 3) := by decide +kernel
theorem dX4_spentByAll_27 : decode cX4_spentByAll 27 = .ok (.iload_n 1, 1) := by decide +kernel
theorem dX4_spentByAll_28 : decode cX4_spentByAll 28 = .ok (.ireturn, 1) := by decide +kernel
theorem dX4_commonDivisor_0 : decode cX4_commonDivisor 0 = .ok (.iload_n 0, 1) := by decide +kernel
theorem dX4_commonDivisor_1 : decode cX4_commonDivisor 1 = .ok (.istore_n 2, 1) := by decide +kernel
theorem dX4_commonDivisor_2 : decode cX4_commonDivisor 2 = .ok (.iload_n 1, 1) := by decide +kernel
theorem dX4_commonDivisor_3 : decode cX4_commonDivisor 3 = .ok (.istore_n 3, 1) := by decide +kernel
theorem dX4_commonDivisor_4 : decode cX4_commonDivisor 4 = .ok (.iconst 0, 1) := by decide +kernel
theorem dX4_commonDivisor_5 : decode cX4_commonDivisor 5 = .ok (.istore 4, 2) := by decide +kernel
theorem dX4_commonDivisor_7 : decode cX4_commonDivisor 7 = .ok (.iload 4, 2) := by decide +kernel
theorem dX4_commonDivisor_9 : decode cX4_commonDivisor 9 = .ok (.bipush 100, 2) := by decide +kernel
theorem dX4_commonDivisor_11 : decode cX4_commonDivisor 11 = .ok (.if_icmp .ge 23, 3) := by decide +kernel
theorem dX4_commonDivisor_14 : decode cX4_commonDivisor 14 = .ok (.iload_n 2, 1) := by decide +kernel
theorem dX4_commonDivisor_15 : decode cX4_commonDivisor 15 = .ok (.ifCond .eq 19, 3) := by decide +kernel
theorem dX4_commonDivisor_18 : decode cX4_commonDivisor 18 = .ok (.iload_n 3, 1) := by decide +kernel
theorem dX4_commonDivisor_19 : decode cX4_commonDivisor 19 = .ok (.iload_n 2, 1) := by decide +kernel
theorem dX4_commonDivisor_20 : decode cX4_commonDivisor 20 = .ok (.irem, 1) := by decide +kernel
theorem dX4_commonDivisor_21 : decode cX4_commonDivisor 21 = .ok (.istore 5, 2) := by decide +kernel
theorem dX4_commonDivisor_23 : decode cX4_commonDivisor 23 = .ok (.iload_n 2, 1) := by decide +kernel
theorem dX4_commonDivisor_24 : decode cX4_commonDivisor 24 = .ok (.istore_n 3, 1) := by decide +kernel
theorem dX4_commonDivisor_25 : decode cX4_commonDivisor 25 = .ok (.iload 5, 2) := by decide +kernel
theorem dX4_commonDivisor_27 : decode cX4_commonDivisor 27 = .ok (.istore_n 2, 1) := by decide +kernel
theorem dX4_commonDivisor_28 : decode cX4_commonDivisor 28 = .ok (.iinc 4 1, 3) := by decide +kernel
theorem dX4_commonDivisor_31 : decode cX4_commonDivisor 31 = .ok (.goto (-24), 3) := by decide +kernel
theorem dX4_commonDivisor_34 : decode cX4_commonDivisor 34 = .ok (.iload_n 3, 1) := by decide +kernel
theorem dX4_commonDivisor_35 : decode cX4_commonDivisor 35 = .ok (.ireturn, 1) := by decide +kernel
theorem dX4_copyFrom_0 : decode cX4_copyFrom 0 = .ok (.aload_n 0, 1) := by decide +kernel
theorem dX4_copyFrom_1 : decode cX4_copyFrom 1 = .ok (.aload_n 1, 1) := by decide +kernel
theorem dX4_copyFrom_2 : decode cX4_copyFrom 2 = .ok (.getfield 21, 3) := by decide +kernel
theorem dX4_copyFrom_5 : decode cX4_copyFrom 5 = .ok (.putfield 21, 3) := by decide +kernel
theorem dX4_copyFrom_8 : decode cX4_copyFrom 8 = .ok (.aload_n 1, 1) := by decide +kernel
theorem dX4_copyFrom_9 : decode cX4_copyFrom 9 = .ok (.getfield 9, 3) := by decide +kernel
theorem dX4_copyFrom_12 : decode cX4_copyFrom 12 = .ok (.iconst 0, 1) := by decide +kernel
theorem dX4_copyFrom_13 : decode cX4_copyFrom 13 = .ok (.aload_n 0, 1) := by decide +kernel
theorem dX4_copyFrom_14 : decode cX4_copyFrom 14 = .ok (.getfield 9, 3) := by decide +kernel
theorem dX4_copyFrom_17 : decode cX4_copyFrom 17 = .ok (.iconst 0, 1) := by decide +kernel
theorem dX4_copyFrom_18 : decode cX4_copyFrom 18 = .ok (.aload_n 0, 1) := by decide +kernel
theorem dX4_copyFrom_19 : decode cX4_copyFrom 19 = .ok (.getfield 9, 3) := by decide +kernel
theorem dX4_copyFrom_22 : decode cX4_copyFrom 22 = .ok (.arraylength, 1) := by decide +kernel
theorem dX4_copyFrom_23 : decode cX4_copyFrom 23 = .ok (.invokestatic 25, 3) := by decide +kernel
theorem dX4_copyFrom_26 : decode cX4_copyFrom 26 = .ok (.aload_n 1, 1) := by decide +kernel
theorem dX4_copyFrom_27 : decode cX4_copyFrom 27 = .ok (.getfield 15, 3) := by decide +kernel
theorem dX4_copyFrom_30 : decode cX4_copyFrom 30 = .ok (.iconst 0, 1) := by decide +kernel
theorem dX4_copyFrom_31 : decode cX4_copyFrom 31 = .ok (.aload_n 0, 1) := by decide +kernel
theorem dX4_copyFrom_32 : decode cX4_copyFrom 32 = .ok (.getfield 15, 3) := by decide +kernel
theorem dX4_copyFrom_35 : decode cX4_copyFrom 35 = .ok (.iconst 0, 1) := by decide +kernel
theorem dX4_copyFrom_36 : decode cX4_copyFrom 36 = .ok (.aload_n 0, 1) := by decide +kernel
theorem dX4_copyFrom_37 : decode cX4_copyFrom 37 = .ok (.getfield 15, 3) := by decide +kernel
theorem dX4_copyFrom_40 : decode cX4_copyFrom 40 = .ok (.arraylength, 1) := by decide +kernel
theorem dX4_copyFrom_41 : decode cX4_copyFrom 41 = .ok (.invokestatic 25, 3) := by decide +kernel
theorem dX4_copyFrom_44 : decode cX4_copyFrom 44 = .ok (.aload_n 1, 1) := by decide +kernel
theorem dX4_copyFrom_45 : decode cX4_copyFrom 45 = .ok (.getfield 18, 3) := by decide +kernel
theorem dX4_copyFrom_48 : decode cX4_copyFrom 48 = .ok (.iconst 0, 1) := by decide +kernel
theorem dX4_copyFrom_49 : decode cX4_copyFrom 49 = .ok (.aload_n 0, 1) := by decide +kernel
theorem dX4_copyFrom_50 : decode cX4_copyFrom 50 = .ok (.getfield 18, 3) := by decide +kernel
theorem dX4_copyFrom_53 : decode cX4_copyFrom 53 = .ok (.iconst 0, 1) := by decide +kernel
theorem dX4_copyFrom_54 : decode cX4_copyFrom 54 = .ok (.aload_n 0, 1) := by decide +kernel
theorem dX4_copyFrom_55 : decode cX4_copyFrom 55 = .ok (.getfield 18, 3) := by decide +kernel
theorem dX4_copyFrom_58 : decode cX4_copyFrom 58 = .ok (.arraylength, 1) := by decide +kernel
theorem dX4_copyFrom_59 : decode cX4_copyFrom 59 = .ok (.invokestatic 25, 3) := by decide +kernel
theorem dX4_copyFrom_62 : decode cX4_copyFrom 62 = .ok (.return_, 1) := by decide +kernel
theorem dX5_init_0 : decode cX5_init 0 = .ok (.aload_n 0, 1) := by decide +kernel
theorem dX5_init_1 : decode cX5_init 1 = .ok (.invokespecial 3, 3) := by decide +kernel
theorem dX5_init_4 : decode cX5_init 4 = .ok (.aload_n 0, 1) := by decide +kernel
theorem dX5_init_5 : decode cX5_init 5 = .ok (.bipush 10, 2) := by decide +kernel
theorem dX5_init_7 : decode cX5_init 7 = .ok (.newarray .int, 2) := by decide +kernel
theorem dX5_init_9 : decode cX5_init 9 = .ok (.putfield 9, 3) := by decide +kernel
theorem dX5_init_12 : decode cX5_init 12 = .ok (.aload_n 0, 1) := by decide +kernel
theorem dX5_init_13 : decode cX5_init 13 = .ok (.bipush 10, 2) := by decide +kernel
theorem dX5_init_15 : decode cX5_init 15 = .ok (.newarray .int, 2) := by decide +kernel
theorem dX5_init_17 : decode cX5_init 17 = .ok (.putfield 15, 3) := by decide +kernel
theorem dX5_init_20 : decode cX5_init 20 = .ok (.aload_n 0, 1) := by decide +kernel
theorem dX5_init_21 : decode cX5_init 21 = .ok (.bipush 10, 2) := by decide +kernel
theorem dX5_init_23 : decode cX5_init 23 = .ok (.newarray .int, 2) := by decide +kernel
theorem dX5_init_25 : decode cX5_init 25 = .ok (.putfield 18, 3) := by decide +kernel
theorem dX5_init_28 : decode cX5_init 28 = .ok (.return_, 1) := by decide +kernel
theorem dX5_weigh_0 : decode cX5_weigh 0 = .ok (.aload_n 0, 1) := by decide +kernel
theorem dX5_weigh_1 : decode cX5_weigh 1 = .ok (.getfield 9, 3) := by decide +kernel
theorem dX5_weigh_4 : decode cX5_weigh 4 = .ok (.invokestatic 21, 3) := by decide +kernel
theorem dX5_weigh_7 : decode cX5_weigh 7 = .ok (.aload_n 0, 1) := by decide +kernel
theorem dX5_weigh_8 : decode cX5_weigh 8 = .ok (.getfield 15, 3) := by decide +kernel
theorem dX5_weigh_11 : decode cX5_weigh 11 = .ok (.invokestatic 21, 3) := by decide +kernel
theorem dX5_weigh_14 : decode cX5_weigh 14 = .ok (.iconst 0, 1) := by decide +kernel
theorem dX5_weigh_15 : decode cX5_weigh 15 = .ok (.istore_n 2, 1) := by decide +kernel
theorem dX5_weigh_16 : decode cX5_weigh 16 = .ok (.iload_n 2, 1) := by decide +kernel
theorem dX5_weigh_17 : decode cX5_weigh 17 = .ok (.aload_n 1, 1) := by decide +kernel
theorem dX5_weigh_18 : decode cX5_weigh 18 = .ok (.getfield 25, 3) := by decide +kernel
theorem dX5_weigh_21 : decode cX5_weigh 21 = .ok (.getfield 31, 3) := by decide +kernel
theorem dX5_weigh_24 : decode cX5_weigh 24 = .ok (.if_icmp .ge 47, 3) := by decide +kernel
theorem dX5_weigh_27 : decode cX5_weigh 27 = .ok (.aload_n 0, 1) := by decide +kernel
theorem dX5_weigh_28 : decode cX5_weigh 28 = .ok (.getfield 9, 3) := by decide +kernel
theorem dX5_weigh_31 : decode cX5_weigh 31 = .ok (.aload_n 1, 1) := by decide +kernel
theorem dX5_weigh_32 : decode cX5_weigh 32 = .ok (.getfield 25, 3) := by decide +kernel
theorem dX5_weigh_35 : decode cX5_weigh 35 = .ok (.iload_n 2, 1) := by decide +kernel
theorem dX5_weigh_36 : decode cX5_weigh 36 = .ok (.iconst 1, 1) := by decide +kernel
theorem dX5_weigh_37 : decode cX5_weigh 37 = .ok (.invokestatic 37, 3) := by decide +kernel
theorem dX5_weigh_40 : decode cX5_weigh 40 = .ok (.aload_n 1, 1) := by decide +kernel
theorem dX5_weigh_41 : decode cX5_weigh 41 = .ok (.getfield 41, 3) := by decide +kernel
theorem dX5_weigh_44 : decode cX5_weigh 44 = .ok (.getfield 45, 3) := by decide +kernel
theorem dX5_weigh_47 : decode cX5_weigh 47 = .ok (.iload_n 2, 1) := by decide +kernel
theorem dX5_weigh_48 : decode cX5_weigh 48 = .ok (.baload, 1) := by decide +kernel
theorem dX5_weigh_49 : decode cX5_weigh 49 = .ok (.ifCond .ne 16, 3) := by decide +kernel
theorem dX5_weigh_52 : decode cX5_weigh 52 = .ok (.aload_n 0, 1) := by decide +kernel
theorem dX5_weigh_53 : decode cX5_weigh 53 = .ok (.getfield 15, 3) := by decide +kernel
theorem dX5_weigh_56 : decode cX5_weigh 56 = .ok (.aload_n 1, 1) := by decide +kernel
theorem dX5_weigh_57 : decode cX5_weigh 57 = .ok (.getfield 25, 3) := by decide +kernel
theorem dX5_weigh_60 : decode cX5_weigh 60 = .ok (.iload_n 2, 1) := by decide +kernel
theorem dX5_weigh_61 : decode cX5_weigh 61 = .ok (.iconst 1, 1) := by decide +kernel
theorem dX5_weigh_62 : decode cX5_weigh 62 = .ok (.invokestatic 37, 3) := by decide +kernel
theorem dX5_weigh_65 : decode cX5_weigh 65 = .ok (.iinc 2 1, 3) := by decide +kernel
theorem dX5_weigh_68 : decode cX5_weigh 68 = .ok (.goto (-52), 3) := by decide +kernel
theorem dX5_weigh_71 : decode cX5_weigh 71 = .ok (.return_, 1) := by decide +kernel
theorem dX5_isShort_0 : decode cX5_isShort 0 = .ok (.iconst 1, 1) := by decide +kernel
theorem dX5_isShort_1 : decode cX5_isShort 1 = .ok (.istore_n 1, 1) := by decide +kernel
theorem dX5_isShort_2 : decode cX5_isShort 2 = .ok (.iload_n 1, 1) := by decide +kernel
theorem dX5_isShort_3 : decode cX5_isShort 3 = .ok (.bipush 9, 2) := by decide +kernel
theorem dX5_isShort_5 : decode cX5_isShort 5 = .ok (.if_icmp .gt 20, 3) := by decide +kernel
theorem dX5_isShort_8 : decode cX5_isShort 8 = .ok (.aload_n 0, 1) := by decide +kernel
theorem dX5_isShort_9 : decode cX5_isShort 9 = .ok (.getfield 15, 3) := by decide +kernel
theorem dX5_isShort_12 : decode cX5_isShort 12 = .ok (.iload_n 1, 1) := by decide +kernel
theorem dX5_isShort_13 : decode cX5_isShort 13 = .ok (.iaload, 1) := by decide +kernel
theorem dX5_isShort_14 : decode cX5_isShort 14 = .ok (.ifCond .eq 5, 3) := by decide +kernel
theorem dX5_isShort_17 : decode cX5_isShort 17 = .ok (.iconst 1, 1) := by decide +kernel
theorem dX5_isShort_18 : decode cX5_isShort 18 = .ok (.ireturn, 1) := by decide +kernel
theorem dX5_isShort_19 : decode cX5_isShort 19 = .ok (.iinc 1 1, 3) := by decide +kernel
theorem dX5_isShort_22 : decode cX5_isShort 22 = .ok (.goto (-20), 3) := by decide +kernel
theorem dX5_isShort_25 : decode cX5_isShort 25 = .ok (.aload_n 0, 1) := by decide +kernel
theorem dX5_isShort_26 : decode cX5_isShort 26 = .ok (.getfield 15, 3) := by decide +kernel
theorem dX5_isShort_29 : decode cX5_isShort 29 = .ok (.iconst 0, 1) := by decide +kernel
theorem dX5_isShort_30 : decode cX5_isShort 30 = .ok (.iaload, 1) := by decide +kernel
theorem dX5_isShort_31 : decode cX5_isShort 31 = .ok (.aload_n 0, 1) := by decide +kernel
theorem dX5_isShort_32 : decode cX5_isShort 32 = .ok (.getfield 9, 3) := by decide +kernel
theorem dX5_isShort_35 : decode cX5_isShort 35 = .ok (.iconst 0, 1) := by decide +kernel
theorem dX5_isShort_36 : decode cX5_isShort 36 = .ok (.iaload, 1) := by decide +kernel
theorem dX5_isShort_37 : decode cX5_isShort 37 = .ok (.if_icmp .ge 7, 3) := by decide +kernel
theorem dX5_isShort_40 : decode cX5_isShort 40 = .ok (.iconst 1, 1) := by decide +kernel
theorem dX5_isShort_41 : decode cX5_isShort 41 = .ok (.goto 4, 3) := by decide +kernel
theorem dX5_isShort_44 : decode cX5_isShort 44 = .ok (.iconst 0, 1) := by decide +kernel
theorem dX5_isShort_45 : decode cX5_isShort 45 = .ok (.ireturn, 1) := by decide +kernel
theorem dX5_suspects_0 : decode cX5_suspects 0 = .ok (.iconst 0, 1) := by decide +kernel
theorem dX5_suspects_1 : decode cX5_suspects 1 = .ok (.istore_n 2, 1) := by decide +kernel
theorem dX5_suspects_2 : decode cX5_suspects 2 = .ok (.iconst 0, 1) := by decide +kernel
theorem dX5_suspects_3 : decode cX5_suspects 3 = .ok (.istore_n 3, 1) := by decide +kernel
theorem dX5_suspects_4 : decode cX5_suspects 4 = .ok (.iload_n 3, 1) := by decide +kernel
theorem dX5_suspects_5 : decode cX5_suspects 5 = .ok (.aload_n 1, 1) := by decide +kernel
theorem dX5_suspects_6 : decode cX5_suspects 6 = .ok (.getfield 31, 3) := by decide +kernel
theorem dX5_suspects_9 : decode cX5_suspects 9 = .ok (.if_icmp .ge 50, 3) := by decide +kernel
theorem dX5_suspects_12 : decode cX5_suspects 12 = .ok (.aload_n 0, 1) := by decide +kernel
theorem dX5_suspects_13 : decode cX5_suspects 13 = .ok (.getfield 9, 3) := by decide +kernel
theorem dX5_suspects_16 : decode cX5_suspects 16 = .ok (.iconst 0, 1) := by decide +kernel
theorem dX5_suspects_17 : decode cX5_suspects 17 = .ok (.aload_n 0, 1) := by decide +kernel
theorem dX5_suspects_18 : decode cX5_suspects 18 = .ok (.getfield 18, 3) := by decide +kernel
theorem dX5_suspects_21 : decode cX5_suspects 21 = .ok (.iconst 0, 1) := by decide +kernel
theorem dX5_suspects_22 : decode cX5_suspects 22 = .ok (.aload_n 0, 1) := by decide +kernel
theorem dX5_suspects_23 : decode cX5_suspects 23 = .ok (.getfield 9, 3) := by decide +kernel
theorem dX5_suspects_26 : decode cX5_suspects 26 = .ok (.arraylength, 1) := by decide +kernel
theorem dX5_suspects_27 : decode cX5_suspects 27 = .ok (.invokestatic 51, 3) := by decide +kernel
theorem dX5_suspects_30 : decode cX5_suspects 30 = .ok (.aload_n 0, 1) := by decide +kernel
theorem dX5_suspects_31 : decode cX5_suspects 31 = .ok (.getfield 18, 3) := by decide +kernel
theorem dX5_suspects_34 : decode cX5_suspects 34 = .ok (.aload_n 1, 1) := by decide +kernel
theorem dX5_suspects_35 : decode cX5_suspects 35 = .ok (.iload_n 3, 1) := by decide +kernel
theorem dX5_suspects_36 : decode cX5_suspects 36 = .ok (.iconst (-1), 1) := by decide +kernel
theorem dX5_suspects_37 : decode cX5_suspects 37 = .ok (.invokestatic 37, 3) := by decide +kernel
theorem dX5_suspects_40 : decode cX5_suspects 40 = .ok (.aload_n 0, 1) := by decide +kernel
theorem dX5_suspects_41 : decode cX5_suspects 41 = .ok (.invokevirtual 57, 3) := by decide +kernel
theorem dX5_suspects_44 : decode cX5_suspects 44 = .ok (.ifCond .eq 9, 3) := by decide +kernel
theorem dX5_suspects_47 : decode cX5_suspects 47 = .ok (.iload_n 2, 1) := by decide +kernel
theorem dX5_suspects_48 : decode cX5_suspects 48 = .ok (.iconst 1, 1) := by decide +kernel
theorem dX5_suspects_49 : decode cX5_suspects 49 = .ok (.iload_n 3, 1) := by decide +kernel
theorem dX5_suspects_50 : decode cX5_suspects 50 = .ok (.ishl, 1) := by decide +kernel
theorem dX5_suspects_51 : decode cX5_suspects 51 = .ok (.ior, 1) := by decide +kernel
theorem dX5_suspects_52 : decode cX5_suspects 52 = .ok (.istore_n 2, 1) := by decide +kernel
theorem dX5_suspects_53 : decode cX5_suspects 53 = .ok (.iinc 3 1, 3) := by decide +kernel
theorem dX5_suspects_56 : decode cX5_suspects 56 = .ok (.goto (-52), 3) := by decide +kernel
theorem dX5_suspects_59 : decode cX5_suspects 59 = .ok (.iload_n 2, 1) := by decide +kernel
theorem dX5_suspects_60 : decode cX5_suspects 60 = .ok (.ireturn, 1) := by decide +kernel
theorem dX5_isAsHere_0 : decode cX5_isAsHere 0 = .ok (.iconst 0, 1) := by decide +kernel
theorem dX5_isAsHere_1 : decode cX5_isAsHere 1 = .ok (.istore_n 1, 1) := by decide +kernel
theorem dX5_isAsHere_2 : decode cX5_isAsHere 2 = .ok (.iload_n 1, 1) := by decide +kernel
theorem dX5_isAsHere_3 : decode cX5_isAsHere 3 = .ok (.bipush 9, 2) := by decide +kernel
theorem dX5_isAsHere_5 : decode cX5_isAsHere 5 = .ok (.if_icmp .gt 26, 3) := by decide +kernel
theorem dX5_isAsHere_8 : decode cX5_isAsHere 8 = .ok (.aload_n 0, 1) := by decide +kernel
theorem dX5_isAsHere_9 : decode cX5_isAsHere 9 = .ok (.getfield 18, 3) := by decide +kernel
theorem dX5_isAsHere_12 : decode cX5_isAsHere 12 = .ok (.iload_n 1, 1) := by decide +kernel
theorem dX5_isAsHere_13 : decode cX5_isAsHere 13 = .ok (.iaload, 1) := by decide +kernel
theorem dX5_isAsHere_14 : decode cX5_isAsHere 14 = .ok (.aload_n 0, 1) := by decide +kernel
theorem dX5_isAsHere_15 : decode cX5_isAsHere 15 = .ok (.getfield 15, 3) := by decide +kernel
theorem dX5_isAsHere_18 : decode cX5_isAsHere 18 = .ok (.iload_n 1, 1) := by decide +kernel
theorem dX5_isAsHere_19 : decode cX5_isAsHere 19 = .ok (.iaload, 1) := by decide +kernel
theorem dX5_isAsHere_20 : decode cX5_isAsHere 20 = .ok (.if_icmp .eq 5, 3) := by decide +kernel
theorem dX5_isAsHere_23 : decode cX5_isAsHere 23 = .ok (.iconst 0, 1) := by decide +kernel
theorem dX5_isAsHere_24 : decode cX5_isAsHere 24 = .ok (.ireturn, 1) := by decide +kernel
theorem dX5_isAsHere_25 : decode cX5_isAsHere 25 = .ok (.iinc 1 1, 3) := by decide +kernel
theorem dX5_isAsHere_28 : decode cX5_isAsHere 28 = .ok (.goto (-26), 3) := by decide +kernel
theorem dX5_isAsHere_31 : decode cX5_isAsHere 31 = .ok (.iconst 1, 1) := by decide +kernel
theorem dX5_isAsHere_32 : decode cX5_isAsHere 32 = .ok (.ireturn, 1) := by decide +kernel
theorem dX5_clear_0 : decode cX5_clear 0 = .ok (.iconst 0, 1) := by decide +kernel
theorem dX5_clear_1 : decode cX5_clear 1 = .ok (.istore_n 1, 1) := by decide +kernel
theorem dX5_clear_2 : decode cX5_clear 2 = .ok (.iload_n 1, 1) := by decide +kernel
theorem dX5_clear_3 : decode cX5_clear 3 = .ok (.aload_n 0, 1) := by decide +kernel
theorem dX5_clear_4 : decode cX5_clear 4 = .ok (.arraylength, 1) := by decide +kernel
theorem dX5_clear_5 : decode cX5_clear 5 = .ok (.if_icmp .ge 13, 3) := by decide +kernel
theorem dX5_clear_8 : decode cX5_clear 8 = .ok (.aload_n 0, 1) := by decide +kernel
theorem dX5_clear_9 : decode cX5_clear 9 = .ok (.iload_n 1, 1) := by decide +kernel
theorem dX5_clear_10 : decode cX5_clear 10 = .ok (.iconst 0, 1) := by decide +kernel
theorem dX5_clear_11 : decode cX5_clear 11 = .ok (.iastore, 1) := by decide +kernel
theorem dX5_clear_12 : decode cX5_clear 12 = .ok (.iinc 1 1, 3) := by decide +kernel
theorem dX5_clear_15 : decode cX5_clear 15 = .ok (.goto (-13), 3) := by decide +kernel
theorem dX5_clear_18 : decode cX5_clear 18 = .ok (.return_, 1) := by decide +kernel
theorem dX5_add_0 : decode cX5_add 0 = .ok (.iconst 0, 1) := by decide +kernel
theorem dX5_add_1 : decode cX5_add 1 = .ok (.istore 4, 2) := by decide +kernel
theorem dX5_add_3 : decode cX5_add 3 = .ok (.iload 4, 2) := by decide +kernel
theorem dX5_add_5 : decode cX5_add 5 = .ok (.iconst 4, 1) := by decide +kernel
theorem dX5_add_6 : decode cX5_add 6 = .ok (.if_icmp .ge 40, 3) := by decide +kernel
theorem dX5_add_9 : decode cX5_add 9 = .ok (.aload_n 1, 1) := by decide +kernel
theorem dX5_add_10 : decode cX5_add 10 = .ok (.iload_n 2, 1) := by decide +kernel
theorem dX5_add_11 : decode cX5_add 11 = .ok (.iconst 0, 1) := by decide +kernel
theorem dX5_add_12 : decode cX5_add 12 = .ok (.iload 4, 2) := by decide +kernel
theorem dX5_add_14 : decode cX5_add 14 = .ok (.invokevirtual 61, 3) := by decide +kernel
theorem dX5_add_17 : decode cX5_add 17 = .ok (.istore 5, 2) := by decide +kernel
theorem dX5_add_19 : decode cX5_add 19 = .ok (.aload_n 0, 1) := by decide +kernel
theorem dX5_add_20 : decode cX5_add 20 = .ok (.iload 5, 2) := by decide +kernel
theorem dX5_add_22 : decode cX5_add 22 = .ok (.invokestatic 65, 3) := by decide +kernel
theorem dX5_add_25 : decode cX5_add 25 = .ok (.dup2, 1) := by decide +kernel
theorem dX5_add_26 : decode cX5_add 26 = .ok (.iaload, 1) := by decide +kernel
theorem dX5_add_27 : decode cX5_add 27 = .ok (.iload 5, 2) := by decide +kernel
theorem dX5_add_29 : decode cX5_add 29 = .ok (.ifCond .ge 8, 3) := by decide +kernel
theorem dX5_add_32 : decode cX5_add 32 = .ok (.iload_n 3, 1) := by decide +kernel
theorem dX5_add_33 : decode cX5_add 33 = .ok (.ineg, 1) := by decide +kernel
theorem dX5_add_34 : decode cX5_add 34 = .ok (.goto 4, 3) := by decide +kernel
theorem dX5_add_37 : decode cX5_add 37 = .ok (.iload_n 3, 1) := by decide +kernel
theorem dX5_add_38 : decode cX5_add 38 = .ok (.iadd, 1) := by decide +kernel
theorem dX5_add_39 : decode cX5_add 39 = .ok (.iastore, 1) := by decide +kernel
theorem dX5_add_40 : decode cX5_add 40 = .ok (.iinc 4 1, 3) := by decide +kernel
theorem dX5_add_43 : decode cX5_add 43 = .ok (.goto (-40), 3) := by decide +kernel
theorem dX5_add_46 : decode cX5_add 46 = .ok (.return_, 1) := by decide +kernel
theorem dX5_seemingPairs_0 : decode cX5_seemingPairs 0 = .ok (.iconst 0, 1) := by decide +kernel
theorem dX5_seemingPairs_1 : decode cX5_seemingPairs 1 = .ok (.istore_n 3, 1) := by decide +kernel
theorem dX5_seemingPairs_2 : decode cX5_seemingPairs 2 = .ok (.iconst 0, 1) := by decide +kernel
theorem dX5_seemingPairs_3 : decode cX5_seemingPairs 3 = .ok (.istore 4, 2) := by decide +kernel
theorem dX5_seemingPairs_5 : decode cX5_seemingPairs 5 = .ok (.iload 4, 2) := by decide +kernel
theorem dX5_seemingPairs_7 : decode cX5_seemingPairs 7 = .ok (.aload_n 1, 1) := by decide +kernel
theorem dX5_seemingPairs_8 : decode cX5_seemingPairs 8 = .ok (.getfield 31, 3) := by decide +kernel
theorem dX5_seemingPairs_11 : decode cX5_seemingPairs 11 = .ok (.if_icmp .ge 61, 3) := by decide +kernel
theorem dX5_seemingPairs_14 : decode cX5_seemingPairs 14 = .ok (.iload 4, 2) := by decide +kernel
theorem dX5_seemingPairs_16 : decode cX5_seemingPairs 16 = .ok (.iconst 1, 1) := by decide +kernel
theorem dX5_seemingPairs_17 : decode cX5_seemingPairs 17 = .ok (.iadd, 1) := by decide +kernel
theorem dX5_seemingPairs_18 : decode cX5_seemingPairs 18 = .ok (.istore 5, 2) := by decide +kernel
theorem dX5_seemingPairs_20 : decode cX5_seemingPairs 20 = .ok (.iload 5, 2) := by decide +kernel
theorem dX5_seemingPairs_22 : decode cX5_seemingPairs 22 = .ok (.aload_n 1, 1) := by decide +kernel
theorem dX5_seemingPairs_23 : decode cX5_seemingPairs 23 = .ok (.getfield 31, 3) := by decide +kernel
theorem dX5_seemingPairs_26 : decode cX5_seemingPairs 26 = .ok (.if_icmp .ge 40, 3) := by decide +kernel
theorem dX5_seemingPairs_29 : decode cX5_seemingPairs 29 = .ok (.aload_n 2, 1) := by decide +kernel
theorem dX5_seemingPairs_30 : decode cX5_seemingPairs 30 = .ok (.getfield 45, 3) := by decide +kernel
theorem dX5_seemingPairs_33 : decode cX5_seemingPairs 33 = .ok (.iload 4, 2) := by decide +kernel
theorem dX5_seemingPairs_35 : decode cX5_seemingPairs 35 = .ok (.baload, 1) := by decide +kernel
theorem dX5_seemingPairs_36 : decode cX5_seemingPairs 36 = .ok (.ifCond .ne 24, 3) := by decide +kernel
theorem dX5_seemingPairs_39 : decode cX5_seemingPairs 39 = .ok (.aload_n 2, 1) := by decide +kernel
theorem dX5_seemingPairs_40 : decode cX5_seemingPairs 40 = .ok (.getfield 45, 3) := by decide +kernel
theorem dX5_seemingPairs_43 : decode cX5_seemingPairs 43 = .ok (.iload 5, 2) := by decide +kernel
theorem dX5_seemingPairs_45 : decode cX5_seemingPairs 45 = .ok (.baload, 1) := by decide +kernel
theorem dX5_seemingPairs_46 : decode cX5_seemingPairs 46 = .ok (.ifCond .ne 14, 3) := by decide +kernel
theorem dX5_seemingPairs_49 : decode cX5_seemingPairs 49 = .ok (.iload_n 3, 1) := by decide +kernel
theorem dX5_seemingPairs_50 : decode cX5_seemingPairs 50 = .ok (.aload_n 1, 1) := by decide +kernel
theorem dX5_seemingPairs_51 : decode cX5_seemingPairs 51 = .ok (.iload 4, 2) := by decide +kernel
theorem dX5_seemingPairs_53 : decode cX5_seemingPairs 53 = .ok (.iload 5, 2) := by decide +kernel
theorem dX5_seemingPairs_55 : decode cX5_seemingPairs 55 = .ok (.invokestatic 71, 3) := by decide +kernel
theorem dX5_seemingPairs_58 : decode cX5_seemingPairs 58 = .ok (.iadd, 1) := by decide +kernel
theorem dX5_seemingPairs_59 : decode cX5_seemingPairs 59 = .ok (.istore_n 3, 1) := by decide +kernel
theorem dX5_seemingPairs_60 : decode cX5_seemingPairs 60 = .ok (.iinc 5 1, 3) := by decide +kernel
theorem dX5_seemingPairs_63 : decode cX5_seemingPairs 63 = .ok (.goto (-43), 3) := by decide +kernel
theorem dX5_seemingPairs_66 : decode cX5_seemingPairs 66 = .ok (.iinc 4 1, 3) := by decide +kernel
theorem dX5_seemingPairs_69 : decode cX5_seemingPairs 69 = .ok (.goto (-64), 3) := by decide +kernel
theorem dX5_seemingPairs_72 : decode cX5_seemingPairs 72 = .ok (.iload_n 3, 1) := by decide +kernel
theorem dX5_seemingPairs_73 : decode cX5_seemingPairs 73 = .ok (.ireturn, 1) := by decide +kernel
theorem dX5_seemingSides_0 : decode cX5_seemingSides 0 = .ok (.iconst 0, 1) := by decide +kernel
theorem dX5_seemingSides_1 : decode cX5_seemingSides 1 = .ok (.istore_n 3, 1) := by decide +kernel
theorem dX5_seemingSides_2 : decode cX5_seemingSides 2 = .ok (.iconst 0, 1) := by decide +kernel
theorem dX5_seemingSides_3 : decode cX5_seemingSides 3 = .ok (.istore 4, 2) := by decide +kernel
theorem dX5_seemingSides_5 : decode cX5_seemingSides 5 = .ok (.iload 4, 2) := by decide +kernel
theorem dX5_seemingSides_7 : decode cX5_seemingSides 7 = .ok (.iconst 4, 1) := by decide +kernel
theorem dX5_seemingSides_8 : decode cX5_seemingSides 8 = .ok (.if_icmp .ge 86, 3) := by decide +kernel
theorem dX5_seemingSides_11 : decode cX5_seemingSides 11 = .ok (.aload_n 0, 1) := by decide +kernel
theorem dX5_seemingSides_12 : decode cX5_seemingSides 12 = .ok (.iload_n 1, 1) := by decide +kernel
theorem dX5_seemingSides_13 : decode cX5_seemingSides 13 = .ok (.iconst 0, 1) := by decide +kernel
theorem dX5_seemingSides_14 : decode cX5_seemingSides 14 = .ok (.iload 4, 2) := by decide +kernel
theorem dX5_seemingSides_16 : decode cX5_seemingSides 16 = .ok (.invokevirtual 61, 3) := by decide +kernel
theorem dX5_seemingSides_19 : decode cX5_seemingSides 19 = .ok (.istore 5, 2) := by decide +kernel
theorem dX5_seemingSides_21 : decode cX5_seemingSides 21 = .ok (.aload_n 0, 1) := by decide +kernel
theorem dX5_seemingSides_22 : decode cX5_seemingSides 22 = .ok (.iload_n 1, 1) := by decide +kernel
theorem dX5_seemingSides_23 : decode cX5_seemingSides 23 = .ok (.iload 4, 2) := by decide +kernel
theorem dX5_seemingSides_25 : decode cX5_seemingSides 25 = .ok (.invokevirtual 75, 3) := by decide +kernel
theorem dX5_seemingSides_28 : decode cX5_seemingSides 28 = .ok (.iload_n 2, 1) := by decide +kernel
theorem dX5_seemingSides_29 : decode cX5_seemingSides 29 = .ok (.if_icmp .ne 12, 3) := by decide +kernel
theorem dX5_seemingSides_32 : decode cX5_seemingSides 32 = .ok (.iload 4, 2) := by decide +kernel
theorem dX5_seemingSides_34 : decode cX5_seemingSides 34 = .ok (.iconst 2, 1) := by decide +kernel
theorem dX5_seemingSides_35 : decode cX5_seemingSides 35 = .ok (.iadd, 1) := by decide +kernel
theorem dX5_seemingSides_36 : decode cX5_seemingSides 36 = .ok (.iconst 4, 1) := by decide +kernel
theorem dX5_seemingSides_37 : decode cX5_seemingSides 37 = .ok (.irem, 1) := by decide +kernel
theorem dX5_seemingSides_38 : decode cX5_seemingSides 38 = .ok (.goto 4, 3) := by decide +kernel
theorem dX5_seemingSides_41 : decode cX5_seemingSides 41 = .ok (.iconst 4, 1) := by decide +kernel
theorem dX5_seemingSides_42 : decode cX5_seemingSides 42 = .ok (.istore 6, 2) := by decide +kernel
theorem dX5_seemingSides_44 : decode cX5_seemingSides 44 = .ok (.iconst 0, 1) := by decide +kernel
theorem dX5_seemingSides_45 : decode cX5_seemingSides 45 = .ok (.istore 7, 2) := by decide +kernel
theorem dX5_seemingSides_47 : decode cX5_seemingSides 47 = .ok (.iload 5, 2) := by decide +kernel
theorem dX5_seemingSides_49 : decode cX5_seemingSides 49 = .ok (.ifCond .eq 39, 3) := by decide +kernel
theorem dX5_seemingSides_52 : decode cX5_seemingSides 52 = .ok (.iload 7, 2) := by decide +kernel
theorem dX5_seemingSides_54 : decode cX5_seemingSides 54 = .ok (.iconst 4, 1) := by decide +kernel
theorem dX5_seemingSides_55 : decode cX5_seemingSides 55 = .ok (.if_icmp .ge 33, 3) := by decide +kernel
theorem dX5_seemingSides_58 : decode cX5_seemingSides 58 = .ok (.iload 7, 2) := by decide +kernel
theorem dX5_seemingSides_60 : decode cX5_seemingSides 60 = .ok (.iload 6, 2) := by decide +kernel
theorem dX5_seemingSides_62 : decode cX5_seemingSides 62 = .ok (.if_icmp .eq 20, 3) := by decide +kernel
theorem dX5_seemingSides_65 : decode cX5_seemingSides 65 = .ok (.iload 5, 2) := by decide +kernel
theorem dX5_seemingSides_67 : decode cX5_seemingSides 67 = .ok (.aload_n 0, 1) := by decide +kernel
theorem dX5_seemingSides_68 : decode cX5_seemingSides 68 = .ok (.iload_n 2, 1) := by decide +kernel
theorem dX5_seemingSides_69 : decode cX5_seemingSides 69 = .ok (.iconst 0, 1) := by decide +kernel
theorem dX5_seemingSides_70 : decode cX5_seemingSides 70 = .ok (.iload 7, 2) := by decide +kernel
theorem dX5_seemingSides_72 : decode cX5_seemingSides 72 = .ok (.invokevirtual 61, 3) := by decide +kernel
theorem dX5_seemingSides_75 : decode cX5_seemingSides 75 = .ok (.iadd, 1) := by decide +kernel
theorem dX5_seemingSides_76 : decode cX5_seemingSides 76 = .ok (.ifCond .ne 6, 3) := by decide +kernel
theorem dX5_seemingSides_79 : decode cX5_seemingSides 79 = .ok (.iinc 3 1, 3) := by decide +kernel
theorem dX5_seemingSides_82 : decode cX5_seemingSides 82 = .ok (.iinc 7 1, 3) := by decide +kernel
theorem dX5_seemingSides_85 : decode cX5_seemingSides 85 = .ok (.goto (-38), 3) := by decide +kernel
theorem dX5_seemingSides_88 : decode cX5_seemingSides 88 = .ok (.iinc 4 1, 3) := by decide +kernel
theorem dX5_seemingSides_91 : decode cX5_seemingSides 91 = .ok (.goto (-86), 3) := by decide +kernel
theorem dX5_seemingSides_94 : decode cX5_seemingSides 94 = .ok (.iload_n 3, 1) := by decide +kernel
theorem dX5_seemingSides_95 : decode cX5_seemingSides 95 = .ok (.ireturn, 1) := by decide +kernel
theorem dX6_init_0 : decode cX6_init 0 = .ok (.aload_n 0, 1) := by decide +kernel
theorem dX6_init_1 : decode cX6_init 1 = .ok (.invokespecial 3, 3) := by decide +kernel
theorem dX6_init_4 : decode cX6_init 4 = .ok (.aload_n 0, 1) := by decide +kernel
theorem dX6_init_5 : decode cX6_init 5 = .ok (.new 9, 3) := by decide +kernel
theorem dX6_init_8 : decode cX6_init 8 = .ok (.dup, 1) := by decide +kernel
theorem dX6_init_9 : decode cX6_init 9 = .ok (.invokespecial 11, 3) := by decide +kernel
theorem dX6_init_12 : decode cX6_init 12 = .ok (.putfield 12, 3) := by decide +kernel
theorem dX6_init_15 : decode cX6_init 15 = .ok (.aload_n 0, 1) := by decide +kernel
theorem dX6_init_16 : decode cX6_init 16 = .ok (.new 9, 3) := by decide +kernel
theorem dX6_init_19 : decode cX6_init 19 = .ok (.dup, 1) := by decide +kernel
theorem dX6_init_20 : decode cX6_init 20 = .ok (.invokespecial 11, 3) := by decide +kernel
theorem dX6_init_23 : decode cX6_init 23 = .ok (.putfield 18, 3) := by decide +kernel
theorem dX6_init_26 : decode cX6_init 26 = .ok (.return_, 1) := by decide +kernel
theorem dX6_goThrough_0 : decode cX6_goThrough 0 = .ok (.aload_n 0, 1) := by decide +kernel
theorem dX6_goThrough_1 : decode cX6_goThrough 1 = .ok (.getfield 21, 3) := by decide +kernel
theorem dX6_goThrough_4 : decode cX6_goThrough 4 = .ok (.ifCond .eq 4, 3) := by decide +kernel
theorem dX6_goThrough_7 : decode cX6_goThrough 7 = .ok (.return_, 1) := by decide +kernel
theorem dX6_goThrough_8 : decode cX6_goThrough 8 = .ok (.aload_n 0, 1) := by decide +kernel
theorem dX6_goThrough_9 : decode cX6_goThrough 9 = .ok (.iconst 0, 1) := by decide +kernel
theorem dX6_goThrough_10 : decode cX6_goThrough 10 = .ok (.putfield 25, 3) := by decide +kernel
theorem dX6_goThrough_13 : decode cX6_goThrough 13 = .ok (.aload_n 0, 1) := by decide +kernel
theorem dX6_goThrough_14 : decode cX6_goThrough 14 = .ok (.iconst 0, 1) := by decide +kernel
theorem dX6_goThrough_15 : decode cX6_goThrough 15 = .ok (.putfield 29, 3) := by decide +kernel
theorem dX6_goThrough_18 : decode cX6_goThrough 18 = .ok (.aload_n 0, 1) := by decide +kernel
theorem dX6_goThrough_19 : decode cX6_goThrough 19 = .ok (.getfield 12, 3) := by decide +kernel
theorem dX6_goThrough_22 : decode cX6_goThrough 22 = .ok (.invokevirtual 32, 3) := by decide +kernel
theorem dX6_goThrough_25 : decode cX6_goThrough 25 = .ok (.aload_n 0, 1) := by decide +kernel
theorem dX6_goThrough_26 : decode cX6_goThrough 26 = .ok (.aload_n 1, 1) := by decide +kernel
theorem dX6_goThrough_27 : decode cX6_goThrough 27 = .ok (.iconst 0, 1) := by decide +kernel
theorem dX6_goThrough_28 : decode cX6_goThrough 28 = .ok (.invokevirtual 35, 3) := by decide +kernel
theorem dX6_goThrough_31 : decode cX6_goThrough 31 = .ok (.aload_n 0, 1) := by decide +kernel
theorem dX6_goThrough_32 : decode cX6_goThrough 32 = .ok (.iconst 1, 1) := by decide +kernel
theorem dX6_goThrough_33 : decode cX6_goThrough 33 = .ok (.putfield 21, 3) := by decide +kernel
theorem dX6_goThrough_36 : decode cX6_goThrough 36 = .ok (.return_, 1) := by decide +kernel
theorem dX6_layFrom_0 : decode cX6_layFrom 0 = .ok (.iload_n 2, 1) := by decide +kernel
theorem dX6_layFrom_1 : decode cX6_layFrom 1 = .ok (.aload_n 1, 1) := by decide +kernel
theorem dX6_layFrom_2 : decode cX6_layFrom 2 = .ok (.getfield 39, 3) := by decide +kernel
theorem dX6_layFrom_5 : decode cX6_layFrom 5 = .ok (.if_icmp .lt 33, 3) := by decide +kernel
theorem dX6_layFrom_8 : decode cX6_layFrom 8 = .ok (.aload_n 0, 1) := by decide +kernel
theorem dX6_layFrom_9 : decode cX6_layFrom 9 = .ok (.dup, 1) := by decide +kernel
theorem dX6_layFrom_10 : decode cX6_layFrom 10 = .ok (.getfield 25, 3) := by decide +kernel
theorem dX6_layFrom_13 : decode cX6_layFrom 13 = .ok (.iconst 1, 1) := by decide +kernel
theorem dX6_layFrom_14 : decode cX6_layFrom 14 = .ok (.iadd, 1) := by decide +kernel
theorem dX6_layFrom_15 : decode cX6_layFrom 15 = .ok (.putfield 25, 3) := by decide +kernel
theorem dX6_layFrom_18 : decode cX6_layFrom 18 = .ok (.aload_n 0, 1) := by decide +kernel
theorem dX6_layFrom_19 : decode cX6_layFrom 19 = .ok (.getfield 25, 3) := by decide +kernel
theorem dX6_layFrom_22 : decode cX6_layFrom 22 = .ok (.iconst 1, 1) := by decide +kernel
theorem dX6_layFrom_23 : decode cX6_layFrom 23 = .ok (.if_icmp .ne 14, 3) := by decide +kernel
theorem dX6_layFrom_26 : decode cX6_layFrom 26 = .ok (.aload_n 0, 1) := by decide +kernel
theorem dX6_layFrom_27 : decode cX6_layFrom 27 = .ok (.getfield 18, 3) := by decide +kernel
theorem dX6_layFrom_30 : decode cX6_layFrom 30 = .ok (.aload_n 0, 1) := by decide +kernel
theorem dX6_layFrom_31 : decode cX6_layFrom 31 = .ok (.getfield 12, 3) := by decide +kernel
theorem dX6_layFrom_34 : decode cX6_layFrom 34 = .ok (.invokevirtual 44, 3) := by decide +kernel
theorem dX6_layFrom_37 : decode cX6_layFrom 37 = .ok (.return_, 1) := by decide +kernel
theorem dX6_layFrom_38 : decode cX6_layFrom 38 = .ok (.iconst 0, 1) := by decide +kernel
theorem dX6_layFrom_39 : decode cX6_layFrom 39 = .ok (.istore_n 3, 1) := by decide +kernel
theorem dX6_layFrom_40 : decode cX6_layFrom 40 = .ok (.iload_n 3, 1) := by decide +kernel
theorem dX6_layFrom_41 : decode cX6_layFrom 41 = .ok (.aload_n 1, 1) := by decide +kernel
theorem dX6_layFrom_42 : decode cX6_layFrom 42 = .ok (.getfield 39, 3) := by decide +kernel
theorem dX6_layFrom_45 : decode cX6_layFrom 45 = .ok (.if_icmp .ge 37, 3) := by decide +kernel
theorem dX6_layFrom_48 : decode cX6_layFrom 48 = .ok (.aload_n 0, 1) := by decide +kernel
theorem dX6_layFrom_49 : decode cX6_layFrom 49 = .ok (.getfield 29, 3) := by decide +kernel
theorem dX6_layFrom_52 : decode cX6_layFrom 52 = .ok (.sipush 20000, 3) := by decide +kernel
theorem dX6_layFrom_55 : decode cX6_layFrom 55 = .ok (.if_icmp .gt 27, 3) := by decide +kernel
theorem dX6_layFrom_58 : decode cX6_layFrom 58 = .ok (.aload_n 0, 1) := by decide +kernel
theorem dX6_layFrom_59 : decode cX6_layFrom 59 = .ok (.getfield 12, 3) := by decide +kernel
theorem dX6_layFrom_62 : decode cX6_layFrom 62 = .ok (.iload_n 3, 1) := by decide +kernel
theorem dX6_layFrom_63 : decode cX6_layFrom 63 = .ok (.invokevirtual 48, 3) := by decide +kernel
theorem dX6_layFrom_66 : decode cX6_layFrom 66 = .ok (.ifCond .ne 10, 3) := by decide +kernel
theorem dX6_layFrom_69 : decode cX6_layFrom 69 = .ok (.aload_n 0, 1) := by decide +kernel
theorem dX6_layFrom_70 : decode cX6_layFrom 70 = .ok (.aload_n 1, 1) := by decide +kernel
theorem dX6_layFrom_71 : decode cX6_layFrom 71 = .ok (.iload_n 2, 1) := by decide +kernel
theorem dX6_layFrom_72 : decode cX6_layFrom 72 = .ok (.iload_n 3, 1) := by decide +kernel
theorem dX6_layFrom_73 : decode cX6_layFrom 73 = .ok (.invokevirtual 52, 3) := by decide +kernel
theorem dX6_layFrom_76 : decode cX6_layFrom 76 = .ok (.iinc 3 1, 3) := by decide +kernel
theorem dX6_layFrom_79 : decode cX6_layFrom 79 = .ok (.goto (-39), 3) := by decide +kernel
theorem dX6_layFrom_82 : decode cX6_layFrom 82 = .ok (.return_, 1) := by decide +kernel
theorem dX6_layTurned_0 : decode cX6_layTurned 0 = .ok (.iconst 0, 1) := by decide +kernel
theorem dX6_layTurned_1 : decode cX6_layTurned 1 = .ok (.istore 4, 2) := by decide +kernel
theorem dX6_layTurned_3 : decode cX6_layTurned 3 = .ok (.iload 4, 2) := by decide +kernel
theorem dX6_layTurned_5 : decode cX6_layTurned 5 = .ok (.iconst 4, 1) := by decide +kernel
theorem dX6_layTurned_6 : decode cX6_layTurned 6 = .ok (.if_icmp .ge 83, 3) := by decide +kernel
theorem dX6_layTurned_9 : decode cX6_layTurned 9 = .ok (.aload_n 0, 1) := by decide +kernel
theorem dX6_layTurned_10 : decode cX6_layTurned 10 = .ok (.getfield 29, 3) := by decide +kernel
theorem dX6_layTurned_13 : decode cX6_layTurned 13 = .ok (.sipush 20000, 3) := by decide +kernel
theorem dX6_layTurned_16 : decode cX6_layTurned 16 = .ok (.if_icmp .gt 73, 3) := by decide +kernel
theorem dX6_layTurned_19 : decode cX6_layTurned 19 = .ok (.aload_n 0, 1) := by decide +kernel
theorem dX6_layTurned_20 : decode cX6_layTurned 20 = .ok (.dup, 1) := by decide +kernel
theorem dX6_layTurned_21 : decode cX6_layTurned 21 = .ok (.getfield 29, 3) := by decide +kernel
theorem dX6_layTurned_24 : decode cX6_layTurned 24 = .ok (.iconst 1, 1) := by decide +kernel
theorem dX6_layTurned_25 : decode cX6_layTurned 25 = .ok (.iadd, 1) := by decide +kernel
theorem dX6_layTurned_26 : decode cX6_layTurned 26 = .ok (.putfield 29, 3) := by decide +kernel
theorem dX6_layTurned_29 : decode cX6_layTurned 29 = .ok (.aload_n 0, 1) := by decide +kernel
theorem dX6_layTurned_30 : decode cX6_layTurned 30 = .ok (.getfield 29, 3) := by decide +kernel
theorem dX6_layTurned_33 : decode cX6_layTurned 33 = .ok (.sipush 20000, 3) := by decide +kernel
theorem dX6_layTurned_36 : decode cX6_layTurned 36 = .ok (.if_icmp .gt 47, 3) := by decide +kernel
theorem dX6_layTurned_39 : decode cX6_layTurned 39 = .ok (.aload_n 1, 1) := by decide +kernel
theorem dX6_layTurned_40 : decode cX6_layTurned 40 = .ok (.aload_n 0, 1) := by decide +kernel
theorem dX6_layTurned_41 : decode cX6_layTurned 41 = .ok (.getfield 12, 3) := by decide +kernel
theorem dX6_layTurned_44 : decode cX6_layTurned 44 = .ok (.iload_n 3, 1) := by decide +kernel
theorem dX6_layTurned_45 : decode cX6_layTurned 45 = .ok (.iload 4, 2) := by decide +kernel
theorem dX6_layTurned_47 : decode cX6_layTurned 47 = .ok (.iload_n 2, 1) := by decide +kernel
theorem dX6_layTurned_48 : decode cX6_layTurned 48 = .ok (.invokevirtual 56, 3) := by decide +kernel
theorem dX6_layTurned_51 : decode cX6_layTurned 51 = .ok (.ifCond .eq 32, 3) := by decide +kernel
theorem dX6_layTurned_54 : decode cX6_layTurned 54 = .ok (.aload_n 0, 1) := by decide +kernel
theorem dX6_layTurned_55 : decode cX6_layTurned 55 = .ok (.getfield 12, 3) := by decide +kernel
theorem dX6_layTurned_58 : decode cX6_layTurned 58 = .ok (.iload_n 2, 1) := by decide +kernel
theorem dX6_layTurned_59 : decode cX6_layTurned 59 = .ok (.iload_n 3, 1) := by decide +kernel
theorem dX6_layTurned_60 : decode cX6_layTurned 60 = .ok (.iload 4, 2) := by decide +kernel
theorem dX6_layTurned_62 : decode cX6_layTurned 62 = .ok (.iconst 0, 1) := by decide +kernel
theorem dX6_layTurned_63 : decode cX6_layTurned 63 = .ok (.invokevirtual 60, 3) := by decide +kernel
theorem dX6_layTurned_66 : decode cX6_layTurned 66 = .ok (.aload_n 0, 1) := by decide +kernel
theorem dX6_layTurned_67 : decode cX6_layTurned 67 = .ok (.aload_n 1, 1) := by decide +kernel
theorem dX6_layTurned_68 : decode cX6_layTurned 68 = .ok (.iload_n 2, 1) := by decide +kernel
theorem dX6_layTurned_69 : decode cX6_layTurned 69 = .ok (.iconst 1, 1) := by decide +kernel
theorem dX6_layTurned_70 : decode cX6_layTurned 70 = .ok (.iadd, 1) := by decide +kernel
theorem dX6_layTurned_71 : decode cX6_layTurned 71 = .ok (.invokevirtual 35, 3) := by decide +kernel
theorem dX6_layTurned_74 : decode cX6_layTurned 74 = .ok (.aload_n 0, 1) := by decide +kernel
theorem dX6_layTurned_75 : decode cX6_layTurned 75 = .ok (.getfield 12, 3) := by decide +kernel
theorem dX6_layTurned_78 : decode cX6_layTurned 78 = .ok (.iload_n 2, 1) := by decide +kernel
theorem dX6_layTurned_79 : decode cX6_layTurned 79 = .ok (.invokevirtual 64, 3) := by decide +kernel
theorem dX6_layTurned_82 : decode cX6_layTurned 82 = .ok (.pop, 1) := by decide +kernel
theorem dX6_layTurned_83 : decode cX6_layTurned 83 = .ok (.iinc 4 1, 3) := by decide +kernel
theorem dX6_layTurned_86 : decode cX6_layTurned 86 = .ok (.goto (-83), 3) := by decide +kernel
theorem dX6_layTurned_89 : decode cX6_layTurned 89 = .ok (.return_, 1) := by decide +kernel
theorem dX7_init_0 : decode cX7_init 0 = .ok (.aload_n 0, 1) := by decide +kernel
theorem dX7_init_1 : decode cX7_init 1 = .ok (.invokespecial 3, 3) := by decide +kernel
theorem dX7_init_4 : decode cX7_init 4 = .ok (.aload_n 0, 1) := by decide +kernel
theorem dX7_init_5 : decode cX7_init 5 = .ok (.bipush 64, 2) := by decide +kernel
theorem dX7_init_7 : decode cX7_init 7 = .ok (.newarray .char, 2) := by decide +kernel
theorem dX7_init_9 : decode cX7_init 9 = .ok (.putfield 9, 3) := by decide +kernel
theorem dX7_init_12 : decode cX7_init 12 = .ok (.return_, 1) := by decide +kernel
theorem dX7_take_0 : decode cX7_take 0 = .ok (.iconst 0, 1) := by decide +kernel
theorem dX7_take_1 : decode cX7_take 1 = .ok (.istore 4, 2) := by decide +kernel
theorem dX7_take_3 : decode cX7_take 3 = .ok (.iload 4, 2) := by decide +kernel
theorem dX7_take_5 : decode cX7_take 5 = .ok (.iload_n 1, 1) := by decide +kernel
theorem dX7_take_6 : decode cX7_take 6 = .ok (.if_icmp .ge 50, 3) := by decide +kernel
theorem dX7_take_9 : decode cX7_take 9 = .ok (.aload_n 0, 1) := by decide +kernel
theorem dX7_take_10 : decode cX7_take 10 = .ok (.getfield 15, 3) := by decide +kernel
theorem dX7_take_13 : decode cX7_take 13 = .ok (.bipush 64, 2) := by decide +kernel
theorem dX7_take_15 : decode cX7_take 15 = .ok (.if_icmp .ge 41, 3) := by decide +kernel
theorem dX7_take_18 : decode cX7_take 18 = .ok (.aload_n 0, 1) := by decide +kernel
theorem dX7_take_19 : decode cX7_take 19 = .ok (.getfield 9, 3) := by decide +kernel
theorem dX7_take_22 : decode cX7_take 22 = .ok (.aload_n 0, 1) := by decide +kernel
theorem dX7_take_23 : decode cX7_take 23 = .ok (.getfield 15, 3) := by decide +kernel
theorem dX7_take_26 : decode cX7_take 26 = .ok (.lload_n 2, 1) := by decide +kernel
theorem dX7_take_27 : decode cX7_take 27 = .ok (.bipush 8, 2) := by decide +kernel
theorem dX7_take_29 : decode cX7_take 29 = .ok (.iload 4, 2) := by decide +kernel
theorem dX7_take_31 : decode cX7_take 31 = .ok (.imul, 1) := by decide +kernel
theorem dX7_take_32 : decode cX7_take 32 = .ok (.lushr, 1) := by decide +kernel
theorem dX7_take_33 : decode cX7_take 33 = .ok (.ldc2_w 19, 3) := by decide +kernel
theorem dX7_take_36 : decode cX7_take 36 = .ok (.land, 1) := by decide +kernel
theorem dX7_take_37 : decode cX7_take 37 = .ok (.l2i, 1) := by decide +kernel
theorem dX7_take_38 : decode cX7_take 38 = .ok (.i2c, 1) := by decide +kernel
theorem dX7_take_39 : decode cX7_take 39 = .ok (.castore, 1) := by decide +kernel
theorem dX7_take_40 : decode cX7_take 40 = .ok (.aload_n 0, 1) := by decide +kernel
theorem dX7_take_41 : decode cX7_take 41 = .ok (.dup, 1) := by decide +kernel
theorem dX7_take_42 : decode cX7_take 42 = .ok (.getfield 15, 3) := by decide +kernel
theorem dX7_take_45 : decode cX7_take 45 = .ok (.iconst 1, 1) := by decide +kernel
theorem dX7_take_46 : decode cX7_take 46 = .ok (.iadd, 1) := by decide +kernel
theorem dX7_take_47 : decode cX7_take 47 = .ok (.putfield 15, 3) := by decide +kernel
theorem dX7_take_50 : decode cX7_take 50 = .ok (.iinc 4 1, 3) := by decide +kernel
theorem dX7_take_53 : decode cX7_take 53 = .ok (.goto (-50), 3) := by decide +kernel
theorem dX7_take_56 : decode cX7_take 56 = .ok (.return_, 1) := by decide +kernel
theorem dX7_readInto_0 : decode cX7_readInto 0 = .ok (.aload_n 0, 1) := by decide +kernel
theorem dX7_readInto_1 : decode cX7_readInto 1 = .ok (.iconst 0, 1) := by decide +kernel
theorem dX7_readInto_2 : decode cX7_readInto 2 = .ok (.putfield 21, 3) := by decide +kernel
theorem dX7_readInto_5 : decode cX7_readInto 5 = .ok (.aload_n 0, 1) := by decide +kernel
theorem dX7_readInto_6 : decode cX7_readInto 6 = .ok (.iconst 0, 1) := by decide +kernel
theorem dX7_readInto_7 : decode cX7_readInto 7 = .ok (.putfield 24, 3) := by decide +kernel
theorem dX7_readInto_10 : decode cX7_readInto 10 = .ok (.aload_n 0, 1) := by decide +kernel
theorem dX7_readInto_11 : decode cX7_readInto 11 = .ok (.invokevirtual 28, 3) := by decide +kernel
theorem dX7_readInto_14 : decode cX7_readInto 14 = .ok (.iconst 0, 1) := by decide +kernel
theorem dX7_readInto_15 : decode cX7_readInto 15 = .ok (.istore_n 2, 1) := by decide +kernel
theorem dX7_readInto_16 : decode cX7_readInto 16 = .ok (.iload_n 2, 1) := by decide +kernel
theorem dX7_readInto_17 : decode cX7_readInto 17 = .ok (.bipush 64, 2) := by decide +kernel
theorem dX7_readInto_19 : decode cX7_readInto 19 = .ok (.if_icmp .ge 31, 3) := by decide +kernel
theorem dX7_readInto_22 : decode cX7_readInto 22 = .ok (.aload_n 0, 1) := by decide +kernel
theorem dX7_readInto_23 : decode cX7_readInto 23 = .ok (.getfield 24, 3) := by decide +kernel
theorem dX7_readInto_26 : decode cX7_readInto 26 = .ok (.ifCond .ne 24, 3) := by decide +kernel
theorem dX7_readInto_29 : decode cX7_readInto 29 = .ok (.aload_n 0, 1) := by decide +kernel
theorem dX7_readInto_30 : decode cX7_readInto 30 = .ok (.getfield 21, 3) := by decide +kernel
theorem dX7_readInto_33 : decode cX7_readInto 33 = .ok (.aload_n 0, 1) := by decide +kernel
theorem dX7_readInto_34 : decode cX7_readInto 34 = .ok (.getfield 15, 3) := by decide +kernel
theorem dX7_readInto_37 : decode cX7_readInto 37 = .ok (.if_icmp .ge 13, 3) := by decide +kernel
theorem dX7_readInto_40 : decode cX7_readInto 40 = .ok (.aload_n 0, 1) := by decide +kernel
theorem dX7_readInto_41 : decode cX7_readInto 41 = .ok (.invokevirtual 28, 3) := by decide +kernel
theorem dX7_readInto_44 : decode cX7_readInto 44 = .ok (.iinc 2 1, 3) := by decide +kernel
theorem dX7_readInto_47 : decode cX7_readInto 47 = .ok (.goto (-31), 3) := by decide +kernel
theorem dX7_readInto_50 : decode cX7_readInto 50 = .ok (.aload_n 0, 1) := by decide +kernel
theorem dX7_readInto_51 : decode cX7_readInto 51 = .ok (.getfield 24, 3) := by decide +kernel
theorem dX7_readInto_54 : decode cX7_readInto 54 = .ok (.ifCond .eq 14, 3) := by decide +kernel
theorem dX7_readInto_57 : decode cX7_readInto 57 = .ok (.sipush (-1000), 3) := by decide +kernel
theorem dX7_readInto_60 : decode cX7_readInto 60 = .ok (.aload_n 0, 1) := by decide +kernel
theorem dX7_readInto_61 : decode cX7_readInto 61 = .ok (.getfield 21, 3) := by decide +kernel
theorem dX7_readInto_64 : decode cX7_readInto 64 = .ok (.isub, 1) := by decide +kernel
theorem dX7_readInto_65 : decode cX7_readInto 65 = .ok (.goto 8, 3) := by decide +kernel
theorem dX7_readInto_68 : decode cX7_readInto 68 = .ok (.aload_n 0, 1) := by decide +kernel
theorem dX7_readInto_69 : decode cX7_readInto 69 = .ok (.aload_n 1, 1) := by decide +kernel
theorem dX7_readInto_70 : decode cX7_readInto 70 = .ok (.invokevirtual 31, 3) := by decide +kernel
theorem dX7_readInto_73 : decode cX7_readInto 73 = .ok (.ireturn, 1) := by decide +kernel
theorem dX7_passStatement_0 : decode cX7_passStatement 0 = .ok (.aload_n 0, 1) := by decide +kernel
theorem dX7_passStatement_1 : decode cX7_passStatement 1 = .ok (.getfield 21, 3) := by decide +kernel
theorem dX7_passStatement_4 : decode cX7_passStatement 4 = .ok (.aload_n 0, 1) := by decide +kernel
theorem dX7_passStatement_5 : decode cX7_passStatement 5 = .ok (.getfield 15, 3) := by decide +kernel
theorem dX7_passStatement_8 : decode cX7_passStatement 8 = .ok (.if_icmp .ge 15, 3) := by decide +kernel
theorem dX7_passStatement_11 : decode cX7_passStatement 11 = .ok (.aload_n 0, 1) := by decide +kernel
theorem dX7_passStatement_12 : decode cX7_passStatement 12 = .ok (.getfield 9, 3) := by decide +kernel
theorem dX7_passStatement_15 : decode cX7_passStatement 15 = .ok (.aload_n 0, 1) := by decide +kernel
theorem dX7_passStatement_16 : decode cX7_passStatement 16 = .ok (.getfield 21, 3) := by decide +kernel
theorem dX7_passStatement_19 : decode cX7_passStatement 19 = .ok (.caload, 1) := by decide +kernel
theorem dX7_passStatement_20 : decode cX7_passStatement 20 = .ok (.goto 4, 3) := by decide +kernel
theorem dX7_passStatement_23 : decode cX7_passStatement 23 = .ok (.iconst 0, 1) := by decide +kernel
theorem dX7_passStatement_24 : decode cX7_passStatement 24 = .ok (.istore_n 1, 1) := by decide +kernel
theorem dX7_passStatement_25 : decode cX7_passStatement 25 = .ok (.aload_n 0, 1) := by decide +kernel
theorem dX7_passStatement_26 : decode cX7_passStatement 26 = .ok (.ldc 35, 2) := by decide +kernel
theorem dX7_passStatement_28 : decode cX7_passStatement 28 = .ok (.invokevirtual 37, 3) := by decide +kernel
theorem dX7_passStatement_31 : decode cX7_passStatement 31 = .ok (.iload_n 1, 1) := by decide +kernel
theorem dX7_passStatement_32 : decode cX7_passStatement 32 = .ok (.lookupswitch 95 #[(99, 76), (101, 51), (122, 36)], 36) := by decide +kernel
theorem dX7_passStatement_68 : decode cX7_passStatement 68 = .ok (.aload_n 0, 1) := by decide +kernel
theorem dX7_passStatement_69 : decode cX7_passStatement 69 = .ok (.ldc 41, 2) := by decide +kernel
theorem dX7_passStatement_71 : decode cX7_passStatement 71 = .ok (.invokevirtual 37, 3) := by decide +kernel
theorem dX7_passStatement_74 : decode cX7_passStatement 74 = .ok (.aload_n 0, 1) := by decide +kernel
theorem dX7_passStatement_75 : decode cX7_passStatement 75 = .ok (.ldc 41, 2) := by decide +kernel
theorem dX7_passStatement_77 : decode cX7_passStatement 77 = .ok (.invokevirtual 37, 3) := by decide +kernel
theorem dX7_passStatement_80 : decode cX7_passStatement 80 = .ok (.goto 59, 3) := by decide +kernel
theorem dX7_passStatement_83 : decode cX7_passStatement 83 = .ok (.aload_n 0, 1) := by decide +kernel
theorem dX7_passStatement_84 : decode cX7_passStatement 84 = .ok (.invokevirtual 43, 3) := by decide +kernel
theorem dX7_passStatement_87 : decode cX7_passStatement 87 = .ok (.aload_n 0, 1) := by decide +kernel
theorem dX7_passStatement_88 : decode cX7_passStatement 88 = .ok (.ldc 46, 2) := by decide +kernel
theorem dX7_passStatement_90 : decode cX7_passStatement 90 = .ok (.invokevirtual 37, 3) := by decide +kernel
theorem dX7_passStatement_93 : decode cX7_passStatement 93 = .ok (.aload_n 0, 1) := by decide +kernel
theorem dX7_passStatement_94 : decode cX7_passStatement 94 = .ok (.ldc 48, 2) := by decide +kernel
theorem dX7_passStatement_96 : decode cX7_passStatement 96 = .ok (.invokevirtual 37, 3) := by decide +kernel
theorem dX7_passStatement_99 : decode cX7_passStatement 99 = .ok (.aload_n 0, 1) := by decide +kernel
theorem dX7_passStatement_100 : decode cX7_passStatement 100 = .ok (.ldc 41, 2) := by decide +kernel
theorem dX7_passStatement_102 : decode cX7_passStatement 102 = .ok (.invokevirtual 37, 3) := by decide +kernel
theorem dX7_passStatement_105 : decode cX7_passStatement 105 = .ok (.goto 34, 3) := by decide +kernel
theorem dX7_passStatement_108 : decode cX7_passStatement 108 = .ok (.aload_n 0, 1) := by decide +kernel
theorem dX7_passStatement_109 : decode cX7_passStatement 109 = .ok (.invokevirtual 43, 3) := by decide +kernel
theorem dX7_passStatement_112 : decode cX7_passStatement 112 = .ok (.aload_n 0, 1) := by decide +kernel
theorem dX7_passStatement_113 : decode cX7_passStatement 113 = .ok (.ldc 50, 2) := by decide +kernel
theorem dX7_passStatement_115 : decode cX7_passStatement 115 = .ok (.invokevirtual 37, 3) := by decide +kernel
theorem dX7_passStatement_118 : decode cX7_passStatement 118 = .ok (.aload_n 0, 1) := by decide +kernel
theorem dX7_passStatement_119 : decode cX7_passStatement 119 = .ok (.ldc 41, 2) := by decide +kernel
theorem dX7_passStatement_121 : decode cX7_passStatement 121 = .ok (.invokevirtual 37, 3) := by decide +kernel
theorem dX7_passStatement_124 : decode cX7_passStatement 124 = .ok (.goto 15, 3) := by decide +kernel
theorem dX7_passStatement_127 : decode cX7_passStatement 127 = .ok (.aload_n 0, 1) := by decide +kernel
theorem dX7_passStatement_128 : decode cX7_passStatement 128 = .ok (.ldc 54, 2) := by decide +kernel
theorem dX7_passStatement_130 : decode cX7_passStatement 130 = .ok (.invokevirtual 37, 3) := by decide +kernel
theorem dX7_passStatement_133 : decode cX7_passStatement 133 = .ok (.aload_n 0, 1) := by decide +kernel
theorem dX7_passStatement_134 : decode cX7_passStatement 134 = .ok (.ldc 41, 2) := by decide +kernel
theorem dX7_passStatement_136 : decode cX7_passStatement 136 = .ok (.invokevirtual 37, 3) := by decide +kernel
theorem dX7_passStatement_139 : decode cX7_passStatement 139 = .ok (.aload_n 0, 1) := by decide +kernel
theorem dX7_passStatement_140 : decode cX7_passStatement 140 = .ok (.ldc 56, 2) := by decide +kernel
theorem dX7_passStatement_142 : decode cX7_passStatement 142 = .ok (.invokevirtual 37, 3) := by decide +kernel
theorem dX7_passStatement_145 : decode cX7_passStatement 145 = .ok (.return_, 1) := by decide +kernel
theorem dX7_passCell_0 : decode cX7_passCell 0 = .ok (.aload_n 0, 1) := by decide +kernel
theorem dX7_passCell_1 : decode cX7_passCell 1 = .ok (.ldc 41, 2) := by decide +kernel
theorem dX7_passCell_3 : decode cX7_passCell 3 = .ok (.invokevirtual 37, 3) := by decide +kernel
theorem dX7_passCell_6 : decode cX7_passCell 6 = .ok (.aload_n 0, 1) := by decide +kernel
theorem dX7_passCell_7 : decode cX7_passCell 7 = .ok (.ldc 41, 2) := by decide +kernel
theorem dX7_passCell_9 : decode cX7_passCell 9 = .ok (.invokevirtual 58, 3) := by decide +kernel
theorem dX7_passCell_12 : decode cX7_passCell 12 = .ok (.ifCond .eq 13, 3) := by decide +kernel
theorem dX7_passCell_15 : decode cX7_passCell 15 = .ok (.aload_n 0, 1) := by decide +kernel
theorem dX7_passCell_16 : decode cX7_passCell 16 = .ok (.dup, 1) := by decide +kernel
theorem dX7_passCell_17 : decode cX7_passCell 17 = .ok (.getfield 21, 3) := by decide +kernel
theorem dX7_passCell_20 : decode cX7_passCell 20 = .ok (.iconst 1, 1) := by decide +kernel
theorem dX7_passCell_21 : decode cX7_passCell 21 = .ok (.iadd, 1) := by decide +kernel
theorem dX7_passCell_22 : decode cX7_passCell 22 = .ok (.putfield 21, 3) := by decide +kernel
theorem dX7_passCell_25 : decode cX7_passCell 25 = .ok (.return_, 1) := by decide +kernel
theorem dX7_passOneOf_0 : decode cX7_passOneOf 0 = .ok (.aload_n 0, 1) := by decide +kernel
theorem dX7_passOneOf_1 : decode cX7_passOneOf 1 = .ok (.aload_n 1, 1) := by decide +kernel
theorem dX7_passOneOf_2 : decode cX7_passOneOf 2 = .ok (.invokevirtual 58, 3) := by decide +kernel
theorem dX7_passOneOf_5 : decode cX7_passOneOf 5 = .ok (.ifCond .eq 16, 3) := by decide +kernel
theorem dX7_passOneOf_8 : decode cX7_passOneOf 8 = .ok (.aload_n 0, 1) := by decide +kernel
theorem dX7_passOneOf_9 : decode cX7_passOneOf 9 = .ok (.dup, 1) := by decide +kernel
theorem dX7_passOneOf_10 : decode cX7_passOneOf 10 = .ok (.getfield 21, 3) := by decide +kernel
theorem dX7_passOneOf_13 : decode cX7_passOneOf 13 = .ok (.iconst 1, 1) := by decide +kernel
theorem dX7_passOneOf_14 : decode cX7_passOneOf 14 = .ok (.iadd, 1) := by decide +kernel
theorem dX7_passOneOf_15 : decode cX7_passOneOf 15 = .ok (.putfield 21, 3) := by decide +kernel
theorem dX7_passOneOf_18 : decode cX7_passOneOf 18 = .ok (.goto 8, 3) := by decide +kernel
theorem dX7_passOneOf_21 : decode cX7_passOneOf 21 = .ok (.aload_n 0, 1) := by decide +kernel
theorem dX7_passOneOf_22 : decode cX7_passOneOf 22 = .ok (.iconst 1, 1) := by decide +kernel
theorem dX7_passOneOf_23 : decode cX7_passOneOf 23 = .ok (.putfield 24, 3) := by decide +kernel
theorem dX7_passOneOf_26 : decode cX7_passOneOf 26 = .ok (.return_, 1) := by decide +kernel
theorem dX7_isNext_0 : decode cX7_isNext 0 = .ok (.aload_n 0, 1) := by decide +kernel
theorem dX7_isNext_1 : decode cX7_isNext 1 = .ok (.getfield 24, 3) := by decide +kernel
theorem dX7_isNext_4 : decode cX7_isNext 4 = .ok (.ifCond .ne 34, 3) := by decide +kernel
theorem dX7_isNext_7 : decode cX7_isNext 7 = .ok (.aload_n 0, 1) := by decide +kernel
theorem dX7_isNext_8 : decode cX7_isNext 8 = .ok (.getfield 21, 3) := by decide +kernel
theorem dX7_isNext_11 : decode cX7_isNext 11 = .ok (.aload_n 0, 1) := by decide +kernel
theorem dX7_isNext_12 : decode cX7_isNext 12 = .ok (.getfield 15, 3) := by decide +kernel
theorem dX7_isNext_15 : decode cX7_isNext 15 = .ok (.if_icmp .ge 23, 3) := by decide +kernel
theorem dX7_isNext_18 : decode cX7_isNext 18 = .ok (.aload_n 1, 1) := by decide +kernel
theorem dX7_isNext_19 : decode cX7_isNext 19 = .ok (.aload_n 0, 1) := by decide +kernel
theorem dX7_isNext_20 : decode cX7_isNext 20 = .ok (.getfield 9, 3) := by decide +kernel
theorem dX7_isNext_23 : decode cX7_isNext 23 = .ok (.aload_n 0, 1) := by decide +kernel
theorem dX7_isNext_24 : decode cX7_isNext 24 = .ok (.getfield 21, 3) := by decide +kernel
theorem dX7_isNext_27 : decode cX7_isNext 27 = .ok (.caload, 1) := by decide +kernel
theorem dX7_isNext_28 : decode cX7_isNext 28 = .ok (.invokevirtual 62, 3) := by decide +kernel
theorem dX7_isNext_31 : decode cX7_isNext 31 = .ok (.ifCond .lt 7, 3) := by decide +kernel
theorem dX7_isNext_34 : decode cX7_isNext 34 = .ok (.iconst 1, 1) := by decide +kernel
theorem dX7_isNext_35 : decode cX7_isNext 35 = .ok (.goto 4, 3) := by decide +kernel
theorem dX7_isNext_38 : decode cX7_isNext 38 = .ok (.iconst 0, 1) := by decide +kernel
theorem dX7_isNext_39 : decode cX7_isNext 39 = .ok (.ireturn, 1) := by decide +kernel
theorem dX7_obeyAll_0 : decode cX7_obeyAll 0 = .ok (.iconst 0, 1) := by decide +kernel
theorem dX7_obeyAll_1 : decode cX7_obeyAll 1 = .ok (.istore_n 2, 1) := by decide +kernel
theorem dX7_obeyAll_2 : decode cX7_obeyAll 2 = .ok (.iconst 0, 1) := by decide +kernel
theorem dX7_obeyAll_3 : decode cX7_obeyAll 3 = .ok (.istore_n 3, 1) := by decide +kernel
theorem dX7_obeyAll_4 : decode cX7_obeyAll 4 = .ok (.iconst 0, 1) := by decide +kernel
theorem dX7_obeyAll_5 : decode cX7_obeyAll 5 = .ok (.istore 4, 2) := by decide +kernel
theorem dX7_obeyAll_7 : decode cX7_obeyAll 7 = .ok (.iload 4, 2) := by decide +kernel
theorem dX7_obeyAll_9 : decode cX7_obeyAll 9 = .ok (.aload_n 0, 1) := by decide +kernel
theorem dX7_obeyAll_10 : decode cX7_obeyAll 10 = .ok (.getfield 15, 3) := by decide +kernel
theorem dX7_obeyAll_13 : decode cX7_obeyAll 13 = .ok (.if_icmp .ge 46, 3) := by decide +kernel
theorem dX7_obeyAll_16 : decode cX7_obeyAll 16 = .ok (.aload_n 0, 1) := by decide +kernel
theorem dX7_obeyAll_17 : decode cX7_obeyAll 17 = .ok (.getfield 9, 3) := by decide +kernel
theorem dX7_obeyAll_20 : decode cX7_obeyAll 20 = .ok (.iload 4, 2) := by decide +kernel
theorem dX7_obeyAll_22 : decode cX7_obeyAll 22 = .ok (.caload, 1) := by decide +kernel
theorem dX7_obeyAll_23 : decode cX7_obeyAll 23 = .ok (.bipush 59, 2) := by decide +kernel
theorem dX7_obeyAll_25 : decode cX7_obeyAll 25 = .ok (.if_icmp .ne 28, 3) := by decide +kernel
theorem dX7_obeyAll_28 : decode cX7_obeyAll 28 = .ok (.aload_n 0, 1) := by decide +kernel
theorem dX7_obeyAll_29 : decode cX7_obeyAll 29 = .ok (.aload_n 1, 1) := by decide +kernel
theorem dX7_obeyAll_30 : decode cX7_obeyAll 30 = .ok (.iload_n 3, 1) := by decide +kernel
theorem dX7_obeyAll_31 : decode cX7_obeyAll 31 = .ok (.iload 4, 2) := by decide +kernel
theorem dX7_obeyAll_33 : decode cX7_obeyAll 33 = .ok (.invokevirtual 68, 3) := by decide +kernel
theorem dX7_obeyAll_36 : decode cX7_obeyAll 36 = .ok (.ifCond .ne 9, 3) := by decide +kernel
theorem dX7_obeyAll_39 : decode cX7_obeyAll 39 = .ok (.sipush (-2000), 3) := by decide +kernel
theorem dX7_obeyAll_42 : decode cX7_obeyAll 42 = .ok (.iload_n 3, 1) := by decide +kernel
theorem dX7_obeyAll_43 : decode cX7_obeyAll 43 = .ok (.isub, 1) := by decide +kernel
theorem dX7_obeyAll_44 : decode cX7_obeyAll 44 = .ok (.ireturn, 1) := by decide +kernel
theorem dX7_obeyAll_45 : decode cX7_obeyAll 45 = .ok (.iinc 2 1, 3) := by decide +kernel
theorem dX7_obeyAll_48 : decode cX7_obeyAll 48 = .ok (.iload 4, 2) := by decide +kernel
theorem dX7_obeyAll_50 : decode cX7_obeyAll 50 = .ok (.iconst 1, 1) := by decide +kernel
theorem dX7_obeyAll_51 : decode cX7_obeyAll 51 = .ok (.iadd, 1) := by decide +kernel
theorem dX7_obeyAll_52 : decode cX7_obeyAll 52 = .ok (.istore_n 3, 1) := by decide +kernel
theorem dX7_obeyAll_53 : decode cX7_obeyAll 53 = .ok (.iinc 4 1, 3) := by decide +kernel
theorem dX7_obeyAll_56 : decode cX7_obeyAll 56 = .ok (.goto (-49), 3) := by decide +kernel
theorem dX7_obeyAll_59 : decode cX7_obeyAll 59 = .ok (.iload_n 2, 1) := by decide +kernel
theorem dX7_obeyAll_60 : decode cX7_obeyAll 60 = .ok (.ireturn, 1) := by decide +kernel
theorem dX7_obey_0 : decode cX7_obey 0 = .ok (.aload_n 0, 1) := by decide +kernel
theorem dX7_obey_1 : decode cX7_obey 1 = .ok (.getfield 9, 3) := by decide +kernel
theorem dX7_obey_4 : decode cX7_obey 4 = .ok (.iload_n 2, 1) := by decide +kernel
theorem dX7_obey_5 : decode cX7_obey 5 = .ok (.caload, 1) := by decide +kernel
theorem dX7_obey_6 : decode cX7_obey 6 = .ok (.istore 4, 2) := by decide +kernel
theorem dX7_obey_8 : decode cX7_obey 8 = .ok (.iload 4, 2) := by decide +kernel
theorem dX7_obey_10 : decode cX7_obey 10 = .ok (.lookupswitch 94 #[(99, 71), (101, 54), (122, 34)], 34) := by decide +kernel
theorem dX7_obey_44 : decode cX7_obey 44 = .ok (.aload_n 0, 1) := by decide +kernel
theorem dX7_obey_45 : decode cX7_obey 45 = .ok (.aload_n 1, 1) := by decide +kernel
theorem dX7_obey_46 : decode cX7_obey 46 = .ok (.aload_n 0, 1) := by decide +kernel
theorem dX7_obey_47 : decode cX7_obey 47 = .ok (.iload_n 2, 1) := by decide +kernel
theorem dX7_obey_48 : decode cX7_obey 48 = .ok (.iconst 1, 1) := by decide +kernel
theorem dX7_obey_49 : decode cX7_obey 49 = .ok (.iadd, 1) := by decide +kernel
theorem dX7_obey_50 : decode cX7_obey 50 = .ok (.invokevirtual 72, 3) := by decide +kernel
theorem dX7_obey_53 : decode cX7_obey 53 = .ok (.aload_n 0, 1) := by decide +kernel
theorem dX7_obey_54 : decode cX7_obey 54 = .ok (.iload_n 2, 1) := by decide +kernel
theorem dX7_obey_55 : decode cX7_obey 55 = .ok (.iconst 2, 1) := by decide +kernel
theorem dX7_obey_56 : decode cX7_obey 56 = .ok (.iadd, 1) := by decide +kernel
theorem dX7_obey_57 : decode cX7_obey 57 = .ok (.invokevirtual 72, 3) := by decide +kernel
theorem dX7_obey_60 : decode cX7_obey 60 = .ok (.invokevirtual 75, 3) := by decide +kernel
theorem dX7_obey_63 : decode cX7_obey 63 = .ok (.ireturn, 1) := by decide +kernel
theorem dX7_obey_64 : decode cX7_obey 64 = .ok (.aload_n 0, 1) := by decide +kernel
theorem dX7_obey_65 : decode cX7_obey 65 = .ok (.aload_n 1, 1) := by decide +kernel
theorem dX7_obey_66 : decode cX7_obey 66 = .ok (.aload_n 0, 1) := by decide +kernel
theorem dX7_obey_67 : decode cX7_obey 67 = .ok (.iload_n 2, 1) := by decide +kernel
theorem dX7_obey_68 : decode cX7_obey 68 = .ok (.iconst 1, 1) := by decide +kernel
theorem dX7_obey_69 : decode cX7_obey 69 = .ok (.iadd, 1) := by decide +kernel
theorem dX7_obey_70 : decode cX7_obey 70 = .ok (.iload_n 3, 1) := by decide +kernel
theorem dX7_obey_71 : decode cX7_obey 71 = .ok (.iconst 3, 1) := by decide +kernel
theorem dX7_obey_72 : decode cX7_obey 72 = .ok (.isub, 1) := by decide +kernel
theorem dX7_obey_73 : decode cX7_obey 73 = .ok (.invokevirtual 78, 3) := by decide +kernel
theorem dX7_obey_76 : decode cX7_obey 76 = .ok (.iload_n 3, 1) := by decide +kernel
theorem dX7_obey_77 : decode cX7_obey 77 = .ok (.invokevirtual 82, 3) := by decide +kernel
theorem dX7_obey_80 : decode cX7_obey 80 = .ok (.ireturn, 1) := by decide +kernel
theorem dX7_obey_81 : decode cX7_obey 81 = .ok (.aload_n 0, 1) := by decide +kernel
theorem dX7_obey_82 : decode cX7_obey 82 = .ok (.aload_n 1, 1) := by decide +kernel
theorem dX7_obey_83 : decode cX7_obey 83 = .ok (.aload_n 0, 1) := by decide +kernel
theorem dX7_obey_84 : decode cX7_obey 84 = .ok (.iload_n 2, 1) := by decide +kernel
theorem dX7_obey_85 : decode cX7_obey 85 = .ok (.iconst 1, 1) := by decide +kernel
theorem dX7_obey_86 : decode cX7_obey 86 = .ok (.iadd, 1) := by decide +kernel
theorem dX7_obey_87 : decode cX7_obey 87 = .ok (.iload_n 3, 1) := by decide +kernel
theorem dX7_obey_88 : decode cX7_obey 88 = .ok (.iconst 2, 1) := by decide +kernel
theorem dX7_obey_89 : decode cX7_obey 89 = .ok (.isub, 1) := by decide +kernel
theorem dX7_obey_90 : decode cX7_obey 90 = .ok (.invokevirtual 78, 3) := by decide +kernel
theorem dX7_obey_93 : decode cX7_obey 93 = .ok (.aload_n 0, 1) := by decide +kernel
theorem dX7_obey_94 : decode cX7_obey 94 = .ok (.iload_n 3, 1) := by decide +kernel
theorem dX7_obey_95 : decode cX7_obey 95 = .ok (.iconst 1, 1) := by decide +kernel
theorem dX7_obey_96 : decode cX7_obey 96 = .ok (.isub, 1) := by decide +kernel
theorem dX7_obey_97 : decode cX7_obey 97 = .ok (.invokevirtual 72, 3) := by decide +kernel
theorem dX7_obey_100 : decode cX7_obey 100 = .ok (.invokevirtual 85, 3) := by decide +kernel
theorem dX7_obey_103 : decode cX7_obey 103 = .ok (.ireturn, 1) := by decide +kernel
theorem dX7_obey_104 : decode cX7_obey 104 = .ok (.aload_n 0, 1) := by decide +kernel
theorem dX7_obey_105 : decode cX7_obey 105 = .ok (.aload_n 1, 1) := by decide +kernel
theorem dX7_obey_106 : decode cX7_obey 106 = .ok (.ldc 54, 2) := by decide +kernel
theorem dX7_obey_108 : decode cX7_obey 108 = .ok (.aload_n 0, 1) := by decide +kernel
theorem dX7_obey_109 : decode cX7_obey 109 = .ok (.getfield 9, 3) := by decide +kernel
theorem dX7_obey_112 : decode cX7_obey 112 = .ok (.iload_n 2, 1) := by decide +kernel
theorem dX7_obey_113 : decode cX7_obey 113 = .ok (.iconst 1, 1) := by decide +kernel
theorem dX7_obey_114 : decode cX7_obey 114 = .ok (.iadd, 1) := by decide +kernel
theorem dX7_obey_115 : decode cX7_obey 115 = .ok (.caload, 1) := by decide +kernel
theorem dX7_obey_116 : decode cX7_obey 116 = .ok (.invokevirtual 62, 3) := by decide +kernel
theorem dX7_obey_119 : decode cX7_obey 119 = .ok (.aload_n 0, 1) := by decide +kernel
theorem dX7_obey_120 : decode cX7_obey 120 = .ok (.iload_n 3, 1) := by decide +kernel
theorem dX7_obey_121 : decode cX7_obey 121 = .ok (.iconst 1, 1) := by decide +kernel
theorem dX7_obey_122 : decode cX7_obey 122 = .ok (.isub, 1) := by decide +kernel
theorem dX7_obey_123 : decode cX7_obey 123 = .ok (.invokevirtual 72, 3) := by decide +kernel
theorem dX7_obey_126 : decode cX7_obey 126 = .ok (.invokevirtual 88, 3) := by decide +kernel
theorem dX7_obey_129 : decode cX7_obey 129 = .ok (.ireturn, 1) := by decide +kernel
theorem dX7_obeySize_0 : decode cX7_obeySize 0 = .ok (.iload_n 2, 1) := by decide +kernel
theorem dX7_obeySize_1 : decode cX7_obeySize 1 = .ok (.iconst 2, 1) := by decide +kernel
theorem dX7_obeySize_2 : decode cX7_obeySize 2 = .ok (.if_icmp .lt 18, 3) := by decide +kernel
theorem dX7_obeySize_5 : decode cX7_obeySize 5 = .ok (.iload_n 2, 1) := by decide +kernel
theorem dX7_obeySize_6 : decode cX7_obeySize 6 = .ok (.iconst 4, 1) := by decide +kernel
theorem dX7_obeySize_7 : decode cX7_obeySize 7 = .ok (.if_icmp .gt 13, 3) := by decide +kernel
theorem dX7_obeySize_10 : decode cX7_obeySize 10 = .ok (.iload_n 3, 1) := by decide +kernel
theorem dX7_obeySize_11 : decode cX7_obeySize 11 = .ok (.iconst 2, 1) := by decide +kernel
theorem dX7_obeySize_12 : decode cX7_obeySize 12 = .ok (.if_icmp .lt 8, 3) := by decide +kernel
theorem dX7_obeySize_15 : decode cX7_obeySize 15 = .ok (.iload_n 3, 1) := by decide +kernel
theorem dX7_obeySize_16 : decode cX7_obeySize 16 = .ok (.iconst 4, 1) := by decide +kernel
theorem dX7_obeySize_17 : decode cX7_obeySize 17 = .ok (.if_icmp .le 5, 3) := by decide +kernel
theorem dX7_obeySize_20 : decode cX7_obeySize 20 = .ok (.iconst 0, 1) := by decide +kernel
theorem dX7_obeySize_21 : decode cX7_obeySize 21 = .ok (.ireturn, 1) := by decide +kernel
theorem dX7_obeySize_22 : decode cX7_obeySize 22 = .ok (.aload_n 1, 1) := by decide +kernel
theorem dX7_obeySize_23 : decode cX7_obeySize 23 = .ok (.getfield 91, 3) := by decide +kernel
theorem dX7_obeySize_26 : decode cX7_obeySize 26 = .ok (.iload_n 2, 1) := by decide +kernel
theorem dX7_obeySize_27 : decode cX7_obeySize 27 = .ok (.iload_n 3, 1) := by decide +kernel
theorem dX7_obeySize_28 : decode cX7_obeySize 28 = .ok (.invokevirtual 97, 3) := by decide +kernel
theorem dX7_obeySize_31 : decode cX7_obeySize 31 = .ok (.aload_n 1, 1) := by decide +kernel
theorem dX7_obeySize_32 : decode cX7_obeySize 32 = .ok (.getfield 103, 3) := by decide +kernel
theorem dX7_obeySize_35 : decode cX7_obeySize 35 = .ok (.invokevirtual 107, 3) := by decide +kernel
theorem dX7_obeySize_38 : decode cX7_obeySize 38 = .ok (.iconst 1, 1) := by decide +kernel
theorem dX7_obeySize_39 : decode cX7_obeySize 39 = .ok (.ireturn, 1) := by decide +kernel
theorem dX7_obeyEdge_0 : decode cX7_obeyEdge 0 = .ok (.aload_n 0, 1) := by decide +kernel
theorem dX7_obeyEdge_1 : decode cX7_obeyEdge 1 = .ok (.iload_n 3, 1) := by decide +kernel
theorem dX7_obeyEdge_2 : decode cX7_obeyEdge 2 = .ok (.iconst 1, 1) := by decide +kernel
theorem dX7_obeyEdge_3 : decode cX7_obeyEdge 3 = .ok (.isub, 1) := by decide +kernel
theorem dX7_obeyEdge_4 : decode cX7_obeyEdge 4 = .ok (.invokevirtual 72, 3) := by decide +kernel
theorem dX7_obeyEdge_7 : decode cX7_obeyEdge 7 = .ok (.istore 4, 2) := by decide +kernel
theorem dX7_obeyEdge_9 : decode cX7_obeyEdge 9 = .ok (.aload_n 0, 1) := by decide +kernel
theorem dX7_obeyEdge_10 : decode cX7_obeyEdge 10 = .ok (.getfield 9, 3) := by decide +kernel
theorem dX7_obeyEdge_13 : decode cX7_obeyEdge 13 = .ok (.iload_n 3, 1) := by decide +kernel
theorem dX7_obeyEdge_14 : decode cX7_obeyEdge 14 = .ok (.iconst 3, 1) := by decide +kernel
theorem dX7_obeyEdge_15 : decode cX7_obeyEdge 15 = .ok (.isub, 1) := by decide +kernel
theorem dX7_obeyEdge_16 : decode cX7_obeyEdge 16 = .ok (.caload, 1) := by decide +kernel
theorem dX7_obeyEdge_17 : decode cX7_obeyEdge 17 = .ok (.bipush 114, 2) := by decide +kernel
theorem dX7_obeyEdge_19 : decode cX7_obeyEdge 19 = .ok (.if_icmp .ne 7, 3) := by decide +kernel
theorem dX7_obeyEdge_22 : decode cX7_obeyEdge 22 = .ok (.iconst 1, 1) := by decide +kernel
theorem dX7_obeyEdge_23 : decode cX7_obeyEdge 23 = .ok (.goto 4, 3) := by decide +kernel
theorem dX7_obeyEdge_26 : decode cX7_obeyEdge 26 = .ok (.iconst 2, 1) := by decide +kernel
theorem dX7_obeyEdge_27 : decode cX7_obeyEdge 27 = .ok (.istore 5, 2) := by decide +kernel
theorem dX7_obeyEdge_29 : decode cX7_obeyEdge 29 = .ok (.iload_n 2, 1) := by decide +kernel
theorem dX7_obeyEdge_30 : decode cX7_obeyEdge 30 = .ok (.aload_n 1, 1) := by decide +kernel
theorem dX7_obeyEdge_31 : decode cX7_obeyEdge 31 = .ok (.getfield 91, 3) := by decide +kernel
theorem dX7_obeyEdge_34 : decode cX7_obeyEdge 34 = .ok (.getfield 112, 3) := by decide +kernel
theorem dX7_obeyEdge_37 : decode cX7_obeyEdge 37 = .ok (.if_icmp .ge 23, 3) := by decide +kernel
theorem dX7_obeyEdge_40 : decode cX7_obeyEdge 40 = .ok (.iload 4, 2) := by decide +kernel
theorem dX7_obeyEdge_42 : decode cX7_obeyEdge 42 = .ok (.iconst 1, 1) := by decide +kernel
theorem dX7_obeyEdge_43 : decode cX7_obeyEdge 43 = .ok (.if_icmp .lt 17, 3) := by decide +kernel
theorem dX7_obeyEdge_46 : decode cX7_obeyEdge 46 = .ok (.aload_n 1, 1) := by decide +kernel
theorem dX7_obeyEdge_47 : decode cX7_obeyEdge 47 = .ok (.getfield 91, 3) := by decide +kernel
theorem dX7_obeyEdge_50 : decode cX7_obeyEdge 50 = .ok (.iload_n 2, 1) := by decide +kernel
theorem dX7_obeyEdge_51 : decode cX7_obeyEdge 51 = .ok (.iload 5, 2) := by decide +kernel
theorem dX7_obeyEdge_53 : decode cX7_obeyEdge 53 = .ok (.invokevirtual 115, 3) := by decide +kernel
theorem dX7_obeyEdge_56 : decode cX7_obeyEdge 56 = .ok (.iconst (-1), 1) := by decide +kernel
theorem dX7_obeyEdge_57 : decode cX7_obeyEdge 57 = .ok (.if_icmp .ne 5, 3) := by decide +kernel
theorem dX7_obeyEdge_60 : decode cX7_obeyEdge 60 = .ok (.iconst 0, 1) := by decide +kernel
theorem dX7_obeyEdge_61 : decode cX7_obeyEdge 61 = .ok (.ireturn, 1) := by decide +kernel
theorem dX7_obeyEdge_62 : decode cX7_obeyEdge 62 = .ok (.aload_n 1, 1) := by decide +kernel
theorem dX7_obeyEdge_63 : decode cX7_obeyEdge 63 = .ok (.getfield 91, 3) := by decide +kernel
theorem dX7_obeyEdge_66 : decode cX7_obeyEdge 66 = .ok (.iload_n 2, 1) := by decide +kernel
theorem dX7_obeyEdge_67 : decode cX7_obeyEdge 67 = .ok (.iload 5, 2) := by decide +kernel
theorem dX7_obeyEdge_69 : decode cX7_obeyEdge 69 = .ok (.aload_n 0, 1) := by decide +kernel
theorem dX7_obeyEdge_70 : decode cX7_obeyEdge 70 = .ok (.getfield 9, 3) := by decide +kernel
theorem dX7_obeyEdge_73 : decode cX7_obeyEdge 73 = .ok (.iload_n 3, 1) := by decide +kernel
theorem dX7_obeyEdge_74 : decode cX7_obeyEdge 74 = .ok (.iconst 2, 1) := by decide +kernel
theorem dX7_obeyEdge_75 : decode cX7_obeyEdge 75 = .ok (.isub, 1) := by decide +kernel
theorem dX7_obeyEdge_76 : decode cX7_obeyEdge 76 = .ok (.caload, 1) := by decide +kernel
theorem dX7_obeyEdge_77 : decode cX7_obeyEdge 77 = .ok (.bipush 43, 2) := by decide +kernel
theorem dX7_obeyEdge_79 : decode cX7_obeyEdge 79 = .ok (.if_icmp .ne 8, 3) := by decide +kernel
theorem dX7_obeyEdge_82 : decode cX7_obeyEdge 82 = .ok (.iload 4, 2) := by decide +kernel
theorem dX7_obeyEdge_84 : decode cX7_obeyEdge 84 = .ok (.goto 6, 3) := by decide +kernel
theorem dX7_obeyEdge_87 : decode cX7_obeyEdge 87 = .ok (.iload 4, 2) := by decide +kernel
theorem dX7_obeyEdge_89 : decode cX7_obeyEdge 89 = .ok (.ineg, 1) := by decide +kernel
theorem dX7_obeyEdge_90 : decode cX7_obeyEdge 90 = .ok (.invokevirtual 118, 3) := by decide +kernel
theorem dX7_obeyEdge_93 : decode cX7_obeyEdge 93 = .ok (.iconst 1, 1) := by decide +kernel
theorem dX7_obeyEdge_94 : decode cX7_obeyEdge 94 = .ok (.ireturn, 1) := by decide +kernel
theorem dX7_obeyColour_0 : decode cX7_obeyColour 0 = .ok (.iload_n 2, 1) := by decide +kernel
theorem dX7_obeyColour_1 : decode cX7_obeyColour 1 = .ok (.aload_n 1, 1) := by decide +kernel
theorem dX7_obeyColour_2 : decode cX7_obeyColour 2 = .ok (.getfield 91, 3) := by decide +kernel
theorem dX7_obeyColour_5 : decode cX7_obeyColour 5 = .ok (.getfield 112, 3) := by decide +kernel
theorem dX7_obeyColour_8 : decode cX7_obeyColour 8 = .ok (.if_icmp .lt 5, 3) := by decide +kernel
theorem dX7_obeyColour_11 : decode cX7_obeyColour 11 = .ok (.iconst 0, 1) := by decide +kernel
theorem dX7_obeyColour_12 : decode cX7_obeyColour 12 = .ok (.ireturn, 1) := by decide +kernel
theorem dX7_obeyColour_13 : decode cX7_obeyColour 13 = .ok (.aload_n 1, 1) := by decide +kernel
theorem dX7_obeyColour_14 : decode cX7_obeyColour 14 = .ok (.getfield 91, 3) := by decide +kernel
theorem dX7_obeyColour_17 : decode cX7_obeyColour 17 = .ok (.getfield 122, 3) := by decide +kernel
theorem dX7_obeyColour_20 : decode cX7_obeyColour 20 = .ok (.iload_n 2, 1) := by decide +kernel
theorem dX7_obeyColour_21 : decode cX7_obeyColour 21 = .ok (.iload_n 3, 1) := by decide +kernel
theorem dX7_obeyColour_22 : decode cX7_obeyColour 22 = .ok (.iastore, 1) := by decide +kernel
theorem dX7_obeyColour_23 : decode cX7_obeyColour 23 = .ok (.iconst 1, 1) := by decide +kernel
theorem dX7_obeyColour_24 : decode cX7_obeyColour 24 = .ok (.ireturn, 1) := by decide +kernel
theorem dX7_obeyPerson_0 : decode cX7_obeyPerson 0 = .ok (.iload_n 3, 1) := by decide +kernel
theorem dX7_obeyPerson_1 : decode cX7_obeyPerson 1 = .ok (.iconst 1, 1) := by decide +kernel
theorem dX7_obeyPerson_2 : decode cX7_obeyPerson 2 = .ok (.if_icmp .lt 15, 3) := by decide +kernel
theorem dX7_obeyPerson_5 : decode cX7_obeyPerson 5 = .ok (.aload_n 1, 1) := by decide +kernel
theorem dX7_obeyPerson_6 : decode cX7_obeyPerson 6 = .ok (.getfield 126, 3) := by decide +kernel
theorem dX7_obeyPerson_9 : decode cX7_obeyPerson 9 = .ok (.getfield 130, 3) := by decide +kernel
theorem dX7_obeyPerson_12 : decode cX7_obeyPerson 12 = .ok (.bipush 6, 2) := by decide +kernel
theorem dX7_obeyPerson_14 : decode cX7_obeyPerson 14 = .ok (.if_icmp .lt 5, 3) := by decide +kernel
theorem dX7_obeyPerson_17 : decode cX7_obeyPerson 17 = .ok (.iconst 0, 1) := by decide +kernel
theorem dX7_obeyPerson_18 : decode cX7_obeyPerson 18 = .ok (.ireturn, 1) := by decide +kernel
theorem dX7_obeyPerson_19 : decode cX7_obeyPerson 19 = .ok (.aload_n 1, 1) := by decide +kernel
theorem dX7_obeyPerson_20 : decode cX7_obeyPerson 20 = .ok (.getfield 126, 3) := by decide +kernel
theorem dX7_obeyPerson_23 : decode cX7_obeyPerson 23 = .ok (.iload_n 2, 1) := by decide +kernel
theorem dX7_obeyPerson_24 : decode cX7_obeyPerson 24 = .ok (.iload_n 3, 1) := by decide +kernel
theorem dX7_obeyPerson_25 : decode cX7_obeyPerson 25 = .ok (.invokevirtual 133, 3) := by decide +kernel
theorem dX7_obeyPerson_28 : decode cX7_obeyPerson 28 = .ok (.iconst 1, 1) := by decide +kernel
theorem dX7_obeyPerson_29 : decode cX7_obeyPerson 29 = .ok (.ireturn, 1) := by decide +kernel
theorem dX7_digitAt_0 : decode cX7_digitAt 0 = .ok (.aload_n 0, 1) := by decide +kernel
theorem dX7_digitAt_1 : decode cX7_digitAt 1 = .ok (.getfield 9, 3) := by decide +kernel
theorem dX7_digitAt_4 : decode cX7_digitAt 4 = .ok (.iload_n 1, 1) := by decide +kernel
theorem dX7_digitAt_5 : decode cX7_digitAt 5 = .ok (.caload, 1) := by decide +kernel
theorem dX7_digitAt_6 : decode cX7_digitAt 6 = .ok (.bipush 48, 2) := by decide +kernel
theorem dX7_digitAt_8 : decode cX7_digitAt 8 = .ok (.isub, 1) := by decide +kernel
theorem dX7_digitAt_9 : decode cX7_digitAt 9 = .ok (.ireturn, 1) := by decide +kernel
theorem dX7_numberBetween_0 : decode cX7_numberBetween 0 = .ok (.iconst 0, 1) := by decide +kernel
theorem dX7_numberBetween_1 : decode cX7_numberBetween 1 = .ok (.istore_n 3, 1) := by decide +kernel
theorem dX7_numberBetween_2 : decode cX7_numberBetween 2 = .ok (.iload_n 1, 1) := by decide +kernel
theorem dX7_numberBetween_3 : decode cX7_numberBetween 3 = .ok (.istore 4, 2) := by decide +kernel
theorem dX7_numberBetween_5 : decode cX7_numberBetween 5 = .ok (.iload 4, 2) := by decide +kernel
theorem dX7_numberBetween_7 : decode cX7_numberBetween 7 = .ok (.iload_n 2, 1) := by decide +kernel
theorem dX7_numberBetween_8 : decode cX7_numberBetween 8 = .ok (.if_icmp .ge 21, 3) := by decide +kernel
theorem dX7_numberBetween_11 : decode cX7_numberBetween 11 = .ok (.iload_n 3, 1) := by decide +kernel
theorem dX7_numberBetween_12 : decode cX7_numberBetween 12 = .ok (.bipush 10, 2) := by decide +kernel
theorem dX7_numberBetween_14 : decode cX7_numberBetween 14 = .ok (.imul, 1) := by decide +kernel
theorem dX7_numberBetween_15 : decode cX7_numberBetween 15 = .ok (.aload_n 0, 1) := by decide +kernel
theorem dX7_numberBetween_16 : decode cX7_numberBetween 16 = .ok (.iload 4, 2) := by decide +kernel
theorem dX7_numberBetween_18 : decode cX7_numberBetween 18 = .ok (.invokevirtual 72, 3) := by decide +kernel
theorem dX7_numberBetween_21 : decode cX7_numberBetween 21 = .ok (.iadd, 1) := by decide +kernel
theorem dX7_numberBetween_22 : decode cX7_numberBetween 22 = .ok (.istore_n 3, 1) := by decide +kernel
theorem dX7_numberBetween_23 : decode cX7_numberBetween 23 = .ok (.iinc 4 1, 3) := by decide +kernel
theorem dX7_numberBetween_26 : decode cX7_numberBetween 26 = .ok (.goto (-21), 3) := by decide +kernel
theorem dX7_numberBetween_29 : decode cX7_numberBetween 29 = .ok (.iload_n 3, 1) := by decide +kernel
theorem dX7_numberBetween_30 : decode cX7_numberBetween 30 = .ok (.ireturn, 1) := by decide +kernel
theorem dX8_init_0 : decode cX8_init 0 = .ok (.aload_n 0, 1) := by decide +kernel
theorem dX8_init_1 : decode cX8_init 1 = .ok (.invokespecial 3, 3) := by decide +kernel
theorem dX8_init_4 : decode cX8_init 4 = .ok (.aload_n 0, 1) := by decide +kernel
theorem dX8_init_5 : decode cX8_init 5 = .ok (.bipush 16, 2) := by decide +kernel
theorem dX8_init_7 : decode cX8_init 7 = .ok (.newarray .int, 2) := by decide +kernel
theorem dX8_init_9 : decode cX8_init 9 = .ok (.putfield 9, 3) := by decide +kernel
theorem dX8_init_12 : decode cX8_init 12 = .ok (.return_, 1) := by decide +kernel
theorem dX8_add_0 : decode cX8_add 0 = .ok (.aload_n 0, 1) := by decide +kernel
theorem dX8_add_1 : decode cX8_add 1 = .ok (.getfield 9, 3) := by decide +kernel
theorem dX8_add_4 : decode cX8_add 4 = .ok (.aload_n 0, 1) := by decide +kernel
theorem dX8_add_5 : decode cX8_add 5 = .ok (.getfield 15, 3) := by decide +kernel
theorem dX8_add_8 : decode cX8_add 8 = .ok (.iload_n 1, 1) := by decide +kernel
theorem dX8_add_9 : decode cX8_add 9 = .ok (.iastore, 1) := by decide +kernel
theorem dX8_add_10 : decode cX8_add 10 = .ok (.aload_n 0, 1) := by decide +kernel
theorem dX8_add_11 : decode cX8_add 11 = .ok (.dup, 1) := by decide +kernel
theorem dX8_add_12 : decode cX8_add 12 = .ok (.getfield 15, 3) := by decide +kernel
theorem dX8_add_15 : decode cX8_add 15 = .ok (.iconst 1, 1) := by decide +kernel
theorem dX8_add_16 : decode cX8_add 16 = .ok (.iadd, 1) := by decide +kernel
theorem dX8_add_17 : decode cX8_add 17 = .ok (.putfield 15, 3) := by decide +kernel
theorem dX8_add_20 : decode cX8_add 20 = .ok (.aload_n 0, 1) := by decide +kernel
theorem dX8_add_21 : decode cX8_add 21 = .ok (.getfield 15, 3) := by decide +kernel
theorem dX8_add_24 : decode cX8_add 24 = .ok (.ireturn, 1) := by decide +kernel
theorem dX8_compareWith_0 : decode cX8_compareWith 0 = .ok (.aload_n 1, 1) := by decide +kernel
theorem dX8_compareWith_1 : decode cX8_compareWith 1 = .ok (.getfield 19, 3) := by decide +kernel
theorem dX8_compareWith_4 : decode cX8_compareWith 4 = .ok (.getfield 25, 3) := by decide +kernel
theorem dX8_compareWith_7 : decode cX8_compareWith 7 = .ok (.istore_n 2, 1) := by decide +kernel
theorem dX8_compareWith_8 : decode cX8_compareWith 8 = .ok (.aload_n 0, 1) := by decide +kernel
theorem dX8_compareWith_9 : decode cX8_compareWith 9 = .ok (.getfield 15, 3) := by decide +kernel
theorem dX8_compareWith_12 : decode cX8_compareWith 12 = .ok (.iload_n 2, 1) := by decide +kernel
theorem dX8_compareWith_13 : decode cX8_compareWith 13 = .ok (.invokestatic 30, 3) := by decide +kernel
theorem dX8_compareWith_16 : decode cX8_compareWith 16 = .ok (.istore_n 3, 1) := by decide +kernel
theorem dX8_compareWith_17 : decode cX8_compareWith 17 = .ok (.iconst 0, 1) := by decide +kernel
theorem dX8_compareWith_18 : decode cX8_compareWith 18 = .ok (.istore 4, 2) := by decide +kernel
theorem dX8_compareWith_20 : decode cX8_compareWith 20 = .ok (.iload 4, 2) := by decide +kernel
theorem dX8_compareWith_22 : decode cX8_compareWith 22 = .ok (.iload_n 3, 1) := by decide +kernel
theorem dX8_compareWith_23 : decode cX8_compareWith 23 = .ok (.if_icmp .ge 53, 3) := by decide +kernel
theorem dX8_compareWith_26 : decode cX8_compareWith 26 = .ok (.aload_n 1, 1) := by decide +kernel
theorem dX8_compareWith_27 : decode cX8_compareWith 27 = .ok (.getfield 36, 3) := by decide +kernel
theorem dX8_compareWith_30 : decode cX8_compareWith 30 = .ok (.iload 4, 2) := by decide +kernel
theorem dX8_compareWith_32 : decode cX8_compareWith 32 = .ok (.invokevirtual 40, 3) := by decide +kernel
theorem dX8_compareWith_35 : decode cX8_compareWith 35 = .ok (.ifCond .eq 16, 3) := by decide +kernel
theorem dX8_compareWith_38 : decode cX8_compareWith 38 = .ok (.aload_n 1, 1) := by decide +kernel
theorem dX8_compareWith_39 : decode cX8_compareWith 39 = .ok (.getfield 36, 3) := by decide +kernel
theorem dX8_compareWith_42 : decode cX8_compareWith 42 = .ok (.getfield 46, 3) := by decide +kernel
theorem dX8_compareWith_45 : decode cX8_compareWith 45 = .ok (.iload 4, 2) := by decide +kernel
theorem dX8_compareWith_47 : decode cX8_compareWith 47 = .ok (.iaload, 1) := by decide +kernel
theorem dX8_compareWith_48 : decode cX8_compareWith 48 = .ok (.goto 5, 3) := by decide +kernel
theorem dX8_compareWith_51 : decode cX8_compareWith 51 = .ok (.bipush 99, 2) := by decide +kernel
theorem dX8_compareWith_53 : decode cX8_compareWith 53 = .ok (.istore 5, 2) := by decide +kernel
theorem dX8_compareWith_55 : decode cX8_compareWith 55 = .ok (.aload_n 0, 1) := by decide +kernel
theorem dX8_compareWith_56 : decode cX8_compareWith 56 = .ok (.getfield 9, 3) := by decide +kernel
theorem dX8_compareWith_59 : decode cX8_compareWith 59 = .ok (.iload 4, 2) := by decide +kernel
theorem dX8_compareWith_61 : decode cX8_compareWith 61 = .ok (.iaload, 1) := by decide +kernel
theorem dX8_compareWith_62 : decode cX8_compareWith 62 = .ok (.iload 5, 2) := by decide +kernel
theorem dX8_compareWith_64 : decode cX8_compareWith 64 = .ok (.if_icmp .eq 6, 3) := by decide +kernel
theorem dX8_compareWith_67 : decode cX8_compareWith 67 = .ok (.iload 4, 2) := by decide +kernel
theorem dX8_compareWith_69 : decode cX8_compareWith 69 = .ok (.ireturn, 1) := by decide +kernel
theorem dX8_compareWith_70 : decode cX8_compareWith 70 = .ok (.iinc 4 1, 3) := by decide +kernel
theorem dX8_compareWith_73 : decode cX8_compareWith 73 = .ok (.goto (-53), 3) := by decide +kernel
theorem dX8_compareWith_76 : decode cX8_compareWith 76 = .ok (.aload_n 0, 1) := by decide +kernel
theorem dX8_compareWith_77 : decode cX8_compareWith 77 = .ok (.getfield 15, 3) := by decide +kernel
theorem dX8_compareWith_80 : decode cX8_compareWith 80 = .ok (.iload_n 2, 1) := by decide +kernel
theorem dX8_compareWith_81 : decode cX8_compareWith 81 = .ok (.if_icmp .ne 8, 3) := by decide +kernel
theorem dX8_compareWith_84 : decode cX8_compareWith 84 = .ok (.bipush (-9), 2) := by decide +kernel
theorem dX8_compareWith_86 : decode cX8_compareWith 86 = .ok (.goto 4, 3) := by decide +kernel
theorem dX8_compareWith_89 : decode cX8_compareWith 89 = .ok (.iload_n 3, 1) := by decide +kernel
theorem dX8_compareWith_90 : decode cX8_compareWith 90 = .ok (.ireturn, 1) := by decide +kernel
theorem dX9_init_0 : decode cX9_init 0 = .ok (.aload_n 0, 1) := by decide +kernel
theorem dX9_init_1 : decode cX9_init 1 = .ok (.invokespecial 3, 3) := by decide +kernel
theorem dX9_init_4 : decode cX9_init 4 = .ok (.aload_n 0, 1) := by decide +kernel
theorem dX9_init_5 : decode cX9_init 5 = .ok (.new 9, 3) := by decide +kernel
theorem dX9_init_8 : decode cX9_init 8 = .ok (.dup, 1) := by decide +kernel
theorem dX9_init_9 : decode cX9_init 9 = .ok (.invokespecial 11, 3) := by decide +kernel
theorem dX9_init_12 : decode cX9_init 12 = .ok (.putfield 12, 3) := by decide +kernel
theorem dX9_init_15 : decode cX9_init 15 = .ok (.aload_n 0, 1) := by decide +kernel
theorem dX9_init_16 : decode cX9_init 16 = .ok (.bipush 16, 2) := by decide +kernel
theorem dX9_init_18 : decode cX9_init 18 = .ok (.newarray .int, 2) := by decide +kernel
theorem dX9_init_20 : decode cX9_init 20 = .ok (.putfield 18, 3) := by decide +kernel
theorem dX9_init_23 : decode cX9_init 23 = .ok (.aload_n 0, 1) := by decide +kernel
theorem dX9_init_24 : decode cX9_init 24 = .ok (.bipush 64, 2) := by decide +kernel
theorem dX9_init_26 : decode cX9_init 26 = .ok (.newarray .int, 2) := by decide +kernel
theorem dX9_init_28 : decode cX9_init 28 = .ok (.putfield 22, 3) := by decide +kernel
theorem dX9_init_31 : decode cX9_init 31 = .ok (.return_, 1) := by decide +kernel
theorem dX9_wholeBy_0 : decode cX9_wholeBy 0 = .ok (.aload_n 0, 1) := by decide +kernel
theorem dX9_wholeBy_1 : decode cX9_wholeBy 1 = .ok (.aload_n 1, 1) := by decide +kernel
theorem dX9_wholeBy_2 : decode cX9_wholeBy 2 = .ok (.iload_n 2, 1) := by decide +kernel
theorem dX9_wholeBy_3 : decode cX9_wholeBy 3 = .ok (.invokevirtual 25, 3) := by decide +kernel
theorem dX9_wholeBy_6 : decode cX9_wholeBy 6 = .ok (.aload_n 0, 1) := by decide +kernel
theorem dX9_wholeBy_7 : decode cX9_wholeBy 7 = .ok (.aload_n 1, 1) := by decide +kernel
theorem dX9_wholeBy_8 : decode cX9_wholeBy 8 = .ok (.getfield 29, 3) := by decide +kernel
theorem dX9_wholeBy_11 : decode cX9_wholeBy 11 = .ok (.invokevirtual 33, 3) := by decide +kernel
theorem dX9_wholeBy_14 : decode cX9_wholeBy 14 = .ok (.aload_n 0, 1) := by decide +kernel
theorem dX9_wholeBy_15 : decode cX9_wholeBy 15 = .ok (.aload_n 1, 1) := by decide +kernel
theorem dX9_wholeBy_16 : decode cX9_wholeBy 16 = .ok (.iload_n 3, 1) := by decide +kernel
theorem dX9_wholeBy_17 : decode cX9_wholeBy 17 = .ok (.iconst 0, 1) := by decide +kernel
theorem dX9_wholeBy_18 : decode cX9_wholeBy 18 = .ok (.iconst 1, 1) := by decide +kernel
theorem dX9_wholeBy_19 : decode cX9_wholeBy 19 = .ok (.aload_n 0, 1) := by decide +kernel
theorem dX9_wholeBy_20 : decode cX9_wholeBy 20 = .ok (.getfield 37, 3) := by decide +kernel
theorem dX9_wholeBy_23 : decode cX9_wholeBy 23 = .ok (.invokevirtual 41, 3) := by decide +kernel
theorem dX9_wholeBy_26 : decode cX9_wholeBy 26 = .ok (.iadd, 1) := by decide +kernel
theorem dX9_wholeBy_27 : decode cX9_wholeBy 27 = .ok (.ireturn, 1) := by decide +kernel
theorem dX9_halfBy_0 : decode cX9_halfBy 0 = .ok (.aload_n 0, 1) := by decide +kernel
theorem dX9_halfBy_1 : decode cX9_halfBy 1 = .ok (.aload_n 1, 1) := by decide +kernel
theorem dX9_halfBy_2 : decode cX9_halfBy 2 = .ok (.iload_n 2, 1) := by decide +kernel
theorem dX9_halfBy_3 : decode cX9_halfBy 3 = .ok (.invokevirtual 25, 3) := by decide +kernel
theorem dX9_halfBy_6 : decode cX9_halfBy 6 = .ok (.aload_n 0, 1) := by decide +kernel
theorem dX9_halfBy_7 : decode cX9_halfBy 7 = .ok (.getfield 37, 3) := by decide +kernel
theorem dX9_halfBy_10 : decode cX9_halfBy 10 = .ok (.iconst 1, 1) := by decide +kernel
theorem dX9_halfBy_11 : decode cX9_halfBy 11 = .ok (.aload_n 0, 1) := by decide +kernel
theorem dX9_halfBy_12 : decode cX9_halfBy 12 = .ok (.getfield 37, 3) := by decide +kernel
theorem dX9_halfBy_15 : decode cX9_halfBy 15 = .ok (.iconst 2, 1) := by decide +kernel
theorem dX9_halfBy_16 : decode cX9_halfBy 16 = .ok (.idiv, 1) := by decide +kernel
theorem dX9_halfBy_17 : decode cX9_halfBy 17 = .ok (.invokestatic 45, 3) := by decide +kernel
theorem dX9_halfBy_20 : decode cX9_halfBy 20 = .ok (.invokestatic 51, 3) := by decide +kernel
theorem dX9_halfBy_23 : decode cX9_halfBy 23 = .ok (.istore 4, 2) := by decide +kernel
theorem dX9_halfBy_25 : decode cX9_halfBy 25 = .ok (.aload_n 0, 1) := by decide +kernel
theorem dX9_halfBy_26 : decode cX9_halfBy 26 = .ok (.aload_n 1, 1) := by decide +kernel
theorem dX9_halfBy_27 : decode cX9_halfBy 27 = .ok (.getfield 29, 3) := by decide +kernel
theorem dX9_halfBy_30 : decode cX9_halfBy 30 = .ok (.invokevirtual 33, 3) := by decide +kernel
theorem dX9_halfBy_33 : decode cX9_halfBy 33 = .ok (.aload_n 0, 1) := by decide +kernel
theorem dX9_halfBy_34 : decode cX9_halfBy 34 = .ok (.aload_n 1, 1) := by decide +kernel
theorem dX9_halfBy_35 : decode cX9_halfBy 35 = .ok (.iload_n 3, 1) := by decide +kernel
theorem dX9_halfBy_36 : decode cX9_halfBy 36 = .ok (.iconst 0, 1) := by decide +kernel
theorem dX9_halfBy_37 : decode cX9_halfBy 37 = .ok (.iconst 1, 1) := by decide +kernel
theorem dX9_halfBy_38 : decode cX9_halfBy 38 = .ok (.iload 4, 2) := by decide +kernel
theorem dX9_halfBy_40 : decode cX9_halfBy 40 = .ok (.invokevirtual 41, 3) := by decide +kernel
theorem dX9_halfBy_43 : decode cX9_halfBy 43 = .ok (.iadd, 1) := by decide +kernel
theorem dX9_halfBy_44 : decode cX9_halfBy 44 = .ok (.ireturn, 1) := by decide +kernel
theorem dX9_together_0 : decode cX9_together 0 = .ok (.aload_n 0, 1) := by decide +kernel
theorem dX9_together_1 : decode cX9_together 1 = .ok (.aload_n 1, 1) := by decide +kernel
theorem dX9_together_2 : decode cX9_together 2 = .ok (.iload_n 2, 1) := by decide +kernel
theorem dX9_together_3 : decode cX9_together 3 = .ok (.invokevirtual 25, 3) := by decide +kernel
theorem dX9_together_6 : decode cX9_together 6 = .ok (.iconst 0, 1) := by decide +kernel
theorem dX9_together_7 : decode cX9_together 7 = .ok (.istore 4, 2) := by decide +kernel
theorem dX9_together_9 : decode cX9_together 9 = .ok (.iconst 0, 1) := by decide +kernel
theorem dX9_together_10 : decode cX9_together 10 = .ok (.istore 5, 2) := by decide +kernel
theorem dX9_together_12 : decode cX9_together 12 = .ok (.iload 5, 2) := by decide +kernel
theorem dX9_together_14 : decode cX9_together 14 = .ok (.iload_n 3, 1) := by decide +kernel
theorem dX9_together_15 : decode cX9_together 15 = .ok (.if_icmp .ge 30, 3) := by decide +kernel
theorem dX9_together_18 : decode cX9_together 18 = .ok (.iload 4, 2) := by decide +kernel
theorem dX9_together_20 : decode cX9_together 20 = .ok (.aload_n 0, 1) := by decide +kernel
theorem dX9_together_21 : decode cX9_together 21 = .ok (.aload_n 1, 1) := by decide +kernel
theorem dX9_together_22 : decode cX9_together 22 = .ok (.iload 5, 2) := by decide +kernel
theorem dX9_together_24 : decode cX9_together 24 = .ok (.iload 5, 2) := by decide +kernel
theorem dX9_together_26 : decode cX9_together 26 = .ok (.iload_n 3, 1) := by decide +kernel
theorem dX9_together_27 : decode cX9_together 27 = .ok (.aload_n 0, 1) := by decide +kernel
theorem dX9_together_28 : decode cX9_together 28 = .ok (.getfield 37, 3) := by decide +kernel
theorem dX9_together_31 : decode cX9_together 31 = .ok (.invokevirtual 41, 3) := by decide +kernel
theorem dX9_together_34 : decode cX9_together 34 = .ok (.invokestatic 45, 3) := by decide +kernel
theorem dX9_together_37 : decode cX9_together 37 = .ok (.istore 4, 2) := by decide +kernel
theorem dX9_together_39 : decode cX9_together 39 = .ok (.iinc 5 1, 3) := by decide +kernel
theorem dX9_together_42 : decode cX9_together 42 = .ok (.goto (-30), 3) := by decide +kernel
theorem dX9_together_45 : decode cX9_together 45 = .ok (.iload 4, 2) := by decide +kernel
theorem dX9_together_47 : decode cX9_together 47 = .ok (.iload 4, 2) := by decide +kernel
theorem dX9_together_49 : decode cX9_together 49 = .ok (.bipush 10, 2) := by decide +kernel
theorem dX9_together_51 : decode cX9_together 51 = .ok (.idiv, 1) := by decide +kernel
theorem dX9_together_52 : decode cX9_together 52 = .ok (.iconst 0, 1) := by decide +kernel
end
section
theorem dX9_together_53 : decode cX9_together 53 = .ok (.iload_n 3, 1) := by decide +kernel
theorem dX9_together_54 : decode cX9_together 54 = .ok (.iconst 3, 1) := by decide +kernel
theorem dX9_together_55 : decode cX9_together 55 = .ok (.isub, 1) := by decide +kernel
theorem dX9_together_56 : decode cX9_together 56 = .ok (.invokestatic 45, 3) := by decide +kernel
theorem dX9_together_59 : decode cX9_together 59 = .ok (.imul, 1) := by decide +kernel
theorem dX9_together_60 : decode cX9_together 60 = .ok (.iadd, 1) := by decide +kernel
theorem dX9_together_61 : decode cX9_together 61 = .ok (.aload_n 0, 1) := by decide +kernel
theorem dX9_together_62 : decode cX9_together 62 = .ok (.aload_n 1, 1) := by decide +kernel
theorem dX9_together_63 : decode cX9_together 63 = .ok (.getfield 29, 3) := by decide +kernel
theorem dX9_together_66 : decode cX9_together 66 = .ok (.invokevirtual 33, 3) := by decide +kernel
theorem dX9_together_69 : decode cX9_together 69 = .ok (.iadd, 1) := by decide +kernel
theorem dX9_together_70 : decode cX9_together 70 = .ok (.ireturn, 1) := by decide +kernel
theorem dX9_begin_0 : decode cX9_begin 0 = .ok (.aload_n 0, 1) := by decide +kernel
theorem dX9_begin_1 : decode cX9_begin 1 = .ok (.getfield 12, 3) := by decide +kernel
theorem dX9_begin_4 : decode cX9_begin 4 = .ok (.aload_n 1, 1) := by decide +kernel
theorem dX9_begin_5 : decode cX9_begin 5 = .ok (.invokevirtual 54, 3) := by decide +kernel
theorem dX9_begin_8 : decode cX9_begin 8 = .ok (.aload_n 0, 1) := by decide +kernel
theorem dX9_begin_9 : decode cX9_begin 9 = .ok (.iload_n 2, 1) := by decide +kernel
theorem dX9_begin_10 : decode cX9_begin 10 = .ok (.putfield 58, 3) := by decide +kernel
theorem dX9_begin_13 : decode cX9_begin 13 = .ok (.aload_n 0, 1) := by decide +kernel
theorem dX9_begin_14 : decode cX9_begin 14 = .ok (.iconst 0, 1) := by decide +kernel
theorem dX9_begin_15 : decode cX9_begin 15 = .ok (.putfield 37, 3) := by decide +kernel
theorem dX9_begin_18 : decode cX9_begin 18 = .ok (.aload_n 0, 1) := by decide +kernel
theorem dX9_begin_19 : decode cX9_begin 19 = .ok (.getfield 58, 3) := by decide +kernel
theorem dX9_begin_22 : decode cX9_begin 22 = .ok (.iconst 1, 1) := by decide +kernel
theorem dX9_begin_23 : decode cX9_begin 23 = .ok (.if_icmp .ne 18, 3) := by decide +kernel
theorem dX9_begin_26 : decode cX9_begin 26 = .ok (.aload_n 0, 1) := by decide +kernel
theorem dX9_begin_27 : decode cX9_begin 27 = .ok (.iconst 1, 1) := by decide +kernel
theorem dX9_begin_28 : decode cX9_begin 28 = .ok (.iconst 0, 1) := by decide +kernel
theorem dX9_begin_29 : decode cX9_begin 29 = .ok (.invokevirtual 61, 3) := by decide +kernel
theorem dX9_begin_32 : decode cX9_begin 32 = .ok (.aload_n 0, 1) := by decide +kernel
theorem dX9_begin_33 : decode cX9_begin 33 = .ok (.iconst 0, 1) := by decide +kernel
theorem dX9_begin_34 : decode cX9_begin 34 = .ok (.iconst 1, 1) := by decide +kernel
theorem dX9_begin_35 : decode cX9_begin 35 = .ok (.invokevirtual 61, 3) := by decide +kernel
theorem dX9_begin_38 : decode cX9_begin 38 = .ok (.goto 9, 3) := by decide +kernel
theorem dX9_begin_41 : decode cX9_begin 41 = .ok (.aload_n 0, 1) := by decide +kernel
theorem dX9_begin_42 : decode cX9_begin 42 = .ok (.iconst 1, 1) := by decide +kernel
theorem dX9_begin_43 : decode cX9_begin 43 = .ok (.iconst 1, 1) := by decide +kernel
theorem dX9_begin_44 : decode cX9_begin 44 = .ok (.invokevirtual 61, 3) := by decide +kernel
theorem dX9_begin_47 : decode cX9_begin 47 = .ok (.return_, 1) := by decide +kernel
theorem dX9_addCells_0 : decode cX9_addCells 0 = .ok (.iconst 0, 1) := by decide +kernel
theorem dX9_addCells_1 : decode cX9_addCells 1 = .ok (.istore_n 3, 1) := by decide +kernel
theorem dX9_addCells_2 : decode cX9_addCells 2 = .ok (.iload_n 3, 1) := by decide +kernel
theorem dX9_addCells_3 : decode cX9_addCells 3 = .ok (.aload_n 0, 1) := by decide +kernel
theorem dX9_addCells_4 : decode cX9_addCells 4 = .ok (.getfield 12, 3) := by decide +kernel
theorem dX9_addCells_7 : decode cX9_addCells 7 = .ok (.getfield 65, 3) := by decide +kernel
theorem dX9_addCells_10 : decode cX9_addCells 10 = .ok (.getfield 69, 3) := by decide +kernel
theorem dX9_addCells_13 : decode cX9_addCells 13 = .ok (.if_icmp .ge 70, 3) := by decide +kernel
theorem dX9_addCells_16 : decode cX9_addCells 16 = .ok (.aload_n 0, 1) := by decide +kernel
theorem dX9_addCells_17 : decode cX9_addCells 17 = .ok (.getfield 12, 3) := by decide +kernel
theorem dX9_addCells_20 : decode cX9_addCells 20 = .ok (.getfield 65, 3) := by decide +kernel
theorem dX9_addCells_23 : decode cX9_addCells 23 = .ok (.getfield 74, 3) := by decide +kernel
theorem dX9_addCells_26 : decode cX9_addCells 26 = .ok (.iload_n 3, 1) := by decide +kernel
theorem dX9_addCells_27 : decode cX9_addCells 27 = .ok (.baload, 1) := by decide +kernel
theorem dX9_addCells_28 : decode cX9_addCells 28 = .ok (.ifCond .eq 7, 3) := by decide +kernel
theorem dX9_addCells_31 : decode cX9_addCells 31 = .ok (.iload_n 1, 1) := by decide +kernel
theorem dX9_addCells_32 : decode cX9_addCells 32 = .ok (.goto 4, 3) := by decide +kernel
theorem dX9_addCells_35 : decode cX9_addCells 35 = .ok (.iload_n 2, 1) := by decide +kernel
theorem dX9_addCells_36 : decode cX9_addCells 36 = .ok (.istore 4, 2) := by decide +kernel
theorem dX9_addCells_38 : decode cX9_addCells 38 = .ok (.iload 4, 2) := by decide +kernel
theorem dX9_addCells_40 : decode cX9_addCells 40 = .ok (.ifCond .eq 37, 3) := by decide +kernel
theorem dX9_addCells_43 : decode cX9_addCells 43 = .ok (.aload_n 0, 1) := by decide +kernel
theorem dX9_addCells_44 : decode cX9_addCells 44 = .ok (.getfield 12, 3) := by decide +kernel
theorem dX9_addCells_47 : decode cX9_addCells 47 = .ok (.getfield 29, 3) := by decide +kernel
theorem dX9_addCells_50 : decode cX9_addCells 50 = .ok (.iload_n 3, 1) := by decide +kernel
theorem dX9_addCells_51 : decode cX9_addCells 51 = .ok (.invokevirtual 78, 3) := by decide +kernel
theorem dX9_addCells_54 : decode cX9_addCells 54 = .ok (.ifCond .ne 23, 3) := by decide +kernel
theorem dX9_addCells_57 : decode cX9_addCells 57 = .ok (.aload_n 0, 1) := by decide +kernel
theorem dX9_addCells_58 : decode cX9_addCells 58 = .ok (.getfield 18, 3) := by decide +kernel
theorem dX9_addCells_61 : decode cX9_addCells 61 = .ok (.aload_n 0, 1) := by decide +kernel
theorem dX9_addCells_62 : decode cX9_addCells 62 = .ok (.getfield 37, 3) := by decide +kernel
theorem dX9_addCells_65 : decode cX9_addCells 65 = .ok (.iload_n 3, 1) := by decide +kernel
theorem dX9_addCells_66 : decode cX9_addCells 66 = .ok (.iastore, 1) := by decide +kernel
theorem dX9_addCells_67 : decode cX9_addCells 67 = .ok (.aload_n 0, 1) := by decide +kernel
theorem dX9_addCells_68 : decode cX9_addCells 68 = .ok (.dup, 1) := by decide +kernel
theorem dX9_addCells_69 : decode cX9_addCells 69 = .ok (.getfield 37, 3) := by decide +kernel
theorem dX9_addCells_72 : decode cX9_addCells 72 = .ok (.iconst 1, 1) := by decide +kernel
theorem dX9_addCells_73 : decode cX9_addCells 73 = .ok (.iadd, 1) := by decide +kernel
theorem dX9_addCells_74 : decode cX9_addCells 74 = .ok (.putfield 37, 3) := by decide +kernel
theorem dX9_addCells_77 : decode cX9_addCells 77 = .ok (.iinc 3 1, 3) := by decide +kernel
theorem dX9_addCells_80 : decode cX9_addCells 80 = .ok (.goto (-78), 3) := by decide +kernel
theorem dX9_addCells_83 : decode cX9_addCells 83 = .ok (.return_, 1) := by decide +kernel
theorem dX9_sortingCost_0 : decode cX9_sortingCost 0 = .ok (.aload_n 0, 1) := by decide +kernel
theorem dX9_sortingCost_1 : decode cX9_sortingCost 1 = .ok (.getfield 58, 3) := by decide +kernel
theorem dX9_sortingCost_4 : decode cX9_sortingCost 4 = .ok (.iconst 2, 1) := by decide +kernel
theorem dX9_sortingCost_5 : decode cX9_sortingCost 5 = .ok (.if_icmp .ne 7, 3) := by decide +kernel
theorem dX9_sortingCost_8 : decode cX9_sortingCost 8 = .ok (.iconst 2, 1) := by decide +kernel
theorem dX9_sortingCost_9 : decode cX9_sortingCost 9 = .ok (.goto 24, 3) := by decide +kernel
theorem dX9_sortingCost_12 : decode cX9_sortingCost 12 = .ok (.aload_n 0, 1) := by decide +kernel
theorem dX9_sortingCost_13 : decode cX9_sortingCost 13 = .ok (.getfield 58, 3) := by decide +kernel
theorem dX9_sortingCost_16 : decode cX9_sortingCost 16 = .ok (.iconst 3, 1) := by decide +kernel
theorem dX9_sortingCost_17 : decode cX9_sortingCost 17 = .ok (.if_icmp .eq 11, 3) := by decide +kernel
theorem dX9_sortingCost_20 : decode cX9_sortingCost 20 = .ok (.aload_n 0, 1) := by decide +kernel
theorem dX9_sortingCost_21 : decode cX9_sortingCost 21 = .ok (.getfield 58, 3) := by decide +kernel
theorem dX9_sortingCost_24 : decode cX9_sortingCost 24 = .ok (.iconst 4, 1) := by decide +kernel
theorem dX9_sortingCost_25 : decode cX9_sortingCost 25 = .ok (.if_icmp .ne 7, 3) := by decide +kernel
theorem dX9_sortingCost_28 : decode cX9_sortingCost 28 = .ok (.iconst 3, 1) := by decide +kernel
theorem dX9_sortingCost_29 : decode cX9_sortingCost 29 = .ok (.goto 4, 3) := by decide +kernel
theorem dX9_sortingCost_32 : decode cX9_sortingCost 32 = .ok (.iconst 0, 1) := by decide +kernel
theorem dX9_sortingCost_33 : decode cX9_sortingCost 33 = .ok (.istore_n 2, 1) := by decide +kernel
theorem dX9_sortingCost_34 : decode cX9_sortingCost 34 = .ok (.iconst 0, 1) := by decide +kernel
theorem dX9_sortingCost_35 : decode cX9_sortingCost 35 = .ok (.istore_n 3, 1) := by decide +kernel
theorem dX9_sortingCost_36 : decode cX9_sortingCost 36 = .ok (.iconst 0, 1) := by decide +kernel
theorem dX9_sortingCost_37 : decode cX9_sortingCost 37 = .ok (.istore 4, 2) := by decide +kernel
theorem dX9_sortingCost_39 : decode cX9_sortingCost 39 = .ok (.iload 4, 2) := by decide +kernel
theorem dX9_sortingCost_41 : decode cX9_sortingCost 41 = .ok (.aload_n 0, 1) := by decide +kernel
theorem dX9_sortingCost_42 : decode cX9_sortingCost 42 = .ok (.getfield 12, 3) := by decide +kernel
theorem dX9_sortingCost_45 : decode cX9_sortingCost 45 = .ok (.getfield 65, 3) := by decide +kernel
theorem dX9_sortingCost_48 : decode cX9_sortingCost 48 = .ok (.getfield 69, 3) := by decide +kernel
theorem dX9_sortingCost_51 : decode cX9_sortingCost 51 = .ok (.if_icmp .ge 22, 3) := by decide +kernel
theorem dX9_sortingCost_54 : decode cX9_sortingCost 54 = .ok (.aload_n 1, 1) := by decide +kernel
theorem dX9_sortingCost_55 : decode cX9_sortingCost 55 = .ok (.iload 4, 2) := by decide +kernel
theorem dX9_sortingCost_57 : decode cX9_sortingCost 57 = .ok (.invokevirtual 84, 3) := by decide +kernel
theorem dX9_sortingCost_60 : decode cX9_sortingCost 60 = .ok (.ifCond .ne 7, 3) := by decide +kernel
theorem dX9_sortingCost_63 : decode cX9_sortingCost 63 = .ok (.iload_n 3, 1) := by decide +kernel
theorem dX9_sortingCost_64 : decode cX9_sortingCost 64 = .ok (.iload_n 2, 1) := by decide +kernel
theorem dX9_sortingCost_65 : decode cX9_sortingCost 65 = .ok (.iadd, 1) := by decide +kernel
theorem dX9_sortingCost_66 : decode cX9_sortingCost 66 = .ok (.istore_n 3, 1) := by decide +kernel
theorem dX9_sortingCost_67 : decode cX9_sortingCost 67 = .ok (.iinc 4 1, 3) := by decide +kernel
theorem dX9_sortingCost_70 : decode cX9_sortingCost 70 = .ok (.goto (-31), 3) := by decide +kernel
theorem dX9_sortingCost_73 : decode cX9_sortingCost 73 = .ok (.iload_n 3, 1) := by decide +kernel
theorem dX9_sortingCost_74 : decode cX9_sortingCost 74 = .ok (.ireturn, 1) := by decide +kernel
theorem dX9_share_0 : decode cX9_share 0 = .ok (.iconst 0, 1) := by decide +kernel
theorem dX9_share_1 : decode cX9_share 1 = .ok (.istore 6, 2) := by decide +kernel
theorem dX9_share_3 : decode cX9_share 3 = .ok (.aload_n 0, 1) := by decide +kernel
theorem dX9_share_4 : decode cX9_share 4 = .ok (.getfield 12, 3) := by decide +kernel
theorem dX9_share_7 : decode cX9_share 7 = .ok (.getfield 29, 3) := by decide +kernel
theorem dX9_share_10 : decode cX9_share 10 = .ok (.aload_n 1, 1) := by decide +kernel
theorem dX9_share_11 : decode cX9_share 11 = .ok (.getfield 29, 3) := by decide +kernel
theorem dX9_share_14 : decode cX9_share 14 = .ok (.invokevirtual 87, 3) := by decide +kernel
theorem dX9_share_17 : decode cX9_share 17 = .ok (.iload_n 3, 1) := by decide +kernel
theorem dX9_share_18 : decode cX9_share 18 = .ok (.istore 7, 2) := by decide +kernel
theorem dX9_share_20 : decode cX9_share 20 = .ok (.iload 7, 2) := by decide +kernel
theorem dX9_share_22 : decode cX9_share 22 = .ok (.iload 5, 2) := by decide +kernel
theorem dX9_share_24 : decode cX9_share 24 = .ok (.if_icmp .ge 30, 3) := by decide +kernel
theorem dX9_share_27 : decode cX9_share 27 = .ok (.iload 6, 2) := by decide +kernel
theorem dX9_share_29 : decode cX9_share 29 = .ok (.aload_n 0, 1) := by decide +kernel
theorem dX9_share_30 : decode cX9_share 30 = .ok (.iload_n 2, 1) := by decide +kernel
theorem dX9_share_31 : decode cX9_share 31 = .ok (.aload_n 0, 1) := by decide +kernel
theorem dX9_share_32 : decode cX9_share 32 = .ok (.getfield 18, 3) := by decide +kernel
theorem dX9_share_35 : decode cX9_share 35 = .ok (.iload 7, 2) := by decide +kernel
theorem dX9_share_37 : decode cX9_share 37 = .ok (.iaload, 1) := by decide +kernel
theorem dX9_share_38 : decode cX9_share 38 = .ok (.invokevirtual 90, 3) := by decide +kernel
theorem dX9_share_41 : decode cX9_share 41 = .ok (.iadd, 1) := by decide +kernel
theorem dX9_share_42 : decode cX9_share 42 = .ok (.istore 6, 2) := by decide +kernel
theorem dX9_share_44 : decode cX9_share 44 = .ok (.iload 7, 2) := by decide +kernel
theorem dX9_share_46 : decode cX9_share 46 = .ok (.iload 4, 2) := by decide +kernel
theorem dX9_share_48 : decode cX9_share 48 = .ok (.iadd, 1) := by decide +kernel
theorem dX9_share_49 : decode cX9_share 49 = .ok (.istore 7, 2) := by decide +kernel
theorem dX9_share_51 : decode cX9_share 51 = .ok (.goto (-31), 3) := by decide +kernel
theorem dX9_share_54 : decode cX9_share 54 = .ok (.iload 6, 2) := by decide +kernel
theorem dX9_share_56 : decode cX9_share 56 = .ok (.ireturn, 1) := by decide +kernel
theorem dX9_fillCell_0 : decode cX9_fillCell 0 = .ok (.iconst 0, 1) := by decide +kernel
theorem dX9_fillCell_1 : decode cX9_fillCell 1 = .ok (.istore_n 3, 1) := by decide +kernel
theorem dX9_fillCell_2 : decode cX9_fillCell 2 = .ok (.aload_n 0, 1) := by decide +kernel
theorem dX9_fillCell_3 : decode cX9_fillCell 3 = .ok (.iconst 0, 1) := by decide +kernel
theorem dX9_fillCell_4 : decode cX9_fillCell 4 = .ok (.putfield 93, 3) := by decide +kernel
theorem dX9_fillCell_7 : decode cX9_fillCell 7 = .ok (.iconst 0, 1) := by decide +kernel
theorem dX9_fillCell_8 : decode cX9_fillCell 8 = .ok (.istore 4, 2) := by decide +kernel
theorem dX9_fillCell_10 : decode cX9_fillCell 10 = .ok (.iload 4, 2) := by decide +kernel
theorem dX9_fillCell_12 : decode cX9_fillCell 12 = .ok (.aload_n 0, 1) := by decide +kernel
theorem dX9_fillCell_13 : decode cX9_fillCell 13 = .ok (.getfield 12, 3) := by decide +kernel
theorem dX9_fillCell_16 : decode cX9_fillCell 16 = .ok (.getfield 65, 3) := by decide +kernel
theorem dX9_fillCell_19 : decode cX9_fillCell 19 = .ok (.getfield 69, 3) := by decide +kernel
theorem dX9_fillCell_22 : decode cX9_fillCell 22 = .ok (.if_icmp .ge 165, 3) := by decide +kernel
theorem dX9_fillCell_25 : decode cX9_fillCell 25 = .ok (.aload_n 0, 1) := by decide +kernel
theorem dX9_fillCell_26 : decode cX9_fillCell 26 = .ok (.getfield 12, 3) := by decide +kernel
theorem dX9_fillCell_29 : decode cX9_fillCell 29 = .ok (.getfield 29, 3) := by decide +kernel
theorem dX9_fillCell_32 : decode cX9_fillCell 32 = .ok (.iload 4, 2) := by decide +kernel
theorem dX9_fillCell_34 : decode cX9_fillCell 34 = .ok (.invokevirtual 84, 3) := by decide +kernel
theorem dX9_fillCell_37 : decode cX9_fillCell 37 = .ok (.ifCond .ne 144, 3) := by decide +kernel
theorem dX9_fillCell_40 : decode cX9_fillCell 40 = .ok (.aload_n 0, 1) := by decide +kernel
theorem dX9_fillCell_41 : decode cX9_fillCell 41 = .ok (.iload 4, 2) := by decide +kernel
theorem dX9_fillCell_43 : decode cX9_fillCell 43 = .ok (.iload_n 2, 1) := by decide +kernel
theorem dX9_fillCell_44 : decode cX9_fillCell 44 = .ok (.invokevirtual 96, 3) := by decide +kernel
theorem dX9_fillCell_47 : decode cX9_fillCell 47 = .ok (.ifCond .ne 6, 3) := by decide +kernel
theorem dX9_fillCell_50 : decode cX9_fillCell 50 = .ok (.goto 131, 3) := by decide +kernel
theorem dX9_fillCell_53 : decode cX9_fillCell 53 = .ok (.iconst 0, 1) := by decide +kernel
theorem dX9_fillCell_54 : decode cX9_fillCell 54 = .ok (.istore 5, 2) := by decide +kernel
theorem dX9_fillCell_56 : decode cX9_fillCell 56 = .ok (.iload 5, 2) := by decide +kernel
theorem dX9_fillCell_58 : decode cX9_fillCell 58 = .ok (.iconst 4, 1) := by decide +kernel
theorem dX9_fillCell_59 : decode cX9_fillCell 59 = .ok (.if_icmp .ge 122, 3) := by decide +kernel
theorem dX9_fillCell_62 : decode cX9_fillCell 62 = .ok (.aload_n 0, 1) := by decide +kernel
theorem dX9_fillCell_63 : decode cX9_fillCell 63 = .ok (.getfield 58, 3) := by decide +kernel
theorem dX9_fillCell_66 : decode cX9_fillCell 66 = .ok (.iconst 4, 1) := by decide +kernel
theorem dX9_fillCell_67 : decode cX9_fillCell 67 = .ok (.if_icmp .ne 17, 3) := by decide +kernel
theorem dX9_fillCell_70 : decode cX9_fillCell 70 = .ok (.aload_n 0, 1) := by decide +kernel
theorem dX9_fillCell_71 : decode cX9_fillCell 71 = .ok (.iload 4, 2) := by decide +kernel
theorem dX9_fillCell_73 : decode cX9_fillCell 73 = .ok (.iload 5, 2) := by decide +kernel
theorem dX9_fillCell_75 : decode cX9_fillCell 75 = .ok (.invokevirtual 100, 3) := by decide +kernel
theorem dX9_fillCell_78 : decode cX9_fillCell 78 = .ok (.ifCond .eq 6, 3) := by decide +kernel
theorem dX9_fillCell_81 : decode cX9_fillCell 81 = .ok (.goto 94, 3) := by decide +kernel
theorem dX9_fillCell_84 : decode cX9_fillCell 84 = .ok (.aload_n 0, 1) := by decide +kernel
theorem dX9_fillCell_85 : decode cX9_fillCell 85 = .ok (.getfield 12, 3) := by decide +kernel
theorem dX9_fillCell_88 : decode cX9_fillCell 88 = .ok (.getfield 65, 3) := by decide +kernel
theorem dX9_fillCell_91 : decode cX9_fillCell 91 = .ok (.aload_n 0, 1) := by decide +kernel
theorem dX9_fillCell_92 : decode cX9_fillCell 92 = .ok (.getfield 12, 3) := by decide +kernel
theorem dX9_fillCell_95 : decode cX9_fillCell 95 = .ok (.getfield 29, 3) := by decide +kernel
theorem dX9_fillCell_98 : decode cX9_fillCell 98 = .ok (.iload 4, 2) := by decide +kernel
theorem dX9_fillCell_100 : decode cX9_fillCell 100 = .ok (.iload 5, 2) := by decide +kernel
theorem dX9_fillCell_102 : decode cX9_fillCell 102 = .ok (.iload_n 2, 1) := by decide +kernel
theorem dX9_fillCell_103 : decode cX9_fillCell 103 = .ok (.invokevirtual 103, 3) := by decide +kernel
theorem dX9_fillCell_106 : decode cX9_fillCell 106 = .ok (.istore 6, 2) := by decide +kernel
theorem dX9_fillCell_108 : decode cX9_fillCell 108 = .ok (.iload_n 3, 1) := by decide +kernel
theorem dX9_fillCell_109 : decode cX9_fillCell 109 = .ok (.aload_n 0, 1) := by decide +kernel
theorem dX9_fillCell_110 : decode cX9_fillCell 110 = .ok (.getfield 12, 3) := by decide +kernel
theorem dX9_fillCell_113 : decode cX9_fillCell 113 = .ok (.iload_n 1, 1) := by decide +kernel
theorem dX9_fillCell_114 : decode cX9_fillCell 114 = .ok (.iload 4, 2) := by decide +kernel
theorem dX9_fillCell_116 : decode cX9_fillCell 116 = .ok (.iload_n 2, 1) := by decide +kernel
theorem dX9_fillCell_117 : decode cX9_fillCell 117 = .ok (.iload 6, 2) := by decide +kernel
theorem dX9_fillCell_119 : decode cX9_fillCell 119 = .ok (.invokevirtual 107, 3) := by decide +kernel
theorem dX9_fillCell_122 : decode cX9_fillCell 122 = .ok (.iadd, 1) := by decide +kernel
theorem dX9_fillCell_123 : decode cX9_fillCell 123 = .ok (.istore_n 3, 1) := by decide +kernel
theorem dX9_fillCell_124 : decode cX9_fillCell 124 = .ok (.iload 4, 2) := by decide +kernel
theorem dX9_fillCell_126 : decode cX9_fillCell 126 = .ok (.iload_n 2, 1) := by decide +kernel
theorem dX9_fillCell_127 : decode cX9_fillCell 127 = .ok (.if_icmp .ne 26, 3) := by decide +kernel
theorem dX9_fillCell_130 : decode cX9_fillCell 130 = .ok (.iload 5, 2) := by decide +kernel
theorem dX9_fillCell_132 : decode cX9_fillCell 132 = .ok (.ifCond .ne 21, 3) := by decide +kernel
theorem dX9_fillCell_135 : decode cX9_fillCell 135 = .ok (.aload_n 0, 1) := by decide +kernel
theorem dX9_fillCell_136 : decode cX9_fillCell 136 = .ok (.getfield 12, 3) := by decide +kernel
theorem dX9_fillCell_139 : decode cX9_fillCell 139 = .ok (.getfield 29, 3) := by decide +kernel
theorem dX9_fillCell_142 : decode cX9_fillCell 142 = .ok (.iload_n 2, 1) := by decide +kernel
theorem dX9_fillCell_143 : decode cX9_fillCell 143 = .ok (.iload 4, 2) := by decide +kernel
theorem dX9_fillCell_145 : decode cX9_fillCell 145 = .ok (.iload 5, 2) := by decide +kernel
theorem dX9_fillCell_147 : decode cX9_fillCell 147 = .ok (.iload_n 1, 1) := by decide +kernel
theorem dX9_fillCell_148 : decode cX9_fillCell 148 = .ok (.invokevirtual 111, 3) := by decide +kernel
theorem dX9_fillCell_151 : decode cX9_fillCell 151 = .ok (.iload_n 3, 1) := by decide +kernel
theorem dX9_fillCell_152 : decode cX9_fillCell 152 = .ok (.ireturn, 1) := by decide +kernel
theorem dX9_fillCell_153 : decode cX9_fillCell 153 = .ok (.aload_n 0, 1) := by decide +kernel
theorem dX9_fillCell_154 : decode cX9_fillCell 154 = .ok (.getfield 58, 3) := by decide +kernel
theorem dX9_fillCell_157 : decode cX9_fillCell 157 = .ok (.iconst 4, 1) := by decide +kernel
theorem dX9_fillCell_158 : decode cX9_fillCell 158 = .ok (.if_icmp .ne 17, 3) := by decide +kernel
theorem dX9_fillCell_161 : decode cX9_fillCell 161 = .ok (.iload 6, 2) := by decide +kernel
theorem dX9_fillCell_163 : decode cX9_fillCell 163 = .ok (.iconst 3, 1) := by decide +kernel
theorem dX9_fillCell_164 : decode cX9_fillCell 164 = .ok (.if_icmp .lt 11, 3) := by decide +kernel
theorem dX9_fillCell_167 : decode cX9_fillCell 167 = .ok (.aload_n 0, 1) := by decide +kernel
theorem dX9_fillCell_168 : decode cX9_fillCell 168 = .ok (.iload 4, 2) := by decide +kernel
theorem dX9_fillCell_170 : decode cX9_fillCell 170 = .ok (.iload 5, 2) := by decide +kernel
theorem dX9_fillCell_172 : decode cX9_fillCell 172 = .ok (.invokevirtual 115, 3) := by decide +kernel
theorem dX9_fillCell_175 : decode cX9_fillCell 175 = .ok (.iinc 5 1, 3) := by decide +kernel
theorem dX9_fillCell_178 : decode cX9_fillCell 178 = .ok (.goto (-122), 3) := by decide +kernel
theorem dX9_fillCell_181 : decode cX9_fillCell 181 = .ok (.iinc 4 1, 3) := by decide +kernel
theorem dX9_fillCell_184 : decode cX9_fillCell 184 = .ok (.goto (-174), 3) := by decide +kernel
theorem dX9_fillCell_187 : decode cX9_fillCell 187 = .ok (.iload_n 3, 1) := by decide +kernel
theorem dX9_fillCell_188 : decode cX9_fillCell 188 = .ok (.ireturn, 1) := by decide +kernel
theorem dX9_isChosen_0 : decode cX9_isChosen 0 = .ok (.aload_n 0, 1) := by decide +kernel
theorem dX9_isChosen_1 : decode cX9_isChosen 1 = .ok (.getfield 12, 3) := by decide +kernel
theorem dX9_isChosen_4 : decode cX9_isChosen 4 = .ok (.getfield 65, 3) := by decide +kernel
theorem dX9_isChosen_7 : decode cX9_isChosen 7 = .ok (.astore_n 3, 1) := by decide +kernel
theorem dX9_isChosen_8 : decode cX9_isChosen 8 = .ok (.aload_n 0, 1) := by decide +kernel
theorem dX9_isChosen_9 : decode cX9_isChosen 9 = .ok (.getfield 58, 3) := by decide +kernel
theorem dX9_isChosen_12 : decode cX9_isChosen 12 = .ok (.tableswitch 96 1 4 #[32, 56, 77, 77], 32) := by decide +kernel
theorem dX9_isChosen_44 : decode cX9_isChosen 44 = .ok (.aload_n 3, 1) := by decide +kernel
theorem dX9_isChosen_45 : decode cX9_isChosen 45 = .ok (.getfield 74, 3) := by decide +kernel
theorem dX9_isChosen_48 : decode cX9_isChosen 48 = .ok (.iload_n 1, 1) := by decide +kernel
theorem dX9_isChosen_49 : decode cX9_isChosen 49 = .ok (.baload, 1) := by decide +kernel
theorem dX9_isChosen_50 : decode cX9_isChosen 50 = .ok (.ifCond .ne 12, 3) := by decide +kernel
theorem dX9_isChosen_53 : decode cX9_isChosen 53 = .ok (.aload_n 3, 1) := by decide +kernel
theorem dX9_isChosen_54 : decode cX9_isChosen 54 = .ok (.getfield 74, 3) := by decide +kernel
theorem dX9_isChosen_57 : decode cX9_isChosen 57 = .ok (.iload_n 2, 1) := by decide +kernel
theorem dX9_isChosen_58 : decode cX9_isChosen 58 = .ok (.baload, 1) := by decide +kernel
theorem dX9_isChosen_59 : decode cX9_isChosen 59 = .ok (.ifCond .ne 7, 3) := by decide +kernel
theorem dX9_isChosen_62 : decode cX9_isChosen 62 = .ok (.iconst 1, 1) := by decide +kernel
theorem dX9_isChosen_63 : decode cX9_isChosen 63 = .ok (.goto 4, 3) := by decide +kernel
theorem dX9_isChosen_66 : decode cX9_isChosen 66 = .ok (.iconst 0, 1) := by decide +kernel
theorem dX9_isChosen_67 : decode cX9_isChosen 67 = .ok (.ireturn, 1) := by decide +kernel
theorem dX9_isChosen_68 : decode cX9_isChosen 68 = .ok (.aload_n 3, 1) := by decide +kernel
theorem dX9_isChosen_69 : decode cX9_isChosen 69 = .ok (.getfield 119, 3) := by decide +kernel
theorem dX9_isChosen_72 : decode cX9_isChosen 72 = .ok (.iload_n 1, 1) := by decide +kernel
theorem dX9_isChosen_73 : decode cX9_isChosen 73 = .ok (.iaload, 1) := by decide +kernel
theorem dX9_isChosen_74 : decode cX9_isChosen 74 = .ok (.aload_n 3, 1) := by decide +kernel
theorem dX9_isChosen_75 : decode cX9_isChosen 75 = .ok (.getfield 119, 3) := by decide +kernel
theorem dX9_isChosen_78 : decode cX9_isChosen 78 = .ok (.iload_n 2, 1) := by decide +kernel
theorem dX9_isChosen_79 : decode cX9_isChosen 79 = .ok (.iaload, 1) := by decide +kernel
theorem dX9_isChosen_80 : decode cX9_isChosen 80 = .ok (.if_icmp .ne 7, 3) := by decide +kernel
theorem dX9_isChosen_83 : decode cX9_isChosen 83 = .ok (.iconst 1, 1) := by decide +kernel
theorem dX9_isChosen_84 : decode cX9_isChosen 84 = .ok (.goto 4, 3) := by decide +kernel
theorem dX9_isChosen_87 : decode cX9_isChosen 87 = .ok (.iconst 0, 1) := by decide +kernel
theorem dX9_isChosen_88 : decode cX9_isChosen 88 = .ok (.ireturn, 1) := by decide +kernel
theorem dX9_isChosen_89 : decode cX9_isChosen 89 = .ok (.aload_n 3, 1) := by decide +kernel
theorem dX9_isChosen_90 : decode cX9_isChosen 90 = .ok (.iload_n 1, 1) := by decide +kernel
theorem dX9_isChosen_91 : decode cX9_isChosen 91 = .ok (.invokevirtual 122, 3) := by decide +kernel
theorem dX9_isChosen_94 : decode cX9_isChosen 94 = .ok (.aload_n 3, 1) := by decide +kernel
theorem dX9_isChosen_95 : decode cX9_isChosen 95 = .ok (.iload_n 2, 1) := by decide +kernel
theorem dX9_isChosen_96 : decode cX9_isChosen 96 = .ok (.invokevirtual 122, 3) := by decide +kernel
theorem dX9_isChosen_99 : decode cX9_isChosen 99 = .ok (.if_icmp .ne 7, 3) := by decide +kernel
theorem dX9_isChosen_102 : decode cX9_isChosen 102 = .ok (.iconst 1, 1) := by decide +kernel
theorem dX9_isChosen_103 : decode cX9_isChosen 103 = .ok (.goto 4, 3) := by decide +kernel
theorem dX9_isChosen_106 : decode cX9_isChosen 106 = .ok (.iconst 0, 1) := by decide +kernel
theorem dX9_isChosen_107 : decode cX9_isChosen 107 = .ok (.ireturn, 1) := by decide +kernel
theorem dX9_isChosen_108 : decode cX9_isChosen 108 = .ok (.iconst 1, 1) := by decide +kernel
theorem dX9_isChosen_109 : decode cX9_isChosen 109 = .ok (.ireturn, 1) := by decide +kernel
theorem dX9_mark_0 : decode cX9_mark 0 = .ok (.aload_n 0, 1) := by decide +kernel
theorem dX9_mark_1 : decode cX9_mark 1 = .ok (.getfield 22, 3) := by decide +kernel
theorem dX9_mark_4 : decode cX9_mark 4 = .ok (.aload_n 0, 1) := by decide +kernel
theorem dX9_mark_5 : decode cX9_mark 5 = .ok (.getfield 93, 3) := by decide +kernel
theorem dX9_mark_8 : decode cX9_mark 8 = .ok (.aload_n 0, 1) := by decide +kernel
theorem dX9_mark_9 : decode cX9_mark 9 = .ok (.getfield 12, 3) := by decide +kernel
theorem dX9_mark_12 : decode cX9_mark 12 = .ok (.getfield 65, 3) := by decide +kernel
theorem dX9_mark_15 : decode cX9_mark 15 = .ok (.iload_n 1, 1) := by decide +kernel
theorem dX9_mark_16 : decode cX9_mark 16 = .ok (.iload_n 2, 1) := by decide +kernel
theorem dX9_mark_17 : decode cX9_mark 17 = .ok (.invokevirtual 126, 3) := by decide +kernel
theorem dX9_mark_20 : decode cX9_mark 20 = .ok (.iastore, 1) := by decide +kernel
theorem dX9_mark_21 : decode cX9_mark 21 = .ok (.aload_n 0, 1) := by decide +kernel
theorem dX9_mark_22 : decode cX9_mark 22 = .ok (.dup, 1) := by decide +kernel
theorem dX9_mark_23 : decode cX9_mark 23 = .ok (.getfield 93, 3) := by decide +kernel
theorem dX9_mark_26 : decode cX9_mark 26 = .ok (.iconst 1, 1) := by decide +kernel
theorem dX9_mark_27 : decode cX9_mark 27 = .ok (.iadd, 1) := by decide +kernel
theorem dX9_mark_28 : decode cX9_mark 28 = .ok (.putfield 93, 3) := by decide +kernel
theorem dX9_mark_31 : decode cX9_mark 31 = .ok (.return_, 1) := by decide +kernel
theorem dX9_isMarked_0 : decode cX9_isMarked 0 = .ok (.aload_n 0, 1) := by decide +kernel
theorem dX9_isMarked_1 : decode cX9_isMarked 1 = .ok (.getfield 12, 3) := by decide +kernel
theorem dX9_isMarked_4 : decode cX9_isMarked 4 = .ok (.getfield 65, 3) := by decide +kernel
theorem dX9_isMarked_7 : decode cX9_isMarked 7 = .ok (.iload_n 1, 1) := by decide +kernel
theorem dX9_isMarked_8 : decode cX9_isMarked 8 = .ok (.iload_n 2, 1) := by decide +kernel
theorem dX9_isMarked_9 : decode cX9_isMarked 9 = .ok (.invokevirtual 126, 3) := by decide +kernel
theorem dX9_isMarked_12 : decode cX9_isMarked 12 = .ok (.istore_n 3, 1) := by decide +kernel
theorem dX9_isMarked_13 : decode cX9_isMarked 13 = .ok (.iconst 0, 1) := by decide +kernel
theorem dX9_isMarked_14 : decode cX9_isMarked 14 = .ok (.istore 4, 2) := by decide +kernel
theorem dX9_isMarked_16 : decode cX9_isMarked 16 = .ok (.iload 4, 2) := by decide +kernel
theorem dX9_isMarked_18 : decode cX9_isMarked 18 = .ok (.aload_n 0, 1) := by decide +kernel
theorem dX9_isMarked_19 : decode cX9_isMarked 19 = .ok (.getfield 93, 3) := by decide +kernel
theorem dX9_isMarked_22 : decode cX9_isMarked 22 = .ok (.if_icmp .ge 22, 3) := by decide +kernel
theorem dX9_isMarked_25 : decode cX9_isMarked 25 = .ok (.aload_n 0, 1) := by decide +kernel
theorem dX9_isMarked_26 : decode cX9_isMarked 26 = .ok (.getfield 22, 3) := by decide +kernel
theorem dX9_isMarked_29 : decode cX9_isMarked 29 = .ok (.iload 4, 2) := by decide +kernel
theorem dX9_isMarked_31 : decode cX9_isMarked 31 = .ok (.iaload, 1) := by decide +kernel
theorem dX9_isMarked_32 : decode cX9_isMarked 32 = .ok (.iload_n 3, 1) := by decide +kernel
theorem dX9_isMarked_33 : decode cX9_isMarked 33 = .ok (.if_icmp .ne 5, 3) := by decide +kernel
theorem dX9_isMarked_36 : decode cX9_isMarked 36 = .ok (.iconst 1, 1) := by decide +kernel
theorem dX9_isMarked_37 : decode cX9_isMarked 37 = .ok (.ireturn, 1) := by decide +kernel
theorem dX9_isMarked_38 : decode cX9_isMarked 38 = .ok (.iinc 4 1, 3) := by decide +kernel
theorem dX9_isMarked_41 : decode cX9_isMarked 41 = .ok (.goto (-25), 3) := by decide +kernel
theorem dX9_isMarked_44 : decode cX9_isMarked 44 = .ok (.iconst 0, 1) := by decide +kernel
theorem dX9_isMarked_45 : decode cX9_isMarked 45 = .ok (.ireturn, 1) := by decide +kernel
theorem dX10_init_0 : decode cX10_init 0 = .ok (.aload_n 0, 1) := by decide +kernel
theorem dX10_init_1 : decode cX10_init 1 = .ok (.invokespecial 1, 3) := by decide +kernel
theorem dX10_init_4 : decode cX10_init 4 = .ok (.aload_n 0, 1) := by decide +kernel
theorem dX10_init_5 : decode cX10_init 5 = .ok (.new 7, 3) := by decide +kernel
theorem dX10_init_8 : decode cX10_init 8 = .ok (.dup, 1) := by decide +kernel
theorem dX10_init_9 : decode cX10_init 9 = .ok (.invokespecial 9, 3) := by decide +kernel
theorem dX10_init_12 : decode cX10_init 12 = .ok (.putfield 10, 3) := by decide +kernel
theorem dX10_init_15 : decode cX10_init 15 = .ok (.aload_n 0, 1) := by decide +kernel
theorem dX10_init_16 : decode cX10_init 16 = .ok (.new 7, 3) := by decide +kernel
theorem dX10_init_19 : decode cX10_init 19 = .ok (.dup, 1) := by decide +kernel
theorem dX10_init_20 : decode cX10_init 20 = .ok (.invokespecial 9, 3) := by decide +kernel
theorem dX10_init_23 : decode cX10_init 23 = .ok (.putfield 16, 3) := by decide +kernel
theorem dX10_init_26 : decode cX10_init 26 = .ok (.aload_n 0, 1) := by decide +kernel
theorem dX10_init_27 : decode cX10_init 27 = .ok (.new 7, 3) := by decide +kernel
theorem dX10_init_30 : decode cX10_init 30 = .ok (.dup, 1) := by decide +kernel
theorem dX10_init_31 : decode cX10_init 31 = .ok (.invokespecial 9, 3) := by decide +kernel
theorem dX10_init_34 : decode cX10_init 34 = .ok (.putfield 19, 3) := by decide +kernel
theorem dX10_init_37 : decode cX10_init 37 = .ok (.aload_n 0, 1) := by decide +kernel
theorem dX10_init_38 : decode cX10_init 38 = .ok (.new 22, 3) := by decide +kernel
theorem dX10_init_41 : decode cX10_init 41 = .ok (.dup, 1) := by decide +kernel
theorem dX10_init_42 : decode cX10_init 42 = .ok (.invokespecial 24, 3) := by decide +kernel
theorem dX10_init_45 : decode cX10_init 45 = .ok (.putfield 25, 3) := by decide +kernel
theorem dX10_init_48 : decode cX10_init 48 = .ok (.aload_n 0, 1) := by decide +kernel
theorem dX10_init_49 : decode cX10_init 49 = .ok (.new 29, 3) := by decide +kernel
theorem dX10_init_52 : decode cX10_init 52 = .ok (.dup, 1) := by decide +kernel
theorem dX10_init_53 : decode cX10_init 53 = .ok (.invokespecial 31, 3) := by decide +kernel
theorem dX10_init_56 : decode cX10_init 56 = .ok (.putfield 32, 3) := by decide +kernel
theorem dX10_init_59 : decode cX10_init 59 = .ok (.aload_n 0, 1) := by decide +kernel
theorem dX10_init_60 : decode cX10_init 60 = .ok (.new 36, 3) := by decide +kernel
theorem dX10_init_63 : decode cX10_init 63 = .ok (.dup, 1) := by decide +kernel
theorem dX10_init_64 : decode cX10_init 64 = .ok (.invokespecial 38, 3) := by decide +kernel
theorem dX10_init_67 : decode cX10_init 67 = .ok (.putfield 39, 3) := by decide +kernel
theorem dX10_init_70 : decode cX10_init 70 = .ok (.aload_n 0, 1) := by decide +kernel
theorem dX10_init_71 : decode cX10_init 71 = .ok (.new 43, 3) := by decide +kernel
theorem dX10_init_74 : decode cX10_init 74 = .ok (.dup, 1) := by decide +kernel
theorem dX10_init_75 : decode cX10_init 75 = .ok (.invokespecial 45, 3) := by decide +kernel
theorem dX10_init_78 : decode cX10_init 78 = .ok (.putfield 46, 3) := by decide +kernel
theorem dX10_init_81 : decode cX10_init 81 = .ok (.aload_n 0, 1) := by decide +kernel
theorem dX10_init_82 : decode cX10_init 82 = .ok (.new 50, 3) := by decide +kernel
theorem dX10_init_85 : decode cX10_init 85 = .ok (.dup, 1) := by decide +kernel
theorem dX10_init_86 : decode cX10_init 86 = .ok (.invokespecial 52, 3) := by decide +kernel
theorem dX10_init_89 : decode cX10_init 89 = .ok (.putfield 53, 3) := by decide +kernel
theorem dX10_init_92 : decode cX10_init 92 = .ok (.aload_n 0, 1) := by decide +kernel
theorem dX10_init_93 : decode cX10_init 93 = .ok (.new 57, 3) := by decide +kernel
theorem dX10_init_96 : decode cX10_init 96 = .ok (.dup, 1) := by decide +kernel
theorem dX10_init_97 : decode cX10_init 97 = .ok (.invokespecial 59, 3) := by decide +kernel
theorem dX10_init_100 : decode cX10_init 100 = .ok (.putfield 60, 3) := by decide +kernel
theorem dX10_init_103 : decode cX10_init 103 = .ok (.aload_n 0, 1) := by decide +kernel
theorem dX10_init_104 : decode cX10_init 104 = .ok (.bipush 7, 2) := by decide +kernel
theorem dX10_init_106 : decode cX10_init 106 = .ok (.newarray .int, 2) := by decide +kernel
theorem dX10_init_108 : decode cX10_init 108 = .ok (.putfield 64, 3) := by decide +kernel
theorem dX10_init_111 : decode cX10_init 111 = .ok (.aload_n 0, 1) := by decide +kernel
theorem dX10_init_112 : decode cX10_init 112 = .ok (.iconst 0, 1) := by decide +kernel
theorem dX10_init_113 : decode cX10_init 113 = .ok (.putfield 68, 3) := by decide +kernel
theorem dX10_init_116 : decode cX10_init 116 = .ok (.aload_n 0, 1) := by decide +kernel
theorem dX10_init_117 : decode cX10_init 117 = .ok (.iconst 0, 1) := by decide +kernel
theorem dX10_init_118 : decode cX10_init 118 = .ok (.putfield 72, 3) := by decide +kernel
theorem dX10_init_121 : decode cX10_init 121 = .ok (.return_, 1) := by decide +kernel
theorem dX10_feed_0 : decode cX10_feed 0 = .ok (.iload_n 1, 1) := by decide +kernel
theorem dX10_feed_1 : decode cX10_feed 1 = .ok (.iconst 1, 1) := by decide +kernel
theorem dX10_feed_2 : decode cX10_feed 2 = .ok (.if_icmp .ge 10, 3) := by decide +kernel
theorem dX10_feed_5 : decode cX10_feed 5 = .ok (.aload_n 0, 1) := by decide +kernel
theorem dX10_feed_6 : decode cX10_feed 6 = .ok (.bipush (-4), 2) := by decide +kernel
theorem dX10_feed_8 : decode cX10_feed 8 = .ok (.invokevirtual 76, 3) := by decide +kernel
theorem dX10_feed_11 : decode cX10_feed 11 = .ok (.ireturn, 1) := by decide +kernel
theorem dX10_feed_12 : decode cX10_feed 12 = .ok (.iload_n 1, 1) := by decide +kernel
theorem dX10_feed_13 : decode cX10_feed 13 = .ok (.bipush 8, 2) := by decide +kernel
theorem dX10_feed_15 : decode cX10_feed 15 = .ok (.if_icmp .gt 17, 3) := by decide +kernel
theorem dX10_feed_18 : decode cX10_feed 18 = .ok (.aload_n 0, 1) := by decide +kernel
theorem dX10_feed_19 : decode cX10_feed 19 = .ok (.getfield 25, 3) := by decide +kernel
theorem dX10_feed_22 : decode cX10_feed 22 = .ok (.getfield 80, 3) := by decide +kernel
theorem dX10_feed_25 : decode cX10_feed 25 = .ok (.iload_n 1, 1) := by decide +kernel
theorem dX10_feed_26 : decode cX10_feed 26 = .ok (.iadd, 1) := by decide +kernel
theorem dX10_feed_27 : decode cX10_feed 27 = .ok (.bipush 64, 2) := by decide +kernel
theorem dX10_feed_29 : decode cX10_feed 29 = .ok (.if_icmp .le 10, 3) := by decide +kernel
theorem dX10_feed_32 : decode cX10_feed 32 = .ok (.aload_n 0, 1) := by decide +kernel
theorem dX10_feed_33 : decode cX10_feed 33 = .ok (.bipush (-6), 2) := by decide +kernel
theorem dX10_feed_35 : decode cX10_feed 35 = .ok (.invokevirtual 76, 3) := by decide +kernel
theorem dX10_feed_38 : decode cX10_feed 38 = .ok (.ireturn, 1) := by decide +kernel
theorem dX10_feed_39 : decode cX10_feed 39 = .ok (.aload_n 0, 1) := by decide +kernel
theorem dX10_feed_40 : decode cX10_feed 40 = .ok (.getfield 25, 3) := by decide +kernel
theorem dX10_feed_43 : decode cX10_feed 43 = .ok (.iload_n 1, 1) := by decide +kernel
theorem dX10_feed_44 : decode cX10_feed 44 = .ok (.lload_n 2, 1) := by decide +kernel
theorem dX10_feed_45 : decode cX10_feed 45 = .ok (.invokevirtual 83, 3) := by decide +kernel
theorem dX10_feed_48 : decode cX10_feed 48 = .ok (.aload_n 0, 1) := by decide +kernel
theorem dX10_feed_49 : decode cX10_feed 49 = .ok (.getfield 25, 3) := by decide +kernel
theorem dX10_feed_52 : decode cX10_feed 52 = .ok (.getfield 80, 3) := by decide +kernel
theorem dX10_feed_55 : decode cX10_feed 55 = .ok (.ireturn, 1) := by decide +kernel
theorem dX10_puzzle_0 : decode cX10_puzzle 0 = .ok (.aload_n 0, 1) := by decide +kernel
theorem dX10_puzzle_1 : decode cX10_puzzle 1 = .ok (.getfield 16, 3) := by decide +kernel
theorem dX10_puzzle_4 : decode cX10_puzzle 4 = .ok (.aload_n 0, 1) := by decide +kernel
theorem dX10_puzzle_5 : decode cX10_puzzle 5 = .ok (.getfield 10, 3) := by decide +kernel
theorem dX10_puzzle_8 : decode cX10_puzzle 8 = .ok (.invokevirtual 87, 3) := by decide +kernel
theorem dX10_puzzle_11 : decode cX10_puzzle 11 = .ok (.aload_n 0, 1) := by decide +kernel
theorem dX10_puzzle_12 : decode cX10_puzzle 12 = .ok (.getfield 25, 3) := by decide +kernel
theorem dX10_puzzle_15 : decode cX10_puzzle 15 = .ok (.aload_n 0, 1) := by decide +kernel
theorem dX10_puzzle_16 : decode cX10_puzzle 16 = .ok (.getfield 16, 3) := by decide +kernel
theorem dX10_puzzle_19 : decode cX10_puzzle 19 = .ok (.invokevirtual 91, 3) := by decide +kernel
theorem dX10_puzzle_22 : decode cX10_puzzle 22 = .ok (.istore_n 1, 1) := by decide +kernel
theorem dX10_puzzle_23 : decode cX10_puzzle 23 = .ok (.aload_n 0, 1) := by decide +kernel
theorem dX10_puzzle_24 : decode cX10_puzzle 24 = .ok (.getfield 25, 3) := by decide +kernel
theorem dX10_puzzle_27 : decode cX10_puzzle 27 = .ok (.iconst 0, 1) := by decide +kernel
theorem dX10_puzzle_28 : decode cX10_puzzle 28 = .ok (.putfield 80, 3) := by decide +kernel
theorem dX10_puzzle_31 : decode cX10_puzzle 31 = .ok (.iload_n 1, 1) := by decide +kernel
theorem dX10_puzzle_32 : decode cX10_puzzle 32 = .ok (.ifCond .le 22, 3) := by decide +kernel
theorem dX10_puzzle_35 : decode cX10_puzzle 35 = .ok (.aload_n 0, 1) := by decide +kernel
theorem dX10_puzzle_36 : decode cX10_puzzle 36 = .ok (.getfield 10, 3) := by decide +kernel
theorem dX10_puzzle_39 : decode cX10_puzzle 39 = .ok (.aload_n 0, 1) := by decide +kernel
theorem dX10_puzzle_40 : decode cX10_puzzle 40 = .ok (.getfield 16, 3) := by decide +kernel
theorem dX10_puzzle_43 : decode cX10_puzzle 43 = .ok (.invokevirtual 87, 3) := by decide +kernel
theorem dX10_puzzle_46 : decode cX10_puzzle 46 = .ok (.aload_n 0, 1) := by decide +kernel
theorem dX10_puzzle_47 : decode cX10_puzzle 47 = .ok (.getfield 39, 3) := by decide +kernel
theorem dX10_puzzle_50 : decode cX10_puzzle 50 = .ok (.iconst 0, 1) := by decide +kernel
theorem dX10_puzzle_51 : decode cX10_puzzle 51 = .ok (.putfield 95, 3) := by decide +kernel
theorem dX10_puzzle_54 : decode cX10_puzzle 54 = .ok (.iload_n 1, 1) := by decide +kernel
theorem dX10_puzzle_55 : decode cX10_puzzle 55 = .ok (.ireturn, 1) := by decide +kernel
theorem dX10_side_0 : decode cX10_side 0 = .ok (.aload_n 0, 1) := by decide +kernel
theorem dX10_side_1 : decode cX10_side 1 = .ok (.iload_n 1, 1) := by decide +kernel
theorem dX10_side_2 : decode cX10_side 2 = .ok (.invokevirtual 98, 3) := by decide +kernel
theorem dX10_side_5 : decode cX10_side 5 = .ok (.ifCond .ne 12, 3) := by decide +kernel
theorem dX10_side_8 : decode cX10_side 8 = .ok (.ldc 102, 2) := by decide +kernel
theorem dX10_side_10 : decode cX10_side 10 = .ok (.aload_n 0, 1) := by decide +kernel
theorem dX10_side_11 : decode cX10_side 11 = .ok (.iconst (-1), 1) := by decide +kernel
theorem dX10_side_12 : decode cX10_side 12 = .ok (.invokevirtual 76, 3) := by decide +kernel
theorem dX10_side_15 : decode cX10_side 15 = .ok (.isub, 1) := by decide +kernel
theorem dX10_side_16 : decode cX10_side 16 = .ok (.ireturn, 1) := by decide +kernel
theorem dX10_side_17 : decode cX10_side 17 = .ok (.aload_n 0, 1) := by decide +kernel
theorem dX10_side_18 : decode cX10_side 18 = .ok (.iload_n 2, 1) := by decide +kernel
theorem dX10_side_19 : decode cX10_side 19 = .ok (.invokevirtual 103, 3) := by decide +kernel
theorem dX10_side_22 : decode cX10_side 22 = .ok (.ifCond .eq 11, 3) := by decide +kernel
theorem dX10_side_25 : decode cX10_side 25 = .ok (.aload_n 0, 1) := by decide +kernel
theorem dX10_side_26 : decode cX10_side 26 = .ok (.iload_n 3, 1) := by decide +kernel
theorem dX10_side_27 : decode cX10_side 27 = .ok (.invokevirtual 103, 3) := by decide +kernel
theorem dX10_side_30 : decode cX10_side 30 = .ok (.ifCond .ne 13, 3) := by decide +kernel
theorem dX10_side_33 : decode cX10_side 33 = .ok (.ldc 102, 2) := by decide +kernel
theorem dX10_side_35 : decode cX10_side 35 = .ok (.aload_n 0, 1) := by decide +kernel
theorem dX10_side_36 : decode cX10_side 36 = .ok (.bipush (-2), 2) := by decide +kernel
theorem dX10_side_38 : decode cX10_side 38 = .ok (.invokevirtual 76, 3) := by decide +kernel
theorem dX10_side_41 : decode cX10_side 41 = .ok (.isub, 1) := by decide +kernel
theorem dX10_side_42 : decode cX10_side 42 = .ok (.ireturn, 1) := by decide +kernel
theorem dX10_side_43 : decode cX10_side 43 = .ok (.aload_n 0, 1) := by decide +kernel
theorem dX10_side_44 : decode cX10_side 44 = .ok (.getfield 10, 3) := by decide +kernel
theorem dX10_side_47 : decode cX10_side 47 = .ok (.getfield 106, 3) := by decide +kernel
theorem dX10_side_50 : decode cX10_side 50 = .ok (.iload_n 1, 1) := by decide +kernel
theorem dX10_side_51 : decode cX10_side 51 = .ok (.iload_n 2, 1) := by decide +kernel
theorem dX10_side_52 : decode cX10_side 52 = .ok (.iload_n 3, 1) := by decide +kernel
theorem dX10_side_53 : decode cX10_side 53 = .ok (.invokevirtual 110, 3) := by decide +kernel
theorem dX10_side_56 : decode cX10_side 56 = .ok (.ireturn, 1) := by decide +kernel
theorem dX10_colour_0 : decode cX10_colour 0 = .ok (.aload_n 0, 1) := by decide +kernel
theorem dX10_colour_1 : decode cX10_colour 1 = .ok (.iload_n 1, 1) := by decide +kernel
theorem dX10_colour_2 : decode cX10_colour 2 = .ok (.invokevirtual 98, 3) := by decide +kernel
theorem dX10_colour_5 : decode cX10_colour 5 = .ok (.ifCond .eq 18, 3) := by decide +kernel
theorem dX10_colour_8 : decode cX10_colour 8 = .ok (.aload_n 0, 1) := by decide +kernel
theorem dX10_colour_9 : decode cX10_colour 9 = .ok (.getfield 10, 3) := by decide +kernel
theorem dX10_colour_12 : decode cX10_colour 12 = .ok (.getfield 106, 3) := by decide +kernel
theorem dX10_colour_15 : decode cX10_colour 15 = .ok (.getfield 116, 3) := by decide +kernel
theorem dX10_colour_18 : decode cX10_colour 18 = .ok (.iload_n 1, 1) := by decide +kernel
theorem dX10_colour_19 : decode cX10_colour 19 = .ok (.iaload, 1) := by decide +kernel
theorem dX10_colour_20 : decode cX10_colour 20 = .ok (.goto 8, 3) := by decide +kernel
theorem dX10_colour_23 : decode cX10_colour 23 = .ok (.aload_n 0, 1) := by decide +kernel
theorem dX10_colour_24 : decode cX10_colour 24 = .ok (.iconst (-1), 1) := by decide +kernel
theorem dX10_colour_25 : decode cX10_colour 25 = .ok (.invokevirtual 76, 3) := by decide +kernel
theorem dX10_colour_28 : decode cX10_colour 28 = .ok (.ireturn, 1) := by decide +kernel
theorem dX10_person_0 : decode cX10_person 0 = .ok (.aload_n 0, 1) := by decide +kernel
theorem dX10_person_1 : decode cX10_person 1 = .ok (.iload_n 1, 1) := by decide +kernel
theorem dX10_person_2 : decode cX10_person 2 = .ok (.invokevirtual 119, 3) := by decide +kernel
theorem dX10_person_5 : decode cX10_person 5 = .ok (.ifCond .ne 9, 3) := by decide +kernel
theorem dX10_person_8 : decode cX10_person 8 = .ok (.aload_n 0, 1) := by decide +kernel
theorem dX10_person_9 : decode cX10_person 9 = .ok (.iconst (-1), 1) := by decide +kernel
theorem dX10_person_10 : decode cX10_person 10 = .ok (.invokevirtual 76, 3) := by decide +kernel
theorem dX10_person_13 : decode cX10_person 13 = .ok (.ireturn, 1) := by decide +kernel
theorem dX10_person_14 : decode cX10_person 14 = .ok (.iload_n 2, 1) := by decide +kernel
theorem dX10_person_15 : decode cX10_person 15 = .ok (.tableswitch 80 0 3 #[29, 42, 55, 67], 29) := by decide +kernel
theorem dX10_person_44 : decode cX10_person 44 = .ok (.aload_n 0, 1) := by decide +kernel
theorem dX10_person_45 : decode cX10_person 45 = .ok (.getfield 10, 3) := by decide +kernel
theorem dX10_person_48 : decode cX10_person 48 = .ok (.getfield 122, 3) := by decide +kernel
theorem dX10_person_51 : decode cX10_person 51 = .ok (.getfield 126, 3) := by decide +kernel
theorem dX10_person_54 : decode cX10_person 54 = .ok (.iload_n 1, 1) := by decide +kernel
theorem dX10_person_55 : decode cX10_person 55 = .ok (.iaload, 1) := by decide +kernel
theorem dX10_person_56 : decode cX10_person 56 = .ok (.ireturn, 1) := by decide +kernel
theorem dX10_person_57 : decode cX10_person 57 = .ok (.aload_n 0, 1) := by decide +kernel
theorem dX10_person_58 : decode cX10_person 58 = .ok (.getfield 10, 3) := by decide +kernel
theorem dX10_person_61 : decode cX10_person 61 = .ok (.getfield 122, 3) := by decide +kernel
theorem dX10_person_64 : decode cX10_person 64 = .ok (.getfield 131, 3) := by decide +kernel
theorem dX10_person_67 : decode cX10_person 67 = .ok (.iload_n 1, 1) := by decide +kernel
theorem dX10_person_68 : decode cX10_person 68 = .ok (.iaload, 1) := by decide +kernel
theorem dX10_person_69 : decode cX10_person 69 = .ok (.ireturn, 1) := by decide +kernel
theorem dX10_person_70 : decode cX10_person 70 = .ok (.aload_n 0, 1) := by decide +kernel
theorem dX10_person_71 : decode cX10_person 71 = .ok (.getfield 10, 3) := by decide +kernel
theorem dX10_person_74 : decode cX10_person 74 = .ok (.getfield 134, 3) := by decide +kernel
theorem dX10_person_77 : decode cX10_person 77 = .ok (.iload_n 1, 1) := by decide +kernel
theorem dX10_person_78 : decode cX10_person 78 = .ok (.invokevirtual 138, 3) := by decide +kernel
theorem dX10_person_81 : decode cX10_person 81 = .ok (.ireturn, 1) := by decide +kernel
theorem dX10_person_82 : decode cX10_person 82 = .ok (.aload_n 0, 1) := by decide +kernel
theorem dX10_person_83 : decode cX10_person 83 = .ok (.getfield 10, 3) := by decide +kernel
theorem dX10_person_86 : decode cX10_person 86 = .ok (.getfield 122, 3) := by decide +kernel
theorem dX10_person_89 : decode cX10_person 89 = .ok (.getfield 143, 3) := by decide +kernel
theorem dX10_person_92 : decode cX10_person 92 = .ok (.iload_n 1, 1) := by decide +kernel
theorem dX10_person_93 : decode cX10_person 93 = .ok (.iaload, 1) := by decide +kernel
theorem dX10_person_94 : decode cX10_person 94 = .ok (.ireturn, 1) := by decide +kernel
theorem dX10_person_95 : decode cX10_person 95 = .ok (.aload_n 0, 1) := by decide +kernel
theorem dX10_person_96 : decode cX10_person 96 = .ok (.bipush (-2), 2) := by decide +kernel
theorem dX10_person_98 : decode cX10_person 98 = .ok (.invokevirtual 76, 3) := by decide +kernel
theorem dX10_person_101 : decode cX10_person 101 = .ok (.ireturn, 1) := by decide +kernel
theorem dX10_laid_0 : decode cX10_laid 0 = .ok (.aload_n 0, 1) := by decide +kernel
theorem dX10_laid_1 : decode cX10_laid 1 = .ok (.iload_n 1, 1) := by decide +kernel
theorem dX10_laid_2 : decode cX10_laid 2 = .ok (.invokevirtual 98, 3) := by decide +kernel
theorem dX10_laid_5 : decode cX10_laid 5 = .ok (.ifCond .ne 9, 3) := by decide +kernel
theorem dX10_laid_8 : decode cX10_laid 8 = .ok (.aload_n 0, 1) := by decide +kernel
theorem dX10_laid_9 : decode cX10_laid 9 = .ok (.iconst (-1), 1) := by decide +kernel
theorem dX10_laid_10 : decode cX10_laid 10 = .ok (.invokevirtual 76, 3) := by decide +kernel
theorem dX10_laid_13 : decode cX10_laid 13 = .ok (.ireturn, 1) := by decide +kernel
theorem dX10_laid_14 : decode cX10_laid 14 = .ok (.iload_n 2, 1) := by decide +kernel
theorem dX10_laid_15 : decode cX10_laid 15 = .ok (.ifCond .lt 8, 3) := by decide +kernel
theorem dX10_laid_18 : decode cX10_laid 18 = .ok (.iload_n 2, 1) := by decide +kernel
theorem dX10_laid_19 : decode cX10_laid 19 = .ok (.iconst 2, 1) := by decide +kernel
theorem dX10_laid_20 : decode cX10_laid 20 = .ok (.if_icmp .le 10, 3) := by decide +kernel
theorem dX10_laid_23 : decode cX10_laid 23 = .ok (.aload_n 0, 1) := by decide +kernel
theorem dX10_laid_24 : decode cX10_laid 24 = .ok (.bipush (-2), 2) := by decide +kernel
theorem dX10_laid_26 : decode cX10_laid 26 = .ok (.invokevirtual 76, 3) := by decide +kernel
theorem dX10_laid_29 : decode cX10_laid 29 = .ok (.ireturn, 1) := by decide +kernel
theorem dX10_laid_30 : decode cX10_laid 30 = .ok (.aload_n 0, 1) := by decide +kernel
theorem dX10_laid_31 : decode cX10_laid 31 = .ok (.getfield 10, 3) := by decide +kernel
theorem dX10_laid_34 : decode cX10_laid 34 = .ok (.getfield 134, 3) := by decide +kernel
theorem dX10_laid_37 : decode cX10_laid 37 = .ok (.iload_n 1, 1) := by decide +kernel
theorem dX10_laid_38 : decode cX10_laid 38 = .ok (.invokevirtual 146, 3) := by decide +kernel
theorem dX10_laid_41 : decode cX10_laid 41 = .ok (.ifCond .ne 6, 3) := by decide +kernel
theorem dX10_laid_44 : decode cX10_laid 44 = .ok (.bipush (-9), 2) := by decide +kernel
theorem dX10_laid_46 : decode cX10_laid 46 = .ok (.ireturn, 1) := by decide +kernel
theorem dX10_laid_47 : decode cX10_laid 47 = .ok (.iload_n 2, 1) := by decide +kernel
theorem dX10_laid_48 : decode cX10_laid 48 = .ok (.ifCond .ne 16, 3) := by decide +kernel
theorem dX10_laid_51 : decode cX10_laid 51 = .ok (.aload_n 0, 1) := by decide +kernel
theorem dX10_laid_52 : decode cX10_laid 52 = .ok (.getfield 10, 3) := by decide +kernel
theorem dX10_laid_55 : decode cX10_laid 55 = .ok (.getfield 134, 3) := by decide +kernel
theorem dX10_laid_58 : decode cX10_laid 58 = .ok (.getfield 149, 3) := by decide +kernel
theorem dX10_laid_61 : decode cX10_laid 61 = .ok (.iload_n 1, 1) := by decide +kernel
theorem dX10_laid_62 : decode cX10_laid 62 = .ok (.iaload, 1) := by decide +kernel
theorem dX10_laid_63 : decode cX10_laid 63 = .ok (.ireturn, 1) := by decide +kernel
theorem dX10_laid_64 : decode cX10_laid 64 = .ok (.iload_n 2, 1) := by decide +kernel
theorem dX10_laid_65 : decode cX10_laid 65 = .ok (.iconst 1, 1) := by decide +kernel
theorem dX10_laid_66 : decode cX10_laid 66 = .ok (.if_icmp .ne 18, 3) := by decide +kernel
theorem dX10_laid_69 : decode cX10_laid 69 = .ok (.aload_n 0, 1) := by decide +kernel
theorem dX10_laid_70 : decode cX10_laid 70 = .ok (.getfield 10, 3) := by decide +kernel
theorem dX10_laid_73 : decode cX10_laid 73 = .ok (.getfield 134, 3) := by decide +kernel
theorem dX10_laid_76 : decode cX10_laid 76 = .ok (.getfield 152, 3) := by decide +kernel
theorem dX10_laid_79 : decode cX10_laid 79 = .ok (.iload_n 1, 1) := by decide +kernel
theorem dX10_laid_80 : decode cX10_laid 80 = .ok (.iaload, 1) := by decide +kernel
theorem dX10_laid_81 : decode cX10_laid 81 = .ok (.goto 15, 3) := by decide +kernel
theorem dX10_laid_84 : decode cX10_laid 84 = .ok (.aload_n 0, 1) := by decide +kernel
theorem dX10_laid_85 : decode cX10_laid 85 = .ok (.getfield 10, 3) := by decide +kernel
theorem dX10_laid_88 : decode cX10_laid 88 = .ok (.getfield 134, 3) := by decide +kernel
theorem dX10_laid_91 : decode cX10_laid 91 = .ok (.getfield 155, 3) := by decide +kernel
theorem dX10_laid_94 : decode cX10_laid 94 = .ok (.iload_n 1, 1) := by decide +kernel
theorem dX10_laid_95 : decode cX10_laid 95 = .ok (.iaload, 1) := by decide +kernel
theorem dX10_laid_96 : decode cX10_laid 96 = .ok (.ireturn, 1) := by decide +kernel
theorem dX10_fits_0 : decode cX10_fits 0 = .ok (.aload_n 0, 1) := by decide +kernel
theorem dX10_fits_1 : decode cX10_fits 1 = .ok (.iload_n 1, 1) := by decide +kernel
theorem dX10_fits_2 : decode cX10_fits 2 = .ok (.invokevirtual 98, 3) := by decide +kernel
theorem dX10_fits_5 : decode cX10_fits 5 = .ok (.ifCond .eq 11, 3) := by decide +kernel
theorem dX10_fits_8 : decode cX10_fits 8 = .ok (.aload_n 0, 1) := by decide +kernel
theorem dX10_fits_9 : decode cX10_fits 9 = .ok (.iload_n 3, 1) := by decide +kernel
theorem dX10_fits_10 : decode cX10_fits 10 = .ok (.invokevirtual 98, 3) := by decide +kernel
theorem dX10_fits_13 : decode cX10_fits 13 = .ok (.ifCond .ne 9, 3) := by decide +kernel
theorem dX10_fits_16 : decode cX10_fits 16 = .ok (.aload_n 0, 1) := by decide +kernel
theorem dX10_fits_17 : decode cX10_fits 17 = .ok (.iconst (-1), 1) := by decide +kernel
theorem dX10_fits_18 : decode cX10_fits 18 = .ok (.invokevirtual 76, 3) := by decide +kernel
theorem dX10_fits_21 : decode cX10_fits 21 = .ok (.ireturn, 1) := by decide +kernel
theorem dX10_fits_22 : decode cX10_fits 22 = .ok (.aload_n 0, 1) := by decide +kernel
theorem dX10_fits_23 : decode cX10_fits 23 = .ok (.iload_n 2, 1) := by decide +kernel
theorem dX10_fits_24 : decode cX10_fits 24 = .ok (.invokevirtual 103, 3) := by decide +kernel
theorem dX10_fits_27 : decode cX10_fits 27 = .ok (.ifCond .ne 10, 3) := by decide +kernel
theorem dX10_fits_30 : decode cX10_fits 30 = .ok (.aload_n 0, 1) := by decide +kernel
theorem dX10_fits_31 : decode cX10_fits 31 = .ok (.bipush (-2), 2) := by decide +kernel
theorem dX10_fits_33 : decode cX10_fits 33 = .ok (.invokevirtual 76, 3) := by decide +kernel
theorem dX10_fits_36 : decode cX10_fits 36 = .ok (.ireturn, 1) := by decide +kernel
theorem dX10_fits_37 : decode cX10_fits 37 = .ok (.aload_n 0, 1) := by decide +kernel
theorem dX10_fits_38 : decode cX10_fits 38 = .ok (.getfield 10, 3) := by decide +kernel
theorem dX10_fits_41 : decode cX10_fits 41 = .ok (.getfield 106, 3) := by decide +kernel
theorem dX10_fits_44 : decode cX10_fits 44 = .ok (.aload_n 0, 1) := by decide +kernel
theorem dX10_fits_45 : decode cX10_fits 45 = .ok (.getfield 10, 3) := by decide +kernel
theorem dX10_fits_48 : decode cX10_fits 48 = .ok (.getfield 134, 3) := by decide +kernel
theorem dX10_fits_51 : decode cX10_fits 51 = .ok (.iload_n 1, 1) := by decide +kernel
theorem dX10_fits_52 : decode cX10_fits 52 = .ok (.iload_n 2, 1) := by decide +kernel
theorem dX10_fits_53 : decode cX10_fits 53 = .ok (.iload_n 3, 1) := by decide +kernel
theorem dX10_fits_54 : decode cX10_fits 54 = .ok (.invokevirtual 158, 3) := by decide +kernel
theorem dX10_fits_57 : decode cX10_fits 57 = .ok (.ifCond .eq 7, 3) := by decide +kernel
theorem dX10_fits_60 : decode cX10_fits 60 = .ok (.iconst 1, 1) := by decide +kernel
theorem dX10_fits_61 : decode cX10_fits 61 = .ok (.goto 4, 3) := by decide +kernel
theorem dX10_fits_64 : decode cX10_fits 64 = .ok (.iconst 0, 1) := by decide +kernel
theorem dX10_fits_65 : decode cX10_fits 65 = .ok (.ireturn, 1) := by decide +kernel
theorem dX10_seconds_0 : decode cX10_seconds 0 = .ok (.aload_n 0, 1) := by decide +kernel
theorem dX10_seconds_1 : decode cX10_seconds 1 = .ok (.iload_n 1, 1) := by decide +kernel
theorem dX10_seconds_2 : decode cX10_seconds 2 = .ok (.iload_n 2, 1) := by decide +kernel
theorem dX10_seconds_3 : decode cX10_seconds 3 = .ok (.iload_n 3, 1) := by decide +kernel
theorem dX10_seconds_4 : decode cX10_seconds 4 = .ok (.iload 4, 2) := by decide +kernel
theorem dX10_seconds_6 : decode cX10_seconds 6 = .ok (.invokevirtual 162, 3) := by decide +kernel
theorem dX10_seconds_9 : decode cX10_seconds 9 = .ok (.istore 5, 2) := by decide +kernel
theorem dX10_seconds_11 : decode cX10_seconds 11 = .ok (.iload 5, 2) := by decide +kernel
theorem dX10_seconds_13 : decode cX10_seconds 13 = .ok (.ifCond .ne 22, 3) := by decide +kernel
theorem dX10_seconds_16 : decode cX10_seconds 16 = .ok (.aload_n 0, 1) := by decide +kernel
theorem dX10_seconds_17 : decode cX10_seconds 17 = .ok (.getfield 10, 3) := by decide +kernel
theorem dX10_seconds_20 : decode cX10_seconds 20 = .ok (.getfield 134, 3) := by decide +kernel
theorem dX10_seconds_23 : decode cX10_seconds 23 = .ok (.iload 4, 2) := by decide +kernel
theorem dX10_seconds_25 : decode cX10_seconds 25 = .ok (.invokevirtual 146, 3) := by decide +kernel
theorem dX10_seconds_28 : decode cX10_seconds 28 = .ok (.ifCond .eq 7, 3) := by decide +kernel
theorem dX10_seconds_31 : decode cX10_seconds 31 = .ok (.bipush (-3), 2) := by decide +kernel
theorem dX10_seconds_33 : decode cX10_seconds 33 = .ok (.istore 5, 2) := by decide +kernel
theorem dX10_seconds_35 : decode cX10_seconds 35 = .ok (.iload 5, 2) := by decide +kernel
theorem dX10_seconds_37 : decode cX10_seconds 37 = .ok (.ifCond .eq 10, 3) := by decide +kernel
theorem dX10_seconds_40 : decode cX10_seconds 40 = .ok (.aload_n 0, 1) := by decide +kernel
theorem dX10_seconds_41 : decode cX10_seconds 41 = .ok (.iload 5, 2) := by decide +kernel
theorem dX10_seconds_43 : decode cX10_seconds 43 = .ok (.invokevirtual 76, 3) := by decide +kernel
theorem dX10_seconds_46 : decode cX10_seconds 46 = .ok (.ireturn, 1) := by decide +kernel
theorem dX10_seconds_47 : decode cX10_seconds 47 = .ok (.aload_n 0, 1) := by decide +kernel
theorem dX10_seconds_48 : decode cX10_seconds 48 = .ok (.getfield 10, 3) := by decide +kernel
theorem dX10_seconds_51 : decode cX10_seconds 51 = .ok (.iload_n 1, 1) := by decide +kernel
theorem dX10_seconds_52 : decode cX10_seconds 52 = .ok (.iload_n 2, 1) := by decide +kernel
theorem dX10_seconds_53 : decode cX10_seconds 53 = .ok (.iload 4, 2) := by decide +kernel
theorem dX10_seconds_55 : decode cX10_seconds 55 = .ok (.aload_n 0, 1) := by decide +kernel
theorem dX10_seconds_56 : decode cX10_seconds 56 = .ok (.getfield 10, 3) := by decide +kernel
theorem dX10_seconds_59 : decode cX10_seconds 59 = .ok (.getfield 106, 3) := by decide +kernel
theorem dX10_seconds_62 : decode cX10_seconds 62 = .ok (.aload_n 0, 1) := by decide +kernel
theorem dX10_seconds_63 : decode cX10_seconds 63 = .ok (.getfield 10, 3) := by decide +kernel
theorem dX10_seconds_66 : decode cX10_seconds 66 = .ok (.getfield 134, 3) := by decide +kernel
theorem dX10_seconds_69 : decode cX10_seconds 69 = .ok (.iload_n 2, 1) := by decide +kernel
theorem dX10_seconds_70 : decode cX10_seconds 70 = .ok (.iload_n 3, 1) := by decide +kernel
theorem dX10_seconds_71 : decode cX10_seconds 71 = .ok (.iload 4, 2) := by decide +kernel
theorem dX10_seconds_73 : decode cX10_seconds 73 = .ok (.invokevirtual 166, 3) := by decide +kernel
theorem dX10_seconds_76 : decode cX10_seconds 76 = .ok (.invokevirtual 170, 3) := by decide +kernel
theorem dX10_seconds_79 : decode cX10_seconds 79 = .ok (.ireturn, 1) := by decide +kernel
theorem dX10_tryIt_0 : decode cX10_tryIt 0 = .ok (.aload_n 0, 1) := by decide +kernel
theorem dX10_tryIt_1 : decode cX10_tryIt 1 = .ok (.iload_n 1, 1) := by decide +kernel
theorem dX10_tryIt_2 : decode cX10_tryIt 2 = .ok (.iload_n 2, 1) := by decide +kernel
theorem dX10_tryIt_3 : decode cX10_tryIt 3 = .ok (.iload_n 3, 1) := by decide +kernel
theorem dX10_tryIt_4 : decode cX10_tryIt 4 = .ok (.iload 4, 2) := by decide +kernel
theorem dX10_tryIt_6 : decode cX10_tryIt 6 = .ok (.invokevirtual 162, 3) := by decide +kernel
theorem dX10_tryIt_9 : decode cX10_tryIt 9 = .ok (.istore 5, 2) := by decide +kernel
theorem dX10_tryIt_11 : decode cX10_tryIt 11 = .ok (.iload 5, 2) := by decide +kernel
theorem dX10_tryIt_13 : decode cX10_tryIt 13 = .ok (.ifCond .ne 36, 3) := by decide +kernel
theorem dX10_tryIt_16 : decode cX10_tryIt 16 = .ok (.aload_n 0, 1) := by decide +kernel
theorem dX10_tryIt_17 : decode cX10_tryIt 17 = .ok (.getfield 10, 3) := by decide +kernel
theorem dX10_tryIt_20 : decode cX10_tryIt 20 = .ok (.getfield 134, 3) := by decide +kernel
theorem dX10_tryIt_23 : decode cX10_tryIt 23 = .ok (.iload 4, 2) := by decide +kernel
theorem dX10_tryIt_25 : decode cX10_tryIt 25 = .ok (.invokevirtual 146, 3) := by decide +kernel
theorem dX10_tryIt_28 : decode cX10_tryIt 28 = .ok (.ifCond .ne 17, 3) := by decide +kernel
theorem dX10_tryIt_31 : decode cX10_tryIt 31 = .ok (.aload_n 0, 1) := by decide +kernel
theorem dX10_tryIt_32 : decode cX10_tryIt 32 = .ok (.getfield 10, 3) := by decide +kernel
theorem dX10_tryIt_35 : decode cX10_tryIt 35 = .ok (.getfield 134, 3) := by decide +kernel
theorem dX10_tryIt_38 : decode cX10_tryIt 38 = .ok (.iload_n 2, 1) := by decide +kernel
theorem dX10_tryIt_39 : decode cX10_tryIt 39 = .ok (.invokevirtual 173, 3) := by decide +kernel
theorem dX10_tryIt_42 : decode cX10_tryIt 42 = .ok (.ifCond .eq 7, 3) := by decide +kernel
theorem dX10_tryIt_45 : decode cX10_tryIt 45 = .ok (.bipush (-3), 2) := by decide +kernel
theorem dX10_tryIt_47 : decode cX10_tryIt 47 = .ok (.istore 5, 2) := by decide +kernel
theorem dX10_tryIt_49 : decode cX10_tryIt 49 = .ok (.iload 5, 2) := by decide +kernel
theorem dX10_tryIt_51 : decode cX10_tryIt 51 = .ok (.ifCond .eq 10, 3) := by decide +kernel
theorem dX10_tryIt_54 : decode cX10_tryIt 54 = .ok (.aload_n 0, 1) := by decide +kernel
theorem dX10_tryIt_55 : decode cX10_tryIt 55 = .ok (.iload 5, 2) := by decide +kernel
theorem dX10_tryIt_57 : decode cX10_tryIt 57 = .ok (.invokevirtual 76, 3) := by decide +kernel
theorem dX10_tryIt_60 : decode cX10_tryIt 60 = .ok (.ireturn, 1) := by decide +kernel
theorem dX10_tryIt_61 : decode cX10_tryIt 61 = .ok (.aload_n 0, 1) := by decide +kernel
theorem dX10_tryIt_62 : decode cX10_tryIt 62 = .ok (.getfield 10, 3) := by decide +kernel
theorem dX10_tryIt_65 : decode cX10_tryIt 65 = .ok (.getfield 106, 3) := by decide +kernel
theorem dX10_tryIt_68 : decode cX10_tryIt 68 = .ok (.aload_n 0, 1) := by decide +kernel
theorem dX10_tryIt_69 : decode cX10_tryIt 69 = .ok (.getfield 10, 3) := by decide +kernel
theorem dX10_tryIt_72 : decode cX10_tryIt 72 = .ok (.getfield 134, 3) := by decide +kernel
theorem dX10_tryIt_75 : decode cX10_tryIt 75 = .ok (.iload_n 2, 1) := by decide +kernel
theorem dX10_tryIt_76 : decode cX10_tryIt 76 = .ok (.iload_n 3, 1) := by decide +kernel
theorem dX10_tryIt_77 : decode cX10_tryIt 77 = .ok (.iload 4, 2) := by decide +kernel
theorem dX10_tryIt_79 : decode cX10_tryIt 79 = .ok (.invokevirtual 166, 3) := by decide +kernel
theorem dX10_tryIt_82 : decode cX10_tryIt 82 = .ok (.istore 6, 2) := by decide +kernel
theorem dX10_tryIt_84 : decode cX10_tryIt 84 = .ok (.aload_n 0, 1) := by decide +kernel
theorem dX10_tryIt_85 : decode cX10_tryIt 85 = .ok (.getfield 10, 3) := by decide +kernel
theorem dX10_tryIt_88 : decode cX10_tryIt 88 = .ok (.getfield 122, 3) := by decide +kernel
theorem dX10_tryIt_91 : decode cX10_tryIt 91 = .ok (.getfield 143, 3) := by decide +kernel
theorem dX10_tryIt_94 : decode cX10_tryIt 94 = .ok (.iload_n 1, 1) := by decide +kernel
theorem dX10_tryIt_95 : decode cX10_tryIt 95 = .ok (.dup2, 1) := by decide +kernel
theorem dX10_tryIt_96 : decode cX10_tryIt 96 = .ok (.iaload, 1) := by decide +kernel
theorem dX10_tryIt_97 : decode cX10_tryIt 97 = .ok (.aload_n 0, 1) := by decide +kernel
theorem dX10_tryIt_98 : decode cX10_tryIt 98 = .ok (.getfield 10, 3) := by decide +kernel
theorem dX10_tryIt_101 : decode cX10_tryIt 101 = .ok (.iload_n 1, 1) := by decide +kernel
theorem dX10_tryIt_102 : decode cX10_tryIt 102 = .ok (.iload_n 2, 1) := by decide +kernel
theorem dX10_tryIt_103 : decode cX10_tryIt 103 = .ok (.iload 4, 2) := by decide +kernel
theorem dX10_tryIt_105 : decode cX10_tryIt 105 = .ok (.iload 6, 2) := by decide +kernel
theorem dX10_tryIt_107 : decode cX10_tryIt 107 = .ok (.invokevirtual 170, 3) := by decide +kernel
theorem dX10_tryIt_110 : decode cX10_tryIt 110 = .ok (.iadd, 1) := by decide +kernel
theorem dX10_tryIt_111 : decode cX10_tryIt 111 = .ok (.iastore, 1) := by decide +kernel
theorem dX10_tryIt_112 : decode cX10_tryIt 112 = .ok (.aload_n 0, 1) := by decide +kernel
theorem dX10_tryIt_113 : decode cX10_tryIt 113 = .ok (.dup, 1) := by decide +kernel
theorem dX10_tryIt_114 : decode cX10_tryIt 114 = .ok (.getfield 72, 3) := by decide +kernel
theorem dX10_tryIt_117 : decode cX10_tryIt 117 = .ok (.iconst 1, 1) := by decide +kernel
theorem dX10_tryIt_118 : decode cX10_tryIt 118 = .ok (.iadd, 1) := by decide +kernel
theorem dX10_tryIt_119 : decode cX10_tryIt 119 = .ok (.putfield 72, 3) := by decide +kernel
theorem dX10_tryIt_122 : decode cX10_tryIt 122 = .ok (.iload 6, 2) := by decide +kernel
theorem dX10_tryIt_124 : decode cX10_tryIt 124 = .ok (.iconst 1, 1) := by decide +kernel
theorem dX10_tryIt_125 : decode cX10_tryIt 125 = .ok (.if_icmp .eq 9, 3) := by decide +kernel
theorem dX10_tryIt_128 : decode cX10_tryIt 128 = .ok (.iload 6, 2) := by decide +kernel
theorem dX10_tryIt_130 : decode cX10_tryIt 130 = .ok (.iconst 2, 1) := by decide +kernel
theorem dX10_tryIt_131 : decode cX10_tryIt 131 = .ok (.if_icmp .ne 18, 3) := by decide +kernel
theorem dX10_tryIt_134 : decode cX10_tryIt 134 = .ok (.aload_n 0, 1) := by decide +kernel
theorem dX10_tryIt_135 : decode cX10_tryIt 135 = .ok (.getfield 10, 3) := by decide +kernel
theorem dX10_tryIt_138 : decode cX10_tryIt 138 = .ok (.getfield 134, 3) := by decide +kernel
theorem dX10_tryIt_141 : decode cX10_tryIt 141 = .ok (.iload 4, 2) := by decide +kernel
theorem dX10_tryIt_143 : decode cX10_tryIt 143 = .ok (.iload_n 2, 1) := by decide +kernel
theorem dX10_tryIt_144 : decode cX10_tryIt 144 = .ok (.iload_n 3, 1) := by decide +kernel
theorem dX10_tryIt_145 : decode cX10_tryIt 145 = .ok (.iload_n 1, 1) := by decide +kernel
theorem dX10_tryIt_146 : decode cX10_tryIt 146 = .ok (.invokevirtual 176, 3) := by decide +kernel
theorem dX10_tryIt_149 : decode cX10_tryIt 149 = .ok (.iload 6, 2) := by decide +kernel
theorem dX10_tryIt_151 : decode cX10_tryIt 151 = .ok (.ireturn, 1) := by decide +kernel
theorem dX10_lift_0 : decode cX10_lift 0 = .ok (.aload_n 0, 1) := by decide +kernel
theorem dX10_lift_1 : decode cX10_lift 1 = .ok (.iload_n 1, 1) := by decide +kernel
theorem dX10_lift_2 : decode cX10_lift 2 = .ok (.invokevirtual 98, 3) := by decide +kernel
theorem dX10_lift_5 : decode cX10_lift 5 = .ok (.ifCond .ne 9, 3) := by decide +kernel
theorem dX10_lift_8 : decode cX10_lift 8 = .ok (.aload_n 0, 1) := by decide +kernel
theorem dX10_lift_9 : decode cX10_lift 9 = .ok (.iconst (-1), 1) := by decide +kernel
theorem dX10_lift_10 : decode cX10_lift 10 = .ok (.invokevirtual 76, 3) := by decide +kernel
theorem dX10_lift_13 : decode cX10_lift 13 = .ok (.ireturn, 1) := by decide +kernel
theorem dX10_lift_14 : decode cX10_lift 14 = .ok (.aload_n 0, 1) := by decide +kernel
theorem dX10_lift_15 : decode cX10_lift 15 = .ok (.getfield 10, 3) := by decide +kernel
theorem dX10_lift_18 : decode cX10_lift 18 = .ok (.getfield 134, 3) := by decide +kernel
theorem dX10_lift_21 : decode cX10_lift 21 = .ok (.iload_n 1, 1) := by decide +kernel
theorem dX10_lift_22 : decode cX10_lift 22 = .ok (.invokevirtual 146, 3) := by decide +kernel
theorem dX10_lift_25 : decode cX10_lift 25 = .ok (.ifCond .ne 10, 3) := by decide +kernel
theorem dX10_lift_28 : decode cX10_lift 28 = .ok (.aload_n 0, 1) := by decide +kernel
theorem dX10_lift_29 : decode cX10_lift 29 = .ok (.bipush (-3), 2) := by decide +kernel
theorem dX10_lift_31 : decode cX10_lift 31 = .ok (.invokevirtual 76, 3) := by decide +kernel
theorem dX10_lift_34 : decode cX10_lift 34 = .ok (.ireturn, 1) := by decide +kernel
theorem dX10_lift_35 : decode cX10_lift 35 = .ok (.aload_n 0, 1) := by decide +kernel
theorem dX10_lift_36 : decode cX10_lift 36 = .ok (.getfield 10, 3) := by decide +kernel
theorem dX10_lift_39 : decode cX10_lift 39 = .ok (.getfield 134, 3) := by decide +kernel
theorem dX10_lift_42 : decode cX10_lift 42 = .ok (.iload_n 1, 1) := by decide +kernel
theorem dX10_lift_43 : decode cX10_lift 43 = .ok (.invokevirtual 180, 3) := by decide +kernel
theorem dX10_lift_46 : decode cX10_lift 46 = .ok (.ireturn, 1) := by decide +kernel
theorem dX10_pocket_0 : decode cX10_pocket 0 = .ok (.aload_n 0, 1) := by decide +kernel
theorem dX10_pocket_1 : decode cX10_pocket 1 = .ok (.iload_n 1, 1) := by decide +kernel
theorem dX10_pocket_2 : decode cX10_pocket 2 = .ok (.invokevirtual 98, 3) := by decide +kernel
theorem dX10_pocket_5 : decode cX10_pocket 5 = .ok (.ifCond .ne 9, 3) := by decide +kernel
theorem dX10_pocket_8 : decode cX10_pocket 8 = .ok (.aload_n 0, 1) := by decide +kernel
theorem dX10_pocket_9 : decode cX10_pocket 9 = .ok (.iconst (-1), 1) := by decide +kernel
theorem dX10_pocket_10 : decode cX10_pocket 10 = .ok (.invokevirtual 76, 3) := by decide +kernel
theorem dX10_pocket_13 : decode cX10_pocket 13 = .ok (.ireturn, 1) := by decide +kernel
theorem dX10_pocket_14 : decode cX10_pocket 14 = .ok (.aload_n 0, 1) := by decide +kernel
theorem dX10_pocket_15 : decode cX10_pocket 15 = .ok (.getfield 10, 3) := by decide +kernel
theorem dX10_pocket_18 : decode cX10_pocket 18 = .ok (.getfield 134, 3) := by decide +kernel
theorem dX10_pocket_21 : decode cX10_pocket 21 = .ok (.iload_n 1, 1) := by decide +kernel
theorem dX10_pocket_22 : decode cX10_pocket 22 = .ok (.invokevirtual 173, 3) := by decide +kernel
theorem dX10_pocket_25 : decode cX10_pocket 25 = .ok (.ifCond .eq 10, 3) := by decide +kernel
theorem dX10_pocket_28 : decode cX10_pocket 28 = .ok (.aload_n 0, 1) := by decide +kernel
theorem dX10_pocket_29 : decode cX10_pocket 29 = .ok (.bipush (-3), 2) := by decide +kernel
theorem dX10_pocket_31 : decode cX10_pocket 31 = .ok (.invokevirtual 76, 3) := by decide +kernel
theorem dX10_pocket_34 : decode cX10_pocket 34 = .ok (.ireturn, 1) := by decide +kernel
theorem dX10_pocket_35 : decode cX10_pocket 35 = .ok (.aload_n 0, 1) := by decide +kernel
theorem dX10_pocket_36 : decode cX10_pocket 36 = .ok (.getfield 10, 3) := by decide +kernel
theorem dX10_pocket_39 : decode cX10_pocket 39 = .ok (.getfield 134, 3) := by decide +kernel
theorem dX10_pocket_42 : decode cX10_pocket 42 = .ok (.getfield 183, 3) := by decide +kernel
theorem dX10_pocket_45 : decode cX10_pocket 45 = .ok (.iload_n 1, 1) := by decide +kernel
theorem dX10_pocket_46 : decode cX10_pocket 46 = .ok (.iconst 1, 1) := by decide +kernel
theorem dX10_pocket_47 : decode cX10_pocket 47 = .ok (.bastore, 1) := by decide +kernel
theorem dX10_pocket_48 : decode cX10_pocket 48 = .ok (.aload_n 0, 1) := by decide +kernel
theorem dX10_pocket_49 : decode cX10_pocket 49 = .ok (.getfield 10, 3) := by decide +kernel
theorem dX10_pocket_52 : decode cX10_pocket 52 = .ok (.getfield 134, 3) := by decide +kernel
theorem dX10_pocket_55 : decode cX10_pocket 55 = .ok (.invokevirtual 187, 3) := by decide +kernel
theorem dX10_pocket_58 : decode cX10_pocket 58 = .ok (.ireturn, 1) := by decide +kernel
theorem dX10_find_0 : decode cX10_find 0 = .ok (.aload_n 0, 1) := by decide +kernel
theorem dX10_find_1 : decode cX10_find 1 = .ok (.iload_n 1, 1) := by decide +kernel
theorem dX10_find_2 : decode cX10_find 2 = .ok (.invokevirtual 98, 3) := by decide +kernel
theorem dX10_find_5 : decode cX10_find 5 = .ok (.ifCond .ne 9, 3) := by decide +kernel
theorem dX10_find_8 : decode cX10_find 8 = .ok (.aload_n 0, 1) := by decide +kernel
theorem dX10_find_9 : decode cX10_find 9 = .ok (.iconst (-1), 1) := by decide +kernel
theorem dX10_find_10 : decode cX10_find 10 = .ok (.invokevirtual 76, 3) := by decide +kernel
theorem dX10_find_13 : decode cX10_find 13 = .ok (.ireturn, 1) := by decide +kernel
theorem dX10_find_14 : decode cX10_find 14 = .ok (.aload_n 0, 1) := by decide +kernel
theorem dX10_find_15 : decode cX10_find 15 = .ok (.getfield 10, 3) := by decide +kernel
theorem dX10_find_18 : decode cX10_find 18 = .ok (.getfield 134, 3) := by decide +kernel
theorem dX10_find_21 : decode cX10_find 21 = .ok (.getfield 183, 3) := by decide +kernel
theorem dX10_find_24 : decode cX10_find 24 = .ok (.iload_n 1, 1) := by decide +kernel
theorem dX10_find_25 : decode cX10_find 25 = .ok (.baload, 1) := by decide +kernel
theorem dX10_find_26 : decode cX10_find 26 = .ok (.ifCond .ne 10, 3) := by decide +kernel
theorem dX10_find_29 : decode cX10_find 29 = .ok (.aload_n 0, 1) := by decide +kernel
theorem dX10_find_30 : decode cX10_find 30 = .ok (.bipush (-3), 2) := by decide +kernel
theorem dX10_find_32 : decode cX10_find 32 = .ok (.invokevirtual 76, 3) := by decide +kernel
theorem dX10_find_35 : decode cX10_find 35 = .ok (.ireturn, 1) := by decide +kernel
theorem dX10_find_36 : decode cX10_find 36 = .ok (.aload_n 0, 1) := by decide +kernel
theorem dX10_find_37 : decode cX10_find 37 = .ok (.getfield 10, 3) := by decide +kernel
theorem dX10_find_40 : decode cX10_find 40 = .ok (.getfield 134, 3) := by decide +kernel
theorem dX10_find_43 : decode cX10_find 43 = .ok (.getfield 183, 3) := by decide +kernel
theorem dX10_find_46 : decode cX10_find 46 = .ok (.iload_n 1, 1) := by decide +kernel
theorem dX10_find_47 : decode cX10_find 47 = .ok (.iconst 0, 1) := by decide +kernel
theorem dX10_find_48 : decode cX10_find 48 = .ok (.bastore, 1) := by decide +kernel
theorem dX10_find_49 : decode cX10_find 49 = .ok (.aload_n 0, 1) := by decide +kernel
theorem dX10_find_50 : decode cX10_find 50 = .ok (.getfield 10, 3) := by decide +kernel
theorem dX10_find_53 : decode cX10_find 53 = .ok (.getfield 134, 3) := by decide +kernel
theorem dX10_find_56 : decode cX10_find 56 = .ok (.invokevirtual 187, 3) := by decide +kernel
theorem dX10_find_59 : decode cX10_find 59 = .ok (.ireturn, 1) := by decide +kernel
theorem dX10_ways_0 : decode cX10_ways 0 = .ok (.iload_n 1, 1) := by decide +kernel
theorem dX10_ways_1 : decode cX10_ways 1 = .ok (.ifCond .lt 8, 3) := by decide +kernel
theorem dX10_ways_4 : decode cX10_ways 4 = .ok (.iload_n 1, 1) := by decide +kernel
theorem dX10_ways_5 : decode cX10_ways 5 = .ok (.iconst 1, 1) := by decide +kernel
theorem dX10_ways_6 : decode cX10_ways 6 = .ok (.if_icmp .le 10, 3) := by decide +kernel
theorem dX10_ways_9 : decode cX10_ways 9 = .ok (.aload_n 0, 1) := by decide +kernel
theorem dX10_ways_10 : decode cX10_ways 10 = .ok (.bipush (-2), 2) := by decide +kernel
theorem dX10_ways_12 : decode cX10_ways 12 = .ok (.invokevirtual 76, 3) := by decide +kernel
theorem dX10_ways_15 : decode cX10_ways 15 = .ok (.ireturn, 1) := by decide +kernel
theorem dX10_ways_16 : decode cX10_ways 16 = .ok (.aload_n 0, 1) := by decide +kernel
theorem dX10_ways_17 : decode cX10_ways 17 = .ok (.getfield 39, 3) := by decide +kernel
theorem dX10_ways_20 : decode cX10_ways 20 = .ok (.aload_n 0, 1) := by decide +kernel
theorem dX10_ways_21 : decode cX10_ways 21 = .ok (.getfield 10, 3) := by decide +kernel
theorem dX10_ways_24 : decode cX10_ways 24 = .ok (.getfield 106, 3) := by decide +kernel
theorem dX10_ways_27 : decode cX10_ways 27 = .ok (.invokevirtual 191, 3) := by decide +kernel
theorem dX10_ways_30 : decode cX10_ways 30 = .ok (.iload_n 1, 1) := by decide +kernel
theorem dX10_ways_31 : decode cX10_ways 31 = .ok (.iconst 1, 1) := by decide +kernel
theorem dX10_ways_32 : decode cX10_ways 32 = .ok (.if_icmp .ne 11, 3) := by decide +kernel
theorem dX10_ways_35 : decode cX10_ways 35 = .ok (.aload_n 0, 1) := by decide +kernel
theorem dX10_ways_36 : decode cX10_ways 36 = .ok (.getfield 39, 3) := by decide +kernel
theorem dX10_ways_39 : decode cX10_ways 39 = .ok (.getfield 195, 3) := by decide +kernel
theorem dX10_ways_42 : decode cX10_ways 42 = .ok (.ireturn, 1) := by decide +kernel
theorem dX10_ways_43 : decode cX10_ways 43 = .ok (.aload_n 0, 1) := by decide +kernel
theorem dX10_ways_44 : decode cX10_ways 44 = .ok (.getfield 39, 3) := by decide +kernel
theorem dX10_ways_47 : decode cX10_ways 47 = .ok (.getfield 195, 3) := by decide +kernel
theorem dX10_ways_50 : decode cX10_ways 50 = .ok (.sipush 20000, 3) := by decide +kernel
theorem dX10_ways_53 : decode cX10_ways 53 = .ok (.if_icmp .le 8, 3) := by decide +kernel
theorem dX10_ways_56 : decode cX10_ways 56 = .ok (.bipush (-9), 2) := by decide +kernel
theorem dX10_ways_58 : decode cX10_ways 58 = .ok (.goto 10, 3) := by decide +kernel
theorem dX10_ways_61 : decode cX10_ways 61 = .ok (.aload_n 0, 1) := by decide +kernel
theorem dX10_ways_62 : decode cX10_ways 62 = .ok (.getfield 39, 3) := by decide +kernel
theorem dX10_ways_65 : decode cX10_ways 65 = .ok (.getfield 198, 3) := by decide +kernel
theorem dX10_ways_68 : decode cX10_ways 68 = .ok (.ireturn, 1) := by decide +kernel
theorem dX10_first_0 : decode cX10_first 0 = .ok (.aload_n 0, 1) := by decide +kernel
theorem dX10_first_1 : decode cX10_first 1 = .ok (.iload_n 1, 1) := by decide +kernel
theorem dX10_first_2 : decode cX10_first 2 = .ok (.invokevirtual 98, 3) := by decide +kernel
theorem dX10_first_5 : decode cX10_first 5 = .ok (.ifCond .ne 9, 3) := by decide +kernel
theorem dX10_first_8 : decode cX10_first 8 = .ok (.aload_n 0, 1) := by decide +kernel
theorem dX10_first_9 : decode cX10_first 9 = .ok (.iconst (-1), 1) := by decide +kernel
theorem dX10_first_10 : decode cX10_first 10 = .ok (.invokevirtual 76, 3) := by decide +kernel
theorem dX10_first_13 : decode cX10_first 13 = .ok (.ireturn, 1) := by decide +kernel
theorem dX10_first_14 : decode cX10_first 14 = .ok (.iload_n 2, 1) := by decide +kernel
theorem dX10_first_15 : decode cX10_first 15 = .ok (.ifCond .lt 8, 3) := by decide +kernel
theorem dX10_first_18 : decode cX10_first 18 = .ok (.iload_n 2, 1) := by decide +kernel
theorem dX10_first_19 : decode cX10_first 19 = .ok (.iconst 1, 1) := by decide +kernel
theorem dX10_first_20 : decode cX10_first 20 = .ok (.if_icmp .le 10, 3) := by decide +kernel
theorem dX10_first_23 : decode cX10_first 23 = .ok (.aload_n 0, 1) := by decide +kernel
theorem dX10_first_24 : decode cX10_first 24 = .ok (.bipush (-2), 2) := by decide +kernel
theorem dX10_first_26 : decode cX10_first 26 = .ok (.invokevirtual 76, 3) := by decide +kernel
theorem dX10_first_29 : decode cX10_first 29 = .ok (.ireturn, 1) := by decide +kernel
theorem dX10_first_30 : decode cX10_first 30 = .ok (.aload_n 0, 1) := by decide +kernel
theorem dX10_first_31 : decode cX10_first 31 = .ok (.getfield 39, 3) := by decide +kernel
theorem dX10_first_34 : decode cX10_first 34 = .ok (.aload_n 0, 1) := by decide +kernel
theorem dX10_first_35 : decode cX10_first 35 = .ok (.getfield 10, 3) := by decide +kernel
theorem dX10_first_38 : decode cX10_first 38 = .ok (.getfield 106, 3) := by decide +kernel
theorem dX10_first_41 : decode cX10_first 41 = .ok (.invokevirtual 191, 3) := by decide +kernel
theorem dX10_first_44 : decode cX10_first 44 = .ok (.aload_n 0, 1) := by decide +kernel
theorem dX10_first_45 : decode cX10_first 45 = .ok (.getfield 39, 3) := by decide +kernel
theorem dX10_first_48 : decode cX10_first 48 = .ok (.getfield 198, 3) := by decide +kernel
theorem dX10_first_51 : decode cX10_first 51 = .ok (.ifCond .ne 6, 3) := by decide +kernel
theorem dX10_first_54 : decode cX10_first 54 = .ok (.bipush (-9), 2) := by decide +kernel
theorem dX10_first_56 : decode cX10_first 56 = .ok (.ireturn, 1) := by decide +kernel
theorem dX10_first_57 : decode cX10_first 57 = .ok (.iload_n 2, 1) := by decide +kernel
theorem dX10_first_58 : decode cX10_first 58 = .ok (.ifCond .ne 18, 3) := by decide +kernel
theorem dX10_first_61 : decode cX10_first 61 = .ok (.aload_n 0, 1) := by decide +kernel
theorem dX10_first_62 : decode cX10_first 62 = .ok (.getfield 39, 3) := by decide +kernel
theorem dX10_first_65 : decode cX10_first 65 = .ok (.getfield 201, 3) := by decide +kernel
theorem dX10_first_68 : decode cX10_first 68 = .ok (.getfield 149, 3) := by decide +kernel
theorem dX10_first_71 : decode cX10_first 71 = .ok (.iload_n 1, 1) := by decide +kernel
theorem dX10_first_72 : decode cX10_first 72 = .ok (.iaload, 1) := by decide +kernel
theorem dX10_first_73 : decode cX10_first 73 = .ok (.goto 15, 3) := by decide +kernel
theorem dX10_first_76 : decode cX10_first 76 = .ok (.aload_n 0, 1) := by decide +kernel
theorem dX10_first_77 : decode cX10_first 77 = .ok (.getfield 39, 3) := by decide +kernel
theorem dX10_first_80 : decode cX10_first 80 = .ok (.getfield 201, 3) := by decide +kernel
theorem dX10_first_83 : decode cX10_first 83 = .ok (.getfield 152, 3) := by decide +kernel
theorem dX10_first_86 : decode cX10_first 86 = .ok (.iload_n 1, 1) := by decide +kernel
theorem dX10_first_87 : decode cX10_first 87 = .ok (.iaload, 1) := by decide +kernel
theorem dX10_first_88 : decode cX10_first 88 = .ok (.ireturn, 1) := by decide +kernel
theorem dX10_done_0 : decode cX10_done 0 = .ok (.aload_n 0, 1) := by decide +kernel
theorem dX10_done_1 : decode cX10_done 1 = .ok (.iload_n 1, 1) := by decide +kernel
theorem dX10_done_2 : decode cX10_done 2 = .ok (.iload_n 2, 1) := by decide +kernel
theorem dX10_done_3 : decode cX10_done 3 = .ok (.invokevirtual 204, 3) := by decide +kernel
theorem dX10_done_6 : decode cX10_done 6 = .ok (.istore_n 3, 1) := by decide +kernel
theorem dX10_done_7 : decode cX10_done 7 = .ok (.iload_n 3, 1) := by decide +kernel
theorem dX10_done_8 : decode cX10_done 8 = .ok (.ifCond .ne 19, 3) := by decide +kernel
theorem dX10_done_11 : decode cX10_done 11 = .ok (.aload_n 0, 1) := by decide +kernel
theorem dX10_done_12 : decode cX10_done 12 = .ok (.getfield 46, 3) := by decide +kernel
theorem dX10_done_15 : decode cX10_done 15 = .ok (.aload_n 0, 1) := by decide +kernel
theorem dX10_done_16 : decode cX10_done 16 = .ok (.getfield 10, 3) := by decide +kernel
theorem dX10_done_19 : decode cX10_done 19 = .ok (.iload_n 1, 1) := by decide +kernel
theorem dX10_done_20 : decode cX10_done 20 = .ok (.iload_n 2, 1) := by decide +kernel
theorem dX10_done_21 : decode cX10_done 21 = .ok (.invokevirtual 208, 3) := by decide +kernel
theorem dX10_done_24 : decode cX10_done 24 = .ok (.goto 8, 3) := by decide +kernel
theorem dX10_done_27 : decode cX10_done 27 = .ok (.aload_n 0, 1) := by decide +kernel
theorem dX10_done_28 : decode cX10_done 28 = .ok (.iload_n 3, 1) := by decide +kernel
theorem dX10_done_29 : decode cX10_done 29 = .ok (.invokevirtual 76, 3) := by decide +kernel
theorem dX10_done_32 : decode cX10_done 32 = .ok (.ireturn, 1) := by decide +kernel
theorem dX10_half_0 : decode cX10_half 0 = .ok (.aload_n 0, 1) := by decide +kernel
theorem dX10_half_1 : decode cX10_half 1 = .ok (.iload_n 1, 1) := by decide +kernel
theorem dX10_half_2 : decode cX10_half 2 = .ok (.iload_n 2, 1) := by decide +kernel
theorem dX10_half_3 : decode cX10_half 3 = .ok (.invokevirtual 204, 3) := by decide +kernel
theorem dX10_half_6 : decode cX10_half 6 = .ok (.istore_n 3, 1) := by decide +kernel
theorem dX10_half_7 : decode cX10_half 7 = .ok (.iload_n 3, 1) := by decide +kernel
theorem dX10_half_8 : decode cX10_half 8 = .ok (.ifCond .ne 19, 3) := by decide +kernel
theorem dX10_half_11 : decode cX10_half 11 = .ok (.aload_n 0, 1) := by decide +kernel
theorem dX10_half_12 : decode cX10_half 12 = .ok (.getfield 46, 3) := by decide +kernel
theorem dX10_half_15 : decode cX10_half 15 = .ok (.aload_n 0, 1) := by decide +kernel
theorem dX10_half_16 : decode cX10_half 16 = .ok (.getfield 10, 3) := by decide +kernel
theorem dX10_half_19 : decode cX10_half 19 = .ok (.iload_n 1, 1) := by decide +kernel
theorem dX10_half_20 : decode cX10_half 20 = .ok (.iload_n 2, 1) := by decide +kernel
theorem dX10_half_21 : decode cX10_half 21 = .ok (.invokevirtual 212, 3) := by decide +kernel
theorem dX10_half_24 : decode cX10_half 24 = .ok (.goto 8, 3) := by decide +kernel
theorem dX10_half_27 : decode cX10_half 27 = .ok (.aload_n 0, 1) := by decide +kernel
theorem dX10_half_28 : decode cX10_half 28 = .ok (.iload_n 3, 1) := by decide +kernel
theorem dX10_half_29 : decode cX10_half 29 = .ok (.invokevirtual 76, 3) := by decide +kernel
theorem dX10_half_32 : decode cX10_half 32 = .ok (.ireturn, 1) := by decide +kernel
theorem dX10_bestRule_0 : decode cX10_bestRule 0 = .ok (.aload_n 0, 1) := by decide +kernel
theorem dX10_bestRule_1 : decode cX10_bestRule 1 = .ok (.iload_n 1, 1) := by decide +kernel
theorem dX10_bestRule_2 : decode cX10_bestRule 2 = .ok (.invokevirtual 119, 3) := by decide +kernel
theorem dX10_bestRule_5 : decode cX10_bestRule 5 = .ok (.ifCond .ne 9, 3) := by decide +kernel
theorem dX10_bestRule_8 : decode cX10_bestRule 8 = .ok (.aload_n 0, 1) := by decide +kernel
theorem dX10_bestRule_9 : decode cX10_bestRule 9 = .ok (.iconst (-1), 1) := by decide +kernel
theorem dX10_bestRule_10 : decode cX10_bestRule 10 = .ok (.invokevirtual 76, 3) := by decide +kernel
theorem dX10_bestRule_13 : decode cX10_bestRule 13 = .ok (.ireturn, 1) := by decide +kernel
theorem dX10_bestRule_14 : decode cX10_bestRule 14 = .ok (.iconst 0, 1) := by decide +kernel
theorem dX10_bestRule_15 : decode cX10_bestRule 15 = .ok (.istore_n 2, 1) := by decide +kernel
theorem dX10_bestRule_16 : decode cX10_bestRule 16 = .ok (.aload_n 0, 1) := by decide +kernel
theorem dX10_bestRule_17 : decode cX10_bestRule 17 = .ok (.getfield 46, 3) := by decide +kernel
theorem dX10_bestRule_20 : decode cX10_bestRule 20 = .ok (.aload_n 0, 1) := by decide +kernel
theorem dX10_bestRule_21 : decode cX10_bestRule 21 = .ok (.getfield 10, 3) := by decide +kernel
theorem dX10_bestRule_24 : decode cX10_bestRule 24 = .ok (.iconst 0, 1) := by decide +kernel
theorem dX10_bestRule_25 : decode cX10_bestRule 25 = .ok (.iload_n 1, 1) := by decide +kernel
theorem dX10_bestRule_26 : decode cX10_bestRule 26 = .ok (.invokevirtual 208, 3) := by decide +kernel
theorem dX10_bestRule_29 : decode cX10_bestRule 29 = .ok (.istore_n 3, 1) := by decide +kernel
theorem dX10_bestRule_30 : decode cX10_bestRule 30 = .ok (.iconst 1, 1) := by decide +kernel
theorem dX10_bestRule_31 : decode cX10_bestRule 31 = .ok (.istore 4, 2) := by decide +kernel
theorem dX10_bestRule_33 : decode cX10_bestRule 33 = .ok (.iload 4, 2) := by decide +kernel
theorem dX10_bestRule_35 : decode cX10_bestRule 35 = .ok (.iconst 5, 1) := by decide +kernel
theorem dX10_bestRule_36 : decode cX10_bestRule 36 = .ok (.if_icmp .ge 37, 3) := by decide +kernel
theorem dX10_bestRule_39 : decode cX10_bestRule 39 = .ok (.aload_n 0, 1) := by decide +kernel
theorem dX10_bestRule_40 : decode cX10_bestRule 40 = .ok (.getfield 46, 3) := by decide +kernel
theorem dX10_bestRule_43 : decode cX10_bestRule 43 = .ok (.aload_n 0, 1) := by decide +kernel
theorem dX10_bestRule_44 : decode cX10_bestRule 44 = .ok (.getfield 10, 3) := by decide +kernel
theorem dX10_bestRule_47 : decode cX10_bestRule 47 = .ok (.iload 4, 2) := by decide +kernel
theorem dX10_bestRule_49 : decode cX10_bestRule 49 = .ok (.iload_n 1, 1) := by decide +kernel
theorem dX10_bestRule_50 : decode cX10_bestRule 50 = .ok (.invokevirtual 208, 3) := by decide +kernel
theorem dX10_bestRule_53 : decode cX10_bestRule 53 = .ok (.istore 5, 2) := by decide +kernel
theorem dX10_bestRule_55 : decode cX10_bestRule 55 = .ok (.iload 5, 2) := by decide +kernel
theorem dX10_bestRule_57 : decode cX10_bestRule 57 = .ok (.iload_n 3, 1) := by decide +kernel
theorem dX10_bestRule_58 : decode cX10_bestRule 58 = .ok (.if_icmp .ge 9, 3) := by decide +kernel
theorem dX10_bestRule_61 : decode cX10_bestRule 61 = .ok (.iload 5, 2) := by decide +kernel
theorem dX10_bestRule_63 : decode cX10_bestRule 63 = .ok (.istore_n 3, 1) := by decide +kernel
theorem dX10_bestRule_64 : decode cX10_bestRule 64 = .ok (.iload 4, 2) := by decide +kernel
theorem dX10_bestRule_66 : decode cX10_bestRule 66 = .ok (.istore_n 2, 1) := by decide +kernel
theorem dX10_bestRule_67 : decode cX10_bestRule 67 = .ok (.iinc 4 1, 3) := by decide +kernel
theorem dX10_bestRule_70 : decode cX10_bestRule 70 = .ok (.goto (-37), 3) := by decide +kernel
theorem dX10_bestRule_73 : decode cX10_bestRule 73 = .ok (.iload_n 2, 1) := by decide +kernel
theorem dX10_bestRule_74 : decode cX10_bestRule 74 = .ok (.ireturn, 1) := by decide +kernel
theorem dX10_table_0 : decode cX10_table 0 = .ok (.aload_n 0, 1) := by decide +kernel
theorem dX10_table_1 : decode cX10_table 1 = .ok (.iload_n 1, 1) := by decide +kernel
theorem dX10_table_2 : decode cX10_table 2 = .ok (.invokevirtual 215, 3) := by decide +kernel
theorem dX10_table_5 : decode cX10_table 5 = .ok (.ifCond .ne 10, 3) := by decide +kernel
theorem dX10_table_8 : decode cX10_table 8 = .ok (.aload_n 0, 1) := by decide +kernel
theorem dX10_table_9 : decode cX10_table 9 = .ok (.bipush (-2), 2) := by decide +kernel
theorem dX10_table_11 : decode cX10_table 11 = .ok (.invokevirtual 76, 3) := by decide +kernel
theorem dX10_table_14 : decode cX10_table 14 = .ok (.ireturn, 1) := by decide +kernel
theorem dX10_table_15 : decode cX10_table 15 = .ok (.iload_n 2, 1) := by decide +kernel
theorem dX10_table_16 : decode cX10_table 16 = .ok (.iconst 1, 1) := by decide +kernel
theorem dX10_table_17 : decode cX10_table 17 = .ok (.if_icmp .ge 10, 3) := by decide +kernel
theorem dX10_table_20 : decode cX10_table 20 = .ok (.aload_n 0, 1) := by decide +kernel
theorem dX10_table_21 : decode cX10_table 21 = .ok (.bipush (-4), 2) := by decide +kernel
theorem dX10_table_23 : decode cX10_table 23 = .ok (.invokevirtual 76, 3) := by decide +kernel
theorem dX10_table_26 : decode cX10_table 26 = .ok (.ireturn, 1) := by decide +kernel
theorem dX10_table_27 : decode cX10_table 27 = .ok (.iload_n 2, 1) := by decide +kernel
theorem dX10_table_28 : decode cX10_table 28 = .ok (.aload_n 0, 1) := by decide +kernel
theorem dX10_table_29 : decode cX10_table 29 = .ok (.getfield 10, 3) := by decide +kernel
theorem dX10_table_32 : decode cX10_table 32 = .ok (.getfield 122, 3) := by decide +kernel
theorem dX10_table_35 : decode cX10_table 35 = .ok (.getfield 218, 3) := by decide +kernel
theorem dX10_table_38 : decode cX10_table 38 = .ok (.if_icmp .le 10, 3) := by decide +kernel
theorem dX10_table_41 : decode cX10_table 41 = .ok (.aload_n 0, 1) := by decide +kernel
theorem dX10_table_42 : decode cX10_table 42 = .ok (.bipush (-6), 2) := by decide +kernel
theorem dX10_table_44 : decode cX10_table 44 = .ok (.invokevirtual 76, 3) := by decide +kernel
theorem dX10_table_47 : decode cX10_table 47 = .ok (.ireturn, 1) := by decide +kernel
theorem dX10_table_48 : decode cX10_table 48 = .ok (.aload_n 0, 1) := by decide +kernel
theorem dX10_table_49 : decode cX10_table 49 = .ok (.getfield 46, 3) := by decide +kernel
theorem dX10_table_52 : decode cX10_table 52 = .ok (.aload_n 0, 1) := by decide +kernel
theorem dX10_table_53 : decode cX10_table 53 = .ok (.getfield 10, 3) := by decide +kernel
theorem dX10_table_56 : decode cX10_table 56 = .ok (.iload_n 1, 1) := by decide +kernel
theorem dX10_table_57 : decode cX10_table 57 = .ok (.iload_n 2, 1) := by decide +kernel
theorem dX10_table_58 : decode cX10_table 58 = .ok (.invokevirtual 221, 3) := by decide +kernel
theorem dX10_table_61 : decode cX10_table 61 = .ok (.ireturn, 1) := by decide +kernel
theorem dX10_line_0 : decode cX10_line 0 = .ok (.aload_n 0, 1) := by decide +kernel
theorem dX10_line_1 : decode cX10_line 1 = .ok (.iload_n 1, 1) := by decide +kernel
theorem dX10_line_2 : decode cX10_line 2 = .ok (.invokevirtual 215, 3) := by decide +kernel
theorem dX10_line_5 : decode cX10_line 5 = .ok (.ifCond .ne 10, 3) := by decide +kernel
theorem dX10_line_8 : decode cX10_line 8 = .ok (.aload_n 0, 1) := by decide +kernel
theorem dX10_line_9 : decode cX10_line 9 = .ok (.bipush (-2), 2) := by decide +kernel
theorem dX10_line_11 : decode cX10_line 11 = .ok (.invokevirtual 76, 3) := by decide +kernel
theorem dX10_line_14 : decode cX10_line 14 = .ok (.ireturn, 1) := by decide +kernel
theorem dX10_line_15 : decode cX10_line 15 = .ok (.aload_n 0, 1) := by decide +kernel
theorem dX10_line_16 : decode cX10_line 16 = .ok (.getfield 10, 3) := by decide +kernel
theorem dX10_line_19 : decode cX10_line 19 = .ok (.getfield 122, 3) := by decide +kernel
theorem dX10_line_22 : decode cX10_line 22 = .ok (.getfield 218, 3) := by decide +kernel
theorem dX10_line_25 : decode cX10_line 25 = .ok (.ifCond .ne 6, 3) := by decide +kernel
theorem dX10_line_28 : decode cX10_line 28 = .ok (.bipush (-9), 2) := by decide +kernel
theorem dX10_line_30 : decode cX10_line 30 = .ok (.ireturn, 1) := by decide +kernel
theorem dX10_line_31 : decode cX10_line 31 = .ok (.iconst 1, 1) := by decide +kernel
theorem dX10_line_32 : decode cX10_line 32 = .ok (.istore_n 2, 1) := by decide +kernel
theorem dX10_line_33 : decode cX10_line 33 = .ok (.aload_n 0, 1) := by decide +kernel
theorem dX10_line_34 : decode cX10_line 34 = .ok (.getfield 46, 3) := by decide +kernel
theorem dX10_line_37 : decode cX10_line 37 = .ok (.aload_n 0, 1) := by decide +kernel
theorem dX10_line_38 : decode cX10_line 38 = .ok (.getfield 10, 3) := by decide +kernel
theorem dX10_line_41 : decode cX10_line 41 = .ok (.iload_n 1, 1) := by decide +kernel
theorem dX10_line_42 : decode cX10_line 42 = .ok (.iconst 1, 1) := by decide +kernel
theorem dX10_line_43 : decode cX10_line 43 = .ok (.invokevirtual 221, 3) := by decide +kernel
theorem dX10_line_46 : decode cX10_line 46 = .ok (.istore_n 3, 1) := by decide +kernel
theorem dX10_line_47 : decode cX10_line 47 = .ok (.iconst 2, 1) := by decide +kernel
theorem dX10_line_48 : decode cX10_line 48 = .ok (.istore 4, 2) := by decide +kernel
theorem dX10_line_50 : decode cX10_line 50 = .ok (.iload 4, 2) := by decide +kernel
theorem dX10_line_52 : decode cX10_line 52 = .ok (.aload_n 0, 1) := by decide +kernel
theorem dX10_line_53 : decode cX10_line 53 = .ok (.getfield 10, 3) := by decide +kernel
theorem dX10_line_56 : decode cX10_line 56 = .ok (.getfield 122, 3) := by decide +kernel
theorem dX10_line_59 : decode cX10_line 59 = .ok (.getfield 218, 3) := by decide +kernel
theorem dX10_line_62 : decode cX10_line 62 = .ok (.if_icmp .gt 37, 3) := by decide +kernel
theorem dX10_line_65 : decode cX10_line 65 = .ok (.aload_n 0, 1) := by decide +kernel
theorem dX10_line_66 : decode cX10_line 66 = .ok (.getfield 46, 3) := by decide +kernel
theorem dX10_line_69 : decode cX10_line 69 = .ok (.aload_n 0, 1) := by decide +kernel
theorem dX10_line_70 : decode cX10_line 70 = .ok (.getfield 10, 3) := by decide +kernel
theorem dX10_line_73 : decode cX10_line 73 = .ok (.iload_n 1, 1) := by decide +kernel
theorem dX10_line_74 : decode cX10_line 74 = .ok (.iload 4, 2) := by decide +kernel
theorem dX10_line_76 : decode cX10_line 76 = .ok (.invokevirtual 221, 3) := by decide +kernel
theorem dX10_line_79 : decode cX10_line 79 = .ok (.istore 5, 2) := by decide +kernel
theorem dX10_line_81 : decode cX10_line 81 = .ok (.iload 5, 2) := by decide +kernel
theorem dX10_line_83 : decode cX10_line 83 = .ok (.iload_n 3, 1) := by decide +kernel
theorem dX10_line_84 : decode cX10_line 84 = .ok (.if_icmp .ge 9, 3) := by decide +kernel
theorem dX10_line_87 : decode cX10_line 87 = .ok (.iload 5, 2) := by decide +kernel
theorem dX10_line_89 : decode cX10_line 89 = .ok (.istore_n 3, 1) := by decide +kernel
theorem dX10_line_90 : decode cX10_line 90 = .ok (.iload 4, 2) := by decide +kernel
theorem dX10_line_92 : decode cX10_line 92 = .ok (.istore_n 2, 1) := by decide +kernel
theorem dX10_line_93 : decode cX10_line 93 = .ok (.iinc 4 1, 3) := by decide +kernel
theorem dX10_line_96 : decode cX10_line 96 = .ok (.goto (-46), 3) := by decide +kernel
theorem dX10_line_99 : decode cX10_line 99 = .ok (.iload_n 2, 1) := by decide +kernel
theorem dX10_line_100 : decode cX10_line 100 = .ok (.ireturn, 1) := by decide +kernel
theorem dX10_seems_0 : decode cX10_seems 0 = .ok (.aload_n 0, 1) := by decide +kernel
theorem dX10_seems_1 : decode cX10_seems 1 = .ok (.getfield 53, 3) := by decide +kernel
theorem dX10_seems_4 : decode cX10_seems 4 = .ok (.aload_n 0, 1) := by decide +kernel
theorem dX10_seems_5 : decode cX10_seems 5 = .ok (.getfield 10, 3) := by decide +kernel
theorem dX10_seems_8 : decode cX10_seems 8 = .ok (.getfield 106, 3) := by decide +kernel
theorem dX10_seems_11 : decode cX10_seems 11 = .ok (.aload_n 0, 1) := by decide +kernel
theorem dX10_seems_12 : decode cX10_seems 12 = .ok (.getfield 10, 3) := by decide +kernel
theorem dX10_seems_15 : decode cX10_seems 15 = .ok (.getfield 134, 3) := by decide +kernel
theorem dX10_seems_18 : decode cX10_seems 18 = .ok (.invokevirtual 224, 3) := by decide +kernel
theorem dX10_seems_21 : decode cX10_seems 21 = .ok (.ireturn, 1) := by decide +kernel
theorem dX10_wrong_0 : decode cX10_wrong 0 = .ok (.iconst 0, 1) := by decide +kernel
theorem dX10_wrong_1 : decode cX10_wrong 1 = .ok (.istore_n 1, 1) := by decide +kernel
theorem dX10_wrong_2 : decode cX10_wrong 2 = .ok (.iconst 0, 1) := by decide +kernel
theorem dX10_wrong_3 : decode cX10_wrong 3 = .ok (.istore_n 2, 1) := by decide +kernel
theorem dX10_wrong_4 : decode cX10_wrong 4 = .ok (.iload_n 2, 1) := by decide +kernel
theorem dX10_wrong_5 : decode cX10_wrong 5 = .ok (.aload_n 0, 1) := by decide +kernel
theorem dX10_wrong_6 : decode cX10_wrong 6 = .ok (.getfield 10, 3) := by decide +kernel
theorem dX10_wrong_9 : decode cX10_wrong 9 = .ok (.getfield 106, 3) := by decide +kernel
theorem dX10_wrong_12 : decode cX10_wrong 12 = .ok (.getfield 228, 3) := by decide +kernel
theorem dX10_wrong_15 : decode cX10_wrong 15 = .ok (.if_icmp .ge 26, 3) := by decide +kernel
theorem dX10_wrong_18 : decode cX10_wrong 18 = .ok (.aload_n 0, 1) := by decide +kernel
theorem dX10_wrong_19 : decode cX10_wrong 19 = .ok (.getfield 10, 3) := by decide +kernel
theorem dX10_wrong_22 : decode cX10_wrong 22 = .ok (.getfield 134, 3) := by decide +kernel
theorem dX10_wrong_25 : decode cX10_wrong 25 = .ok (.iload_n 2, 1) := by decide +kernel
theorem dX10_wrong_26 : decode cX10_wrong 26 = .ok (.invokevirtual 231, 3) := by decide +kernel
theorem dX10_wrong_29 : decode cX10_wrong 29 = .ok (.ifCond .ne 6, 3) := by decide +kernel
theorem dX10_wrong_32 : decode cX10_wrong 32 = .ok (.iinc 1 1, 3) := by decide +kernel
theorem dX10_wrong_35 : decode cX10_wrong 35 = .ok (.iinc 2 1, 3) := by decide +kernel
theorem dX10_wrong_38 : decode cX10_wrong 38 = .ok (.goto (-34), 3) := by decide +kernel
theorem dX10_wrong_41 : decode cX10_wrong 41 = .ok (.iload_n 1, 1) := by decide +kernel
theorem dX10_wrong_42 : decode cX10_wrong 42 = .ok (.ireturn, 1) := by decide +kernel
theorem dX10_falseOne_0 : decode cX10_falseOne 0 = .ok (.iconst 0, 1) := by decide +kernel
theorem dX10_falseOne_1 : decode cX10_falseOne 1 = .ok (.istore_n 1, 1) := by decide +kernel
theorem dX10_falseOne_2 : decode cX10_falseOne 2 = .ok (.iload_n 1, 1) := by decide +kernel
theorem dX10_falseOne_3 : decode cX10_falseOne 3 = .ok (.aload_n 0, 1) := by decide +kernel
theorem dX10_falseOne_4 : decode cX10_falseOne 4 = .ok (.getfield 10, 3) := by decide +kernel
theorem dX10_falseOne_7 : decode cX10_falseOne 7 = .ok (.getfield 106, 3) := by decide +kernel
theorem dX10_falseOne_10 : decode cX10_falseOne 10 = .ok (.getfield 228, 3) := by decide +kernel
theorem dX10_falseOne_13 : decode cX10_falseOne 13 = .ok (.if_icmp .ge 39, 3) := by decide +kernel
theorem dX10_falseOne_16 : decode cX10_falseOne 16 = .ok (.aload_n 0, 1) := by decide +kernel
theorem dX10_falseOne_17 : decode cX10_falseOne 17 = .ok (.getfield 10, 3) := by decide +kernel
theorem dX10_falseOne_20 : decode cX10_falseOne 20 = .ok (.getfield 134, 3) := by decide +kernel
theorem dX10_falseOne_23 : decode cX10_falseOne 23 = .ok (.iload_n 1, 1) := by decide +kernel
theorem dX10_falseOne_24 : decode cX10_falseOne 24 = .ok (.invokevirtual 146, 3) := by decide +kernel
theorem dX10_falseOne_27 : decode cX10_falseOne 27 = .ok (.ifCond .eq 19, 3) := by decide +kernel
theorem dX10_falseOne_30 : decode cX10_falseOne 30 = .ok (.aload_n 0, 1) := by decide +kernel
theorem dX10_falseOne_31 : decode cX10_falseOne 31 = .ok (.getfield 10, 3) := by decide +kernel
theorem dX10_falseOne_34 : decode cX10_falseOne 34 = .ok (.getfield 134, 3) := by decide +kernel
theorem dX10_falseOne_37 : decode cX10_falseOne 37 = .ok (.iload_n 1, 1) := by decide +kernel
theorem dX10_falseOne_38 : decode cX10_falseOne 38 = .ok (.invokevirtual 231, 3) := by decide +kernel
theorem dX10_falseOne_41 : decode cX10_falseOne 41 = .ok (.ifCond .ne 5, 3) := by decide +kernel
theorem dX10_falseOne_44 : decode cX10_falseOne 44 = .ok (.iload_n 1, 1) := by decide +kernel
theorem dX10_falseOne_45 : decode cX10_falseOne 45 = .ok (.ireturn, 1) := by decide +kernel
theorem dX10_falseOne_46 : decode cX10_falseOne 46 = .ok (.iinc 1 1, 3) := by decide +kernel
theorem dX10_falseOne_49 : decode cX10_falseOne 49 = .ok (.goto (-47), 3) := by decide +kernel
theorem dX10_falseOne_52 : decode cX10_falseOne 52 = .ok (.bipush (-9), 2) := by decide +kernel
theorem dX10_falseOne_54 : decode cX10_falseOne 54 = .ok (.ireturn, 1) := by decide +kernel
theorem dX10_over_0 : decode cX10_over 0 = .ok (.iconst 0, 1) := by decide +kernel
theorem dX10_over_1 : decode cX10_over 1 = .ok (.istore_n 1, 1) := by decide +kernel
theorem dX10_over_2 : decode cX10_over 2 = .ok (.iload_n 1, 1) := by decide +kernel
theorem dX10_over_3 : decode cX10_over 3 = .ok (.aload_n 0, 1) := by decide +kernel
theorem dX10_over_4 : decode cX10_over 4 = .ok (.getfield 10, 3) := by decide +kernel
theorem dX10_over_7 : decode cX10_over 7 = .ok (.getfield 106, 3) := by decide +kernel
theorem dX10_over_10 : decode cX10_over 10 = .ok (.getfield 228, 3) := by decide +kernel
theorem dX10_over_13 : decode cX10_over 13 = .ok (.if_icmp .ge 36, 3) := by decide +kernel
theorem dX10_over_16 : decode cX10_over 16 = .ok (.aload_n 0, 1) := by decide +kernel
theorem dX10_over_17 : decode cX10_over 17 = .ok (.getfield 10, 3) := by decide +kernel
theorem dX10_over_20 : decode cX10_over 20 = .ok (.getfield 134, 3) := by decide +kernel
theorem dX10_over_23 : decode cX10_over 23 = .ok (.iload_n 1, 1) := by decide +kernel
theorem dX10_over_24 : decode cX10_over 24 = .ok (.invokevirtual 173, 3) := by decide +kernel
theorem dX10_over_27 : decode cX10_over 27 = .ok (.ifCond .ne 16, 3) := by decide +kernel
theorem dX10_over_30 : decode cX10_over 30 = .ok (.aload_n 0, 1) := by decide +kernel
theorem dX10_over_31 : decode cX10_over 31 = .ok (.getfield 10, 3) := by decide +kernel
theorem dX10_over_34 : decode cX10_over 34 = .ok (.iload_n 1, 1) := by decide +kernel
theorem dX10_over_35 : decode cX10_over 35 = .ok (.invokevirtual 234, 3) := by decide +kernel
theorem dX10_over_38 : decode cX10_over 38 = .ok (.ifCond .ne 5, 3) := by decide +kernel
theorem dX10_over_41 : decode cX10_over 41 = .ok (.iload_n 1, 1) := by decide +kernel
theorem dX10_over_42 : decode cX10_over 42 = .ok (.ireturn, 1) := by decide +kernel
theorem dX10_over_43 : decode cX10_over 43 = .ok (.iinc 1 1, 3) := by decide +kernel
theorem dX10_over_46 : decode cX10_over 46 = .ok (.goto (-44), 3) := by decide +kernel
theorem dX10_over_49 : decode cX10_over 49 = .ok (.bipush (-9), 2) := by decide +kernel
theorem dX10_over_51 : decode cX10_over 51 = .ok (.ireturn, 1) := by decide +kernel
theorem dX10_balance_0 : decode cX10_balance 0 = .ok (.iload_n 1, 1) := by decide +kernel
theorem dX10_balance_1 : decode cX10_balance 1 = .ok (.iconst 1, 1) := by decide +kernel
theorem dX10_balance_2 : decode cX10_balance 2 = .ok (.if_icmp .lt 9, 3) := by decide +kernel
theorem dX10_balance_5 : decode cX10_balance 5 = .ok (.iload_n 1, 1) := by decide +kernel
theorem dX10_balance_6 : decode cX10_balance 6 = .ok (.bipush 9, 2) := by decide +kernel
theorem dX10_balance_8 : decode cX10_balance 8 = .ok (.if_icmp .le 12, 3) := by decide +kernel
theorem dX10_balance_11 : decode cX10_balance 11 = .ok (.ldc 102, 2) := by decide +kernel
theorem dX10_balance_13 : decode cX10_balance 13 = .ok (.aload_n 0, 1) := by decide +kernel
theorem dX10_balance_14 : decode cX10_balance 14 = .ok (.iconst (-1), 1) := by decide +kernel
theorem dX10_balance_15 : decode cX10_balance 15 = .ok (.invokevirtual 76, 3) := by decide +kernel
theorem dX10_balance_18 : decode cX10_balance 18 = .ok (.isub, 1) := by decide +kernel
theorem dX10_balance_19 : decode cX10_balance 19 = .ok (.ireturn, 1) := by decide +kernel
theorem dX10_balance_20 : decode cX10_balance 20 = .ok (.aload_n 0, 1) := by decide +kernel
theorem dX10_balance_21 : decode cX10_balance 21 = .ok (.getfield 53, 3) := by decide +kernel
theorem dX10_balance_24 : decode cX10_balance 24 = .ok (.aload_n 0, 1) := by decide +kernel
theorem dX10_balance_25 : decode cX10_balance 25 = .ok (.getfield 10, 3) := by decide +kernel
theorem dX10_balance_28 : decode cX10_balance 28 = .ok (.invokevirtual 237, 3) := by decide +kernel
theorem dX10_balance_31 : decode cX10_balance 31 = .ok (.aload_n 0, 1) := by decide +kernel
theorem dX10_balance_32 : decode cX10_balance 32 = .ok (.getfield 53, 3) := by decide +kernel
theorem dX10_balance_35 : decode cX10_balance 35 = .ok (.getfield 240, 3) := by decide +kernel
theorem dX10_balance_38 : decode cX10_balance 38 = .ok (.iload_n 1, 1) := by decide +kernel
theorem dX10_balance_39 : decode cX10_balance 39 = .ok (.iaload, 1) := by decide +kernel
theorem dX10_balance_40 : decode cX10_balance 40 = .ok (.ireturn, 1) := by decide +kernel
theorem dX10_lacks_0 : decode cX10_lacks 0 = .ok (.aload_n 0, 1) := by decide +kernel
theorem dX10_lacks_1 : decode cX10_lacks 1 = .ok (.getfield 53, 3) := by decide +kernel
theorem dX10_lacks_4 : decode cX10_lacks 4 = .ok (.aload_n 0, 1) := by decide +kernel
theorem dX10_lacks_5 : decode cX10_lacks 5 = .ok (.getfield 10, 3) := by decide +kernel
theorem dX10_lacks_8 : decode cX10_lacks 8 = .ok (.invokevirtual 237, 3) := by decide +kernel
theorem dX10_lacks_11 : decode cX10_lacks 11 = .ok (.aload_n 0, 1) := by decide +kernel
theorem dX10_lacks_12 : decode cX10_lacks 12 = .ok (.getfield 53, 3) := by decide +kernel
theorem dX10_lacks_15 : decode cX10_lacks 15 = .ok (.invokevirtual 243, 3) := by decide +kernel
theorem dX10_lacks_18 : decode cX10_lacks 18 = .ok (.ifCond .eq 7, 3) := by decide +kernel
theorem dX10_lacks_21 : decode cX10_lacks 21 = .ok (.iconst 1, 1) := by decide +kernel
theorem dX10_lacks_22 : decode cX10_lacks 22 = .ok (.goto 4, 3) := by decide +kernel
theorem dX10_lacks_25 : decode cX10_lacks 25 = .ok (.iconst 0, 1) := by decide +kernel
theorem dX10_lacks_26 : decode cX10_lacks 26 = .ok (.ireturn, 1) := by decide +kernel
theorem dX10_which_0 : decode cX10_which 0 = .ok (.aload_n 0, 1) := by decide +kernel
theorem dX10_which_1 : decode cX10_which 1 = .ok (.getfield 53, 3) := by decide +kernel
theorem dX10_which_4 : decode cX10_which 4 = .ok (.aload_n 0, 1) := by decide +kernel
theorem dX10_which_5 : decode cX10_which 5 = .ok (.getfield 10, 3) := by decide +kernel
theorem dX10_which_8 : decode cX10_which 8 = .ok (.invokevirtual 237, 3) := by decide +kernel
theorem dX10_which_11 : decode cX10_which 11 = .ok (.aload_n 0, 1) := by decide +kernel
theorem dX10_which_12 : decode cX10_which 12 = .ok (.getfield 53, 3) := by decide +kernel
theorem dX10_which_15 : decode cX10_which 15 = .ok (.invokevirtual 243, 3) := by decide +kernel
theorem dX10_which_18 : decode cX10_which 18 = .ok (.ifCond .eq 20, 3) := by decide +kernel
theorem dX10_which_21 : decode cX10_which 21 = .ok (.aload_n 0, 1) := by decide +kernel
theorem dX10_which_22 : decode cX10_which 22 = .ok (.getfield 53, 3) := by decide +kernel
theorem dX10_which_25 : decode cX10_which 25 = .ok (.aload_n 0, 1) := by decide +kernel
theorem dX10_which_26 : decode cX10_which 26 = .ok (.getfield 10, 3) := by decide +kernel
theorem dX10_which_29 : decode cX10_which 29 = .ok (.getfield 106, 3) := by decide +kernel
theorem dX10_which_32 : decode cX10_which 32 = .ok (.invokevirtual 247, 3) := by decide +kernel
theorem dX10_which_35 : decode cX10_which 35 = .ok (.goto 4, 3) := by decide +kernel
theorem dX10_which_38 : decode cX10_which 38 = .ok (.iconst 0, 1) := by decide +kernel
theorem dX10_which_39 : decode cX10_which 39 = .ok (.ireturn, 1) := by decide +kernel
theorem dX10_mine_0 : decode cX10_mine 0 = .ok (.aload_n 0, 1) := by decide +kernel
theorem dX10_mine_1 : decode cX10_mine 1 = .ok (.iload_n 1, 1) := by decide +kernel
theorem dX10_mine_2 : decode cX10_mine 2 = .ok (.invokevirtual 119, 3) := by decide +kernel
theorem dX10_mine_5 : decode cX10_mine 5 = .ok (.ifCond .ne 9, 3) := by decide +kernel
theorem dX10_mine_8 : decode cX10_mine 8 = .ok (.aload_n 0, 1) := by decide +kernel
theorem dX10_mine_9 : decode cX10_mine 9 = .ok (.iconst (-1), 1) := by decide +kernel
theorem dX10_mine_10 : decode cX10_mine 10 = .ok (.invokevirtual 76, 3) := by decide +kernel
theorem dX10_mine_13 : decode cX10_mine 13 = .ok (.ireturn, 1) := by decide +kernel
theorem dX10_mine_14 : decode cX10_mine 14 = .ok (.iload_n 2, 1) := by decide +kernel
theorem dX10_mine_15 : decode cX10_mine 15 = .ok (.ifCond .lt 8, 3) := by decide +kernel
theorem dX10_mine_18 : decode cX10_mine 18 = .ok (.iload_n 2, 1) := by decide +kernel
theorem dX10_mine_19 : decode cX10_mine 19 = .ok (.iconst 1, 1) := by decide +kernel
theorem dX10_mine_20 : decode cX10_mine 20 = .ok (.if_icmp .le 10, 3) := by decide +kernel
theorem dX10_mine_23 : decode cX10_mine 23 = .ok (.aload_n 0, 1) := by decide +kernel
theorem dX10_mine_24 : decode cX10_mine 24 = .ok (.bipush (-2), 2) := by decide +kernel
theorem dX10_mine_26 : decode cX10_mine 26 = .ok (.invokevirtual 76, 3) := by decide +kernel
theorem dX10_mine_29 : decode cX10_mine 29 = .ok (.ireturn, 1) := by decide +kernel
theorem dX10_mine_30 : decode cX10_mine 30 = .ok (.aload_n 0, 1) := by decide +kernel
theorem dX10_mine_31 : decode cX10_mine 31 = .ok (.getfield 10, 3) := by decide +kernel
theorem dX10_mine_34 : decode cX10_mine 34 = .ok (.getfield 122, 3) := by decide +kernel
theorem dX10_mine_37 : decode cX10_mine 37 = .ok (.invokevirtual 251, 3) := by decide +kernel
theorem dX10_mine_40 : decode cX10_mine 40 = .ok (.istore_n 3, 1) := by decide +kernel
theorem dX10_mine_41 : decode cX10_mine 41 = .ok (.iload_n 3, 1) := by decide +kernel
theorem dX10_mine_42 : decode cX10_mine 42 = .ok (.ifCond .ne 5, 3) := by decide +kernel
theorem dX10_mine_45 : decode cX10_mine 45 = .ok (.iload_n 2, 1) := by decide +kernel
theorem dX10_mine_46 : decode cX10_mine 46 = .ok (.ireturn, 1) := by decide +kernel
theorem dX10_mine_47 : decode cX10_mine 47 = .ok (.aload_n 0, 1) := by decide +kernel
theorem dX10_mine_48 : decode cX10_mine 48 = .ok (.getfield 10, 3) := by decide +kernel
theorem dX10_mine_51 : decode cX10_mine 51 = .ok (.getfield 122, 3) := by decide +kernel
theorem dX10_mine_54 : decode cX10_mine 54 = .ok (.getfield 143, 3) := by decide +kernel
theorem dX10_mine_57 : decode cX10_mine 57 = .ok (.iload_n 1, 1) := by decide +kernel
theorem dX10_mine_58 : decode cX10_mine 58 = .ok (.iaload, 1) := by decide +kernel
theorem dX10_mine_59 : decode cX10_mine 59 = .ok (.istore 4, 2) := by decide +kernel
theorem dX10_mine_61 : decode cX10_mine 61 = .ok (.iload 4, 2) := by decide +kernel
theorem dX10_mine_63 : decode cX10_mine 63 = .ok (.iload_n 3, 1) := by decide +kernel
theorem dX10_mine_64 : decode cX10_mine 64 = .ok (.invokestatic 254, 3) := by decide +kernel
theorem dX10_mine_67 : decode cX10_mine 67 = .ok (.istore 5, 2) := by decide +kernel
theorem dX10_mine_69 : decode cX10_mine 69 = .ok (.iload_n 2, 1) := by decide +kernel
theorem dX10_mine_70 : decode cX10_mine 70 = .ok (.ifCond .ne 11, 3) := by decide +kernel
theorem dX10_mine_73 : decode cX10_mine 73 = .ok (.iload 4, 2) := by decide +kernel
theorem dX10_mine_75 : decode cX10_mine 75 = .ok (.iload 5, 2) := by decide +kernel
theorem dX10_mine_77 : decode cX10_mine 77 = .ok (.idiv, 1) := by decide +kernel
theorem dX10_mine_78 : decode cX10_mine 78 = .ok (.goto 7, 3) := by decide +kernel
theorem dX10_mine_81 : decode cX10_mine 81 = .ok (.iload_n 3, 1) := by decide +kernel
theorem dX10_mine_82 : decode cX10_mine 82 = .ok (.iload 5, 2) := by decide +kernel
theorem dX10_mine_84 : decode cX10_mine 84 = .ok (.idiv, 1) := by decide +kernel
theorem dX10_mine_85 : decode cX10_mine 85 = .ok (.ireturn, 1) := by decide +kernel
theorem dX10_hardest_0 : decode cX10_hardest 0 = .ok (.iconst 0, 1) := by decide +kernel
theorem dX10_hardest_1 : decode cX10_hardest 1 = .ok (.istore_n 1, 1) := by decide +kernel
theorem dX10_hardest_2 : decode cX10_hardest 2 = .ok (.iconst (-1), 1) := by decide +kernel
theorem dX10_hardest_3 : decode cX10_hardest 3 = .ok (.istore_n 2, 1) := by decide +kernel
theorem dX10_hardest_4 : decode cX10_hardest 4 = .ok (.aload_n 0, 1) := by decide +kernel
theorem dX10_hardest_5 : decode cX10_hardest 5 = .ok (.getfield 16, 3) := by decide +kernel
theorem dX10_hardest_8 : decode cX10_hardest 8 = .ok (.aload_n 0, 1) := by decide +kernel
theorem dX10_hardest_9 : decode cX10_hardest 9 = .ok (.getfield 10, 3) := by decide +kernel
theorem dX10_hardest_12 : decode cX10_hardest 12 = .ok (.invokevirtual 87, 3) := by decide +kernel
theorem dX10_hardest_15 : decode cX10_hardest 15 = .ok (.aload_n 0, 1) := by decide +kernel
theorem dX10_hardest_16 : decode cX10_hardest 16 = .ok (.getfield 16, 3) := by decide +kernel
theorem dX10_hardest_19 : decode cX10_hardest 19 = .ok (.getfield 134, 3) := by decide +kernel
theorem dX10_hardest_22 : decode cX10_hardest 22 = .ok (.invokevirtual 257, 3) := by decide +kernel
theorem dX10_hardest_25 : decode cX10_hardest 25 = .ok (.iconst 1, 1) := by decide +kernel
theorem dX10_hardest_26 : decode cX10_hardest 26 = .ok (.istore_n 3, 1) := by decide +kernel
theorem dX10_hardest_27 : decode cX10_hardest 27 = .ok (.iload_n 3, 1) := by decide +kernel
theorem dX10_hardest_28 : decode cX10_hardest 28 = .ok (.bipush 6, 2) := by decide +kernel
theorem dX10_hardest_30 : decode cX10_hardest 30 = .ok (.if_icmp .gt 54, 3) := by decide +kernel
theorem dX10_hardest_33 : decode cX10_hardest 33 = .ok (.aload_n 0, 1) := by decide +kernel
theorem dX10_hardest_34 : decode cX10_hardest 34 = .ok (.getfield 16, 3) := by decide +kernel
theorem dX10_hardest_37 : decode cX10_hardest 37 = .ok (.getfield 106, 3) := by decide +kernel
theorem dX10_hardest_40 : decode cX10_hardest 40 = .ok (.iload_n 3, 1) := by decide +kernel
theorem dX10_hardest_41 : decode cX10_hardest 41 = .ok (.invokevirtual 260, 3) := by decide +kernel
theorem dX10_hardest_44 : decode cX10_hardest 44 = .ok (.aload_n 0, 1) := by decide +kernel
theorem dX10_hardest_45 : decode cX10_hardest 45 = .ok (.getfield 53, 3) := by decide +kernel
theorem dX10_hardest_48 : decode cX10_hardest 48 = .ok (.aload_n 0, 1) := by decide +kernel
theorem dX10_hardest_49 : decode cX10_hardest 49 = .ok (.getfield 16, 3) := by decide +kernel
theorem dX10_hardest_52 : decode cX10_hardest 52 = .ok (.getfield 106, 3) := by decide +kernel
theorem dX10_hardest_55 : decode cX10_hardest 55 = .ok (.aload_n 0, 1) := by decide +kernel
theorem dX10_hardest_56 : decode cX10_hardest 56 = .ok (.getfield 16, 3) := by decide +kernel
theorem dX10_hardest_59 : decode cX10_hardest 59 = .ok (.getfield 134, 3) := by decide +kernel
theorem dX10_hardest_62 : decode cX10_hardest 62 = .ok (.invokevirtual 224, 3) := by decide +kernel
theorem dX10_hardest_65 : decode cX10_hardest 65 = .ok (.istore 4, 2) := by decide +kernel
theorem dX10_hardest_67 : decode cX10_hardest 67 = .ok (.iload 4, 2) := by decide +kernel
theorem dX10_hardest_69 : decode cX10_hardest 69 = .ok (.iload_n 2, 1) := by decide +kernel
theorem dX10_hardest_70 : decode cX10_hardest 70 = .ok (.if_icmp .le 8, 3) := by decide +kernel
theorem dX10_hardest_73 : decode cX10_hardest 73 = .ok (.iload 4, 2) := by decide +kernel
theorem dX10_hardest_75 : decode cX10_hardest 75 = .ok (.istore_n 2, 1) := by decide +kernel
theorem dX10_hardest_76 : decode cX10_hardest 76 = .ok (.iload_n 3, 1) := by decide +kernel
theorem dX10_hardest_77 : decode cX10_hardest 77 = .ok (.istore_n 1, 1) := by decide +kernel
theorem dX10_hardest_78 : decode cX10_hardest 78 = .ok (.iinc 3 1, 3) := by decide +kernel
theorem dX10_hardest_81 : decode cX10_hardest 81 = .ok (.goto (-54), 3) := by decide +kernel
theorem dX10_hardest_84 : decode cX10_hardest 84 = .ok (.iload_n 1, 1) := by decide +kernel
theorem dX10_hardest_85 : decode cX10_hardest 85 = .ok (.ireturn, 1) := by decide +kernel
theorem dX10_keeper_0 : decode cX10_keeper 0 = .ok (.iload_n 1, 1) := by decide +kernel
theorem dX10_keeper_1 : decode cX10_keeper 1 = .ok (.ifCond .lt 8, 3) := by decide +kernel
theorem dX10_keeper_4 : decode cX10_keeper 4 = .ok (.iload_n 2, 1) := by decide +kernel
theorem dX10_keeper_5 : decode cX10_keeper 5 = .ok (.iconst 1, 1) := by decide +kernel
theorem dX10_keeper_6 : decode cX10_keeper 6 = .ok (.if_icmp .ge 10, 3) := by decide +kernel
theorem dX10_keeper_9 : decode cX10_keeper 9 = .ok (.aload_n 0, 1) := by decide +kernel
theorem dX10_keeper_10 : decode cX10_keeper 10 = .ok (.bipush (-4), 2) := by decide +kernel
theorem dX10_keeper_12 : decode cX10_keeper 12 = .ok (.invokevirtual 76, 3) := by decide +kernel
theorem dX10_keeper_15 : decode cX10_keeper 15 = .ok (.ireturn, 1) := by decide +kernel
theorem dX10_keeper_16 : decode cX10_keeper 16 = .ok (.iload_n 1, 1) := by decide +kernel
theorem dX10_keeper_17 : decode cX10_keeper 17 = .ok (.sipush 999, 3) := by decide +kernel
theorem dX10_keeper_20 : decode cX10_keeper 20 = .ok (.if_icmp .gt 9, 3) := by decide +kernel
theorem dX10_keeper_23 : decode cX10_keeper 23 = .ok (.iload_n 2, 1) := by decide +kernel
theorem dX10_keeper_24 : decode cX10_keeper 24 = .ok (.bipush 99, 2) := by decide +kernel
theorem dX10_keeper_26 : decode cX10_keeper 26 = .ok (.if_icmp .le 10, 3) := by decide +kernel
theorem dX10_keeper_29 : decode cX10_keeper 29 = .ok (.aload_n 0, 1) := by decide +kernel
theorem dX10_keeper_30 : decode cX10_keeper 30 = .ok (.bipush (-6), 2) := by decide +kernel
theorem dX10_keeper_32 : decode cX10_keeper 32 = .ok (.invokevirtual 76, 3) := by decide +kernel
theorem dX10_keeper_35 : decode cX10_keeper 35 = .ok (.ireturn, 1) := by decide +kernel
theorem dX10_keeper_36 : decode cX10_keeper 36 = .ok (.iload_n 1, 1) := by decide +kernel
theorem dX10_keeper_37 : decode cX10_keeper 37 = .ok (.iload_n 2, 1) := by decide +kernel
theorem dX10_keeper_38 : decode cX10_keeper 38 = .ok (.iconst 1, 1) := by decide +kernel
theorem dX10_keeper_39 : decode cX10_keeper 39 = .ok (.iadd, 1) := by decide +kernel
theorem dX10_keeper_40 : decode cX10_keeper 40 = .ok (.irem, 1) := by decide +kernel
theorem dX10_keeper_41 : decode cX10_keeper 41 = .ok (.ifCond .ne 7, 3) := by decide +kernel
theorem dX10_keeper_44 : decode cX10_keeper 44 = .ok (.iconst 0, 1) := by decide +kernel
theorem dX10_keeper_45 : decode cX10_keeper 45 = .ok (.goto 4, 3) := by decide +kernel
theorem dX10_keeper_48 : decode cX10_keeper 48 = .ok (.iconst 1, 1) := by decide +kernel
theorem dX10_keeper_49 : decode cX10_keeper 49 = .ok (.ireturn, 1) := by decide +kernel
theorem dX10_evening_0 : decode cX10_evening 0 = .ok (.iload_n 1, 1) := by decide +kernel
theorem dX10_evening_1 : decode cX10_evening 1 = .ok (.iconst 1, 1) := by decide +kernel
theorem dX10_evening_2 : decode cX10_evening 2 = .ok (.if_icmp .ge 10, 3) := by decide +kernel
theorem dX10_evening_5 : decode cX10_evening 5 = .ok (.aload_n 0, 1) := by decide +kernel
theorem dX10_evening_6 : decode cX10_evening 6 = .ok (.bipush (-4), 2) := by decide +kernel
theorem dX10_evening_8 : decode cX10_evening 8 = .ok (.invokevirtual 76, 3) := by decide +kernel
theorem dX10_evening_11 : decode cX10_evening 11 = .ok (.ireturn, 1) := by decide +kernel
theorem dX10_evening_12 : decode cX10_evening 12 = .ok (.iload_n 1, 1) := by decide +kernel
theorem dX10_evening_13 : decode cX10_evening 13 = .ok (.sipush 200, 3) := by decide +kernel
theorem dX10_evening_16 : decode cX10_evening 16 = .ok (.if_icmp .le 10, 3) := by decide +kernel
theorem dX10_evening_19 : decode cX10_evening 19 = .ok (.aload_n 0, 1) := by decide +kernel
theorem dX10_evening_20 : decode cX10_evening 20 = .ok (.bipush (-6), 2) := by decide +kernel
theorem dX10_evening_22 : decode cX10_evening 22 = .ok (.invokevirtual 76, 3) := by decide +kernel
theorem dX10_evening_25 : decode cX10_evening 25 = .ok (.ireturn, 1) := by decide +kernel
theorem dX10_evening_26 : decode cX10_evening 26 = .ok (.aload_n 0, 1) := by decide +kernel
theorem dX10_evening_27 : decode cX10_evening 27 = .ok (.getfield 10, 3) := by decide +kernel
theorem dX10_evening_30 : decode cX10_evening 30 = .ok (.getfield 122, 3) := by decide +kernel
theorem dX10_evening_33 : decode cX10_evening 33 = .ok (.getfield 218, 3) := by decide +kernel
theorem dX10_evening_36 : decode cX10_evening 36 = .ok (.ifCond .ne 10, 3) := by decide +kernel
theorem dX10_evening_39 : decode cX10_evening 39 = .ok (.aload_n 0, 1) := by decide +kernel
theorem dX10_evening_40 : decode cX10_evening 40 = .ok (.bipush (-3), 2) := by decide +kernel
theorem dX10_evening_42 : decode cX10_evening 42 = .ok (.invokevirtual 76, 3) := by decide +kernel
theorem dX10_evening_45 : decode cX10_evening 45 = .ok (.ireturn, 1) := by decide +kernel
theorem dX10_evening_46 : decode cX10_evening 46 = .ok (.aload_n 0, 1) := by decide +kernel
theorem dX10_evening_47 : decode cX10_evening 47 = .ok (.getfield 60, 3) := by decide +kernel
theorem dX10_evening_50 : decode cX10_evening 50 = .ok (.aload_n 0, 1) := by decide +kernel
theorem dX10_evening_51 : decode cX10_evening 51 = .ok (.getfield 10, 3) := by decide +kernel
theorem dX10_evening_54 : decode cX10_evening 54 = .ok (.iload_n 1, 1) := by decide +kernel
theorem dX10_evening_55 : decode cX10_evening 55 = .ok (.iload_n 2, 1) := by decide +kernel
theorem dX10_evening_56 : decode cX10_evening 56 = .ok (.invokevirtual 264, 3) := by decide +kernel
theorem dX10_evening_59 : decode cX10_evening 59 = .ok (.ireturn, 1) := by decide +kernel
theorem dX10_row_0 : decode cX10_row 0 = .ok (.iload_n 1, 1) := by decide +kernel
theorem dX10_row_1 : decode cX10_row 1 = .ok (.ifCond .ge 10, 3) := by decide +kernel
theorem dX10_row_4 : decode cX10_row 4 = .ok (.aload_n 0, 1) := by decide +kernel
theorem dX10_row_5 : decode cX10_row 5 = .ok (.bipush (-4), 2) := by decide +kernel
theorem dX10_row_7 : decode cX10_row 7 = .ok (.invokevirtual 76, 3) := by decide +kernel
theorem dX10_row_10 : decode cX10_row 10 = .ok (.ireturn, 1) := by decide +kernel
theorem dX10_row_11 : decode cX10_row 11 = .ok (.iload_n 1, 1) := by decide +kernel
theorem dX10_row_12 : decode cX10_row 12 = .ok (.bipush 99, 2) := by decide +kernel
theorem dX10_row_14 : decode cX10_row 14 = .ok (.if_icmp .gt 15, 3) := by decide +kernel
theorem dX10_row_17 : decode cX10_row 17 = .ok (.aload_n 0, 1) := by decide +kernel
theorem dX10_row_18 : decode cX10_row 18 = .ok (.getfield 32, 3) := by decide +kernel
theorem dX10_row_21 : decode cX10_row 21 = .ok (.getfield 267, 3) := by decide +kernel
theorem dX10_row_24 : decode cX10_row 24 = .ok (.bipush 16, 2) := by decide +kernel
theorem dX10_row_26 : decode cX10_row 26 = .ok (.if_icmp .lt 10, 3) := by decide +kernel
theorem dX10_row_29 : decode cX10_row 29 = .ok (.aload_n 0, 1) := by decide +kernel
theorem dX10_row_30 : decode cX10_row 30 = .ok (.bipush (-6), 2) := by decide +kernel
theorem dX10_row_32 : decode cX10_row 32 = .ok (.invokevirtual 76, 3) := by decide +kernel
theorem dX10_row_35 : decode cX10_row 35 = .ok (.ireturn, 1) := by decide +kernel
theorem dX10_row_36 : decode cX10_row 36 = .ok (.aload_n 0, 1) := by decide +kernel
theorem dX10_row_37 : decode cX10_row 37 = .ok (.getfield 32, 3) := by decide +kernel
theorem dX10_row_40 : decode cX10_row 40 = .ok (.iload_n 1, 1) := by decide +kernel
theorem dX10_row_41 : decode cX10_row 41 = .ok (.invokevirtual 268, 3) := by decide +kernel
theorem dX10_row_44 : decode cX10_row 44 = .ok (.ireturn, 1) := by decide +kernel
theorem dX10_judge_0 : decode cX10_judge 0 = .ok (.aload_n 0, 1) := by decide +kernel
theorem dX10_judge_1 : decode cX10_judge 1 = .ok (.getfield 32, 3) := by decide +kernel
theorem dX10_judge_4 : decode cX10_judge 4 = .ok (.aload_n 0, 1) := by decide +kernel
theorem dX10_judge_5 : decode cX10_judge 5 = .ok (.getfield 10, 3) := by decide +kernel
theorem dX10_judge_8 : decode cX10_judge 8 = .ok (.invokevirtual 271, 3) := by decide +kernel
theorem dX10_judge_11 : decode cX10_judge 11 = .ok (.istore_n 1, 1) := by decide +kernel
theorem dX10_judge_12 : decode cX10_judge 12 = .ok (.aload_n 0, 1) := by decide +kernel
theorem dX10_judge_13 : decode cX10_judge 13 = .ok (.getfield 32, 3) := by decide +kernel
theorem dX10_judge_16 : decode cX10_judge 16 = .ok (.iconst 0, 1) := by decide +kernel
theorem dX10_judge_17 : decode cX10_judge 17 = .ok (.putfield 267, 3) := by decide +kernel
theorem dX10_judge_20 : decode cX10_judge 20 = .ok (.iload_n 1, 1) := by decide +kernel
theorem dX10_judge_21 : decode cX10_judge 21 = .ok (.ireturn, 1) := by decide +kernel
theorem dX10_image_0 : decode cX10_image 0 = .ok (.aload_n 0, 1) := by decide +kernel
theorem dX10_image_1 : decode cX10_image 1 = .ok (.getfield 19, 3) := by decide +kernel
theorem dX10_image_4 : decode cX10_image 4 = .ok (.aload_n 0, 1) := by decide +kernel
theorem dX10_image_5 : decode cX10_image 5 = .ok (.getfield 10, 3) := by decide +kernel
theorem dX10_image_8 : decode cX10_image 8 = .ok (.invokevirtual 87, 3) := by decide +kernel
theorem dX10_image_11 : decode cX10_image 11 = .ok (.aload_n 0, 1) := by decide +kernel
theorem dX10_image_12 : decode cX10_image 12 = .ok (.iconst 1, 1) := by decide +kernel
theorem dX10_image_13 : decode cX10_image 13 = .ok (.putfield 68, 3) := by decide +kernel
theorem dX10_image_16 : decode cX10_image 16 = .ok (.aload_n 0, 1) := by decide +kernel
theorem dX10_image_17 : decode cX10_image 17 = .ok (.getfield 10, 3) := by decide +kernel
theorem dX10_image_20 : decode cX10_image 20 = .ok (.getfield 134, 3) := by decide +kernel
theorem dX10_image_23 : decode cX10_image 23 = .ok (.invokevirtual 274, 3) := by decide +kernel
theorem dX10_image_26 : decode cX10_image 26 = .ok (.ireturn, 1) := by decide +kernel
theorem dX10_on_0 : decode cX10_on 0 = .ok (.aload_n 0, 1) := by decide +kernel
theorem dX10_on_1 : decode cX10_on 1 = .ok (.getfield 68, 3) := by decide +kernel
theorem dX10_on_4 : decode cX10_on 4 = .ok (.ifCond .ne 10, 3) := by decide +kernel
theorem dX10_on_7 : decode cX10_on 7 = .ok (.aload_n 0, 1) := by decide +kernel
theorem dX10_on_8 : decode cX10_on 8 = .ok (.bipush (-3), 2) := by decide +kernel
theorem dX10_on_10 : decode cX10_on 10 = .ok (.invokevirtual 76, 3) := by decide +kernel
theorem dX10_on_13 : decode cX10_on 13 = .ok (.ireturn, 1) := by decide +kernel
theorem dX10_on_14 : decode cX10_on 14 = .ok (.aload_n 0, 1) := by decide +kernel
theorem dX10_on_15 : decode cX10_on 15 = .ok (.getfield 10, 3) := by decide +kernel
theorem dX10_on_18 : decode cX10_on 18 = .ok (.aload_n 0, 1) := by decide +kernel
theorem dX10_on_19 : decode cX10_on 19 = .ok (.getfield 19, 3) := by decide +kernel
theorem dX10_on_22 : decode cX10_on 22 = .ok (.invokevirtual 87, 3) := by decide +kernel
theorem dX10_on_25 : decode cX10_on 25 = .ok (.aload_n 0, 1) := by decide +kernel
theorem dX10_on_26 : decode cX10_on 26 = .ok (.getfield 39, 3) := by decide +kernel
theorem dX10_on_29 : decode cX10_on 29 = .ok (.iconst 0, 1) := by decide +kernel
theorem dX10_on_30 : decode cX10_on 30 = .ok (.putfield 95, 3) := by decide +kernel
theorem dX10_on_33 : decode cX10_on 33 = .ok (.aload_n 0, 1) := by decide +kernel
theorem dX10_on_34 : decode cX10_on 34 = .ok (.getfield 10, 3) := by decide +kernel
theorem dX10_on_37 : decode cX10_on 37 = .ok (.getfield 134, 3) := by decide +kernel
theorem dX10_on_40 : decode cX10_on 40 = .ok (.invokevirtual 274, 3) := by decide +kernel
theorem dX10_on_43 : decode cX10_on 43 = .ok (.ireturn, 1) := by decide +kernel
theorem dX10_count_0 : decode cX10_count 0 = .ok (.iload_n 1, 1) := by decide +kernel
theorem dX10_count_1 : decode cX10_count 1 = .ok (.bipush 11, 2) := by decide +kernel
theorem dX10_count_3 : decode cX10_count 3 = .ok (.if_icmp .lt 19, 3) := by decide +kernel
theorem dX10_count_6 : decode cX10_count 6 = .ok (.iload_n 1, 1) := by decide +kernel
theorem dX10_count_7 : decode cX10_count 7 = .ok (.bipush 16, 2) := by decide +kernel
theorem dX10_count_9 : decode cX10_count 9 = .ok (.if_icmp .gt 13, 3) := by decide +kernel
theorem dX10_count_12 : decode cX10_count 12 = .ok (.aload_n 0, 1) := by decide +kernel
theorem dX10_count_13 : decode cX10_count 13 = .ok (.getfield 64, 3) := by decide +kernel
theorem dX10_count_16 : decode cX10_count 16 = .ok (.iload_n 1, 1) := by decide +kernel
theorem dX10_count_17 : decode cX10_count 17 = .ok (.bipush 10, 2) := by decide +kernel
theorem dX10_count_19 : decode cX10_count 19 = .ok (.isub, 1) := by decide +kernel
theorem dX10_count_20 : decode cX10_count 20 = .ok (.iaload, 1) := by decide +kernel
theorem dX10_count_21 : decode cX10_count 21 = .ok (.ireturn, 1) := by decide +kernel
theorem dX10_count_22 : decode cX10_count 22 = .ok (.iload_n 1, 1) := by decide +kernel
theorem dX10_count_23 : decode cX10_count 23 = .ok (.tableswitch 136 0 8 #[49, 60, 71, 82, 93, 104, 115, 120, 128], 49) := by decide +kernel
theorem dX10_count_72 : decode cX10_count 72 = .ok (.aload_n 0, 1) := by decide +kernel
theorem dX10_count_73 : decode cX10_count 73 = .ok (.getfield 10, 3) := by decide +kernel
theorem dX10_count_76 : decode cX10_count 76 = .ok (.getfield 106, 3) := by decide +kernel
theorem dX10_count_79 : decode cX10_count 79 = .ok (.getfield 277, 3) := by decide +kernel
theorem dX10_count_82 : decode cX10_count 82 = .ok (.ireturn, 1) := by decide +kernel
theorem dX10_count_83 : decode cX10_count 83 = .ok (.aload_n 0, 1) := by decide +kernel
theorem dX10_count_84 : decode cX10_count 84 = .ok (.getfield 10, 3) := by decide +kernel
theorem dX10_count_87 : decode cX10_count 87 = .ok (.getfield 106, 3) := by decide +kernel
theorem dX10_count_90 : decode cX10_count 90 = .ok (.getfield 280, 3) := by decide +kernel
theorem dX10_count_93 : decode cX10_count 93 = .ok (.ireturn, 1) := by decide +kernel
theorem dX10_count_94 : decode cX10_count 94 = .ok (.aload_n 0, 1) := by decide +kernel
theorem dX10_count_95 : decode cX10_count 95 = .ok (.getfield 10, 3) := by decide +kernel
theorem dX10_count_98 : decode cX10_count 98 = .ok (.getfield 122, 3) := by decide +kernel
theorem dX10_count_101 : decode cX10_count 101 = .ok (.getfield 218, 3) := by decide +kernel
theorem dX10_count_104 : decode cX10_count 104 = .ok (.ireturn, 1) := by decide +kernel
theorem dX10_count_105 : decode cX10_count 105 = .ok (.aload_n 0, 1) := by decide +kernel
theorem dX10_count_106 : decode cX10_count 106 = .ok (.getfield 10, 3) := by decide +kernel
theorem dX10_count_109 : decode cX10_count 109 = .ok (.getfield 134, 3) := by decide +kernel
theorem dX10_count_112 : decode cX10_count 112 = .ok (.invokevirtual 274, 3) := by decide +kernel
theorem dX10_count_115 : decode cX10_count 115 = .ok (.ireturn, 1) := by decide +kernel
theorem dX10_count_116 : decode cX10_count 116 = .ok (.aload_n 0, 1) := by decide +kernel
theorem dX10_count_117 : decode cX10_count 117 = .ok (.getfield 10, 3) := by decide +kernel
theorem dX10_count_120 : decode cX10_count 120 = .ok (.getfield 134, 3) := by decide +kernel
theorem dX10_count_123 : decode cX10_count 123 = .ok (.invokevirtual 187, 3) := by decide +kernel
theorem dX10_count_126 : decode cX10_count 126 = .ok (.ireturn, 1) := by decide +kernel
theorem dX10_count_127 : decode cX10_count 127 = .ok (.aload_n 0, 1) := by decide +kernel
theorem dX10_count_128 : decode cX10_count 128 = .ok (.getfield 10, 3) := by decide +kernel
theorem dX10_count_131 : decode cX10_count 131 = .ok (.getfield 106, 3) := by decide +kernel
theorem dX10_count_134 : decode cX10_count 134 = .ok (.invokevirtual 283, 3) := by decide +kernel
theorem dX10_count_137 : decode cX10_count 137 = .ok (.ireturn, 1) := by decide +kernel
theorem dX10_count_138 : decode cX10_count 138 = .ok (.aload_n 0, 1) := by decide +kernel
theorem dX10_count_139 : decode cX10_count 139 = .ok (.getfield 72, 3) := by decide +kernel
theorem dX10_count_142 : decode cX10_count 142 = .ok (.ireturn, 1) := by decide +kernel
theorem dX10_count_143 : decode cX10_count 143 = .ok (.aload_n 0, 1) := by decide +kernel
theorem dX10_count_144 : decode cX10_count 144 = .ok (.getfield 32, 3) := by decide +kernel
theorem dX10_count_147 : decode cX10_count 147 = .ok (.getfield 267, 3) := by decide +kernel
theorem dX10_count_150 : decode cX10_count 150 = .ok (.ireturn, 1) := by decide +kernel
theorem dX10_count_151 : decode cX10_count 151 = .ok (.aload_n 0, 1) := by decide +kernel
theorem dX10_count_152 : decode cX10_count 152 = .ok (.getfield 25, 3) := by decide +kernel
theorem dX10_count_155 : decode cX10_count 155 = .ok (.getfield 80, 3) := by decide +kernel
theorem dX10_count_158 : decode cX10_count 158 = .ok (.ireturn, 1) := by decide +kernel
theorem dX10_count_159 : decode cX10_count 159 = .ok (.bipush (-9), 2) := by decide +kernel
theorem dX10_count_161 : decode cX10_count 161 = .ok (.ireturn, 1) := by decide +kernel
theorem dX10_refuse_0 : decode cX10_refuse 0 = .ok (.aload_n 0, 1) := by decide +kernel
theorem dX10_refuse_1 : decode cX10_refuse 1 = .ok (.getfield 64, 3) := by decide +kernel
theorem dX10_refuse_4 : decode cX10_refuse 4 = .ok (.iload_n 1, 1) := by decide +kernel
theorem dX10_refuse_5 : decode cX10_refuse 5 = .ok (.ineg, 1) := by decide +kernel
theorem dX10_refuse_6 : decode cX10_refuse 6 = .ok (.dup2, 1) := by decide +kernel
theorem dX10_refuse_7 : decode cX10_refuse 7 = .ok (.iaload, 1) := by decide +kernel
theorem dX10_refuse_8 : decode cX10_refuse 8 = .ok (.iconst 1, 1) := by decide +kernel
theorem dX10_refuse_9 : decode cX10_refuse 9 = .ok (.iadd, 1) := by decide +kernel
theorem dX10_refuse_10 : decode cX10_refuse 10 = .ok (.iastore, 1) := by decide +kernel
theorem dX10_refuse_11 : decode cX10_refuse 11 = .ok (.iload_n 1, 1) := by decide +kernel
theorem dX10_refuse_12 : decode cX10_refuse 12 = .ok (.ireturn, 1) := by decide +kernel
theorem dX10_isCell_0 : decode cX10_isCell 0 = .ok (.iload_n 1, 1) := by decide +kernel
theorem dX10_isCell_1 : decode cX10_isCell 1 = .ok (.ifCond .lt 21, 3) := by decide +kernel
theorem dX10_isCell_4 : decode cX10_isCell 4 = .ok (.iload_n 1, 1) := by decide +kernel
theorem dX10_isCell_5 : decode cX10_isCell 5 = .ok (.aload_n 0, 1) := by decide +kernel
theorem dX10_isCell_6 : decode cX10_isCell 6 = .ok (.getfield 10, 3) := by decide +kernel
theorem dX10_isCell_9 : decode cX10_isCell 9 = .ok (.getfield 106, 3) := by decide +kernel
theorem dX10_isCell_12 : decode cX10_isCell 12 = .ok (.getfield 228, 3) := by decide +kernel
theorem dX10_isCell_15 : decode cX10_isCell 15 = .ok (.if_icmp .ge 7, 3) := by decide +kernel
theorem dX10_isCell_18 : decode cX10_isCell 18 = .ok (.iconst 1, 1) := by decide +kernel
theorem dX10_isCell_19 : decode cX10_isCell 19 = .ok (.goto 4, 3) := by decide +kernel
theorem dX10_isCell_22 : decode cX10_isCell 22 = .ok (.iconst 0, 1) := by decide +kernel
theorem dX10_isCell_23 : decode cX10_isCell 23 = .ok (.ireturn, 1) := by decide +kernel
theorem dX10_isPerson_0 : decode cX10_isPerson 0 = .ok (.iload_n 1, 1) := by decide +kernel
theorem dX10_isPerson_1 : decode cX10_isPerson 1 = .ok (.ifCond .lt 21, 3) := by decide +kernel
theorem dX10_isPerson_4 : decode cX10_isPerson 4 = .ok (.iload_n 1, 1) := by decide +kernel
theorem dX10_isPerson_5 : decode cX10_isPerson 5 = .ok (.aload_n 0, 1) := by decide +kernel
theorem dX10_isPerson_6 : decode cX10_isPerson 6 = .ok (.getfield 10, 3) := by decide +kernel
theorem dX10_isPerson_9 : decode cX10_isPerson 9 = .ok (.getfield 122, 3) := by decide +kernel
theorem dX10_isPerson_12 : decode cX10_isPerson 12 = .ok (.getfield 218, 3) := by decide +kernel
theorem dX10_isPerson_15 : decode cX10_isPerson 15 = .ok (.if_icmp .ge 7, 3) := by decide +kernel
theorem dX10_isPerson_18 : decode cX10_isPerson 18 = .ok (.iconst 1, 1) := by decide +kernel
theorem dX10_isPerson_19 : decode cX10_isPerson 19 = .ok (.goto 4, 3) := by decide +kernel
theorem dX10_isPerson_22 : decode cX10_isPerson 22 = .ok (.iconst 0, 1) := by decide +kernel
theorem dX10_isPerson_23 : decode cX10_isPerson 23 = .ok (.ireturn, 1) := by decide +kernel
theorem dX10_isTurn_0 : decode cX10_isTurn 0 = .ok (.iload_n 1, 1) := by decide +kernel
theorem dX10_isTurn_1 : decode cX10_isTurn 1 = .ok (.ifCond .lt 12, 3) := by decide +kernel
theorem dX10_isTurn_4 : decode cX10_isTurn 4 = .ok (.iload_n 1, 1) := by decide +kernel
theorem dX10_isTurn_5 : decode cX10_isTurn 5 = .ok (.iconst 4, 1) := by decide +kernel
theorem dX10_isTurn_6 : decode cX10_isTurn 6 = .ok (.if_icmp .ge 7, 3) := by decide +kernel
theorem dX10_isTurn_9 : decode cX10_isTurn 9 = .ok (.iconst 1, 1) := by decide +kernel
theorem dX10_isTurn_10 : decode cX10_isTurn 10 = .ok (.goto 4, 3) := by decide +kernel
theorem dX10_isTurn_13 : decode cX10_isTurn 13 = .ok (.iconst 0, 1) := by decide +kernel
theorem dX10_isTurn_14 : decode cX10_isTurn 14 = .ok (.ireturn, 1) := by decide +kernel
theorem dX10_isRule_0 : decode cX10_isRule 0 = .ok (.iload_n 1, 1) := by decide +kernel
theorem dX10_isRule_1 : decode cX10_isRule 1 = .ok (.ifCond .lt 12, 3) := by decide +kernel
theorem dX10_isRule_4 : decode cX10_isRule 4 = .ok (.iload_n 1, 1) := by decide +kernel
theorem dX10_isRule_5 : decode cX10_isRule 5 = .ok (.iconst 5, 1) := by decide +kernel
theorem dX10_isRule_6 : decode cX10_isRule 6 = .ok (.if_icmp .ge 7, 3) := by decide +kernel
theorem dX10_isRule_9 : decode cX10_isRule 9 = .ok (.iconst 1, 1) := by decide +kernel
theorem dX10_isRule_10 : decode cX10_isRule 10 = .ok (.goto 4, 3) := by decide +kernel
theorem dX10_isRule_13 : decode cX10_isRule 13 = .ok (.iconst 0, 1) := by decide +kernel
theorem dX10_isRule_14 : decode cX10_isRule 14 = .ok (.ireturn, 1) := by decide +kernel
theorem dX10_refusalOfTry_0 : decode cX10_refusalOfTry 0 = .ok (.aload_n 0, 1) := by decide +kernel
theorem dX10_refusalOfTry_1 : decode cX10_refusalOfTry 1 = .ok (.iload_n 1, 1) := by decide +kernel
theorem dX10_refusalOfTry_2 : decode cX10_refusalOfTry 2 = .ok (.invokevirtual 119, 3) := by decide +kernel
theorem dX10_refusalOfTry_5 : decode cX10_refusalOfTry 5 = .ok (.ifCond .eq 20, 3) := by decide +kernel
theorem dX10_refusalOfTry_8 : decode cX10_refusalOfTry 8 = .ok (.aload_n 0, 1) := by decide +kernel
theorem dX10_refusalOfTry_9 : decode cX10_refusalOfTry 9 = .ok (.iload_n 2, 1) := by decide +kernel
theorem dX10_refusalOfTry_10 : decode cX10_refusalOfTry 10 = .ok (.invokevirtual 98, 3) := by decide +kernel
theorem dX10_refusalOfTry_13 : decode cX10_refusalOfTry 13 = .ok (.ifCond .eq 12, 3) := by decide +kernel
theorem dX10_refusalOfTry_16 : decode cX10_refusalOfTry 16 = .ok (.aload_n 0, 1) := by decide +kernel
theorem dX10_refusalOfTry_17 : decode cX10_refusalOfTry 17 = .ok (.iload 4, 2) := by decide +kernel
theorem dX10_refusalOfTry_19 : decode cX10_refusalOfTry 19 = .ok (.invokevirtual 98, 3) := by decide +kernel
theorem dX10_refusalOfTry_22 : decode cX10_refusalOfTry 22 = .ok (.ifCond .ne 5, 3) := by decide +kernel
theorem dX10_refusalOfTry_25 : decode cX10_refusalOfTry 25 = .ok (.iconst (-1), 1) := by decide +kernel
theorem dX10_refusalOfTry_26 : decode cX10_refusalOfTry 26 = .ok (.ireturn, 1) := by decide +kernel
theorem dX10_refusalOfTry_27 : decode cX10_refusalOfTry 27 = .ok (.aload_n 0, 1) := by decide +kernel
theorem dX10_refusalOfTry_28 : decode cX10_refusalOfTry 28 = .ok (.iload_n 3, 1) := by decide +kernel
theorem dX10_refusalOfTry_29 : decode cX10_refusalOfTry 29 = .ok (.invokevirtual 103, 3) := by decide +kernel
theorem dX10_refusalOfTry_32 : decode cX10_refusalOfTry 32 = .ok (.ifCond .eq 7, 3) := by decide +kernel
theorem dX10_refusalOfTry_35 : decode cX10_refusalOfTry 35 = .ok (.iconst 0, 1) := by decide +kernel
theorem dX10_refusalOfTry_36 : decode cX10_refusalOfTry 36 = .ok (.goto 5, 3) := by decide +kernel
theorem dX10_refusalOfTry_39 : decode cX10_refusalOfTry 39 = .ok (.bipush (-2), 2) := by decide +kernel
theorem dX10_refusalOfTry_41 : decode cX10_refusalOfTry 41 = .ok (.ireturn, 1) := by decide +kernel
theorem dX10_refusalOfPlan_0 : decode cX10_refusalOfPlan 0 = .ok (.aload_n 0, 1) := by decide +kernel
theorem dX10_refusalOfPlan_1 : decode cX10_refusalOfPlan 1 = .ok (.iload_n 1, 1) := by decide +kernel
theorem dX10_refusalOfPlan_2 : decode cX10_refusalOfPlan 2 = .ok (.invokevirtual 215, 3) := by decide +kernel
theorem dX10_refusalOfPlan_5 : decode cX10_refusalOfPlan 5 = .ok (.ifCond .ne 6, 3) := by decide +kernel
theorem dX10_refusalOfPlan_8 : decode cX10_refusalOfPlan 8 = .ok (.bipush (-2), 2) := by decide +kernel
theorem dX10_refusalOfPlan_10 : decode cX10_refusalOfPlan 10 = .ok (.ireturn, 1) := by decide +kernel
theorem dX10_refusalOfPlan_11 : decode cX10_refusalOfPlan 11 = .ok (.aload_n 0, 1) := by decide +kernel
theorem dX10_refusalOfPlan_12 : decode cX10_refusalOfPlan 12 = .ok (.iload_n 2, 1) := by decide +kernel
theorem dX10_refusalOfPlan_13 : decode cX10_refusalOfPlan 13 = .ok (.invokevirtual 119, 3) := by decide +kernel
theorem dX10_refusalOfPlan_16 : decode cX10_refusalOfPlan 16 = .ok (.ifCond .eq 7, 3) := by decide +kernel
theorem dX10_refusalOfPlan_19 : decode cX10_refusalOfPlan 19 = .ok (.iconst 0, 1) := by decide +kernel
theorem dX10_refusalOfPlan_20 : decode cX10_refusalOfPlan 20 = .ok (.goto 4, 3) := by decide +kernel
theorem dX10_refusalOfPlan_23 : decode cX10_refusalOfPlan 23 = .ok (.iconst (-1), 1) := by decide +kernel
theorem dX10_refusalOfPlan_24 : decode cX10_refusalOfPlan 24 = .ok (.ireturn, 1) := by decide +kernel
theorem dX11_init_0 : decode cX11_init 0 = .ok (.aload_n 0, 1) := by decide +kernel
theorem dX11_init_1 : decode cX11_init 1 = .ok (.invokespecial 1, 3) := by decide +kernel
theorem dX11_init_4 : decode cX11_init 4 = .ok (.aload_n 0, 1) := by decide +kernel
theorem dX11_init_5 : decode cX11_init 5 = .ok (.bipush 7, 2) := by decide +kernel
theorem dX11_init_7 : decode cX11_init 7 = .ok (.newarray .int, 2) := by decide +kernel
theorem dX11_init_9 : decode cX11_init 9 = .ok (.putfield 7, 3) := by decide +kernel
theorem dX11_init_12 : decode cX11_init 12 = .ok (.aload_n 0, 1) := by decide +kernel
theorem dX11_init_13 : decode cX11_init 13 = .ok (.bipush 16, 2) := by decide +kernel
theorem dX11_init_15 : decode cX11_init 15 = .ok (.newarray .int, 2) := by decide +kernel
theorem dX11_init_17 : decode cX11_init 17 = .ok (.putfield 13, 3) := by decide +kernel
theorem dX11_init_20 : decode cX11_init 20 = .ok (.aload_n 0, 1) := by decide +kernel
theorem dX11_init_21 : decode cX11_init 21 = .ok (.bipush 16, 2) := by decide +kernel
theorem dX11_init_23 : decode cX11_init 23 = .ok (.newarray .int, 2) := by decide +kernel
theorem dX11_init_25 : decode cX11_init 25 = .ok (.putfield 16, 3) := by decide +kernel
theorem dX11_init_28 : decode cX11_init 28 = .ok (.aload_n 0, 1) := by decide +kernel
theorem dX11_init_29 : decode cX11_init 29 = .ok (.bipush 16, 2) := by decide +kernel
theorem dX11_init_31 : decode cX11_init 31 = .ok (.newarray .int, 2) := by decide +kernel
theorem dX11_init_33 : decode cX11_init 33 = .ok (.putfield 19, 3) := by decide +kernel
theorem dX11_init_36 : decode cX11_init 36 = .ok (.aload_n 0, 1) := by decide +kernel
theorem dX11_init_37 : decode cX11_init 37 = .ok (.bipush 16, 2) := by decide +kernel
theorem dX11_init_39 : decode cX11_init 39 = .ok (.newarray .int, 2) := by decide +kernel
theorem dX11_init_41 : decode cX11_init 41 = .ok (.putfield 22, 3) := by decide +kernel
theorem dX11_init_44 : decode cX11_init 44 = .ok (.aload_n 0, 1) := by decide +kernel
theorem dX11_init_45 : decode cX11_init 45 = .ok (.bipush 16, 2) := by decide +kernel
theorem dX11_init_47 : decode cX11_init 47 = .ok (.newarray .int, 2) := by decide +kernel
theorem dX11_init_49 : decode cX11_init 49 = .ok (.putfield 25, 3) := by decide +kernel
theorem dX11_init_52 : decode cX11_init 52 = .ok (.aload_n 0, 1) := by decide +kernel
theorem dX11_init_53 : decode cX11_init 53 = .ok (.bipush 16, 2) := by decide +kernel
theorem dX11_init_55 : decode cX11_init 55 = .ok (.newarray .int, 2) := by decide +kernel
theorem dX11_init_57 : decode cX11_init 57 = .ok (.putfield 28, 3) := by decide +kernel
theorem dX11_init_60 : decode cX11_init 60 = .ok (.aload_n 0, 1) := by decide +kernel
theorem dX11_init_61 : decode cX11_init 61 = .ok (.bipush 16, 2) := by decide +kernel
theorem dX11_init_63 : decode cX11_init 63 = .ok (.newarray .int, 2) := by decide +kernel
theorem dX11_init_65 : decode cX11_init 65 = .ok (.putfield 31, 3) := by decide +kernel
theorem dX11_init_68 : decode cX11_init 68 = .ok (.aload_n 0, 1) := by decide +kernel
theorem dX11_init_69 : decode cX11_init 69 = .ok (.bipush 6, 2) := by decide +kernel
theorem dX11_init_71 : decode cX11_init 71 = .ok (.newarray .int, 2) := by decide +kernel
theorem dX11_init_73 : decode cX11_init 73 = .ok (.putfield 34, 3) := by decide +kernel
theorem dX11_init_76 : decode cX11_init 76 = .ok (.aload_n 0, 1) := by decide +kernel
theorem dX11_init_77 : decode cX11_init 77 = .ok (.bipush 6, 2) := by decide +kernel
theorem dX11_init_79 : decode cX11_init 79 = .ok (.newarray .int, 2) := by decide +kernel
theorem dX11_init_81 : decode cX11_init 81 = .ok (.putfield 37, 3) := by decide +kernel
theorem dX11_init_84 : decode cX11_init 84 = .ok (.aload_n 0, 1) := by decide +kernel
theorem dX11_init_85 : decode cX11_init 85 = .ok (.bipush 6, 2) := by decide +kernel
theorem dX11_init_87 : decode cX11_init 87 = .ok (.newarray .int, 2) := by decide +kernel
theorem dX11_init_89 : decode cX11_init 89 = .ok (.putfield 40, 3) := by decide +kernel
theorem dX11_init_92 : decode cX11_init 92 = .ok (.aload_n 0, 1) := by decide +kernel
theorem dX11_init_93 : decode cX11_init 93 = .ok (.bipush 64, 2) := by decide +kernel
theorem dX11_init_95 : decode cX11_init 95 = .ok (.newarray .int, 2) := by decide +kernel
theorem dX11_init_97 : decode cX11_init 97 = .ok (.putfield 43, 3) := by decide +kernel
theorem dX11_init_100 : decode cX11_init 100 = .ok (.aload_n 0, 1) := by decide +kernel
theorem dX11_init_101 : decode cX11_init 101 = .ok (.bipush 32, 2) := by decide +kernel
theorem dX11_init_103 : decode cX11_init 103 = .ok (.newarray .int, 2) := by decide +kernel
theorem dX11_init_105 : decode cX11_init 105 = .ok (.putfield 46, 3) := by decide +kernel
theorem dX11_init_108 : decode cX11_init 108 = .ok (.aload_n 0, 1) := by decide +kernel
theorem dX11_init_109 : decode cX11_init 109 = .ok (.bipush 32, 2) := by decide +kernel
theorem dX11_init_111 : decode cX11_init 111 = .ok (.newarray .int, 2) := by decide +kernel
theorem dX11_init_113 : decode cX11_init 113 = .ok (.putfield 49, 3) := by decide +kernel
theorem dX11_init_116 : decode cX11_init 116 = .ok (.aload_n 0, 1) := by decide +kernel
theorem dX11_init_117 : decode cX11_init 117 = .ok (.bipush 32, 2) := by decide +kernel
theorem dX11_init_119 : decode cX11_init 119 = .ok (.newarray .int, 2) := by decide +kernel
theorem dX11_init_121 : decode cX11_init 121 = .ok (.putfield 52, 3) := by decide +kernel
theorem dX11_init_124 : decode cX11_init 124 = .ok (.aload_n 0, 1) := by decide +kernel
theorem dX11_init_125 : decode cX11_init 125 = .ok (.bipush 32, 2) := by decide +kernel
theorem dX11_init_127 : decode cX11_init 127 = .ok (.newarray .int, 2) := by decide +kernel
theorem dX11_init_129 : decode cX11_init 129 = .ok (.putfield 55, 3) := by decide +kernel
theorem dX11_init_132 : decode cX11_init 132 = .ok (.aload_n 0, 1) := by decide +kernel
theorem dX11_init_133 : decode cX11_init 133 = .ok (.bipush 32, 2) := by decide +kernel
theorem dX11_init_135 : decode cX11_init 135 = .ok (.newarray .int, 2) := by decide +kernel
theorem dX11_init_137 : decode cX11_init 137 = .ok (.putfield 58, 3) := by decide +kernel
theorem dX11_init_140 : decode cX11_init 140 = .ok (.aload_n 0, 1) := by decide +kernel
theorem dX11_init_141 : decode cX11_init 141 = .ok (.sipush 500, 3) := by decide +kernel
theorem dX11_init_144 : decode cX11_init 144 = .ok (.newarray .int, 2) := by decide +kernel
theorem dX11_init_146 : decode cX11_init 146 = .ok (.putfield 61, 3) := by decide +kernel
theorem dX11_init_149 : decode cX11_init 149 = .ok (.aload_n 0, 1) := by decide +kernel
theorem dX11_init_150 : decode cX11_init 150 = .ok (.bipush 16, 2) := by decide +kernel
theorem dX11_init_152 : decode cX11_init 152 = .ok (.newarray .int, 2) := by decide +kernel
theorem dX11_init_154 : decode cX11_init 154 = .ok (.putfield 64, 3) := by decide +kernel
theorem dX11_init_157 : decode cX11_init 157 = .ok (.aload_n 0, 1) := by decide +kernel
theorem dX11_init_158 : decode cX11_init 158 = .ok (.bipush 16, 2) := by decide +kernel
theorem dX11_init_160 : decode cX11_init 160 = .ok (.newarray .int, 2) := by decide +kernel
theorem dX11_init_162 : decode cX11_init 162 = .ok (.putfield 67, 3) := by decide +kernel
theorem dX11_init_165 : decode cX11_init 165 = .ok (.aload_n 0, 1) := by decide +kernel
theorem dX11_init_166 : decode cX11_init 166 = .ok (.bipush 16, 2) := by decide +kernel
theorem dX11_init_168 : decode cX11_init 168 = .ok (.newarray .int, 2) := by decide +kernel
theorem dX11_init_170 : decode cX11_init 170 = .ok (.putfield 70, 3) := by decide +kernel
theorem dX11_init_173 : decode cX11_init 173 = .ok (.aload_n 0, 1) := by decide +kernel
theorem dX11_init_174 : decode cX11_init 174 = .ok (.bipush 64, 2) := by decide +kernel
theorem dX11_init_176 : decode cX11_init 176 = .ok (.newarray .int, 2) := by decide +kernel
theorem dX11_init_178 : decode cX11_init 178 = .ok (.putfield 73, 3) := by decide +kernel
theorem dX11_init_181 : decode cX11_init 181 = .ok (.aload_n 0, 1) := by decide +kernel
theorem dX11_init_182 : decode cX11_init 182 = .ok (.bipush 16, 2) := by decide +kernel
theorem dX11_init_184 : decode cX11_init 184 = .ok (.newarray .int, 2) := by decide +kernel
theorem dX11_init_186 : decode cX11_init 186 = .ok (.putfield 76, 3) := by decide +kernel
theorem dX11_init_189 : decode cX11_init 189 = .ok (.aload_n 0, 1) := by decide +kernel
theorem dX11_init_190 : decode cX11_init 190 = .ok (.iconst 3, 1) := by decide +kernel
theorem dX11_init_191 : decode cX11_init 191 = .ok (.iconst 3, 1) := by decide +kernel
theorem dX11_init_192 : decode cX11_init 192 = .ok (.invokevirtual 79, 3) := by decide +kernel
theorem dX11_init_195 : decode cX11_init 195 = .ok (.return_, 1) := by decide +kernel
theorem dX11_no_0 : decode cX11_no 0 = .ok (.aload_n 0, 1) := by decide +kernel
theorem dX11_no_1 : decode cX11_no 1 = .ok (.getfield 7, 3) := by decide +kernel
theorem dX11_no_4 : decode cX11_no 4 = .ok (.iload_n 1, 1) := by decide +kernel
theorem dX11_no_5 : decode cX11_no 5 = .ok (.ineg, 1) := by decide +kernel
theorem dX11_no_6 : decode cX11_no 6 = .ok (.dup2, 1) := by decide +kernel
theorem dX11_no_7 : decode cX11_no 7 = .ok (.iaload, 1) := by decide +kernel
theorem dX11_no_8 : decode cX11_no 8 = .ok (.iconst 1, 1) := by decide +kernel
theorem dX11_no_9 : decode cX11_no 9 = .ok (.iadd, 1) := by decide +kernel
theorem dX11_no_10 : decode cX11_no 10 = .ok (.iastore, 1) := by decide +kernel
theorem dX11_no_11 : decode cX11_no 11 = .ok (.iload_n 1, 1) := by decide +kernel
theorem dX11_no_12 : decode cX11_no 12 = .ok (.ireturn, 1) := by decide +kernel
theorem dX11_lower_0 : decode cX11_lower 0 = .ok (.aload_n 0, 1) := by decide +kernel
theorem dX11_lower_1 : decode cX11_lower 1 = .ok (.getfield 7, 3) := by decide +kernel
theorem dX11_lower_4 : decode cX11_lower 4 = .ok (.iload_n 1, 1) := by decide +kernel
theorem dX11_lower_5 : decode cX11_lower 5 = .ok (.ineg, 1) := by decide +kernel
theorem dX11_lower_6 : decode cX11_lower 6 = .ok (.dup2, 1) := by decide +kernel
theorem dX11_lower_7 : decode cX11_lower 7 = .ok (.iaload, 1) := by decide +kernel
theorem dX11_lower_8 : decode cX11_lower 8 = .ok (.iconst 1, 1) := by decide +kernel
theorem dX11_lower_9 : decode cX11_lower 9 = .ok (.iadd, 1) := by decide +kernel
theorem dX11_lower_10 : decode cX11_lower 10 = .ok (.iastore, 1) := by decide +kernel
theorem dX11_lower_11 : decode cX11_lower 11 = .ok (.ldc 83, 2) := by decide +kernel
theorem dX11_lower_13 : decode cX11_lower 13 = .ok (.iload_n 1, 1) := by decide +kernel
theorem dX11_lower_14 : decode cX11_lower 14 = .ok (.isub, 1) := by decide +kernel
theorem dX11_lower_15 : decode cX11_lower 15 = .ok (.ireturn, 1) := by decide +kernel
theorem dX11_isIn_0 : decode cX11_isIn 0 = .ok (.iload_n 0, 1) := by decide +kernel
theorem dX11_isIn_1 : decode cX11_isIn 1 = .ok (.iload_n 1, 1) := by decide +kernel
theorem dX11_isIn_2 : decode cX11_isIn 2 = .ok (.if_icmp .lt 12, 3) := by decide +kernel
theorem dX11_isIn_5 : decode cX11_isIn 5 = .ok (.iload_n 0, 1) := by decide +kernel
theorem dX11_isIn_6 : decode cX11_isIn 6 = .ok (.iload_n 2, 1) := by decide +kernel
theorem dX11_isIn_7 : decode cX11_isIn 7 = .ok (.if_icmp .gt 7, 3) := by decide +kernel
theorem dX11_isIn_10 : decode cX11_isIn 10 = .ok (.iconst 1, 1) := by decide +kernel
theorem dX11_isIn_11 : decode cX11_isIn 11 = .ok (.goto 4, 3) := by decide +kernel
theorem dX11_isIn_14 : decode cX11_isIn 14 = .ok (.iconst 0, 1) := by decide +kernel
theorem dX11_isIn_15 : decode cX11_isIn 15 = .ok (.ireturn, 1) := by decide +kernel
theorem dX11_bound_0 : decode cX11_bound 0 = .ok (.iload_n 0, 1) := by decide +kernel
theorem dX11_bound_1 : decode cX11_bound 1 = .ok (.iload_n 1, 1) := by decide +kernel
theorem dX11_bound_2 : decode cX11_bound 2 = .ok (.if_icmp .ge 8, 3) := by decide +kernel
theorem dX11_bound_5 : decode cX11_bound 5 = .ok (.bipush (-4), 2) := by decide +kernel
theorem dX11_bound_7 : decode cX11_bound 7 = .ok (.goto 14, 3) := by decide +kernel
theorem dX11_bound_10 : decode cX11_bound 10 = .ok (.iload_n 0, 1) := by decide +kernel
theorem dX11_bound_11 : decode cX11_bound 11 = .ok (.iload_n 2, 1) := by decide +kernel
theorem dX11_bound_12 : decode cX11_bound 12 = .ok (.if_icmp .le 8, 3) := by decide +kernel
theorem dX11_bound_15 : decode cX11_bound 15 = .ok (.bipush (-6), 2) := by decide +kernel
theorem dX11_bound_17 : decode cX11_bound 17 = .ok (.goto 4, 3) := by decide +kernel
theorem dX11_bound_20 : decode cX11_bound 20 = .ok (.iconst 0, 1) := by decide +kernel
theorem dX11_bound_21 : decode cX11_bound 21 = .ok (.ireturn, 1) := by decide +kernel
theorem dX11_cells_0 : decode cX11_cells 0 = .ok (.aload_n 0, 1) := by decide +kernel
theorem dX11_cells_1 : decode cX11_cells 1 = .ok (.getfield 84, 3) := by decide +kernel
theorem dX11_cells_4 : decode cX11_cells 4 = .ok (.aload_n 0, 1) := by decide +kernel
theorem dX11_cells_5 : decode cX11_cells 5 = .ok (.getfield 88, 3) := by decide +kernel
theorem dX11_cells_8 : decode cX11_cells 8 = .ok (.imul, 1) := by decide +kernel
theorem dX11_cells_9 : decode cX11_cells 9 = .ok (.ireturn, 1) := by decide +kernel
theorem dX11_anew_0 : decode cX11_anew 0 = .ok (.aload_n 0, 1) := by decide +kernel
theorem dX11_anew_1 : decode cX11_anew 1 = .ok (.iload_n 1, 1) := by decide +kernel
theorem dX11_anew_2 : decode cX11_anew 2 = .ok (.putfield 84, 3) := by decide +kernel
theorem dX11_anew_5 : decode cX11_anew 5 = .ok (.aload_n 0, 1) := by decide +kernel
theorem dX11_anew_6 : decode cX11_anew 6 = .ok (.iload_n 2, 1) := by decide +kernel
theorem dX11_anew_7 : decode cX11_anew 7 = .ok (.putfield 88, 3) := by decide +kernel
theorem dX11_anew_10 : decode cX11_anew 10 = .ok (.iconst 0, 1) := by decide +kernel
theorem dX11_anew_11 : decode cX11_anew 11 = .ok (.istore_n 3, 1) := by decide +kernel
theorem dX11_anew_12 : decode cX11_anew 12 = .ok (.iload_n 3, 1) := by decide +kernel
theorem dX11_anew_13 : decode cX11_anew 13 = .ok (.bipush 16, 2) := by decide +kernel
theorem dX11_anew_15 : decode cX11_anew 15 = .ok (.if_icmp .ge 44, 3) := by decide +kernel
theorem dX11_anew_18 : decode cX11_anew 18 = .ok (.aload_n 0, 1) := by decide +kernel
theorem dX11_anew_19 : decode cX11_anew 19 = .ok (.getfield 13, 3) := by decide +kernel
theorem dX11_anew_22 : decode cX11_anew 22 = .ok (.iload_n 3, 1) := by decide +kernel
theorem dX11_anew_23 : decode cX11_anew 23 = .ok (.iconst 1, 1) := by decide +kernel
theorem dX11_anew_24 : decode cX11_anew 24 = .ok (.iastore, 1) := by decide +kernel
theorem dX11_anew_25 : decode cX11_anew 25 = .ok (.aload_n 0, 1) := by decide +kernel
theorem dX11_anew_26 : decode cX11_anew 26 = .ok (.getfield 16, 3) := by decide +kernel
theorem dX11_anew_29 : decode cX11_anew 29 = .ok (.iload_n 3, 1) := by decide +kernel
theorem dX11_anew_30 : decode cX11_anew 30 = .ok (.iconst 1, 1) := by decide +kernel
theorem dX11_anew_31 : decode cX11_anew 31 = .ok (.iastore, 1) := by decide +kernel
theorem dX11_anew_32 : decode cX11_anew 32 = .ok (.aload_n 0, 1) := by decide +kernel
theorem dX11_anew_33 : decode cX11_anew 33 = .ok (.getfield 19, 3) := by decide +kernel
theorem dX11_anew_36 : decode cX11_anew 36 = .ok (.iload_n 3, 1) := by decide +kernel
theorem dX11_anew_37 : decode cX11_anew 37 = .ok (.iconst 0, 1) := by decide +kernel
theorem dX11_anew_38 : decode cX11_anew 38 = .ok (.iastore, 1) := by decide +kernel
theorem dX11_anew_39 : decode cX11_anew 39 = .ok (.aload_n 0, 1) := by decide +kernel
theorem dX11_anew_40 : decode cX11_anew 40 = .ok (.getfield 22, 3) := by decide +kernel
theorem dX11_anew_43 : decode cX11_anew 43 = .ok (.iload_n 3, 1) := by decide +kernel
theorem dX11_anew_44 : decode cX11_anew 44 = .ok (.iconst (-1), 1) := by decide +kernel
theorem dX11_anew_45 : decode cX11_anew 45 = .ok (.iastore, 1) := by decide +kernel
theorem dX11_anew_46 : decode cX11_anew 46 = .ok (.aload_n 0, 1) := by decide +kernel
theorem dX11_anew_47 : decode cX11_anew 47 = .ok (.getfield 31, 3) := by decide +kernel
theorem dX11_anew_50 : decode cX11_anew 50 = .ok (.iload_n 3, 1) := by decide +kernel
theorem dX11_anew_51 : decode cX11_anew 51 = .ok (.iconst 0, 1) := by decide +kernel
theorem dX11_anew_52 : decode cX11_anew 52 = .ok (.iastore, 1) := by decide +kernel
theorem dX11_anew_53 : decode cX11_anew 53 = .ok (.iinc 3 1, 3) := by decide +kernel
theorem dX11_anew_56 : decode cX11_anew 56 = .ok (.goto (-44), 3) := by decide +kernel
theorem dX11_anew_59 : decode cX11_anew 59 = .ok (.return_, 1) := by decide +kernel
theorem dX11_isCell_0 : decode cX11_isCell 0 = .ok (.iload_n 1, 1) := by decide +kernel
theorem dX11_isCell_1 : decode cX11_isCell 1 = .ok (.ifCond .lt 15, 3) := by decide +kernel
theorem dX11_isCell_4 : decode cX11_isCell 4 = .ok (.iload_n 1, 1) := by decide +kernel
theorem dX11_isCell_5 : decode cX11_isCell 5 = .ok (.aload_n 0, 1) := by decide +kernel
theorem dX11_isCell_6 : decode cX11_isCell 6 = .ok (.invokevirtual 91, 3) := by decide +kernel
theorem dX11_isCell_9 : decode cX11_isCell 9 = .ok (.if_icmp .ge 7, 3) := by decide +kernel
theorem dX11_isCell_12 : decode cX11_isCell 12 = .ok (.iconst 1, 1) := by decide +kernel
theorem dX11_isCell_13 : decode cX11_isCell 13 = .ok (.goto 4, 3) := by decide +kernel
theorem dX11_isCell_16 : decode cX11_isCell 16 = .ok (.iconst 0, 1) := by decide +kernel
theorem dX11_isCell_17 : decode cX11_isCell 17 = .ok (.ireturn, 1) := by decide +kernel
theorem dX11_isPerson_0 : decode cX11_isPerson 0 = .ok (.iload_n 1, 1) := by decide +kernel
theorem dX11_isPerson_1 : decode cX11_isPerson 1 = .ok (.ifCond .lt 15, 3) := by decide +kernel
theorem dX11_isPerson_4 : decode cX11_isPerson 4 = .ok (.iload_n 1, 1) := by decide +kernel
theorem dX11_isPerson_5 : decode cX11_isPerson 5 = .ok (.aload_n 0, 1) := by decide +kernel
theorem dX11_isPerson_6 : decode cX11_isPerson 6 = .ok (.getfield 95, 3) := by decide +kernel
theorem dX11_isPerson_9 : decode cX11_isPerson 9 = .ok (.if_icmp .ge 7, 3) := by decide +kernel
theorem dX11_isPerson_12 : decode cX11_isPerson 12 = .ok (.iconst 1, 1) := by decide +kernel
theorem dX11_isPerson_13 : decode cX11_isPerson 13 = .ok (.goto 4, 3) := by decide +kernel
theorem dX11_isPerson_16 : decode cX11_isPerson 16 = .ok (.iconst 0, 1) := by decide +kernel
theorem dX11_isPerson_17 : decode cX11_isPerson 17 = .ok (.ireturn, 1) := by decide +kernel
theorem dX11_beside_0 : decode cX11_beside 0 = .ok (.iload_n 2, 1) := by decide +kernel
theorem dX11_beside_1 : decode cX11_beside 1 = .ok (.tableswitch 93 0 2 #[27, 46, 69], 27) := by decide +kernel
theorem dX11_beside_28 : decode cX11_beside 28 = .ok (.iload_n 1, 1) := by decide +kernel
theorem dX11_beside_29 : decode cX11_beside 29 = .ok (.aload_n 0, 1) := by decide +kernel
theorem dX11_beside_30 : decode cX11_beside 30 = .ok (.getfield 88, 3) := by decide +kernel
theorem dX11_beside_33 : decode cX11_beside 33 = .ok (.if_icmp .lt 12, 3) := by decide +kernel
theorem dX11_beside_36 : decode cX11_beside 36 = .ok (.iload_n 1, 1) := by decide +kernel
theorem dX11_beside_37 : decode cX11_beside 37 = .ok (.aload_n 0, 1) := by decide +kernel
theorem dX11_beside_38 : decode cX11_beside 38 = .ok (.getfield 88, 3) := by decide +kernel
theorem dX11_beside_41 : decode cX11_beside 41 = .ok (.isub, 1) := by decide +kernel
theorem dX11_beside_42 : decode cX11_beside 42 = .ok (.goto 4, 3) := by decide +kernel
theorem dX11_beside_45 : decode cX11_beside 45 = .ok (.iconst (-1), 1) := by decide +kernel
theorem dX11_beside_46 : decode cX11_beside 46 = .ok (.ireturn, 1) := by decide +kernel
theorem dX11_beside_47 : decode cX11_beside 47 = .ok (.iload_n 1, 1) := by decide +kernel
theorem dX11_beside_48 : decode cX11_beside 48 = .ok (.aload_n 0, 1) := by decide +kernel
theorem dX11_beside_49 : decode cX11_beside 49 = .ok (.getfield 88, 3) := by decide +kernel
theorem dX11_beside_52 : decode cX11_beside 52 = .ok (.irem, 1) := by decide +kernel
theorem dX11_beside_53 : decode cX11_beside 53 = .ok (.iconst 1, 1) := by decide +kernel
theorem dX11_beside_54 : decode cX11_beside 54 = .ok (.iadd, 1) := by decide +kernel
theorem dX11_beside_55 : decode cX11_beside 55 = .ok (.aload_n 0, 1) := by decide +kernel
theorem dX11_beside_56 : decode cX11_beside 56 = .ok (.getfield 88, 3) := by decide +kernel
theorem dX11_beside_59 : decode cX11_beside 59 = .ok (.if_icmp .ge 9, 3) := by decide +kernel
theorem dX11_beside_62 : decode cX11_beside 62 = .ok (.iload_n 1, 1) := by decide +kernel
theorem dX11_beside_63 : decode cX11_beside 63 = .ok (.iconst 1, 1) := by decide +kernel
theorem dX11_beside_64 : decode cX11_beside 64 = .ok (.iadd, 1) := by decide +kernel
theorem dX11_beside_65 : decode cX11_beside 65 = .ok (.goto 4, 3) := by decide +kernel
theorem dX11_beside_68 : decode cX11_beside 68 = .ok (.iconst (-1), 1) := by decide +kernel
theorem dX11_beside_69 : decode cX11_beside 69 = .ok (.ireturn, 1) := by decide +kernel
theorem dX11_beside_70 : decode cX11_beside 70 = .ok (.iload_n 1, 1) := by decide +kernel
theorem dX11_beside_71 : decode cX11_beside 71 = .ok (.aload_n 0, 1) := by decide +kernel
theorem dX11_beside_72 : decode cX11_beside 72 = .ok (.getfield 88, 3) := by decide +kernel
theorem dX11_beside_75 : decode cX11_beside 75 = .ok (.iadd, 1) := by decide +kernel
theorem dX11_beside_76 : decode cX11_beside 76 = .ok (.aload_n 0, 1) := by decide +kernel
theorem dX11_beside_77 : decode cX11_beside 77 = .ok (.invokevirtual 91, 3) := by decide +kernel
theorem dX11_beside_80 : decode cX11_beside 80 = .ok (.if_icmp .ge 12, 3) := by decide +kernel
theorem dX11_beside_83 : decode cX11_beside 83 = .ok (.iload_n 1, 1) := by decide +kernel
theorem dX11_beside_84 : decode cX11_beside 84 = .ok (.aload_n 0, 1) := by decide +kernel
theorem dX11_beside_85 : decode cX11_beside 85 = .ok (.getfield 88, 3) := by decide +kernel
theorem dX11_beside_88 : decode cX11_beside 88 = .ok (.iadd, 1) := by decide +kernel
theorem dX11_beside_89 : decode cX11_beside 89 = .ok (.goto 4, 3) := by decide +kernel
theorem dX11_beside_92 : decode cX11_beside 92 = .ok (.iconst (-1), 1) := by decide +kernel
theorem dX11_beside_93 : decode cX11_beside 93 = .ok (.ireturn, 1) := by decide +kernel
theorem dX11_beside_94 : decode cX11_beside 94 = .ok (.iload_n 1, 1) := by decide +kernel
theorem dX11_beside_95 : decode cX11_beside 95 = .ok (.aload_n 0, 1) := by decide +kernel
theorem dX11_beside_96 : decode cX11_beside 96 = .ok (.getfield 88, 3) := by decide +kernel
theorem dX11_beside_99 : decode cX11_beside 99 = .ok (.irem, 1) := by decide +kernel
theorem dX11_beside_100 : decode cX11_beside 100 = .ok (.ifCond .le 9, 3) := by decide +kernel
theorem dX11_beside_103 : decode cX11_beside 103 = .ok (.iload_n 1, 1) := by decide +kernel
theorem dX11_beside_104 : decode cX11_beside 104 = .ok (.iconst 1, 1) := by decide +kernel
theorem dX11_beside_105 : decode cX11_beside 105 = .ok (.isub, 1) := by decide +kernel
theorem dX11_beside_106 : decode cX11_beside 106 = .ok (.goto 4, 3) := by decide +kernel
theorem dX11_beside_109 : decode cX11_beside 109 = .ok (.iconst (-1), 1) := by decide +kernel
theorem dX11_beside_110 : decode cX11_beside 110 = .ok (.ireturn, 1) := by decide +kernel
theorem dX11_sideOf_0 : decode cX11_sideOf 0 = .ok (.aload_n 0, 1) := by decide +kernel
theorem dX11_sideOf_1 : decode cX11_sideOf 1 = .ok (.iload_n 1, 1) := by decide +kernel
theorem dX11_sideOf_2 : decode cX11_sideOf 2 = .ok (.iload_n 2, 1) := by decide +kernel
theorem dX11_sideOf_3 : decode cX11_sideOf 3 = .ok (.invokevirtual 98, 3) := by decide +kernel
theorem dX11_sideOf_6 : decode cX11_sideOf 6 = .ok (.istore_n 3, 1) := by decide +kernel
theorem dX11_sideOf_7 : decode cX11_sideOf 7 = .ok (.iload_n 3, 1) := by decide +kernel
theorem dX11_sideOf_8 : decode cX11_sideOf 8 = .ok (.ifCond .ge 5, 3) := by decide +kernel
theorem dX11_sideOf_11 : decode cX11_sideOf 11 = .ok (.iconst 0, 1) := by decide +kernel
theorem dX11_sideOf_12 : decode cX11_sideOf 12 = .ok (.ireturn, 1) := by decide +kernel
theorem dX11_sideOf_13 : decode cX11_sideOf 13 = .ok (.iload_n 2, 1) := by decide +kernel
theorem dX11_sideOf_14 : decode cX11_sideOf 14 = .ok (.iconst 1, 1) := by decide +kernel
theorem dX11_sideOf_15 : decode cX11_sideOf 15 = .ok (.if_icmp .ne 12, 3) := by decide +kernel
theorem dX11_sideOf_18 : decode cX11_sideOf 18 = .ok (.aload_n 0, 1) := by decide +kernel
theorem dX11_sideOf_19 : decode cX11_sideOf 19 = .ok (.getfield 13, 3) := by decide +kernel
theorem dX11_sideOf_22 : decode cX11_sideOf 22 = .ok (.iload_n 1, 1) := by decide +kernel
theorem dX11_sideOf_23 : decode cX11_sideOf 23 = .ok (.iaload, 1) := by decide +kernel
theorem dX11_sideOf_24 : decode cX11_sideOf 24 = .ok (.goto 38, 3) := by decide +kernel
theorem dX11_sideOf_27 : decode cX11_sideOf 27 = .ok (.iload_n 2, 1) := by decide +kernel
theorem dX11_sideOf_28 : decode cX11_sideOf 28 = .ok (.iconst 2, 1) := by decide +kernel
theorem dX11_sideOf_29 : decode cX11_sideOf 29 = .ok (.if_icmp .ne 12, 3) := by decide +kernel
theorem dX11_sideOf_32 : decode cX11_sideOf 32 = .ok (.aload_n 0, 1) := by decide +kernel
theorem dX11_sideOf_33 : decode cX11_sideOf 33 = .ok (.getfield 16, 3) := by decide +kernel
theorem dX11_sideOf_36 : decode cX11_sideOf 36 = .ok (.iload_n 1, 1) := by decide +kernel
theorem dX11_sideOf_37 : decode cX11_sideOf 37 = .ok (.iaload, 1) := by decide +kernel
theorem dX11_sideOf_38 : decode cX11_sideOf 38 = .ok (.goto 24, 3) := by decide +kernel
theorem dX11_sideOf_41 : decode cX11_sideOf 41 = .ok (.iload_n 2, 1) := by decide +kernel
theorem dX11_sideOf_42 : decode cX11_sideOf 42 = .ok (.ifCond .ne 13, 3) := by decide +kernel
theorem dX11_sideOf_45 : decode cX11_sideOf 45 = .ok (.aload_n 0, 1) := by decide +kernel
theorem dX11_sideOf_46 : decode cX11_sideOf 46 = .ok (.getfield 16, 3) := by decide +kernel
theorem dX11_sideOf_49 : decode cX11_sideOf 49 = .ok (.iload_n 3, 1) := by decide +kernel
theorem dX11_sideOf_50 : decode cX11_sideOf 50 = .ok (.iaload, 1) := by decide +kernel
theorem dX11_sideOf_51 : decode cX11_sideOf 51 = .ok (.ineg, 1) := by decide +kernel
theorem dX11_sideOf_52 : decode cX11_sideOf 52 = .ok (.goto 10, 3) := by decide +kernel
theorem dX11_sideOf_55 : decode cX11_sideOf 55 = .ok (.aload_n 0, 1) := by decide +kernel
theorem dX11_sideOf_56 : decode cX11_sideOf 56 = .ok (.getfield 13, 3) := by decide +kernel
theorem dX11_sideOf_59 : decode cX11_sideOf 59 = .ok (.iload_n 3, 1) := by decide +kernel
theorem dX11_sideOf_60 : decode cX11_sideOf 60 = .ok (.iaload, 1) := by decide +kernel
theorem dX11_sideOf_61 : decode cX11_sideOf 61 = .ok (.ineg, 1) := by decide +kernel
theorem dX11_sideOf_62 : decode cX11_sideOf 62 = .ok (.ireturn, 1) := by decide +kernel
theorem dX11_turned_0 : decode cX11_turned 0 = .ok (.aload_n 0, 1) := by decide +kernel
theorem dX11_turned_1 : decode cX11_turned 1 = .ok (.iload_n 1, 1) := by decide +kernel
theorem dX11_turned_2 : decode cX11_turned 2 = .ok (.iload_n 3, 1) := by decide +kernel
theorem dX11_turned_3 : decode cX11_turned 3 = .ok (.iconst 4, 1) := by decide +kernel
theorem dX11_turned_4 : decode cX11_turned 4 = .ok (.iadd, 1) := by decide +kernel
theorem dX11_turned_5 : decode cX11_turned 5 = .ok (.iload_n 2, 1) := by decide +kernel
theorem dX11_turned_6 : decode cX11_turned 6 = .ok (.isub, 1) := by decide +kernel
theorem dX11_turned_7 : decode cX11_turned 7 = .ok (.iconst 4, 1) := by decide +kernel
theorem dX11_turned_8 : decode cX11_turned 8 = .ok (.irem, 1) := by decide +kernel
theorem dX11_turned_9 : decode cX11_turned 9 = .ok (.invokevirtual 102, 3) := by decide +kernel
theorem dX11_turned_12 : decode cX11_turned 12 = .ok (.ireturn, 1) := by decide +kernel
theorem dX11_isRim_0 : decode cX11_isRim 0 = .ok (.iconst 0, 1) := by decide +kernel
theorem dX11_isRim_1 : decode cX11_isRim 1 = .ok (.istore_n 2, 1) := by decide +kernel
theorem dX11_isRim_2 : decode cX11_isRim 2 = .ok (.iload_n 2, 1) := by decide +kernel
theorem dX11_isRim_3 : decode cX11_isRim 3 = .ok (.iconst 4, 1) := by decide +kernel
theorem dX11_isRim_4 : decode cX11_isRim 4 = .ok (.if_icmp .ge 20, 3) := by decide +kernel
theorem dX11_isRim_7 : decode cX11_isRim 7 = .ok (.aload_n 0, 1) := by decide +kernel
theorem dX11_isRim_8 : decode cX11_isRim 8 = .ok (.iload_n 1, 1) := by decide +kernel
theorem dX11_isRim_9 : decode cX11_isRim 9 = .ok (.iload_n 2, 1) := by decide +kernel
theorem dX11_isRim_10 : decode cX11_isRim 10 = .ok (.invokevirtual 98, 3) := by decide +kernel
theorem dX11_isRim_13 : decode cX11_isRim 13 = .ok (.ifCond .ge 5, 3) := by decide +kernel
theorem dX11_isRim_16 : decode cX11_isRim 16 = .ok (.iconst 1, 1) := by decide +kernel
theorem dX11_isRim_17 : decode cX11_isRim 17 = .ok (.ireturn, 1) := by decide +kernel
theorem dX11_isRim_18 : decode cX11_isRim 18 = .ok (.iinc 2 1, 3) := by decide +kernel
theorem dX11_isRim_21 : decode cX11_isRim 21 = .ok (.goto (-19), 3) := by decide +kernel
theorem dX11_isRim_24 : decode cX11_isRim 24 = .ok (.iconst 0, 1) := by decide +kernel
theorem dX11_isRim_25 : decode cX11_isRim 25 = .ok (.ireturn, 1) := by decide +kernel
theorem dX11_feed_0 : decode cX11_feed 0 = .ok (.iload_n 1, 1) := by decide +kernel
theorem dX11_feed_1 : decode cX11_feed 1 = .ok (.iconst 1, 1) := by decide +kernel
theorem dX11_feed_2 : decode cX11_feed 2 = .ok (.bipush 8, 2) := by decide +kernel
theorem dX11_feed_4 : decode cX11_feed 4 = .ok (.invokestatic 105, 3) := by decide +kernel
theorem dX11_feed_7 : decode cX11_feed 7 = .ok (.istore 4, 2) := by decide +kernel
theorem dX11_feed_9 : decode cX11_feed 9 = .ok (.iload 4, 2) := by decide +kernel
theorem dX11_feed_11 : decode cX11_feed 11 = .ok (.ifCond .ne 18, 3) := by decide +kernel
theorem dX11_feed_14 : decode cX11_feed 14 = .ok (.aload_n 0, 1) := by decide +kernel
theorem dX11_feed_15 : decode cX11_feed 15 = .ok (.getfield 109, 3) := by decide +kernel
theorem dX11_feed_18 : decode cX11_feed 18 = .ok (.iload_n 1, 1) := by decide +kernel
theorem dX11_feed_19 : decode cX11_feed 19 = .ok (.iadd, 1) := by decide +kernel
theorem dX11_feed_20 : decode cX11_feed 20 = .ok (.bipush 64, 2) := by decide +kernel
theorem dX11_feed_22 : decode cX11_feed 22 = .ok (.if_icmp .le 7, 3) := by decide +kernel
theorem dX11_feed_25 : decode cX11_feed 25 = .ok (.bipush (-6), 2) := by decide +kernel
theorem dX11_feed_27 : decode cX11_feed 27 = .ok (.istore 4, 2) := by decide +kernel
theorem dX11_feed_29 : decode cX11_feed 29 = .ok (.iload 4, 2) := by decide +kernel
theorem dX11_feed_31 : decode cX11_feed 31 = .ok (.ifCond .eq 10, 3) := by decide +kernel
theorem dX11_feed_34 : decode cX11_feed 34 = .ok (.aload_n 0, 1) := by decide +kernel
theorem dX11_feed_35 : decode cX11_feed 35 = .ok (.iload 4, 2) := by decide +kernel
theorem dX11_feed_37 : decode cX11_feed 37 = .ok (.invokevirtual 112, 3) := by decide +kernel
theorem dX11_feed_40 : decode cX11_feed 40 = .ok (.ireturn, 1) := by decide +kernel
theorem dX11_feed_41 : decode cX11_feed 41 = .ok (.iconst 0, 1) := by decide +kernel
theorem dX11_feed_42 : decode cX11_feed 42 = .ok (.istore 5, 2) := by decide +kernel
theorem dX11_feed_44 : decode cX11_feed 44 = .ok (.iload 5, 2) := by decide +kernel
theorem dX11_feed_46 : decode cX11_feed 46 = .ok (.iload_n 1, 1) := by decide +kernel
theorem dX11_feed_47 : decode cX11_feed 47 = .ok (.if_icmp .ge 40, 3) := by decide +kernel
theorem dX11_feed_50 : decode cX11_feed 50 = .ok (.aload_n 0, 1) := by decide +kernel
theorem dX11_feed_51 : decode cX11_feed 51 = .ok (.getfield 43, 3) := by decide +kernel
theorem dX11_feed_54 : decode cX11_feed 54 = .ok (.aload_n 0, 1) := by decide +kernel
theorem dX11_feed_55 : decode cX11_feed 55 = .ok (.getfield 109, 3) := by decide +kernel
theorem dX11_feed_58 : decode cX11_feed 58 = .ok (.lload_n 2, 1) := by decide +kernel
theorem dX11_feed_59 : decode cX11_feed 59 = .ok (.bipush 8, 2) := by decide +kernel
theorem dX11_feed_61 : decode cX11_feed 61 = .ok (.iload 5, 2) := by decide +kernel
theorem dX11_feed_63 : decode cX11_feed 63 = .ok (.imul, 1) := by decide +kernel
theorem dX11_feed_64 : decode cX11_feed 64 = .ok (.lshr, 1) := by decide +kernel
theorem dX11_feed_65 : decode cX11_feed 65 = .ok (.ldc2_w 116, 3) := by decide +kernel
theorem dX11_feed_68 : decode cX11_feed 68 = .ok (.land, 1) := by decide +kernel
theorem dX11_feed_69 : decode cX11_feed 69 = .ok (.l2i, 1) := by decide +kernel
theorem dX11_feed_70 : decode cX11_feed 70 = .ok (.iastore, 1) := by decide +kernel
theorem dX11_feed_71 : decode cX11_feed 71 = .ok (.aload_n 0, 1) := by decide +kernel
theorem dX11_feed_72 : decode cX11_feed 72 = .ok (.dup, 1) := by decide +kernel
theorem dX11_feed_73 : decode cX11_feed 73 = .ok (.getfield 109, 3) := by decide +kernel
theorem dX11_feed_76 : decode cX11_feed 76 = .ok (.iconst 1, 1) := by decide +kernel
theorem dX11_feed_77 : decode cX11_feed 77 = .ok (.iadd, 1) := by decide +kernel
theorem dX11_feed_78 : decode cX11_feed 78 = .ok (.putfield 109, 3) := by decide +kernel
theorem dX11_feed_81 : decode cX11_feed 81 = .ok (.iinc 5 1, 3) := by decide +kernel
theorem dX11_feed_84 : decode cX11_feed 84 = .ok (.goto (-40), 3) := by decide +kernel
theorem dX11_feed_87 : decode cX11_feed 87 = .ok (.aload_n 0, 1) := by decide +kernel
theorem dX11_feed_88 : decode cX11_feed 88 = .ok (.getfield 109, 3) := by decide +kernel
theorem dX11_feed_91 : decode cX11_feed 91 = .ok (.ireturn, 1) := by decide +kernel
theorem dX11_nextByte_0 : decode cX11_nextByte 0 = .ok (.aload_n 0, 1) := by decide +kernel
theorem dX11_nextByte_1 : decode cX11_nextByte 1 = .ok (.getfield 118, 3) := by decide +kernel
theorem dX11_nextByte_4 : decode cX11_nextByte 4 = .ok (.aload_n 0, 1) := by decide +kernel
theorem dX11_nextByte_5 : decode cX11_nextByte 5 = .ok (.getfield 109, 3) := by decide +kernel
theorem dX11_nextByte_8 : decode cX11_nextByte 8 = .ok (.if_icmp .ge 15, 3) := by decide +kernel
theorem dX11_nextByte_11 : decode cX11_nextByte 11 = .ok (.aload_n 0, 1) := by decide +kernel
theorem dX11_nextByte_12 : decode cX11_nextByte 12 = .ok (.getfield 43, 3) := by decide +kernel
theorem dX11_nextByte_15 : decode cX11_nextByte 15 = .ok (.aload_n 0, 1) := by decide +kernel
theorem dX11_nextByte_16 : decode cX11_nextByte 16 = .ok (.getfield 118, 3) := by decide +kernel
theorem dX11_nextByte_19 : decode cX11_nextByte 19 = .ok (.iaload, 1) := by decide +kernel
theorem dX11_nextByte_20 : decode cX11_nextByte 20 = .ok (.goto 4, 3) := by decide +kernel
theorem dX11_nextByte_23 : decode cX11_nextByte 23 = .ok (.iconst (-1), 1) := by decide +kernel
theorem dX11_nextByte_24 : decode cX11_nextByte 24 = .ok (.ireturn, 1) := by decide +kernel
theorem dX11_isNext_0 : decode cX11_isNext 0 = .ok (.aload_n 0, 1) := by decide +kernel
theorem dX11_isNext_1 : decode cX11_isNext 1 = .ok (.invokevirtual 121, 3) := by decide +kernel
theorem dX11_isNext_4 : decode cX11_isNext 4 = .ok (.iload_n 1, 1) := by decide +kernel
theorem dX11_isNext_5 : decode cX11_isNext 5 = .ok (.if_icmp .eq 5, 3) := by decide +kernel
theorem dX11_isNext_8 : decode cX11_isNext 8 = .ok (.iconst 0, 1) := by decide +kernel
theorem dX11_isNext_9 : decode cX11_isNext 9 = .ok (.ireturn, 1) := by decide +kernel
theorem dX11_isNext_10 : decode cX11_isNext 10 = .ok (.aload_n 0, 1) := by decide +kernel
theorem dX11_isNext_11 : decode cX11_isNext 11 = .ok (.dup, 1) := by decide +kernel
theorem dX11_isNext_12 : decode cX11_isNext 12 = .ok (.getfield 118, 3) := by decide +kernel
theorem dX11_isNext_15 : decode cX11_isNext 15 = .ok (.iconst 1, 1) := by decide +kernel
theorem dX11_isNext_16 : decode cX11_isNext 16 = .ok (.iadd, 1) := by decide +kernel
theorem dX11_isNext_17 : decode cX11_isNext 17 = .ok (.putfield 118, 3) := by decide +kernel
theorem dX11_isNext_20 : decode cX11_isNext 20 = .ok (.iconst 1, 1) := by decide +kernel
theorem dX11_isNext_21 : decode cX11_isNext 21 = .ok (.ireturn, 1) := by decide +kernel
theorem dX11_number_0 : decode cX11_number 0 = .ok (.aload_n 0, 1) := by decide +kernel
theorem dX11_number_1 : decode cX11_number 1 = .ok (.invokevirtual 121, 3) := by decide +kernel
theorem dX11_number_4 : decode cX11_number 4 = .ok (.bipush 48, 2) := by decide +kernel
theorem dX11_number_6 : decode cX11_number 6 = .ok (.bipush 57, 2) := by decide +kernel
theorem dX11_number_8 : decode cX11_number 8 = .ok (.invokestatic 124, 3) := by decide +kernel
theorem dX11_number_11 : decode cX11_number 11 = .ok (.ifCond .ne 5, 3) := by decide +kernel
theorem dX11_number_14 : decode cX11_number 14 = .ok (.iconst (-1), 1) := by decide +kernel
theorem dX11_number_15 : decode cX11_number 15 = .ok (.ireturn, 1) := by decide +kernel
theorem dX11_number_16 : decode cX11_number 16 = .ok (.iconst 0, 1) := by decide +kernel
theorem dX11_number_17 : decode cX11_number 17 = .ok (.istore_n 2, 1) := by decide +kernel
theorem dX11_number_18 : decode cX11_number 18 = .ok (.iconst 0, 1) := by decide +kernel
theorem dX11_number_19 : decode cX11_number 19 = .ok (.istore_n 3, 1) := by decide +kernel
theorem dX11_number_20 : decode cX11_number 20 = .ok (.iload_n 3, 1) := by decide +kernel
theorem dX11_number_21 : decode cX11_number 21 = .ok (.iload_n 1, 1) := by decide +kernel
theorem dX11_number_22 : decode cX11_number 22 = .ok (.if_icmp .ge 46, 3) := by decide +kernel
theorem dX11_number_25 : decode cX11_number 25 = .ok (.aload_n 0, 1) := by decide +kernel
theorem dX11_number_26 : decode cX11_number 26 = .ok (.invokevirtual 121, 3) := by decide +kernel
theorem dX11_number_29 : decode cX11_number 29 = .ok (.bipush 48, 2) := by decide +kernel
theorem dX11_number_31 : decode cX11_number 31 = .ok (.bipush 57, 2) := by decide +kernel
theorem dX11_number_33 : decode cX11_number 33 = .ok (.invokestatic 124, 3) := by decide +kernel
theorem dX11_number_36 : decode cX11_number 36 = .ok (.ifCond .eq 32, 3) := by decide +kernel
theorem dX11_number_39 : decode cX11_number 39 = .ok (.bipush 10, 2) := by decide +kernel
theorem dX11_number_41 : decode cX11_number 41 = .ok (.iload_n 2, 1) := by decide +kernel
theorem dX11_number_42 : decode cX11_number 42 = .ok (.imul, 1) := by decide +kernel
theorem dX11_number_43 : decode cX11_number 43 = .ok (.aload_n 0, 1) := by decide +kernel
theorem dX11_number_44 : decode cX11_number 44 = .ok (.invokevirtual 121, 3) := by decide +kernel
theorem dX11_number_47 : decode cX11_number 47 = .ok (.iadd, 1) := by decide +kernel
theorem dX11_number_48 : decode cX11_number 48 = .ok (.bipush 48, 2) := by decide +kernel
theorem dX11_number_50 : decode cX11_number 50 = .ok (.isub, 1) := by decide +kernel
theorem dX11_number_51 : decode cX11_number 51 = .ok (.istore_n 2, 1) := by decide +kernel
theorem dX11_number_52 : decode cX11_number 52 = .ok (.aload_n 0, 1) := by decide +kernel
theorem dX11_number_53 : decode cX11_number 53 = .ok (.dup, 1) := by decide +kernel
theorem dX11_number_54 : decode cX11_number 54 = .ok (.getfield 118, 3) := by decide +kernel
theorem dX11_number_57 : decode cX11_number 57 = .ok (.iconst 1, 1) := by decide +kernel
theorem dX11_number_58 : decode cX11_number 58 = .ok (.iadd, 1) := by decide +kernel
theorem dX11_number_59 : decode cX11_number 59 = .ok (.putfield 118, 3) := by decide +kernel
theorem dX11_number_62 : decode cX11_number 62 = .ok (.iinc 3 1, 3) := by decide +kernel
theorem dX11_number_65 : decode cX11_number 65 = .ok (.goto (-45), 3) := by decide +kernel
theorem dX11_number_68 : decode cX11_number 68 = .ok (.iload_n 2, 1) := by decide +kernel
theorem dX11_number_69 : decode cX11_number 69 = .ok (.ireturn, 1) := by decide +kernel
theorem dX11_kindOf_0 : decode cX11_kindOf 0 = .ok (.iload_n 0, 1) := by decide +kernel
theorem dX11_kindOf_1 : decode cX11_kindOf 1 = .ok (.lookupswitch 61 #[(99, 53), (101, 55), (102, 51), (108, 57), (115, 59)], 51) := by decide +kernel
theorem dX11_kindOf_52 : decode cX11_kindOf 52 = .ok (.iconst 0, 1) := by decide +kernel
theorem dX11_kindOf_53 : decode cX11_kindOf 53 = .ok (.ireturn, 1) := by decide +kernel
theorem dX11_kindOf_54 : decode cX11_kindOf 54 = .ok (.iconst 1, 1) := by decide +kernel
theorem dX11_kindOf_55 : decode cX11_kindOf 55 = .ok (.ireturn, 1) := by decide +kernel
theorem dX11_kindOf_56 : decode cX11_kindOf 56 = .ok (.iconst 2, 1) := by decide +kernel
theorem dX11_kindOf_57 : decode cX11_kindOf 57 = .ok (.ireturn, 1) := by decide +kernel
theorem dX11_kindOf_58 : decode cX11_kindOf 58 = .ok (.iconst 3, 1) := by decide +kernel
theorem dX11_kindOf_59 : decode cX11_kindOf 59 = .ok (.ireturn, 1) := by decide +kernel
theorem dX11_kindOf_60 : decode cX11_kindOf 60 = .ok (.iconst 4, 1) := by decide +kernel
theorem dX11_kindOf_61 : decode cX11_kindOf 61 = .ok (.ireturn, 1) := by decide +kernel
theorem dX11_kindOf_62 : decode cX11_kindOf 62 = .ok (.iconst (-1), 1) := by decide +kernel
theorem dX11_kindOf_63 : decode cX11_kindOf 63 = .ok (.ireturn, 1) := by decide +kernel
theorem dX11_readsEdge_0 : decode cX11_readsEdge 0 = .ok (.aload_n 0, 1) := by decide +kernel
theorem dX11_readsEdge_1 : decode cX11_readsEdge 1 = .ok (.getfield 52, 3) := by decide +kernel
theorem dX11_readsEdge_4 : decode cX11_readsEdge 4 = .ok (.iload_n 1, 1) := by decide +kernel
theorem dX11_readsEdge_5 : decode cX11_readsEdge 5 = .ok (.aload_n 0, 1) := by decide +kernel
theorem dX11_readsEdge_6 : decode cX11_readsEdge 6 = .ok (.iconst 2, 1) := by decide +kernel
theorem dX11_readsEdge_7 : decode cX11_readsEdge 7 = .ok (.invokevirtual 128, 3) := by decide +kernel
theorem dX11_readsEdge_10 : decode cX11_readsEdge 10 = .ok (.iastore, 1) := by decide +kernel
theorem dX11_readsEdge_11 : decode cX11_readsEdge 11 = .ok (.aload_n 0, 1) := by decide +kernel
theorem dX11_readsEdge_12 : decode cX11_readsEdge 12 = .ok (.getfield 52, 3) := by decide +kernel
theorem dX11_readsEdge_15 : decode cX11_readsEdge 15 = .ok (.iload_n 1, 1) := by decide +kernel
theorem dX11_readsEdge_16 : decode cX11_readsEdge 16 = .ok (.iaload, 1) := by decide +kernel
theorem dX11_readsEdge_17 : decode cX11_readsEdge 17 = .ok (.ifCond .ge 5, 3) := by decide +kernel
theorem dX11_readsEdge_20 : decode cX11_readsEdge 20 = .ok (.iconst 0, 1) := by decide +kernel
theorem dX11_readsEdge_21 : decode cX11_readsEdge 21 = .ok (.ireturn, 1) := by decide +kernel
theorem dX11_readsEdge_22 : decode cX11_readsEdge 22 = .ok (.aload_n 0, 1) := by decide +kernel
theorem dX11_readsEdge_23 : decode cX11_readsEdge 23 = .ok (.getfield 55, 3) := by decide +kernel
theorem dX11_readsEdge_26 : decode cX11_readsEdge 26 = .ok (.iload_n 1, 1) := by decide +kernel
theorem dX11_readsEdge_27 : decode cX11_readsEdge 27 = .ok (.aload_n 0, 1) := by decide +kernel
theorem dX11_readsEdge_28 : decode cX11_readsEdge 28 = .ok (.invokevirtual 121, 3) := by decide +kernel
theorem dX11_readsEdge_31 : decode cX11_readsEdge 31 = .ok (.bipush 114, 2) := by decide +kernel
theorem dX11_readsEdge_33 : decode cX11_readsEdge 33 = .ok (.if_icmp .ne 7, 3) := by decide +kernel
theorem dX11_readsEdge_36 : decode cX11_readsEdge 36 = .ok (.iconst 0, 1) := by decide +kernel
theorem dX11_readsEdge_37 : decode cX11_readsEdge 37 = .ok (.goto 17, 3) := by decide +kernel
theorem dX11_readsEdge_40 : decode cX11_readsEdge 40 = .ok (.aload_n 0, 1) := by decide +kernel
theorem dX11_readsEdge_41 : decode cX11_readsEdge 41 = .ok (.invokevirtual 121, 3) := by decide +kernel
theorem dX11_readsEdge_44 : decode cX11_readsEdge 44 = .ok (.bipush 100, 2) := by decide +kernel
theorem dX11_readsEdge_46 : decode cX11_readsEdge 46 = .ok (.if_icmp .ne 7, 3) := by decide +kernel
theorem dX11_readsEdge_49 : decode cX11_readsEdge 49 = .ok (.iconst 1, 1) := by decide +kernel
theorem dX11_readsEdge_50 : decode cX11_readsEdge 50 = .ok (.goto 4, 3) := by decide +kernel
theorem dX11_readsEdge_53 : decode cX11_readsEdge 53 = .ok (.iconst (-1), 1) := by decide +kernel
theorem dX11_readsEdge_54 : decode cX11_readsEdge 54 = .ok (.iastore, 1) := by decide +kernel
theorem dX11_readsEdge_55 : decode cX11_readsEdge 55 = .ok (.aload_n 0, 1) := by decide +kernel
theorem dX11_readsEdge_56 : decode cX11_readsEdge 56 = .ok (.getfield 55, 3) := by decide +kernel
theorem dX11_readsEdge_59 : decode cX11_readsEdge 59 = .ok (.iload_n 1, 1) := by decide +kernel
theorem dX11_readsEdge_60 : decode cX11_readsEdge 60 = .ok (.iaload, 1) := by decide +kernel
theorem dX11_readsEdge_61 : decode cX11_readsEdge 61 = .ok (.ifCond .ge 5, 3) := by decide +kernel
theorem dX11_readsEdge_64 : decode cX11_readsEdge 64 = .ok (.iconst 0, 1) := by decide +kernel
theorem dX11_readsEdge_65 : decode cX11_readsEdge 65 = .ok (.ireturn, 1) := by decide +kernel
theorem dX11_readsEdge_66 : decode cX11_readsEdge 66 = .ok (.aload_n 0, 1) := by decide +kernel
theorem dX11_readsEdge_67 : decode cX11_readsEdge 67 = .ok (.dup, 1) := by decide +kernel
theorem dX11_readsEdge_68 : decode cX11_readsEdge 68 = .ok (.getfield 118, 3) := by decide +kernel
theorem dX11_readsEdge_71 : decode cX11_readsEdge 71 = .ok (.iconst 1, 1) := by decide +kernel
theorem dX11_readsEdge_72 : decode cX11_readsEdge 72 = .ok (.iadd, 1) := by decide +kernel
theorem dX11_readsEdge_73 : decode cX11_readsEdge 73 = .ok (.putfield 118, 3) := by decide +kernel
theorem dX11_readsEdge_76 : decode cX11_readsEdge 76 = .ok (.aload_n 0, 1) := by decide +kernel
theorem dX11_readsEdge_77 : decode cX11_readsEdge 77 = .ok (.invokevirtual 121, 3) := by decide +kernel
theorem dX11_readsEdge_80 : decode cX11_readsEdge 80 = .ok (.bipush 43, 2) := by decide +kernel
theorem dX11_readsEdge_82 : decode cX11_readsEdge 82 = .ok (.if_icmp .ne 7, 3) := by decide +kernel
theorem dX11_readsEdge_85 : decode cX11_readsEdge 85 = .ok (.iconst 1, 1) := by decide +kernel
theorem dX11_readsEdge_86 : decode cX11_readsEdge 86 = .ok (.goto 17, 3) := by decide +kernel
theorem dX11_readsEdge_89 : decode cX11_readsEdge 89 = .ok (.aload_n 0, 1) := by decide +kernel
theorem dX11_readsEdge_90 : decode cX11_readsEdge 90 = .ok (.invokevirtual 121, 3) := by decide +kernel
theorem dX11_readsEdge_93 : decode cX11_readsEdge 93 = .ok (.bipush 45, 2) := by decide +kernel
theorem dX11_readsEdge_95 : decode cX11_readsEdge 95 = .ok (.if_icmp .ne 7, 3) := by decide +kernel
theorem dX11_readsEdge_98 : decode cX11_readsEdge 98 = .ok (.iconst (-1), 1) := by decide +kernel
theorem dX11_readsEdge_99 : decode cX11_readsEdge 99 = .ok (.goto 4, 3) := by decide +kernel
theorem dX11_readsEdge_102 : decode cX11_readsEdge 102 = .ok (.iconst 0, 1) := by decide +kernel
theorem dX11_readsEdge_103 : decode cX11_readsEdge 103 = .ok (.istore_n 2, 1) := by decide +kernel
theorem dX11_readsEdge_104 : decode cX11_readsEdge 104 = .ok (.iload_n 2, 1) := by decide +kernel
theorem dX11_readsEdge_105 : decode cX11_readsEdge 105 = .ok (.ifCond .ne 5, 3) := by decide +kernel
theorem dX11_readsEdge_108 : decode cX11_readsEdge 108 = .ok (.iconst 0, 1) := by decide +kernel
theorem dX11_readsEdge_109 : decode cX11_readsEdge 109 = .ok (.ireturn, 1) := by decide +kernel
theorem dX11_readsEdge_110 : decode cX11_readsEdge 110 = .ok (.aload_n 0, 1) := by decide +kernel
theorem dX11_readsEdge_111 : decode cX11_readsEdge 111 = .ok (.dup, 1) := by decide +kernel
theorem dX11_readsEdge_112 : decode cX11_readsEdge 112 = .ok (.getfield 118, 3) := by decide +kernel
theorem dX11_readsEdge_115 : decode cX11_readsEdge 115 = .ok (.iconst 1, 1) := by decide +kernel
end
section
theorem dX11_readsEdge_116 : decode cX11_readsEdge 116 = .ok (.iadd, 1) := by decide +kernel
theorem dX11_readsEdge_117 : decode cX11_readsEdge 117 = .ok (.putfield 118, 3) := by decide +kernel
theorem dX11_readsEdge_120 : decode cX11_readsEdge 120 = .ok (.aload_n 0, 1) := by decide +kernel
theorem dX11_readsEdge_121 : decode cX11_readsEdge 121 = .ok (.iconst 1, 1) := by decide +kernel
theorem dX11_readsEdge_122 : decode cX11_readsEdge 122 = .ok (.invokevirtual 128, 3) := by decide +kernel
theorem dX11_readsEdge_125 : decode cX11_readsEdge 125 = .ok (.istore_n 3, 1) := by decide +kernel
theorem dX11_readsEdge_126 : decode cX11_readsEdge 126 = .ok (.iload_n 3, 1) := by decide +kernel
theorem dX11_readsEdge_127 : decode cX11_readsEdge 127 = .ok (.ifCond .ge 5, 3) := by decide +kernel
theorem dX11_readsEdge_130 : decode cX11_readsEdge 130 = .ok (.iconst 0, 1) := by decide +kernel
theorem dX11_readsEdge_131 : decode cX11_readsEdge 131 = .ok (.ireturn, 1) := by decide +kernel
theorem dX11_readsEdge_132 : decode cX11_readsEdge 132 = .ok (.aload_n 0, 1) := by decide +kernel
theorem dX11_readsEdge_133 : decode cX11_readsEdge 133 = .ok (.getfield 58, 3) := by decide +kernel
theorem dX11_readsEdge_136 : decode cX11_readsEdge 136 = .ok (.iload_n 1, 1) := by decide +kernel
theorem dX11_readsEdge_137 : decode cX11_readsEdge 137 = .ok (.iload_n 2, 1) := by decide +kernel
theorem dX11_readsEdge_138 : decode cX11_readsEdge 138 = .ok (.iload_n 3, 1) := by decide +kernel
theorem dX11_readsEdge_139 : decode cX11_readsEdge 139 = .ok (.imul, 1) := by decide +kernel
theorem dX11_readsEdge_140 : decode cX11_readsEdge 140 = .ok (.iastore, 1) := by decide +kernel
theorem dX11_readsEdge_141 : decode cX11_readsEdge 141 = .ok (.aload_n 0, 1) := by decide +kernel
theorem dX11_readsEdge_142 : decode cX11_readsEdge 142 = .ok (.bipush 59, 2) := by decide +kernel
theorem dX11_readsEdge_144 : decode cX11_readsEdge 144 = .ok (.invokevirtual 131, 3) := by decide +kernel
theorem dX11_readsEdge_147 : decode cX11_readsEdge 147 = .ok (.ireturn, 1) := by decide +kernel
theorem dX11_statement_0 : decode cX11_statement 0 = .ok (.aload_n 0, 1) := by decide +kernel
theorem dX11_statement_1 : decode cX11_statement 1 = .ok (.getfield 135, 3) := by decide +kernel
theorem dX11_statement_4 : decode cX11_statement 4 = .ok (.istore_n 1, 1) := by decide +kernel
theorem dX11_statement_5 : decode cX11_statement 5 = .ok (.aload_n 0, 1) := by decide +kernel
theorem dX11_statement_6 : decode cX11_statement 6 = .ok (.invokevirtual 121, 3) := by decide +kernel
theorem dX11_statement_9 : decode cX11_statement 9 = .ok (.istore_n 2, 1) := by decide +kernel
theorem dX11_statement_10 : decode cX11_statement 10 = .ok (.iload_n 2, 1) := by decide +kernel
theorem dX11_statement_11 : decode cX11_statement 11 = .ok (.bipush 122, 2) := by decide +kernel
theorem dX11_statement_13 : decode cX11_statement 13 = .ok (.if_icmp .eq 23, 3) := by decide +kernel
theorem dX11_statement_16 : decode cX11_statement 16 = .ok (.iload_n 2, 1) := by decide +kernel
theorem dX11_statement_17 : decode cX11_statement 17 = .ok (.bipush 101, 2) := by decide +kernel
theorem dX11_statement_19 : decode cX11_statement 19 = .ok (.if_icmp .eq 17, 3) := by decide +kernel
theorem dX11_statement_22 : decode cX11_statement 22 = .ok (.iload_n 2, 1) := by decide +kernel
theorem dX11_statement_23 : decode cX11_statement 23 = .ok (.bipush 99, 2) := by decide +kernel
theorem dX11_statement_25 : decode cX11_statement 25 = .ok (.if_icmp .eq 11, 3) := by decide +kernel
theorem dX11_statement_28 : decode cX11_statement 28 = .ok (.iload_n 2, 1) := by decide +kernel
theorem dX11_statement_29 : decode cX11_statement 29 = .ok (.bipush 112, 2) := by decide +kernel
theorem dX11_statement_31 : decode cX11_statement 31 = .ok (.if_icmp .eq 5, 3) := by decide +kernel
theorem dX11_statement_34 : decode cX11_statement 34 = .ok (.iconst 0, 1) := by decide +kernel
theorem dX11_statement_35 : decode cX11_statement 35 = .ok (.ireturn, 1) := by decide +kernel
theorem dX11_statement_36 : decode cX11_statement 36 = .ok (.aload_n 0, 1) := by decide +kernel
theorem dX11_statement_37 : decode cX11_statement 37 = .ok (.getfield 46, 3) := by decide +kernel
theorem dX11_statement_40 : decode cX11_statement 40 = .ok (.iload_n 1, 1) := by decide +kernel
theorem dX11_statement_41 : decode cX11_statement 41 = .ok (.iload_n 2, 1) := by decide +kernel
theorem dX11_statement_42 : decode cX11_statement 42 = .ok (.iastore, 1) := by decide +kernel
theorem dX11_statement_43 : decode cX11_statement 43 = .ok (.aload_n 0, 1) := by decide +kernel
theorem dX11_statement_44 : decode cX11_statement 44 = .ok (.getfield 49, 3) := by decide +kernel
theorem dX11_statement_47 : decode cX11_statement 47 = .ok (.iload_n 1, 1) := by decide +kernel
theorem dX11_statement_48 : decode cX11_statement 48 = .ok (.aload_n 0, 1) := by decide +kernel
theorem dX11_statement_49 : decode cX11_statement 49 = .ok (.getfield 118, 3) := by decide +kernel
theorem dX11_statement_52 : decode cX11_statement 52 = .ok (.iastore, 1) := by decide +kernel
theorem dX11_statement_53 : decode cX11_statement 53 = .ok (.aload_n 0, 1) := by decide +kernel
theorem dX11_statement_54 : decode cX11_statement 54 = .ok (.dup, 1) := by decide +kernel
theorem dX11_statement_55 : decode cX11_statement 55 = .ok (.getfield 118, 3) := by decide +kernel
theorem dX11_statement_58 : decode cX11_statement 58 = .ok (.iconst 1, 1) := by decide +kernel
theorem dX11_statement_59 : decode cX11_statement 59 = .ok (.iadd, 1) := by decide +kernel
theorem dX11_statement_60 : decode cX11_statement 60 = .ok (.putfield 118, 3) := by decide +kernel
theorem dX11_statement_63 : decode cX11_statement 63 = .ok (.iload_n 2, 1) := by decide +kernel
theorem dX11_statement_64 : decode cX11_statement 64 = .ok (.bipush 101, 2) := by decide +kernel
theorem dX11_statement_66 : decode cX11_statement 66 = .ok (.if_icmp .ne 9, 3) := by decide +kernel
theorem dX11_statement_69 : decode cX11_statement 69 = .ok (.aload_n 0, 1) := by decide +kernel
theorem dX11_statement_70 : decode cX11_statement 70 = .ok (.iload_n 1, 1) := by decide +kernel
theorem dX11_statement_71 : decode cX11_statement 71 = .ok (.invokevirtual 138, 3) := by decide +kernel
theorem dX11_statement_74 : decode cX11_statement 74 = .ok (.ireturn, 1) := by decide +kernel
theorem dX11_statement_75 : decode cX11_statement 75 = .ok (.iload_n 2, 1) := by decide +kernel
theorem dX11_statement_76 : decode cX11_statement 76 = .ok (.bipush 112, 2) := by decide +kernel
theorem dX11_statement_78 : decode cX11_statement 78 = .ok (.if_icmp .ne 40, 3) := by decide +kernel
theorem dX11_statement_81 : decode cX11_statement 81 = .ok (.aload_n 0, 1) := by decide +kernel
theorem dX11_statement_82 : decode cX11_statement 82 = .ok (.getfield 52, 3) := by decide +kernel
theorem dX11_statement_85 : decode cX11_statement 85 = .ok (.iload_n 1, 1) := by decide +kernel
theorem dX11_statement_86 : decode cX11_statement 86 = .ok (.aload_n 0, 1) := by decide +kernel
theorem dX11_statement_87 : decode cX11_statement 87 = .ok (.invokevirtual 121, 3) := by decide +kernel
theorem dX11_statement_90 : decode cX11_statement 90 = .ok (.invokestatic 141, 3) := by decide +kernel
theorem dX11_statement_93 : decode cX11_statement 93 = .ok (.iastore, 1) := by decide +kernel
theorem dX11_statement_94 : decode cX11_statement 94 = .ok (.aload_n 0, 1) := by decide +kernel
theorem dX11_statement_95 : decode cX11_statement 95 = .ok (.getfield 52, 3) := by decide +kernel
theorem dX11_statement_98 : decode cX11_statement 98 = .ok (.iload_n 1, 1) := by decide +kernel
theorem dX11_statement_99 : decode cX11_statement 99 = .ok (.iaload, 1) := by decide +kernel
theorem dX11_statement_100 : decode cX11_statement 100 = .ok (.ifCond .ge 5, 3) := by decide +kernel
theorem dX11_statement_103 : decode cX11_statement 103 = .ok (.iconst 0, 1) := by decide +kernel
theorem dX11_statement_104 : decode cX11_statement 104 = .ok (.ireturn, 1) := by decide +kernel
theorem dX11_statement_105 : decode cX11_statement 105 = .ok (.aload_n 0, 1) := by decide +kernel
theorem dX11_statement_106 : decode cX11_statement 106 = .ok (.dup, 1) := by decide +kernel
theorem dX11_statement_107 : decode cX11_statement 107 = .ok (.getfield 118, 3) := by decide +kernel
theorem dX11_statement_110 : decode cX11_statement 110 = .ok (.iconst 1, 1) := by decide +kernel
theorem dX11_statement_111 : decode cX11_statement 111 = .ok (.iadd, 1) := by decide +kernel
theorem dX11_statement_112 : decode cX11_statement 112 = .ok (.putfield 118, 3) := by decide +kernel
theorem dX11_statement_115 : decode cX11_statement 115 = .ok (.goto 50, 3) := by decide +kernel
theorem dX11_statement_118 : decode cX11_statement 118 = .ok (.aload_n 0, 1) := by decide +kernel
theorem dX11_statement_119 : decode cX11_statement 119 = .ok (.getfield 52, 3) := by decide +kernel
theorem dX11_statement_122 : decode cX11_statement 122 = .ok (.iload_n 1, 1) := by decide +kernel
theorem dX11_statement_123 : decode cX11_statement 123 = .ok (.aload_n 0, 1) := by decide +kernel
theorem dX11_statement_124 : decode cX11_statement 124 = .ok (.iload_n 2, 1) := by decide +kernel
theorem dX11_statement_125 : decode cX11_statement 125 = .ok (.bipush 122, 2) := by decide +kernel
theorem dX11_statement_127 : decode cX11_statement 127 = .ok (.if_icmp .ne 7, 3) := by decide +kernel
theorem dX11_statement_130 : decode cX11_statement 130 = .ok (.iconst 1, 1) := by decide +kernel
theorem dX11_statement_131 : decode cX11_statement 131 = .ok (.goto 4, 3) := by decide +kernel
theorem dX11_statement_134 : decode cX11_statement 134 = .ok (.iconst 2, 1) := by decide +kernel
theorem dX11_statement_135 : decode cX11_statement 135 = .ok (.invokevirtual 128, 3) := by decide +kernel
theorem dX11_statement_138 : decode cX11_statement 138 = .ok (.iastore, 1) := by decide +kernel
theorem dX11_statement_139 : decode cX11_statement 139 = .ok (.aload_n 0, 1) := by decide +kernel
theorem dX11_statement_140 : decode cX11_statement 140 = .ok (.getfield 52, 3) := by decide +kernel
theorem dX11_statement_143 : decode cX11_statement 143 = .ok (.iload_n 1, 1) := by decide +kernel
theorem dX11_statement_144 : decode cX11_statement 144 = .ok (.iaload, 1) := by decide +kernel
theorem dX11_statement_145 : decode cX11_statement 145 = .ok (.ifCond .lt 18, 3) := by decide +kernel
theorem dX11_statement_148 : decode cX11_statement 148 = .ok (.iload_n 2, 1) := by decide +kernel
theorem dX11_statement_149 : decode cX11_statement 149 = .ok (.bipush 99, 2) := by decide +kernel
theorem dX11_statement_151 : decode cX11_statement 151 = .ok (.if_icmp .ne 14, 3) := by decide +kernel
theorem dX11_statement_154 : decode cX11_statement 154 = .ok (.aload_n 0, 1) := by decide +kernel
theorem dX11_statement_155 : decode cX11_statement 155 = .ok (.bipush 44, 2) := by decide +kernel
theorem dX11_statement_157 : decode cX11_statement 157 = .ok (.invokevirtual 131, 3) := by decide +kernel
theorem dX11_statement_160 : decode cX11_statement 160 = .ok (.ifCond .ne 5, 3) := by decide +kernel
theorem dX11_statement_163 : decode cX11_statement 163 = .ok (.iconst 0, 1) := by decide +kernel
theorem dX11_statement_164 : decode cX11_statement 164 = .ok (.ireturn, 1) := by decide +kernel
theorem dX11_statement_165 : decode cX11_statement 165 = .ok (.aload_n 0, 1) := by decide +kernel
theorem dX11_statement_166 : decode cX11_statement 166 = .ok (.getfield 55, 3) := by decide +kernel
theorem dX11_statement_169 : decode cX11_statement 169 = .ok (.iload_n 1, 1) := by decide +kernel
theorem dX11_statement_170 : decode cX11_statement 170 = .ok (.aload_n 0, 1) := by decide +kernel
theorem dX11_statement_171 : decode cX11_statement 171 = .ok (.iconst 1, 1) := by decide +kernel
theorem dX11_statement_172 : decode cX11_statement 172 = .ok (.invokevirtual 128, 3) := by decide +kernel
theorem dX11_statement_175 : decode cX11_statement 175 = .ok (.iastore, 1) := by decide +kernel
theorem dX11_statement_176 : decode cX11_statement 176 = .ok (.aload_n 0, 1) := by decide +kernel
theorem dX11_statement_177 : decode cX11_statement 177 = .ok (.getfield 55, 3) := by decide +kernel
theorem dX11_statement_180 : decode cX11_statement 180 = .ok (.iload_n 1, 1) := by decide +kernel
theorem dX11_statement_181 : decode cX11_statement 181 = .ok (.iaload, 1) := by decide +kernel
theorem dX11_statement_182 : decode cX11_statement 182 = .ok (.ifCond .lt 16, 3) := by decide +kernel
theorem dX11_statement_185 : decode cX11_statement 185 = .ok (.aload_n 0, 1) := by decide +kernel
theorem dX11_statement_186 : decode cX11_statement 186 = .ok (.bipush 59, 2) := by decide +kernel
theorem dX11_statement_188 : decode cX11_statement 188 = .ok (.invokevirtual 131, 3) := by decide +kernel
theorem dX11_statement_191 : decode cX11_statement 191 = .ok (.ifCond .eq 7, 3) := by decide +kernel
theorem dX11_statement_194 : decode cX11_statement 194 = .ok (.iconst 1, 1) := by decide +kernel
theorem dX11_statement_195 : decode cX11_statement 195 = .ok (.goto 4, 3) := by decide +kernel
theorem dX11_statement_198 : decode cX11_statement 198 = .ok (.iconst 0, 1) := by decide +kernel
theorem dX11_statement_199 : decode cX11_statement 199 = .ok (.ireturn, 1) := by decide +kernel
theorem dX11_comes_0 : decode cX11_comes 0 = .ok (.aload_n 0, 1) := by decide +kernel
theorem dX11_comes_1 : decode cX11_comes 1 = .ok (.getfield 52, 3) := by decide +kernel
theorem dX11_comes_4 : decode cX11_comes 4 = .ok (.iload_n 1, 1) := by decide +kernel
theorem dX11_comes_5 : decode cX11_comes 5 = .ok (.iaload, 1) := by decide +kernel
theorem dX11_comes_6 : decode cX11_comes 6 = .ok (.istore_n 2, 1) := by decide +kernel
theorem dX11_comes_7 : decode cX11_comes 7 = .ok (.aload_n 0, 1) := by decide +kernel
theorem dX11_comes_8 : decode cX11_comes 8 = .ok (.getfield 55, 3) := by decide +kernel
theorem dX11_comes_11 : decode cX11_comes 11 = .ok (.iload_n 1, 1) := by decide +kernel
theorem dX11_comes_12 : decode cX11_comes 12 = .ok (.iaload, 1) := by decide +kernel
theorem dX11_comes_13 : decode cX11_comes 13 = .ok (.istore_n 3, 1) := by decide +kernel
theorem dX11_comes_14 : decode cX11_comes 14 = .ok (.aload_n 0, 1) := by decide +kernel
theorem dX11_comes_15 : decode cX11_comes 15 = .ok (.getfield 46, 3) := by decide +kernel
theorem dX11_comes_18 : decode cX11_comes 18 = .ok (.iload_n 1, 1) := by decide +kernel
theorem dX11_comes_19 : decode cX11_comes 19 = .ok (.iaload, 1) := by decide +kernel
theorem dX11_comes_20 : decode cX11_comes 20 = .ok (.lookupswitch 146 #[(99, 127), (101, 64), (122, 36)], 36) := by decide +kernel
theorem dX11_comes_56 : decode cX11_comes 56 = .ok (.iload_n 2, 1) := by decide +kernel
theorem dX11_comes_57 : decode cX11_comes 57 = .ok (.iconst 2, 1) := by decide +kernel
theorem dX11_comes_58 : decode cX11_comes 58 = .ok (.iconst 4, 1) := by decide +kernel
theorem dX11_comes_59 : decode cX11_comes 59 = .ok (.invokestatic 124, 3) := by decide +kernel
theorem dX11_comes_62 : decode cX11_comes 62 = .ok (.ifCond .eq 12, 3) := by decide +kernel
theorem dX11_comes_65 : decode cX11_comes 65 = .ok (.iload_n 3, 1) := by decide +kernel
theorem dX11_comes_66 : decode cX11_comes 66 = .ok (.iconst 2, 1) := by decide +kernel
theorem dX11_comes_67 : decode cX11_comes 67 = .ok (.iconst 4, 1) := by decide +kernel
theorem dX11_comes_68 : decode cX11_comes 68 = .ok (.invokestatic 124, 3) := by decide +kernel
theorem dX11_comes_71 : decode cX11_comes 71 = .ok (.ifCond .ne 5, 3) := by decide +kernel
theorem dX11_comes_74 : decode cX11_comes 74 = .ok (.iconst 0, 1) := by decide +kernel
theorem dX11_comes_75 : decode cX11_comes 75 = .ok (.ireturn, 1) := by decide +kernel
theorem dX11_comes_76 : decode cX11_comes 76 = .ok (.aload_n 0, 1) := by decide +kernel
theorem dX11_comes_77 : decode cX11_comes 77 = .ok (.iload_n 2, 1) := by decide +kernel
theorem dX11_comes_78 : decode cX11_comes 78 = .ok (.iload_n 3, 1) := by decide +kernel
theorem dX11_comes_79 : decode cX11_comes 79 = .ok (.invokevirtual 79, 3) := by decide +kernel
theorem dX11_comes_82 : decode cX11_comes 82 = .ok (.iconst 1, 1) := by decide +kernel
theorem dX11_comes_83 : decode cX11_comes 83 = .ok (.ireturn, 1) := by decide +kernel
theorem dX11_comes_84 : decode cX11_comes 84 = .ok (.aload_n 0, 1) := by decide +kernel
theorem dX11_comes_85 : decode cX11_comes 85 = .ok (.iload_n 2, 1) := by decide +kernel
theorem dX11_comes_86 : decode cX11_comes 86 = .ok (.invokevirtual 144, 3) := by decide +kernel
theorem dX11_comes_89 : decode cX11_comes 89 = .ok (.ifCond .eq 23, 3) := by decide +kernel
theorem dX11_comes_92 : decode cX11_comes 92 = .ok (.aload_n 0, 1) := by decide +kernel
theorem dX11_comes_93 : decode cX11_comes 93 = .ok (.iload_n 2, 1) := by decide +kernel
theorem dX11_comes_94 : decode cX11_comes 94 = .ok (.iload_n 3, 1) := by decide +kernel
theorem dX11_comes_95 : decode cX11_comes 95 = .ok (.iconst 1, 1) := by decide +kernel
theorem dX11_comes_96 : decode cX11_comes 96 = .ok (.iadd, 1) := by decide +kernel
theorem dX11_comes_97 : decode cX11_comes 97 = .ok (.invokevirtual 98, 3) := by decide +kernel
theorem dX11_comes_100 : decode cX11_comes 100 = .ok (.ifCond .lt 12, 3) := by decide +kernel
theorem dX11_comes_103 : decode cX11_comes 103 = .ok (.aload_n 0, 1) := by decide +kernel
theorem dX11_comes_104 : decode cX11_comes 104 = .ok (.getfield 58, 3) := by decide +kernel
theorem dX11_comes_107 : decode cX11_comes 107 = .ok (.iload_n 1, 1) := by decide +kernel
theorem dX11_comes_108 : decode cX11_comes 108 = .ok (.iaload, 1) := by decide +kernel
theorem dX11_comes_109 : decode cX11_comes 109 = .ok (.ifCond .ne 5, 3) := by decide +kernel
theorem dX11_comes_112 : decode cX11_comes 112 = .ok (.iconst 0, 1) := by decide +kernel
theorem dX11_comes_113 : decode cX11_comes 113 = .ok (.ireturn, 1) := by decide +kernel
theorem dX11_comes_114 : decode cX11_comes 114 = .ok (.iload_n 3, 1) := by decide +kernel
theorem dX11_comes_115 : decode cX11_comes 115 = .ok (.ifCond .ne 18, 3) := by decide +kernel
theorem dX11_comes_118 : decode cX11_comes 118 = .ok (.aload_n 0, 1) := by decide +kernel
theorem dX11_comes_119 : decode cX11_comes 119 = .ok (.getfield 13, 3) := by decide +kernel
theorem dX11_comes_122 : decode cX11_comes 122 = .ok (.iload_n 2, 1) := by decide +kernel
theorem dX11_comes_123 : decode cX11_comes 123 = .ok (.aload_n 0, 1) := by decide +kernel
theorem dX11_comes_124 : decode cX11_comes 124 = .ok (.getfield 58, 3) := by decide +kernel
theorem dX11_comes_127 : decode cX11_comes 127 = .ok (.iload_n 1, 1) := by decide +kernel
theorem dX11_comes_128 : decode cX11_comes 128 = .ok (.iaload, 1) := by decide +kernel
theorem dX11_comes_129 : decode cX11_comes 129 = .ok (.iastore, 1) := by decide +kernel
theorem dX11_comes_130 : decode cX11_comes 130 = .ok (.goto 15, 3) := by decide +kernel
theorem dX11_comes_133 : decode cX11_comes 133 = .ok (.aload_n 0, 1) := by decide +kernel
theorem dX11_comes_134 : decode cX11_comes 134 = .ok (.getfield 16, 3) := by decide +kernel
theorem dX11_comes_137 : decode cX11_comes 137 = .ok (.iload_n 2, 1) := by decide +kernel
theorem dX11_comes_138 : decode cX11_comes 138 = .ok (.aload_n 0, 1) := by decide +kernel
theorem dX11_comes_139 : decode cX11_comes 139 = .ok (.getfield 58, 3) := by decide +kernel
theorem dX11_comes_142 : decode cX11_comes 142 = .ok (.iload_n 1, 1) := by decide +kernel
theorem dX11_comes_143 : decode cX11_comes 143 = .ok (.iaload, 1) := by decide +kernel
theorem dX11_comes_144 : decode cX11_comes 144 = .ok (.iastore, 1) := by decide +kernel
theorem dX11_comes_145 : decode cX11_comes 145 = .ok (.iconst 1, 1) := by decide +kernel
theorem dX11_comes_146 : decode cX11_comes 146 = .ok (.ireturn, 1) := by decide +kernel
theorem dX11_comes_147 : decode cX11_comes 147 = .ok (.aload_n 0, 1) := by decide +kernel
theorem dX11_comes_148 : decode cX11_comes 148 = .ok (.iload_n 2, 1) := by decide +kernel
theorem dX11_comes_149 : decode cX11_comes 149 = .ok (.invokevirtual 144, 3) := by decide +kernel
theorem dX11_comes_152 : decode cX11_comes 152 = .ok (.ifCond .ne 5, 3) := by decide +kernel
theorem dX11_comes_155 : decode cX11_comes 155 = .ok (.iconst 0, 1) := by decide +kernel
theorem dX11_comes_156 : decode cX11_comes 156 = .ok (.ireturn, 1) := by decide +kernel
theorem dX11_comes_157 : decode cX11_comes 157 = .ok (.aload_n 0, 1) := by decide +kernel
theorem dX11_comes_158 : decode cX11_comes 158 = .ok (.getfield 19, 3) := by decide +kernel
theorem dX11_comes_161 : decode cX11_comes 161 = .ok (.iload_n 2, 1) := by decide +kernel
theorem dX11_comes_162 : decode cX11_comes 162 = .ok (.iload_n 3, 1) := by decide +kernel
theorem dX11_comes_163 : decode cX11_comes 163 = .ok (.iastore, 1) := by decide +kernel
theorem dX11_comes_164 : decode cX11_comes 164 = .ok (.iconst 1, 1) := by decide +kernel
theorem dX11_comes_165 : decode cX11_comes 165 = .ok (.ireturn, 1) := by decide +kernel
theorem dX11_comes_166 : decode cX11_comes 166 = .ok (.iload_n 3, 1) := by decide +kernel
theorem dX11_comes_167 : decode cX11_comes 167 = .ok (.ifCond .eq 12, 3) := by decide +kernel
theorem dX11_comes_170 : decode cX11_comes 170 = .ok (.aload_n 0, 1) := by decide +kernel
theorem dX11_comes_171 : decode cX11_comes 171 = .ok (.getfield 95, 3) := by decide +kernel
theorem dX11_comes_174 : decode cX11_comes 174 = .ok (.bipush 6, 2) := by decide +kernel
theorem dX11_comes_176 : decode cX11_comes 176 = .ok (.if_icmp .ne 5, 3) := by decide +kernel
theorem dX11_comes_179 : decode cX11_comes 179 = .ok (.iconst 0, 1) := by decide +kernel
theorem dX11_comes_180 : decode cX11_comes 180 = .ok (.ireturn, 1) := by decide +kernel
theorem dX11_comes_181 : decode cX11_comes 181 = .ok (.aload_n 0, 1) := by decide +kernel
theorem dX11_comes_182 : decode cX11_comes 182 = .ok (.getfield 34, 3) := by decide +kernel
theorem dX11_comes_185 : decode cX11_comes 185 = .ok (.aload_n 0, 1) := by decide +kernel
theorem dX11_comes_186 : decode cX11_comes 186 = .ok (.getfield 95, 3) := by decide +kernel
theorem dX11_comes_189 : decode cX11_comes 189 = .ok (.iload_n 2, 1) := by decide +kernel
theorem dX11_comes_190 : decode cX11_comes 190 = .ok (.iastore, 1) := by decide +kernel
theorem dX11_comes_191 : decode cX11_comes 191 = .ok (.aload_n 0, 1) := by decide +kernel
theorem dX11_comes_192 : decode cX11_comes 192 = .ok (.getfield 37, 3) := by decide +kernel
theorem dX11_comes_195 : decode cX11_comes 195 = .ok (.aload_n 0, 1) := by decide +kernel
theorem dX11_comes_196 : decode cX11_comes 196 = .ok (.getfield 95, 3) := by decide +kernel
theorem dX11_comes_199 : decode cX11_comes 199 = .ok (.iload_n 3, 1) := by decide +kernel
theorem dX11_comes_200 : decode cX11_comes 200 = .ok (.iastore, 1) := by decide +kernel
theorem dX11_comes_201 : decode cX11_comes 201 = .ok (.aload_n 0, 1) := by decide +kernel
theorem dX11_comes_202 : decode cX11_comes 202 = .ok (.getfield 40, 3) := by decide +kernel
theorem dX11_comes_205 : decode cX11_comes 205 = .ok (.aload_n 0, 1) := by decide +kernel
theorem dX11_comes_206 : decode cX11_comes 206 = .ok (.getfield 95, 3) := by decide +kernel
theorem dX11_comes_209 : decode cX11_comes 209 = .ok (.iconst 0, 1) := by decide +kernel
theorem dX11_comes_210 : decode cX11_comes 210 = .ok (.iastore, 1) := by decide +kernel
theorem dX11_comes_211 : decode cX11_comes 211 = .ok (.aload_n 0, 1) := by decide +kernel
theorem dX11_comes_212 : decode cX11_comes 212 = .ok (.dup, 1) := by decide +kernel
theorem dX11_comes_213 : decode cX11_comes 213 = .ok (.getfield 95, 3) := by decide +kernel
theorem dX11_comes_216 : decode cX11_comes 216 = .ok (.iconst 1, 1) := by decide +kernel
theorem dX11_comes_217 : decode cX11_comes 217 = .ok (.iadd, 1) := by decide +kernel
theorem dX11_comes_218 : decode cX11_comes 218 = .ok (.putfield 95, 3) := by decide +kernel
theorem dX11_comes_221 : decode cX11_comes 221 = .ok (.iconst 1, 1) := by decide +kernel
theorem dX11_comes_222 : decode cX11_comes 222 = .ok (.ireturn, 1) := by decide +kernel
theorem dX11_puzzle_0 : decode cX11_puzzle 0 = .ok (.aload_n 0, 1) := by decide +kernel
theorem dX11_puzzle_1 : decode cX11_puzzle 1 = .ok (.iconst 0, 1) := by decide +kernel
theorem dX11_puzzle_2 : decode cX11_puzzle 2 = .ok (.putfield 118, 3) := by decide +kernel
theorem dX11_puzzle_5 : decode cX11_puzzle 5 = .ok (.aload_n 0, 1) := by decide +kernel
theorem dX11_puzzle_6 : decode cX11_puzzle 6 = .ok (.iconst 0, 1) := by decide +kernel
theorem dX11_puzzle_7 : decode cX11_puzzle 7 = .ok (.putfield 135, 3) := by decide +kernel
theorem dX11_puzzle_10 : decode cX11_puzzle 10 = .ok (.iconst 1, 1) := by decide +kernel
theorem dX11_puzzle_11 : decode cX11_puzzle 11 = .ok (.istore_n 1, 1) := by decide +kernel
theorem dX11_puzzle_12 : decode cX11_puzzle 12 = .ok (.iload_n 1, 1) := by decide +kernel
theorem dX11_puzzle_13 : decode cX11_puzzle 13 = .ok (.ifCond .eq 47, 3) := by decide +kernel
theorem dX11_puzzle_16 : decode cX11_puzzle 16 = .ok (.aload_n 0, 1) := by decide +kernel
theorem dX11_puzzle_17 : decode cX11_puzzle 17 = .ok (.getfield 118, 3) := by decide +kernel
theorem dX11_puzzle_20 : decode cX11_puzzle 20 = .ok (.aload_n 0, 1) := by decide +kernel
theorem dX11_puzzle_21 : decode cX11_puzzle 21 = .ok (.getfield 109, 3) := by decide +kernel
theorem dX11_puzzle_24 : decode cX11_puzzle 24 = .ok (.if_icmp .lt 10, 3) := by decide +kernel
theorem dX11_puzzle_27 : decode cX11_puzzle 27 = .ok (.aload_n 0, 1) := by decide +kernel
theorem dX11_puzzle_28 : decode cX11_puzzle 28 = .ok (.getfield 135, 3) := by decide +kernel
theorem dX11_puzzle_31 : decode cX11_puzzle 31 = .ok (.ifCond .ne 29, 3) := by decide +kernel
theorem dX11_puzzle_34 : decode cX11_puzzle 34 = .ok (.aload_n 0, 1) := by decide +kernel
theorem dX11_puzzle_35 : decode cX11_puzzle 35 = .ok (.invokevirtual 147, 3) := by decide +kernel
theorem dX11_puzzle_38 : decode cX11_puzzle 38 = .ok (.istore_n 1, 1) := by decide +kernel
theorem dX11_puzzle_39 : decode cX11_puzzle 39 = .ok (.aload_n 0, 1) := by decide +kernel
theorem dX11_puzzle_40 : decode cX11_puzzle 40 = .ok (.dup, 1) := by decide +kernel
theorem dX11_puzzle_41 : decode cX11_puzzle 41 = .ok (.getfield 135, 3) := by decide +kernel
theorem dX11_puzzle_44 : decode cX11_puzzle 44 = .ok (.iload_n 1, 1) := by decide +kernel
theorem dX11_puzzle_45 : decode cX11_puzzle 45 = .ok (.ifCond .eq 7, 3) := by decide +kernel
theorem dX11_puzzle_48 : decode cX11_puzzle 48 = .ok (.iconst 1, 1) := by decide +kernel
theorem dX11_puzzle_49 : decode cX11_puzzle 49 = .ok (.goto 4, 3) := by decide +kernel
theorem dX11_puzzle_52 : decode cX11_puzzle 52 = .ok (.iconst 0, 1) := by decide +kernel
theorem dX11_puzzle_53 : decode cX11_puzzle 53 = .ok (.iadd, 1) := by decide +kernel
theorem dX11_puzzle_54 : decode cX11_puzzle 54 = .ok (.putfield 135, 3) := by decide +kernel
theorem dX11_puzzle_57 : decode cX11_puzzle 57 = .ok (.goto (-45), 3) := by decide +kernel
theorem dX11_puzzle_60 : decode cX11_puzzle 60 = .ok (.aload_n 0, 1) := by decide +kernel
theorem dX11_puzzle_61 : decode cX11_puzzle 61 = .ok (.iconst 0, 1) := by decide +kernel
theorem dX11_puzzle_62 : decode cX11_puzzle 62 = .ok (.putfield 109, 3) := by decide +kernel
theorem dX11_puzzle_65 : decode cX11_puzzle 65 = .ok (.iload_n 1, 1) := by decide +kernel
theorem dX11_puzzle_66 : decode cX11_puzzle 66 = .ok (.ifCond .ne 12, 3) := by decide +kernel
theorem dX11_puzzle_69 : decode cX11_puzzle 69 = .ok (.sipush (-1000), 3) := by decide +kernel
theorem dX11_puzzle_72 : decode cX11_puzzle 72 = .ok (.aload_n 0, 1) := by decide +kernel
theorem dX11_puzzle_73 : decode cX11_puzzle 73 = .ok (.getfield 118, 3) := by decide +kernel
theorem dX11_puzzle_76 : decode cX11_puzzle 76 = .ok (.isub, 1) := by decide +kernel
theorem dX11_puzzle_77 : decode cX11_puzzle 77 = .ok (.ireturn, 1) := by decide +kernel
theorem dX11_puzzle_78 : decode cX11_puzzle 78 = .ok (.aload_n 0, 1) := by decide +kernel
theorem dX11_puzzle_79 : decode cX11_puzzle 79 = .ok (.iconst 1, 1) := by decide +kernel
theorem dX11_puzzle_80 : decode cX11_puzzle 80 = .ok (.iconst 1, 1) := by decide +kernel
theorem dX11_puzzle_81 : decode cX11_puzzle 81 = .ok (.invokevirtual 151, 3) := by decide +kernel
theorem dX11_puzzle_84 : decode cX11_puzzle 84 = .ok (.iconst 0, 1) := by decide +kernel
theorem dX11_puzzle_85 : decode cX11_puzzle 85 = .ok (.istore_n 2, 1) := by decide +kernel
theorem dX11_puzzle_86 : decode cX11_puzzle 86 = .ok (.iload_n 2, 1) := by decide +kernel
theorem dX11_puzzle_87 : decode cX11_puzzle 87 = .ok (.aload_n 0, 1) := by decide +kernel
theorem dX11_puzzle_88 : decode cX11_puzzle 88 = .ok (.getfield 135, 3) := by decide +kernel
theorem dX11_puzzle_91 : decode cX11_puzzle 91 = .ok (.if_icmp .ge 37, 3) := by decide +kernel
theorem dX11_puzzle_94 : decode cX11_puzzle 94 = .ok (.aload_n 0, 1) := by decide +kernel
theorem dX11_puzzle_95 : decode cX11_puzzle 95 = .ok (.iload_n 2, 1) := by decide +kernel
theorem dX11_puzzle_96 : decode cX11_puzzle 96 = .ok (.invokevirtual 155, 3) := by decide +kernel
theorem dX11_puzzle_99 : decode cX11_puzzle 99 = .ok (.ifCond .eq 6, 3) := by decide +kernel
theorem dX11_puzzle_102 : decode cX11_puzzle 102 = .ok (.goto 20, 3) := by decide +kernel
theorem dX11_puzzle_105 : decode cX11_puzzle 105 = .ok (.aload_n 0, 1) := by decide +kernel
theorem dX11_puzzle_106 : decode cX11_puzzle 106 = .ok (.iconst 1, 1) := by decide +kernel
theorem dX11_puzzle_107 : decode cX11_puzzle 107 = .ok (.iconst 0, 1) := by decide +kernel
theorem dX11_puzzle_108 : decode cX11_puzzle 108 = .ok (.invokevirtual 151, 3) := by decide +kernel
theorem dX11_puzzle_111 : decode cX11_puzzle 111 = .ok (.sipush (-2000), 3) := by decide +kernel
theorem dX11_puzzle_114 : decode cX11_puzzle 114 = .ok (.aload_n 0, 1) := by decide +kernel
theorem dX11_puzzle_115 : decode cX11_puzzle 115 = .ok (.getfield 49, 3) := by decide +kernel
theorem dX11_puzzle_118 : decode cX11_puzzle 118 = .ok (.iload_n 2, 1) := by decide +kernel
theorem dX11_puzzle_119 : decode cX11_puzzle 119 = .ok (.iaload, 1) := by decide +kernel
theorem dX11_puzzle_120 : decode cX11_puzzle 120 = .ok (.isub, 1) := by decide +kernel
theorem dX11_puzzle_121 : decode cX11_puzzle 121 = .ok (.ireturn, 1) := by decide +kernel
theorem dX11_puzzle_122 : decode cX11_puzzle 122 = .ok (.iinc 2 1, 3) := by decide +kernel
theorem dX11_puzzle_125 : decode cX11_puzzle 125 = .ok (.goto (-39), 3) := by decide +kernel
theorem dX11_puzzle_128 : decode cX11_puzzle 128 = .ok (.aload_n 0, 1) := by decide +kernel
theorem dX11_puzzle_129 : decode cX11_puzzle 129 = .ok (.getfield 135, 3) := by decide +kernel
theorem dX11_puzzle_132 : decode cX11_puzzle 132 = .ok (.ireturn, 1) := by decide +kernel
theorem dX11_passes_0 : decode cX11_passes 0 = .ok (.iconst 0, 1) := by decide +kernel
theorem dX11_passes_1 : decode cX11_passes 1 = .ok (.istore_n 2, 1) := by decide +kernel
theorem dX11_passes_2 : decode cX11_passes 2 = .ok (.iload_n 2, 1) := by decide +kernel
theorem dX11_passes_3 : decode cX11_passes 3 = .ok (.aload_n 1, 1) := by decide +kernel
theorem dX11_passes_4 : decode cX11_passes 4 = .ok (.arraylength, 1) := by decide +kernel
theorem dX11_passes_5 : decode cX11_passes 5 = .ok (.if_icmp .ge 53, 3) := by decide +kernel
theorem dX11_passes_8 : decode cX11_passes 8 = .ok (.aload_n 0, 1) := by decide +kernel
theorem dX11_passes_9 : decode cX11_passes 9 = .ok (.getfield 158, 3) := by decide +kernel
theorem dX11_passes_12 : decode cX11_passes 12 = .ok (.ifCond .eq 18, 3) := by decide +kernel
theorem dX11_passes_15 : decode cX11_passes 15 = .ok (.aload_n 0, 1) := by decide +kernel
theorem dX11_passes_16 : decode cX11_passes 16 = .ok (.getfield 61, 3) := by decide +kernel
theorem dX11_passes_19 : decode cX11_passes 19 = .ok (.aload_n 0, 1) := by decide +kernel
theorem dX11_passes_20 : decode cX11_passes 20 = .ok (.getfield 162, 3) := by decide +kernel
theorem dX11_passes_23 : decode cX11_passes 23 = .ok (.aload_n 1, 1) := by decide +kernel
theorem dX11_passes_24 : decode cX11_passes 24 = .ok (.iload_n 2, 1) := by decide +kernel
theorem dX11_passes_25 : decode cX11_passes 25 = .ok (.iaload, 1) := by decide +kernel
theorem dX11_passes_26 : decode cX11_passes 26 = .ok (.iastore, 1) := by decide +kernel
theorem dX11_passes_27 : decode cX11_passes 27 = .ok (.goto 15, 3) := by decide +kernel
theorem dX11_passes_30 : decode cX11_passes 30 = .ok (.aload_n 1, 1) := by decide +kernel
theorem dX11_passes_31 : decode cX11_passes 31 = .ok (.iload_n 2, 1) := by decide +kernel
theorem dX11_passes_32 : decode cX11_passes 32 = .ok (.aload_n 0, 1) := by decide +kernel
theorem dX11_passes_33 : decode cX11_passes 33 = .ok (.getfield 61, 3) := by decide +kernel
theorem dX11_passes_36 : decode cX11_passes 36 = .ok (.aload_n 0, 1) := by decide +kernel
theorem dX11_passes_37 : decode cX11_passes 37 = .ok (.getfield 162, 3) := by decide +kernel
theorem dX11_passes_40 : decode cX11_passes 40 = .ok (.iaload, 1) := by decide +kernel
theorem dX11_passes_41 : decode cX11_passes 41 = .ok (.iastore, 1) := by decide +kernel
theorem dX11_passes_42 : decode cX11_passes 42 = .ok (.aload_n 0, 1) := by decide +kernel
theorem dX11_passes_43 : decode cX11_passes 43 = .ok (.dup, 1) := by decide +kernel
theorem dX11_passes_44 : decode cX11_passes 44 = .ok (.getfield 162, 3) := by decide +kernel
theorem dX11_passes_47 : decode cX11_passes 47 = .ok (.iconst 1, 1) := by decide +kernel
theorem dX11_passes_48 : decode cX11_passes 48 = .ok (.iadd, 1) := by decide +kernel
theorem dX11_passes_49 : decode cX11_passes 49 = .ok (.putfield 162, 3) := by decide +kernel
theorem dX11_passes_52 : decode cX11_passes 52 = .ok (.iinc 2 1, 3) := by decide +kernel
theorem dX11_passes_55 : decode cX11_passes 55 = .ok (.goto (-53), 3) := by decide +kernel
theorem dX11_passes_58 : decode cX11_passes 58 = .ok (.return_, 1) := by decide +kernel
theorem dX11_passOne_0 : decode cX11_passOne 0 = .ok (.aload_n 0, 1) := by decide +kernel
theorem dX11_passOne_1 : decode cX11_passOne 1 = .ok (.getfield 158, 3) := by decide +kernel
theorem dX11_passOne_4 : decode cX11_passOne 4 = .ok (.ifCond .eq 7, 3) := by decide +kernel
theorem dX11_passOne_7 : decode cX11_passOne 7 = .ok (.iload_n 1, 1) := by decide +kernel
theorem dX11_passOne_8 : decode cX11_passOne 8 = .ok (.goto 12, 3) := by decide +kernel
theorem dX11_passOne_11 : decode cX11_passOne 11 = .ok (.aload_n 0, 1) := by decide +kernel
theorem dX11_passOne_12 : decode cX11_passOne 12 = .ok (.getfield 61, 3) := by decide +kernel
theorem dX11_passOne_15 : decode cX11_passOne 15 = .ok (.aload_n 0, 1) := by decide +kernel
theorem dX11_passOne_16 : decode cX11_passOne 16 = .ok (.getfield 162, 3) := by decide +kernel
theorem dX11_passOne_19 : decode cX11_passOne 19 = .ok (.iaload, 1) := by decide +kernel
theorem dX11_passOne_20 : decode cX11_passOne 20 = .ok (.istore_n 2, 1) := by decide +kernel
theorem dX11_passOne_21 : decode cX11_passOne 21 = .ok (.aload_n 0, 1) := by decide +kernel
theorem dX11_passOne_22 : decode cX11_passOne 22 = .ok (.getfield 158, 3) := by decide +kernel
theorem dX11_passOne_25 : decode cX11_passOne 25 = .ok (.ifCond .eq 13, 3) := by decide +kernel
theorem dX11_passOne_28 : decode cX11_passOne 28 = .ok (.aload_n 0, 1) := by decide +kernel
theorem dX11_passOne_29 : decode cX11_passOne 29 = .ok (.getfield 61, 3) := by decide +kernel
theorem dX11_passOne_32 : decode cX11_passOne 32 = .ok (.aload_n 0, 1) := by decide +kernel
theorem dX11_passOne_33 : decode cX11_passOne 33 = .ok (.getfield 162, 3) := by decide +kernel
theorem dX11_passOne_36 : decode cX11_passOne 36 = .ok (.iload_n 1, 1) := by decide +kernel
theorem dX11_passOne_37 : decode cX11_passOne 37 = .ok (.iastore, 1) := by decide +kernel
theorem dX11_passOne_38 : decode cX11_passOne 38 = .ok (.aload_n 0, 1) := by decide +kernel
theorem dX11_passOne_39 : decode cX11_passOne 39 = .ok (.dup, 1) := by decide +kernel
theorem dX11_passOne_40 : decode cX11_passOne 40 = .ok (.getfield 162, 3) := by decide +kernel
theorem dX11_passOne_43 : decode cX11_passOne 43 = .ok (.iconst 1, 1) := by decide +kernel
theorem dX11_passOne_44 : decode cX11_passOne 44 = .ok (.iadd, 1) := by decide +kernel
theorem dX11_passOne_45 : decode cX11_passOne 45 = .ok (.putfield 162, 3) := by decide +kernel
theorem dX11_passOne_48 : decode cX11_passOne 48 = .ok (.iload_n 2, 1) := by decide +kernel
theorem dX11_passOne_49 : decode cX11_passOne 49 = .ok (.ireturn, 1) := by decide +kernel
theorem dX11_passesAll_0 : decode cX11_passesAll 0 = .ok (.aload_n 0, 1) := by decide +kernel
theorem dX11_passesAll_1 : decode cX11_passesAll 1 = .ok (.sipush 200, 3) := by decide +kernel
theorem dX11_passesAll_4 : decode cX11_passesAll 4 = .ok (.iload_n 1, 1) := by decide +kernel
theorem dX11_passesAll_5 : decode cX11_passesAll 5 = .ok (.imul, 1) := by decide +kernel
theorem dX11_passesAll_6 : decode cX11_passesAll 6 = .ok (.putfield 162, 3) := by decide +kernel
theorem dX11_passesAll_9 : decode cX11_passesAll 9 = .ok (.aload_n 0, 1) := by decide +kernel
theorem dX11_passesAll_10 : decode cX11_passesAll 10 = .ok (.iload_n 2, 1) := by decide +kernel
theorem dX11_passesAll_11 : decode cX11_passesAll 11 = .ok (.putfield 158, 3) := by decide +kernel
theorem dX11_passesAll_14 : decode cX11_passesAll 14 = .ok (.aload_n 0, 1) := by decide +kernel
theorem dX11_passesAll_15 : decode cX11_passesAll 15 = .ok (.aload_n 0, 1) := by decide +kernel
theorem dX11_passesAll_16 : decode cX11_passesAll 16 = .ok (.getfield 13, 3) := by decide +kernel
theorem dX11_passesAll_19 : decode cX11_passesAll 19 = .ok (.invokevirtual 165, 3) := by decide +kernel
theorem dX11_passesAll_22 : decode cX11_passesAll 22 = .ok (.aload_n 0, 1) := by decide +kernel
theorem dX11_passesAll_23 : decode cX11_passesAll 23 = .ok (.aload_n 0, 1) := by decide +kernel
theorem dX11_passesAll_24 : decode cX11_passesAll 24 = .ok (.getfield 16, 3) := by decide +kernel
theorem dX11_passesAll_27 : decode cX11_passesAll 27 = .ok (.invokevirtual 165, 3) := by decide +kernel
theorem dX11_passesAll_30 : decode cX11_passesAll 30 = .ok (.aload_n 0, 1) := by decide +kernel
theorem dX11_passesAll_31 : decode cX11_passesAll 31 = .ok (.aload_n 0, 1) := by decide +kernel
theorem dX11_passesAll_32 : decode cX11_passesAll 32 = .ok (.getfield 19, 3) := by decide +kernel
theorem dX11_passesAll_35 : decode cX11_passesAll 35 = .ok (.invokevirtual 165, 3) := by decide +kernel
theorem dX11_passesAll_38 : decode cX11_passesAll 38 = .ok (.aload_n 0, 1) := by decide +kernel
theorem dX11_passesAll_39 : decode cX11_passesAll 39 = .ok (.aload_n 0, 1) := by decide +kernel
theorem dX11_passesAll_40 : decode cX11_passesAll 40 = .ok (.getfield 22, 3) := by decide +kernel
theorem dX11_passesAll_43 : decode cX11_passesAll 43 = .ok (.invokevirtual 165, 3) := by decide +kernel
theorem dX11_passesAll_46 : decode cX11_passesAll 46 = .ok (.aload_n 0, 1) := by decide +kernel
theorem dX11_passesAll_47 : decode cX11_passesAll 47 = .ok (.aload_n 0, 1) := by decide +kernel
theorem dX11_passesAll_48 : decode cX11_passesAll 48 = .ok (.getfield 25, 3) := by decide +kernel
theorem dX11_passesAll_51 : decode cX11_passesAll 51 = .ok (.invokevirtual 165, 3) := by decide +kernel
theorem dX11_passesAll_54 : decode cX11_passesAll 54 = .ok (.aload_n 0, 1) := by decide +kernel
theorem dX11_passesAll_55 : decode cX11_passesAll 55 = .ok (.aload_n 0, 1) := by decide +kernel
theorem dX11_passesAll_56 : decode cX11_passesAll 56 = .ok (.getfield 28, 3) := by decide +kernel
theorem dX11_passesAll_59 : decode cX11_passesAll 59 = .ok (.invokevirtual 165, 3) := by decide +kernel
theorem dX11_passesAll_62 : decode cX11_passesAll 62 = .ok (.aload_n 0, 1) := by decide +kernel
theorem dX11_passesAll_63 : decode cX11_passesAll 63 = .ok (.aload_n 0, 1) := by decide +kernel
theorem dX11_passesAll_64 : decode cX11_passesAll 64 = .ok (.getfield 31, 3) := by decide +kernel
theorem dX11_passesAll_67 : decode cX11_passesAll 67 = .ok (.invokevirtual 165, 3) := by decide +kernel
theorem dX11_passesAll_70 : decode cX11_passesAll 70 = .ok (.aload_n 0, 1) := by decide +kernel
theorem dX11_passesAll_71 : decode cX11_passesAll 71 = .ok (.aload_n 0, 1) := by decide +kernel
theorem dX11_passesAll_72 : decode cX11_passesAll 72 = .ok (.getfield 34, 3) := by decide +kernel
theorem dX11_passesAll_75 : decode cX11_passesAll 75 = .ok (.invokevirtual 165, 3) := by decide +kernel
theorem dX11_passesAll_78 : decode cX11_passesAll 78 = .ok (.aload_n 0, 1) := by decide +kernel
theorem dX11_passesAll_79 : decode cX11_passesAll 79 = .ok (.aload_n 0, 1) := by decide +kernel
theorem dX11_passesAll_80 : decode cX11_passesAll 80 = .ok (.getfield 37, 3) := by decide +kernel
theorem dX11_passesAll_83 : decode cX11_passesAll 83 = .ok (.invokevirtual 165, 3) := by decide +kernel
theorem dX11_passesAll_86 : decode cX11_passesAll 86 = .ok (.aload_n 0, 1) := by decide +kernel
theorem dX11_passesAll_87 : decode cX11_passesAll 87 = .ok (.aload_n 0, 1) := by decide +kernel
theorem dX11_passesAll_88 : decode cX11_passesAll 88 = .ok (.getfield 40, 3) := by decide +kernel
theorem dX11_passesAll_91 : decode cX11_passesAll 91 = .ok (.invokevirtual 165, 3) := by decide +kernel
theorem dX11_passesAll_94 : decode cX11_passesAll 94 = .ok (.aload_n 0, 1) := by decide +kernel
theorem dX11_passesAll_95 : decode cX11_passesAll 95 = .ok (.aload_n 0, 1) := by decide +kernel
theorem dX11_passesAll_96 : decode cX11_passesAll 96 = .ok (.aload_n 0, 1) := by decide +kernel
theorem dX11_passesAll_97 : decode cX11_passesAll 97 = .ok (.getfield 84, 3) := by decide +kernel
theorem dX11_passesAll_100 : decode cX11_passesAll 100 = .ok (.invokevirtual 169, 3) := by decide +kernel
theorem dX11_passesAll_103 : decode cX11_passesAll 103 = .ok (.putfield 84, 3) := by decide +kernel
theorem dX11_passesAll_106 : decode cX11_passesAll 106 = .ok (.aload_n 0, 1) := by decide +kernel
theorem dX11_passesAll_107 : decode cX11_passesAll 107 = .ok (.aload_n 0, 1) := by decide +kernel
theorem dX11_passesAll_108 : decode cX11_passesAll 108 = .ok (.aload_n 0, 1) := by decide +kernel
theorem dX11_passesAll_109 : decode cX11_passesAll 109 = .ok (.getfield 88, 3) := by decide +kernel
theorem dX11_passesAll_112 : decode cX11_passesAll 112 = .ok (.invokevirtual 169, 3) := by decide +kernel
theorem dX11_passesAll_115 : decode cX11_passesAll 115 = .ok (.putfield 88, 3) := by decide +kernel
theorem dX11_passesAll_118 : decode cX11_passesAll 118 = .ok (.aload_n 0, 1) := by decide +kernel
theorem dX11_passesAll_119 : decode cX11_passesAll 119 = .ok (.aload_n 0, 1) := by decide +kernel
theorem dX11_passesAll_120 : decode cX11_passesAll 120 = .ok (.aload_n 0, 1) := by decide +kernel
theorem dX11_passesAll_121 : decode cX11_passesAll 121 = .ok (.getfield 95, 3) := by decide +kernel
theorem dX11_passesAll_124 : decode cX11_passesAll 124 = .ok (.invokevirtual 169, 3) := by decide +kernel
theorem dX11_passesAll_127 : decode cX11_passesAll 127 = .ok (.putfield 95, 3) := by decide +kernel
theorem dX11_passesAll_130 : decode cX11_passesAll 130 = .ok (.aload_n 0, 1) := by decide +kernel
theorem dX11_passesAll_131 : decode cX11_passesAll 131 = .ok (.aload_n 0, 1) := by decide +kernel
theorem dX11_passesAll_132 : decode cX11_passesAll 132 = .ok (.aload_n 0, 1) := by decide +kernel
theorem dX11_passesAll_133 : decode cX11_passesAll 133 = .ok (.getfield 172, 3) := by decide +kernel
theorem dX11_passesAll_136 : decode cX11_passesAll 136 = .ok (.invokevirtual 169, 3) := by decide +kernel
theorem dX11_passesAll_139 : decode cX11_passesAll 139 = .ok (.putfield 172, 3) := by decide +kernel
theorem dX11_passesAll_142 : decode cX11_passesAll 142 = .ok (.return_, 1) := by decide +kernel
theorem dX11_isAtRim_0 : decode cX11_isAtRim 0 = .ok (.iconst 0, 1) := by decide +kernel
theorem dX11_isAtRim_1 : decode cX11_isAtRim 1 = .ok (.istore 4, 2) := by decide +kernel
theorem dX11_isAtRim_3 : decode cX11_isAtRim 3 = .ok (.iload 4, 2) := by decide +kernel
theorem dX11_isAtRim_5 : decode cX11_isAtRim 5 = .ok (.iconst 4, 1) := by decide +kernel
theorem dX11_isAtRim_6 : decode cX11_isAtRim 6 = .ok (.if_icmp .ge 45, 3) := by decide +kernel
theorem dX11_isAtRim_9 : decode cX11_isAtRim 9 = .ok (.aload_n 0, 1) := by decide +kernel
theorem dX11_isAtRim_10 : decode cX11_isAtRim 10 = .ok (.iload_n 1, 1) := by decide +kernel
theorem dX11_isAtRim_11 : decode cX11_isAtRim 11 = .ok (.iload_n 2, 1) := by decide +kernel
theorem dX11_isAtRim_12 : decode cX11_isAtRim 12 = .ok (.iload 4, 2) := by decide +kernel
theorem dX11_isAtRim_14 : decode cX11_isAtRim 14 = .ok (.invokevirtual 175, 3) := by decide +kernel
theorem dX11_isAtRim_17 : decode cX11_isAtRim 17 = .ok (.ifCond .ne 7, 3) := by decide +kernel
theorem dX11_isAtRim_20 : decode cX11_isAtRim 20 = .ok (.iconst 1, 1) := by decide +kernel
theorem dX11_isAtRim_21 : decode cX11_isAtRim 21 = .ok (.goto 4, 3) := by decide +kernel
theorem dX11_isAtRim_24 : decode cX11_isAtRim 24 = .ok (.iconst 0, 1) := by decide +kernel
theorem dX11_isAtRim_25 : decode cX11_isAtRim 25 = .ok (.aload_n 0, 1) := by decide +kernel
theorem dX11_isAtRim_26 : decode cX11_isAtRim 26 = .ok (.iload_n 3, 1) := by decide +kernel
theorem dX11_isAtRim_27 : decode cX11_isAtRim 27 = .ok (.iload 4, 2) := by decide +kernel
theorem dX11_isAtRim_29 : decode cX11_isAtRim 29 = .ok (.invokevirtual 98, 3) := by decide +kernel
theorem dX11_isAtRim_32 : decode cX11_isAtRim 32 = .ok (.ifCond .ge 7, 3) := by decide +kernel
theorem dX11_isAtRim_35 : decode cX11_isAtRim 35 = .ok (.iconst 1, 1) := by decide +kernel
theorem dX11_isAtRim_36 : decode cX11_isAtRim 36 = .ok (.goto 4, 3) := by decide +kernel
theorem dX11_isAtRim_39 : decode cX11_isAtRim 39 = .ok (.iconst 0, 1) := by decide +kernel
theorem dX11_isAtRim_40 : decode cX11_isAtRim 40 = .ok (.if_icmp .eq 5, 3) := by decide +kernel
theorem dX11_isAtRim_43 : decode cX11_isAtRim 43 = .ok (.iconst 0, 1) := by decide +kernel
theorem dX11_isAtRim_44 : decode cX11_isAtRim 44 = .ok (.ireturn, 1) := by decide +kernel
theorem dX11_isAtRim_45 : decode cX11_isAtRim 45 = .ok (.iinc 4 1, 3) := by decide +kernel
theorem dX11_isAtRim_48 : decode cX11_isAtRim 48 = .ok (.goto (-45), 3) := by decide +kernel
theorem dX11_isAtRim_51 : decode cX11_isAtRim 51 = .ok (.iconst 1, 1) := by decide +kernel
theorem dX11_isAtRim_52 : decode cX11_isAtRim 52 = .ok (.ireturn, 1) := by decide +kernel
theorem dX11_doesFit_0 : decode cX11_doesFit 0 = .ok (.aload_n 0, 1) := by decide +kernel
theorem dX11_doesFit_1 : decode cX11_doesFit 1 = .ok (.iload_n 1, 1) := by decide +kernel
theorem dX11_doesFit_2 : decode cX11_doesFit 2 = .ok (.iload_n 2, 1) := by decide +kernel
theorem dX11_doesFit_3 : decode cX11_doesFit 3 = .ok (.iload_n 3, 1) := by decide +kernel
theorem dX11_doesFit_4 : decode cX11_doesFit 4 = .ok (.invokevirtual 178, 3) := by decide +kernel
theorem dX11_doesFit_7 : decode cX11_doesFit 7 = .ok (.ifCond .ne 5, 3) := by decide +kernel
theorem dX11_doesFit_10 : decode cX11_doesFit 10 = .ok (.iconst 0, 1) := by decide +kernel
theorem dX11_doesFit_11 : decode cX11_doesFit 11 = .ok (.ireturn, 1) := by decide +kernel
theorem dX11_doesFit_12 : decode cX11_doesFit 12 = .ok (.iconst 0, 1) := by decide +kernel
theorem dX11_doesFit_13 : decode cX11_doesFit 13 = .ok (.istore 4, 2) := by decide +kernel
theorem dX11_doesFit_15 : decode cX11_doesFit 15 = .ok (.iload 4, 2) := by decide +kernel
theorem dX11_doesFit_17 : decode cX11_doesFit 17 = .ok (.iconst 4, 1) := by decide +kernel
theorem dX11_doesFit_18 : decode cX11_doesFit 18 = .ok (.if_icmp .ge 82, 3) := by decide +kernel
theorem dX11_doesFit_21 : decode cX11_doesFit 21 = .ok (.aload_n 0, 1) := by decide +kernel
theorem dX11_doesFit_22 : decode cX11_doesFit 22 = .ok (.iload_n 3, 1) := by decide +kernel
theorem dX11_doesFit_23 : decode cX11_doesFit 23 = .ok (.iload 4, 2) := by decide +kernel
theorem dX11_doesFit_25 : decode cX11_doesFit 25 = .ok (.invokevirtual 98, 3) := by decide +kernel
theorem dX11_doesFit_28 : decode cX11_doesFit 28 = .ok (.istore 5, 2) := by decide +kernel
theorem dX11_doesFit_30 : decode cX11_doesFit 30 = .ok (.iload 5, 2) := by decide +kernel
theorem dX11_doesFit_32 : decode cX11_doesFit 32 = .ok (.ifCond .lt 62, 3) := by decide +kernel
theorem dX11_doesFit_35 : decode cX11_doesFit 35 = .ok (.aload_n 0, 1) := by decide +kernel
theorem dX11_doesFit_36 : decode cX11_doesFit 36 = .ok (.getfield 22, 3) := by decide +kernel
theorem dX11_doesFit_39 : decode cX11_doesFit 39 = .ok (.iload 5, 2) := by decide +kernel
theorem dX11_doesFit_41 : decode cX11_doesFit 41 = .ok (.iaload, 1) := by decide +kernel
theorem dX11_doesFit_42 : decode cX11_doesFit 42 = .ok (.ifCond .lt 52, 3) := by decide +kernel
theorem dX11_doesFit_45 : decode cX11_doesFit 45 = .ok (.aload_n 0, 1) := by decide +kernel
theorem dX11_doesFit_46 : decode cX11_doesFit 46 = .ok (.getfield 22, 3) := by decide +kernel
theorem dX11_doesFit_49 : decode cX11_doesFit 49 = .ok (.iload 5, 2) := by decide +kernel
theorem dX11_doesFit_51 : decode cX11_doesFit 51 = .ok (.iaload, 1) := by decide +kernel
theorem dX11_doesFit_52 : decode cX11_doesFit 52 = .ok (.iload_n 1, 1) := by decide +kernel
theorem dX11_doesFit_53 : decode cX11_doesFit 53 = .ok (.if_icmp .eq 41, 3) := by decide +kernel
theorem dX11_doesFit_56 : decode cX11_doesFit 56 = .ok (.aload_n 0, 1) := by decide +kernel
theorem dX11_doesFit_57 : decode cX11_doesFit 57 = .ok (.iload_n 1, 1) := by decide +kernel
theorem dX11_doesFit_58 : decode cX11_doesFit 58 = .ok (.iload_n 2, 1) := by decide +kernel
theorem dX11_doesFit_59 : decode cX11_doesFit 59 = .ok (.iload 4, 2) := by decide +kernel
theorem dX11_doesFit_61 : decode cX11_doesFit 61 = .ok (.invokevirtual 175, 3) := by decide +kernel
theorem dX11_doesFit_64 : decode cX11_doesFit 64 = .ok (.aload_n 0, 1) := by decide +kernel
theorem dX11_doesFit_65 : decode cX11_doesFit 65 = .ok (.aload_n 0, 1) := by decide +kernel
theorem dX11_doesFit_66 : decode cX11_doesFit 66 = .ok (.getfield 22, 3) := by decide +kernel
theorem dX11_doesFit_69 : decode cX11_doesFit 69 = .ok (.iload 5, 2) := by decide +kernel
theorem dX11_doesFit_71 : decode cX11_doesFit 71 = .ok (.iaload, 1) := by decide +kernel
theorem dX11_doesFit_72 : decode cX11_doesFit 72 = .ok (.aload_n 0, 1) := by decide +kernel
theorem dX11_doesFit_73 : decode cX11_doesFit 73 = .ok (.getfield 25, 3) := by decide +kernel
theorem dX11_doesFit_76 : decode cX11_doesFit 76 = .ok (.iload 5, 2) := by decide +kernel
theorem dX11_doesFit_78 : decode cX11_doesFit 78 = .ok (.iaload, 1) := by decide +kernel
theorem dX11_doesFit_79 : decode cX11_doesFit 79 = .ok (.iload 4, 2) := by decide +kernel
theorem dX11_doesFit_81 : decode cX11_doesFit 81 = .ok (.iconst 2, 1) := by decide +kernel
theorem dX11_doesFit_82 : decode cX11_doesFit 82 = .ok (.iadd, 1) := by decide +kernel
theorem dX11_doesFit_83 : decode cX11_doesFit 83 = .ok (.iconst 4, 1) := by decide +kernel
theorem dX11_doesFit_84 : decode cX11_doesFit 84 = .ok (.irem, 1) := by decide +kernel
theorem dX11_doesFit_85 : decode cX11_doesFit 85 = .ok (.invokevirtual 175, 3) := by decide +kernel
theorem dX11_doesFit_88 : decode cX11_doesFit 88 = .ok (.iadd, 1) := by decide +kernel
theorem dX11_doesFit_89 : decode cX11_doesFit 89 = .ok (.ifCond .eq 5, 3) := by decide +kernel
theorem dX11_doesFit_92 : decode cX11_doesFit 92 = .ok (.iconst 0, 1) := by decide +kernel
theorem dX11_doesFit_93 : decode cX11_doesFit 93 = .ok (.ireturn, 1) := by decide +kernel
theorem dX11_doesFit_94 : decode cX11_doesFit 94 = .ok (.iinc 4 1, 3) := by decide +kernel
theorem dX11_doesFit_97 : decode cX11_doesFit 97 = .ok (.goto (-82), 3) := by decide +kernel
theorem dX11_doesFit_100 : decode cX11_doesFit 100 = .ok (.iconst 1, 1) := by decide +kernel
theorem dX11_doesFit_101 : decode cX11_doesFit 101 = .ok (.ireturn, 1) := by decide +kernel
theorem dX11_kindAt_0 : decode cX11_kindAt 0 = .ok (.aload_n 0, 1) := by decide +kernel
theorem dX11_kindAt_1 : decode cX11_kindAt 1 = .ok (.iload_n 1, 1) := by decide +kernel
theorem dX11_kindAt_2 : decode cX11_kindAt 2 = .ok (.iload_n 2, 1) := by decide +kernel
theorem dX11_kindAt_3 : decode cX11_kindAt 3 = .ok (.iload_n 3, 1) := by decide +kernel
theorem dX11_kindAt_4 : decode cX11_kindAt 4 = .ok (.invokevirtual 181, 3) := by decide +kernel
theorem dX11_kindAt_7 : decode cX11_kindAt 7 = .ok (.ifCond .eq 18, 3) := by decide +kernel
theorem dX11_kindAt_10 : decode cX11_kindAt 10 = .ok (.iload_n 1, 1) := by decide +kernel
theorem dX11_kindAt_11 : decode cX11_kindAt 11 = .ok (.iload_n 3, 1) := by decide +kernel
theorem dX11_kindAt_12 : decode cX11_kindAt 12 = .ok (.if_icmp .ne 11, 3) := by decide +kernel
theorem dX11_kindAt_15 : decode cX11_kindAt 15 = .ok (.iload_n 2, 1) := by decide +kernel
theorem dX11_kindAt_16 : decode cX11_kindAt 16 = .ok (.ifCond .ne 7, 3) := by decide +kernel
theorem dX11_kindAt_19 : decode cX11_kindAt 19 = .ok (.iconst 1, 1) := by decide +kernel
theorem dX11_kindAt_20 : decode cX11_kindAt 20 = .ok (.goto 4, 3) := by decide +kernel
theorem dX11_kindAt_23 : decode cX11_kindAt 23 = .ok (.iconst 2, 1) := by decide +kernel
theorem dX11_kindAt_24 : decode cX11_kindAt 24 = .ok (.ireturn, 1) := by decide +kernel
theorem dX11_kindAt_25 : decode cX11_kindAt 25 = .ok (.aload_n 0, 1) := by decide +kernel
theorem dX11_kindAt_26 : decode cX11_kindAt 26 = .ok (.iload_n 1, 1) := by decide +kernel
theorem dX11_kindAt_27 : decode cX11_kindAt 27 = .ok (.iload_n 2, 1) := by decide +kernel
theorem dX11_kindAt_28 : decode cX11_kindAt 28 = .ok (.iload_n 3, 1) := by decide +kernel
theorem dX11_kindAt_29 : decode cX11_kindAt 29 = .ok (.invokevirtual 178, 3) := by decide +kernel
theorem dX11_kindAt_32 : decode cX11_kindAt 32 = .ok (.ifCond .eq 7, 3) := by decide +kernel
theorem dX11_kindAt_35 : decode cX11_kindAt 35 = .ok (.iconst 4, 1) := by decide +kernel
theorem dX11_kindAt_36 : decode cX11_kindAt 36 = .ok (.goto 4, 3) := by decide +kernel
theorem dX11_kindAt_39 : decode cX11_kindAt 39 = .ok (.iconst 3, 1) := by decide +kernel
theorem dX11_kindAt_40 : decode cX11_kindAt 40 = .ok (.ireturn, 1) := by decide +kernel
theorem dX11_halfUp_0 : decode cX11_halfUp 0 = .ok (.iload_n 0, 1) := by decide +kernel
theorem dX11_halfUp_1 : decode cX11_halfUp 1 = .ok (.iconst 1, 1) := by decide +kernel
theorem dX11_halfUp_2 : decode cX11_halfUp 2 = .ok (.iadd, 1) := by decide +kernel
theorem dX11_halfUp_3 : decode cX11_halfUp 3 = .ok (.iconst 2, 1) := by decide +kernel
theorem dX11_halfUp_4 : decode cX11_halfUp 4 = .ok (.idiv, 1) := by decide +kernel
theorem dX11_halfUp_5 : decode cX11_halfUp 5 = .ok (.ireturn, 1) := by decide +kernel
theorem dX11_secondsOf_0 : decode cX11_secondsOf 0 = .ok (.aload_n 0, 1) := by decide +kernel
theorem dX11_secondsOf_1 : decode cX11_secondsOf 1 = .ok (.getfield 37, 3) := by decide +kernel
theorem dX11_secondsOf_4 : decode cX11_secondsOf 4 = .ok (.iload_n 1, 1) := by decide +kernel
theorem dX11_secondsOf_5 : decode cX11_secondsOf 5 = .ok (.iaload, 1) := by decide +kernel
theorem dX11_secondsOf_6 : decode cX11_secondsOf 6 = .ok (.istore 5, 2) := by decide +kernel
theorem dX11_secondsOf_8 : decode cX11_secondsOf 8 = .ok (.aload_n 0, 1) := by decide +kernel
theorem dX11_secondsOf_9 : decode cX11_secondsOf 9 = .ok (.getfield 34, 3) := by decide +kernel
theorem dX11_secondsOf_12 : decode cX11_secondsOf 12 = .ok (.iload_n 1, 1) := by decide +kernel
theorem dX11_secondsOf_13 : decode cX11_secondsOf 13 = .ok (.iaload, 1) := by decide +kernel
theorem dX11_secondsOf_14 : decode cX11_secondsOf 14 = .ok (.tableswitch 138 0 3 #[30, 33, 64, 90], 30) := by decide +kernel
theorem dX11_secondsOf_44 : decode cX11_secondsOf 44 = .ok (.goto 111, 3) := by decide +kernel
theorem dX11_secondsOf_47 : decode cX11_secondsOf 47 = .ok (.aload_n 0, 1) := by decide +kernel
theorem dX11_secondsOf_48 : decode cX11_secondsOf 48 = .ok (.getfield 19, 3) := by decide +kernel
theorem dX11_secondsOf_51 : decode cX11_secondsOf 51 = .ok (.iload_n 2, 1) := by decide +kernel
theorem dX11_secondsOf_52 : decode cX11_secondsOf 52 = .ok (.iaload, 1) := by decide +kernel
theorem dX11_secondsOf_53 : decode cX11_secondsOf 53 = .ok (.aload_n 0, 1) := by decide +kernel
theorem dX11_secondsOf_54 : decode cX11_secondsOf 54 = .ok (.getfield 19, 3) := by decide +kernel
theorem dX11_secondsOf_57 : decode cX11_secondsOf 57 = .ok (.iload 4, 2) := by decide +kernel
theorem dX11_secondsOf_59 : decode cX11_secondsOf 59 = .ok (.iaload, 1) := by decide +kernel
theorem dX11_secondsOf_60 : decode cX11_secondsOf 60 = .ok (.if_icmp .ne 11, 3) := by decide +kernel
theorem dX11_secondsOf_63 : decode cX11_secondsOf 63 = .ok (.iload 5, 2) := by decide +kernel
theorem dX11_secondsOf_65 : decode cX11_secondsOf 65 = .ok (.invokestatic 184, 3) := by decide +kernel
theorem dX11_secondsOf_68 : decode cX11_secondsOf 68 = .ok (.goto 5, 3) := by decide +kernel
theorem dX11_secondsOf_71 : decode cX11_secondsOf 71 = .ok (.iload 5, 2) := by decide +kernel
theorem dX11_secondsOf_73 : decode cX11_secondsOf 73 = .ok (.istore 5, 2) := by decide +kernel
theorem dX11_secondsOf_75 : decode cX11_secondsOf 75 = .ok (.goto 80, 3) := by decide +kernel
theorem dX11_secondsOf_78 : decode cX11_secondsOf 78 = .ok (.aload_n 0, 1) := by decide +kernel
theorem dX11_secondsOf_79 : decode cX11_secondsOf 79 = .ok (.iload 4, 2) := by decide +kernel
theorem dX11_secondsOf_81 : decode cX11_secondsOf 81 = .ok (.invokevirtual 187, 3) := by decide +kernel
theorem dX11_secondsOf_84 : decode cX11_secondsOf 84 = .ok (.ifCond .eq 11, 3) := by decide +kernel
theorem dX11_secondsOf_87 : decode cX11_secondsOf 87 = .ok (.iload 5, 2) := by decide +kernel
theorem dX11_secondsOf_89 : decode cX11_secondsOf 89 = .ok (.invokestatic 184, 3) := by decide +kernel
theorem dX11_secondsOf_92 : decode cX11_secondsOf 92 = .ok (.goto 7, 3) := by decide +kernel
theorem dX11_secondsOf_95 : decode cX11_secondsOf 95 = .ok (.iconst 2, 1) := by decide +kernel
theorem dX11_secondsOf_96 : decode cX11_secondsOf 96 = .ok (.iload 5, 2) := by decide +kernel
theorem dX11_secondsOf_98 : decode cX11_secondsOf 98 = .ok (.imul, 1) := by decide +kernel
theorem dX11_secondsOf_99 : decode cX11_secondsOf 99 = .ok (.istore 5, 2) := by decide +kernel
theorem dX11_secondsOf_101 : decode cX11_secondsOf 101 = .ok (.goto 54, 3) := by decide +kernel
theorem dX11_secondsOf_104 : decode cX11_secondsOf 104 = .ok (.aload_n 0, 1) := by decide +kernel
theorem dX11_secondsOf_105 : decode cX11_secondsOf 105 = .ok (.getfield 19, 3) := by decide +kernel
theorem dX11_secondsOf_108 : decode cX11_secondsOf 108 = .ok (.iload_n 2, 1) := by decide +kernel
theorem dX11_secondsOf_109 : decode cX11_secondsOf 109 = .ok (.iaload, 1) := by decide +kernel
theorem dX11_secondsOf_110 : decode cX11_secondsOf 110 = .ok (.iconst 3, 1) := by decide +kernel
theorem dX11_secondsOf_111 : decode cX11_secondsOf 111 = .ok (.if_icmp .ne 10, 3) := by decide +kernel
theorem dX11_secondsOf_114 : decode cX11_secondsOf 114 = .ok (.iconst 3, 1) := by decide +kernel
theorem dX11_secondsOf_115 : decode cX11_secondsOf 115 = .ok (.iload 5, 2) := by decide +kernel
theorem dX11_secondsOf_117 : decode cX11_secondsOf 117 = .ok (.imul, 1) := by decide +kernel
theorem dX11_secondsOf_118 : decode cX11_secondsOf 118 = .ok (.goto 29, 3) := by decide +kernel
theorem dX11_secondsOf_121 : decode cX11_secondsOf 121 = .ok (.aload_n 0, 1) := by decide +kernel
theorem dX11_secondsOf_122 : decode cX11_secondsOf 122 = .ok (.getfield 19, 3) := by decide +kernel
theorem dX11_secondsOf_125 : decode cX11_secondsOf 125 = .ok (.iload_n 2, 1) := by decide +kernel
theorem dX11_secondsOf_126 : decode cX11_secondsOf 126 = .ok (.iaload, 1) := by decide +kernel
theorem dX11_secondsOf_127 : decode cX11_secondsOf 127 = .ok (.aload_n 0, 1) := by decide +kernel
theorem dX11_secondsOf_128 : decode cX11_secondsOf 128 = .ok (.getfield 19, 3) := by decide +kernel
theorem dX11_secondsOf_131 : decode cX11_secondsOf 131 = .ok (.iload 4, 2) := by decide +kernel
theorem dX11_secondsOf_133 : decode cX11_secondsOf 133 = .ok (.iaload, 1) := by decide +kernel
theorem dX11_secondsOf_134 : decode cX11_secondsOf 134 = .ok (.if_icmp .ne 11, 3) := by decide +kernel
theorem dX11_secondsOf_137 : decode cX11_secondsOf 137 = .ok (.iload 5, 2) := by decide +kernel
theorem dX11_secondsOf_139 : decode cX11_secondsOf 139 = .ok (.invokestatic 184, 3) := by decide +kernel
theorem dX11_secondsOf_142 : decode cX11_secondsOf 142 = .ok (.goto 5, 3) := by decide +kernel
theorem dX11_secondsOf_145 : decode cX11_secondsOf 145 = .ok (.iload 5, 2) := by decide +kernel
theorem dX11_secondsOf_147 : decode cX11_secondsOf 147 = .ok (.istore 5, 2) := by decide +kernel
theorem dX11_secondsOf_149 : decode cX11_secondsOf 149 = .ok (.goto 6, 3) := by decide +kernel
theorem dX11_secondsOf_152 : decode cX11_secondsOf 152 = .ok (.iinc 5 2, 3) := by decide +kernel
theorem dX11_secondsOf_155 : decode cX11_secondsOf 155 = .ok (.aload_n 0, 1) := by decide +kernel
theorem dX11_secondsOf_156 : decode cX11_secondsOf 156 = .ok (.iload_n 2, 1) := by decide +kernel
theorem dX11_secondsOf_157 : decode cX11_secondsOf 157 = .ok (.iload_n 3, 1) := by decide +kernel
theorem dX11_secondsOf_158 : decode cX11_secondsOf 158 = .ok (.iload 4, 2) := by decide +kernel
theorem dX11_secondsOf_160 : decode cX11_secondsOf 160 = .ok (.invokevirtual 190, 3) := by decide +kernel
theorem dX11_secondsOf_163 : decode cX11_secondsOf 163 = .ok (.iconst 2, 1) := by decide +kernel
theorem dX11_secondsOf_164 : decode cX11_secondsOf 164 = .ok (.if_icmp .ne 10, 3) := by decide +kernel
theorem dX11_secondsOf_167 : decode cX11_secondsOf 167 = .ok (.iconst 2, 1) := by decide +kernel
theorem dX11_secondsOf_168 : decode cX11_secondsOf 168 = .ok (.iload 5, 2) := by decide +kernel
theorem dX11_secondsOf_170 : decode cX11_secondsOf 170 = .ok (.imul, 1) := by decide +kernel
theorem dX11_secondsOf_171 : decode cX11_secondsOf 171 = .ok (.goto 5, 3) := by decide +kernel
theorem dX11_secondsOf_174 : decode cX11_secondsOf 174 = .ok (.iload 5, 2) := by decide +kernel
theorem dX11_secondsOf_176 : decode cX11_secondsOf 176 = .ok (.ireturn, 1) := by decide +kernel
theorem dX11_isLaid_0 : decode cX11_isLaid 0 = .ok (.iconst 0, 1) := by decide +kernel
theorem dX11_isLaid_1 : decode cX11_isLaid 1 = .ok (.istore_n 2, 1) := by decide +kernel
theorem dX11_isLaid_2 : decode cX11_isLaid 2 = .ok (.iload_n 2, 1) := by decide +kernel
theorem dX11_isLaid_3 : decode cX11_isLaid 3 = .ok (.aload_n 0, 1) := by decide +kernel
theorem dX11_isLaid_4 : decode cX11_isLaid 4 = .ok (.invokevirtual 91, 3) := by decide +kernel
theorem dX11_isLaid_7 : decode cX11_isLaid 7 = .ok (.if_icmp .ge 21, 3) := by decide +kernel
theorem dX11_isLaid_10 : decode cX11_isLaid 10 = .ok (.aload_n 0, 1) := by decide +kernel
theorem dX11_isLaid_11 : decode cX11_isLaid 11 = .ok (.getfield 22, 3) := by decide +kernel
theorem dX11_isLaid_14 : decode cX11_isLaid 14 = .ok (.iload_n 2, 1) := by decide +kernel
theorem dX11_isLaid_15 : decode cX11_isLaid 15 = .ok (.iaload, 1) := by decide +kernel
theorem dX11_isLaid_16 : decode cX11_isLaid 16 = .ok (.iload_n 1, 1) := by decide +kernel
theorem dX11_isLaid_17 : decode cX11_isLaid 17 = .ok (.if_icmp .ne 5, 3) := by decide +kernel
theorem dX11_isLaid_20 : decode cX11_isLaid 20 = .ok (.iconst 1, 1) := by decide +kernel
theorem dX11_isLaid_21 : decode cX11_isLaid 21 = .ok (.ireturn, 1) := by decide +kernel
theorem dX11_isLaid_22 : decode cX11_isLaid 22 = .ok (.iinc 2 1, 3) := by decide +kernel
theorem dX11_isLaid_25 : decode cX11_isLaid 25 = .ok (.goto (-23), 3) := by decide +kernel
theorem dX11_isLaid_28 : decode cX11_isLaid 28 = .ok (.iconst 0, 1) := by decide +kernel
theorem dX11_isLaid_29 : decode cX11_isLaid 29 = .ok (.ireturn, 1) := by decide +kernel
theorem dX11_laidMany_0 : decode cX11_laidMany 0 = .ok (.iconst 0, 1) := by decide +kernel
theorem dX11_laidMany_1 : decode cX11_laidMany 1 = .ok (.istore_n 1, 1) := by decide +kernel
theorem dX11_laidMany_2 : decode cX11_laidMany 2 = .ok (.iconst 0, 1) := by decide +kernel
theorem dX11_laidMany_3 : decode cX11_laidMany 3 = .ok (.istore_n 2, 1) := by decide +kernel
theorem dX11_laidMany_4 : decode cX11_laidMany 4 = .ok (.iload_n 2, 1) := by decide +kernel
theorem dX11_laidMany_5 : decode cX11_laidMany 5 = .ok (.aload_n 0, 1) := by decide +kernel
theorem dX11_laidMany_6 : decode cX11_laidMany 6 = .ok (.invokevirtual 91, 3) := by decide +kernel
theorem dX11_laidMany_9 : decode cX11_laidMany 9 = .ok (.if_icmp .ge 26, 3) := by decide +kernel
theorem dX11_laidMany_12 : decode cX11_laidMany 12 = .ok (.iload_n 1, 1) := by decide +kernel
theorem dX11_laidMany_13 : decode cX11_laidMany 13 = .ok (.aload_n 0, 1) := by decide +kernel
theorem dX11_laidMany_14 : decode cX11_laidMany 14 = .ok (.getfield 22, 3) := by decide +kernel
theorem dX11_laidMany_17 : decode cX11_laidMany 17 = .ok (.iload_n 2, 1) := by decide +kernel
theorem dX11_laidMany_18 : decode cX11_laidMany 18 = .ok (.iaload, 1) := by decide +kernel
theorem dX11_laidMany_19 : decode cX11_laidMany 19 = .ok (.ifCond .lt 7, 3) := by decide +kernel
theorem dX11_laidMany_22 : decode cX11_laidMany 22 = .ok (.iconst 1, 1) := by decide +kernel
theorem dX11_laidMany_23 : decode cX11_laidMany 23 = .ok (.goto 4, 3) := by decide +kernel
theorem dX11_laidMany_26 : decode cX11_laidMany 26 = .ok (.iconst 0, 1) := by decide +kernel
theorem dX11_laidMany_27 : decode cX11_laidMany 27 = .ok (.iadd, 1) := by decide +kernel
theorem dX11_laidMany_28 : decode cX11_laidMany 28 = .ok (.istore_n 1, 1) := by decide +kernel
theorem dX11_laidMany_29 : decode cX11_laidMany 29 = .ok (.iinc 2 1, 3) := by decide +kernel
theorem dX11_laidMany_32 : decode cX11_laidMany 32 = .ok (.goto (-28), 3) := by decide +kernel
theorem dX11_laidMany_35 : decode cX11_laidMany 35 = .ok (.iload_n 1, 1) := by decide +kernel
theorem dX11_laidMany_36 : decode cX11_laidMany 36 = .ok (.ireturn, 1) := by decide +kernel
theorem dX11_lostMany_0 : decode cX11_lostMany 0 = .ok (.iconst 0, 1) := by decide +kernel
theorem dX11_lostMany_1 : decode cX11_lostMany 1 = .ok (.istore_n 1, 1) := by decide +kernel
theorem dX11_lostMany_2 : decode cX11_lostMany 2 = .ok (.iconst 0, 1) := by decide +kernel
theorem dX11_lostMany_3 : decode cX11_lostMany 3 = .ok (.istore_n 2, 1) := by decide +kernel
theorem dX11_lostMany_4 : decode cX11_lostMany 4 = .ok (.iload_n 2, 1) := by decide +kernel
theorem dX11_lostMany_5 : decode cX11_lostMany 5 = .ok (.aload_n 0, 1) := by decide +kernel
theorem dX11_lostMany_6 : decode cX11_lostMany 6 = .ok (.invokevirtual 91, 3) := by decide +kernel
theorem dX11_lostMany_9 : decode cX11_lostMany 9 = .ok (.if_icmp .ge 18, 3) := by decide +kernel
theorem dX11_lostMany_12 : decode cX11_lostMany 12 = .ok (.iload_n 1, 1) := by decide +kernel
theorem dX11_lostMany_13 : decode cX11_lostMany 13 = .ok (.aload_n 0, 1) := by decide +kernel
theorem dX11_lostMany_14 : decode cX11_lostMany 14 = .ok (.getfield 31, 3) := by decide +kernel
theorem dX11_lostMany_17 : decode cX11_lostMany 17 = .ok (.iload_n 2, 1) := by decide +kernel
theorem dX11_lostMany_18 : decode cX11_lostMany 18 = .ok (.iaload, 1) := by decide +kernel
theorem dX11_lostMany_19 : decode cX11_lostMany 19 = .ok (.iadd, 1) := by decide +kernel
theorem dX11_lostMany_20 : decode cX11_lostMany 20 = .ok (.istore_n 1, 1) := by decide +kernel
theorem dX11_lostMany_21 : decode cX11_lostMany 21 = .ok (.iinc 2 1, 3) := by decide +kernel
theorem dX11_lostMany_24 : decode cX11_lostMany 24 = .ok (.goto (-20), 3) := by decide +kernel
theorem dX11_lostMany_27 : decode cX11_lostMany 27 = .ok (.iload_n 1, 1) := by decide +kernel
theorem dX11_lostMany_28 : decode cX11_lostMany 28 = .ok (.ireturn, 1) := by decide +kernel
theorem dX11_side_0 : decode cX11_side 0 = .ok (.aload_n 0, 1) := by decide +kernel
theorem dX11_side_1 : decode cX11_side 1 = .ok (.iload_n 1, 1) := by decide +kernel
theorem dX11_side_2 : decode cX11_side 2 = .ok (.invokevirtual 144, 3) := by decide +kernel
theorem dX11_side_5 : decode cX11_side 5 = .ok (.ifCond .ne 9, 3) := by decide +kernel
theorem dX11_side_8 : decode cX11_side 8 = .ok (.aload_n 0, 1) := by decide +kernel
theorem dX11_side_9 : decode cX11_side 9 = .ok (.iconst (-1), 1) := by decide +kernel
theorem dX11_side_10 : decode cX11_side 10 = .ok (.invokevirtual 193, 3) := by decide +kernel
theorem dX11_side_13 : decode cX11_side 13 = .ok (.ireturn, 1) := by decide +kernel
theorem dX11_side_14 : decode cX11_side 14 = .ok (.iload_n 2, 1) := by decide +kernel
theorem dX11_side_15 : decode cX11_side 15 = .ok (.iconst 0, 1) := by decide +kernel
theorem dX11_side_16 : decode cX11_side 16 = .ok (.iconst 3, 1) := by decide +kernel
theorem dX11_side_17 : decode cX11_side 17 = .ok (.invokestatic 124, 3) := by decide +kernel
theorem dX11_side_20 : decode cX11_side 20 = .ok (.ifCond .eq 12, 3) := by decide +kernel
theorem dX11_side_23 : decode cX11_side 23 = .ok (.iload_n 3, 1) := by decide +kernel
theorem dX11_side_24 : decode cX11_side 24 = .ok (.iconst 0, 1) := by decide +kernel
theorem dX11_side_25 : decode cX11_side 25 = .ok (.iconst 3, 1) := by decide +kernel
theorem dX11_side_26 : decode cX11_side 26 = .ok (.invokestatic 124, 3) := by decide +kernel
theorem dX11_side_29 : decode cX11_side 29 = .ok (.ifCond .ne 10, 3) := by decide +kernel
theorem dX11_side_32 : decode cX11_side 32 = .ok (.aload_n 0, 1) := by decide +kernel
theorem dX11_side_33 : decode cX11_side 33 = .ok (.bipush (-2), 2) := by decide +kernel
theorem dX11_side_35 : decode cX11_side 35 = .ok (.invokevirtual 193, 3) := by decide +kernel
theorem dX11_side_38 : decode cX11_side 38 = .ok (.ireturn, 1) := by decide +kernel
theorem dX11_side_39 : decode cX11_side 39 = .ok (.aload_n 0, 1) := by decide +kernel
theorem dX11_side_40 : decode cX11_side 40 = .ok (.iload_n 1, 1) := by decide +kernel
theorem dX11_side_41 : decode cX11_side 41 = .ok (.iload_n 2, 1) := by decide +kernel
theorem dX11_side_42 : decode cX11_side 42 = .ok (.iload_n 3, 1) := by decide +kernel
theorem dX11_side_43 : decode cX11_side 43 = .ok (.invokevirtual 175, 3) := by decide +kernel
theorem dX11_side_46 : decode cX11_side 46 = .ok (.ireturn, 1) := by decide +kernel
theorem dX11_colour_0 : decode cX11_colour 0 = .ok (.aload_n 0, 1) := by decide +kernel
theorem dX11_colour_1 : decode cX11_colour 1 = .ok (.iload_n 1, 1) := by decide +kernel
theorem dX11_colour_2 : decode cX11_colour 2 = .ok (.invokevirtual 144, 3) := by decide +kernel
theorem dX11_colour_5 : decode cX11_colour 5 = .ok (.ifCond .eq 12, 3) := by decide +kernel
theorem dX11_colour_8 : decode cX11_colour 8 = .ok (.aload_n 0, 1) := by decide +kernel
theorem dX11_colour_9 : decode cX11_colour 9 = .ok (.getfield 19, 3) := by decide +kernel
theorem dX11_colour_12 : decode cX11_colour 12 = .ok (.iload_n 1, 1) := by decide +kernel
theorem dX11_colour_13 : decode cX11_colour 13 = .ok (.iaload, 1) := by decide +kernel
theorem dX11_colour_14 : decode cX11_colour 14 = .ok (.goto 8, 3) := by decide +kernel
theorem dX11_colour_17 : decode cX11_colour 17 = .ok (.aload_n 0, 1) := by decide +kernel
theorem dX11_colour_18 : decode cX11_colour 18 = .ok (.iconst (-1), 1) := by decide +kernel
theorem dX11_colour_19 : decode cX11_colour 19 = .ok (.invokevirtual 112, 3) := by decide +kernel
theorem dX11_colour_22 : decode cX11_colour 22 = .ok (.ireturn, 1) := by decide +kernel
theorem dX11_person_0 : decode cX11_person 0 = .ok (.aload_n 0, 1) := by decide +kernel
theorem dX11_person_1 : decode cX11_person 1 = .ok (.iload_n 1, 1) := by decide +kernel
theorem dX11_person_2 : decode cX11_person 2 = .ok (.invokevirtual 196, 3) := by decide +kernel
theorem dX11_person_5 : decode cX11_person 5 = .ok (.ifCond .ne 9, 3) := by decide +kernel
theorem dX11_person_8 : decode cX11_person 8 = .ok (.aload_n 0, 1) := by decide +kernel
theorem dX11_person_9 : decode cX11_person 9 = .ok (.iconst (-1), 1) := by decide +kernel
theorem dX11_person_10 : decode cX11_person 10 = .ok (.invokevirtual 112, 3) := by decide +kernel
theorem dX11_person_13 : decode cX11_person 13 = .ok (.ireturn, 1) := by decide +kernel
theorem dX11_person_14 : decode cX11_person 14 = .ok (.iconst 0, 1) := by decide +kernel
theorem dX11_person_15 : decode cX11_person 15 = .ok (.istore_n 3, 1) := by decide +kernel
theorem dX11_person_16 : decode cX11_person 16 = .ok (.iload_n 2, 1) := by decide +kernel
theorem dX11_person_17 : decode cX11_person 17 = .ok (.tableswitch 101 0 3 #[31, 38, 45, 94], 31) := by decide +kernel
theorem dX11_person_48 : decode cX11_person 48 = .ok (.aload_n 0, 1) := by decide +kernel
theorem dX11_person_49 : decode cX11_person 49 = .ok (.getfield 34, 3) := by decide +kernel
theorem dX11_person_52 : decode cX11_person 52 = .ok (.iload_n 1, 1) := by decide +kernel
theorem dX11_person_53 : decode cX11_person 53 = .ok (.iaload, 1) := by decide +kernel
theorem dX11_person_54 : decode cX11_person 54 = .ok (.ireturn, 1) := by decide +kernel
theorem dX11_person_55 : decode cX11_person 55 = .ok (.aload_n 0, 1) := by decide +kernel
theorem dX11_person_56 : decode cX11_person 56 = .ok (.getfield 37, 3) := by decide +kernel
theorem dX11_person_59 : decode cX11_person 59 = .ok (.iload_n 1, 1) := by decide +kernel
theorem dX11_person_60 : decode cX11_person 60 = .ok (.iaload, 1) := by decide +kernel
theorem dX11_person_61 : decode cX11_person 61 = .ok (.ireturn, 1) := by decide +kernel
theorem dX11_person_62 : decode cX11_person 62 = .ok (.iconst 0, 1) := by decide +kernel
theorem dX11_person_63 : decode cX11_person 63 = .ok (.istore 4, 2) := by decide +kernel
theorem dX11_person_65 : decode cX11_person 65 = .ok (.iload 4, 2) := by decide +kernel
theorem dX11_person_67 : decode cX11_person 67 = .ok (.aload_n 0, 1) := by decide +kernel
theorem dX11_person_68 : decode cX11_person 68 = .ok (.invokevirtual 91, 3) := by decide +kernel
theorem dX11_person_71 : decode cX11_person 71 = .ok (.if_icmp .ge 38, 3) := by decide +kernel
theorem dX11_person_74 : decode cX11_person 74 = .ok (.iload_n 3, 1) := by decide +kernel
theorem dX11_person_75 : decode cX11_person 75 = .ok (.aload_n 0, 1) := by decide +kernel
theorem dX11_person_76 : decode cX11_person 76 = .ok (.getfield 22, 3) := by decide +kernel
theorem dX11_person_79 : decode cX11_person 79 = .ok (.iload 4, 2) := by decide +kernel
theorem dX11_person_81 : decode cX11_person 81 = .ok (.iaload, 1) := by decide +kernel
theorem dX11_person_82 : decode cX11_person 82 = .ok (.ifCond .lt 18, 3) := by decide +kernel
theorem dX11_person_85 : decode cX11_person 85 = .ok (.aload_n 0, 1) := by decide +kernel
theorem dX11_person_86 : decode cX11_person 86 = .ok (.getfield 28, 3) := by decide +kernel
theorem dX11_person_89 : decode cX11_person 89 = .ok (.iload 4, 2) := by decide +kernel
theorem dX11_person_91 : decode cX11_person 91 = .ok (.iaload, 1) := by decide +kernel
theorem dX11_person_92 : decode cX11_person 92 = .ok (.iload_n 1, 1) := by decide +kernel
theorem dX11_person_93 : decode cX11_person 93 = .ok (.if_icmp .ne 7, 3) := by decide +kernel
theorem dX11_person_96 : decode cX11_person 96 = .ok (.iconst 1, 1) := by decide +kernel
theorem dX11_person_97 : decode cX11_person 97 = .ok (.goto 4, 3) := by decide +kernel
theorem dX11_person_100 : decode cX11_person 100 = .ok (.iconst 0, 1) := by decide +kernel
theorem dX11_person_101 : decode cX11_person 101 = .ok (.iadd, 1) := by decide +kernel
theorem dX11_person_102 : decode cX11_person 102 = .ok (.istore_n 3, 1) := by decide +kernel
theorem dX11_person_103 : decode cX11_person 103 = .ok (.iinc 4 1, 3) := by decide +kernel
theorem dX11_person_106 : decode cX11_person 106 = .ok (.goto (-41), 3) := by decide +kernel
theorem dX11_person_109 : decode cX11_person 109 = .ok (.iload_n 3, 1) := by decide +kernel
theorem dX11_person_110 : decode cX11_person 110 = .ok (.ireturn, 1) := by decide +kernel
theorem dX11_person_111 : decode cX11_person 111 = .ok (.aload_n 0, 1) := by decide +kernel
theorem dX11_person_112 : decode cX11_person 112 = .ok (.getfield 40, 3) := by decide +kernel
theorem dX11_person_115 : decode cX11_person 115 = .ok (.iload_n 1, 1) := by decide +kernel
theorem dX11_person_116 : decode cX11_person 116 = .ok (.iaload, 1) := by decide +kernel
theorem dX11_person_117 : decode cX11_person 117 = .ok (.ireturn, 1) := by decide +kernel
theorem dX11_person_118 : decode cX11_person 118 = .ok (.aload_n 0, 1) := by decide +kernel
theorem dX11_person_119 : decode cX11_person 119 = .ok (.bipush (-2), 2) := by decide +kernel
theorem dX11_person_121 : decode cX11_person 121 = .ok (.invokevirtual 112, 3) := by decide +kernel
theorem dX11_person_124 : decode cX11_person 124 = .ok (.ireturn, 1) := by decide +kernel
theorem dX11_laid_0 : decode cX11_laid 0 = .ok (.aload_n 0, 1) := by decide +kernel
theorem dX11_laid_1 : decode cX11_laid 1 = .ok (.iload_n 1, 1) := by decide +kernel
theorem dX11_laid_2 : decode cX11_laid 2 = .ok (.invokevirtual 144, 3) := by decide +kernel
theorem dX11_laid_5 : decode cX11_laid 5 = .ok (.ifCond .ne 9, 3) := by decide +kernel
theorem dX11_laid_8 : decode cX11_laid 8 = .ok (.aload_n 0, 1) := by decide +kernel
theorem dX11_laid_9 : decode cX11_laid 9 = .ok (.iconst (-1), 1) := by decide +kernel
theorem dX11_laid_10 : decode cX11_laid 10 = .ok (.invokevirtual 112, 3) := by decide +kernel
theorem dX11_laid_13 : decode cX11_laid 13 = .ok (.ireturn, 1) := by decide +kernel
theorem dX11_laid_14 : decode cX11_laid 14 = .ok (.iload_n 2, 1) := by decide +kernel
theorem dX11_laid_15 : decode cX11_laid 15 = .ok (.iconst 0, 1) := by decide +kernel
theorem dX11_laid_16 : decode cX11_laid 16 = .ok (.iconst 2, 1) := by decide +kernel
theorem dX11_laid_17 : decode cX11_laid 17 = .ok (.invokestatic 124, 3) := by decide +kernel
theorem dX11_laid_20 : decode cX11_laid 20 = .ok (.ifCond .ne 10, 3) := by decide +kernel
theorem dX11_laid_23 : decode cX11_laid 23 = .ok (.aload_n 0, 1) := by decide +kernel
theorem dX11_laid_24 : decode cX11_laid 24 = .ok (.bipush (-2), 2) := by decide +kernel
theorem dX11_laid_26 : decode cX11_laid 26 = .ok (.invokevirtual 112, 3) := by decide +kernel
theorem dX11_laid_29 : decode cX11_laid 29 = .ok (.ireturn, 1) := by decide +kernel
theorem dX11_laid_30 : decode cX11_laid 30 = .ok (.aload_n 0, 1) := by decide +kernel
theorem dX11_laid_31 : decode cX11_laid 31 = .ok (.getfield 22, 3) := by decide +kernel
theorem dX11_laid_34 : decode cX11_laid 34 = .ok (.iload_n 1, 1) := by decide +kernel
theorem dX11_laid_35 : decode cX11_laid 35 = .ok (.iaload, 1) := by decide +kernel
theorem dX11_laid_36 : decode cX11_laid 36 = .ok (.ifCond .ge 8, 3) := by decide +kernel
theorem dX11_laid_39 : decode cX11_laid 39 = .ok (.bipush (-9), 2) := by decide +kernel
theorem dX11_laid_41 : decode cX11_laid 41 = .ok (.goto 36, 3) := by decide +kernel
theorem dX11_laid_44 : decode cX11_laid 44 = .ok (.iload_n 2, 1) := by decide +kernel
theorem dX11_laid_45 : decode cX11_laid 45 = .ok (.ifCond .ne 12, 3) := by decide +kernel
theorem dX11_laid_48 : decode cX11_laid 48 = .ok (.aload_n 0, 1) := by decide +kernel
theorem dX11_laid_49 : decode cX11_laid 49 = .ok (.getfield 22, 3) := by decide +kernel
theorem dX11_laid_52 : decode cX11_laid 52 = .ok (.iload_n 1, 1) := by decide +kernel
theorem dX11_laid_53 : decode cX11_laid 53 = .ok (.iaload, 1) := by decide +kernel
theorem dX11_laid_54 : decode cX11_laid 54 = .ok (.goto 23, 3) := by decide +kernel
theorem dX11_laid_57 : decode cX11_laid 57 = .ok (.iload_n 2, 1) := by decide +kernel
theorem dX11_laid_58 : decode cX11_laid 58 = .ok (.iconst 1, 1) := by decide +kernel
theorem dX11_laid_59 : decode cX11_laid 59 = .ok (.if_icmp .ne 12, 3) := by decide +kernel
theorem dX11_laid_62 : decode cX11_laid 62 = .ok (.aload_n 0, 1) := by decide +kernel
theorem dX11_laid_63 : decode cX11_laid 63 = .ok (.getfield 25, 3) := by decide +kernel
theorem dX11_laid_66 : decode cX11_laid 66 = .ok (.iload_n 1, 1) := by decide +kernel
theorem dX11_laid_67 : decode cX11_laid 67 = .ok (.iaload, 1) := by decide +kernel
theorem dX11_laid_68 : decode cX11_laid 68 = .ok (.goto 9, 3) := by decide +kernel
theorem dX11_laid_71 : decode cX11_laid 71 = .ok (.aload_n 0, 1) := by decide +kernel
theorem dX11_laid_72 : decode cX11_laid 72 = .ok (.getfield 28, 3) := by decide +kernel
theorem dX11_laid_75 : decode cX11_laid 75 = .ok (.iload_n 1, 1) := by decide +kernel
theorem dX11_laid_76 : decode cX11_laid 76 = .ok (.iaload, 1) := by decide +kernel
theorem dX11_laid_77 : decode cX11_laid 77 = .ok (.ireturn, 1) := by decide +kernel
theorem dX11_fits_0 : decode cX11_fits 0 = .ok (.aload_n 0, 1) := by decide +kernel
theorem dX11_fits_1 : decode cX11_fits 1 = .ok (.iload_n 1, 1) := by decide +kernel
theorem dX11_fits_2 : decode cX11_fits 2 = .ok (.invokevirtual 144, 3) := by decide +kernel
theorem dX11_fits_5 : decode cX11_fits 5 = .ok (.ifCond .eq 11, 3) := by decide +kernel
theorem dX11_fits_8 : decode cX11_fits 8 = .ok (.aload_n 0, 1) := by decide +kernel
theorem dX11_fits_9 : decode cX11_fits 9 = .ok (.iload_n 3, 1) := by decide +kernel
theorem dX11_fits_10 : decode cX11_fits 10 = .ok (.invokevirtual 144, 3) := by decide +kernel
theorem dX11_fits_13 : decode cX11_fits 13 = .ok (.ifCond .ne 9, 3) := by decide +kernel
theorem dX11_fits_16 : decode cX11_fits 16 = .ok (.aload_n 0, 1) := by decide +kernel
theorem dX11_fits_17 : decode cX11_fits 17 = .ok (.iconst (-1), 1) := by decide +kernel
theorem dX11_fits_18 : decode cX11_fits 18 = .ok (.invokevirtual 112, 3) := by decide +kernel
theorem dX11_fits_21 : decode cX11_fits 21 = .ok (.ireturn, 1) := by decide +kernel
theorem dX11_fits_22 : decode cX11_fits 22 = .ok (.iload_n 2, 1) := by decide +kernel
theorem dX11_fits_23 : decode cX11_fits 23 = .ok (.iconst 0, 1) := by decide +kernel
theorem dX11_fits_24 : decode cX11_fits 24 = .ok (.iconst 3, 1) := by decide +kernel
theorem dX11_fits_25 : decode cX11_fits 25 = .ok (.invokestatic 124, 3) := by decide +kernel
theorem dX11_fits_28 : decode cX11_fits 28 = .ok (.ifCond .ne 10, 3) := by decide +kernel
theorem dX11_fits_31 : decode cX11_fits 31 = .ok (.aload_n 0, 1) := by decide +kernel
theorem dX11_fits_32 : decode cX11_fits 32 = .ok (.bipush (-2), 2) := by decide +kernel
theorem dX11_fits_34 : decode cX11_fits 34 = .ok (.invokevirtual 112, 3) := by decide +kernel
theorem dX11_fits_37 : decode cX11_fits 37 = .ok (.ireturn, 1) := by decide +kernel
theorem dX11_fits_38 : decode cX11_fits 38 = .ok (.aload_n 0, 1) := by decide +kernel
theorem dX11_fits_39 : decode cX11_fits 39 = .ok (.iload_n 1, 1) := by decide +kernel
theorem dX11_fits_40 : decode cX11_fits 40 = .ok (.iload_n 2, 1) := by decide +kernel
theorem dX11_fits_41 : decode cX11_fits 41 = .ok (.iload_n 3, 1) := by decide +kernel
theorem dX11_fits_42 : decode cX11_fits 42 = .ok (.invokevirtual 181, 3) := by decide +kernel
theorem dX11_fits_45 : decode cX11_fits 45 = .ok (.ifCond .eq 7, 3) := by decide +kernel
theorem dX11_fits_48 : decode cX11_fits 48 = .ok (.iconst 1, 1) := by decide +kernel
theorem dX11_fits_49 : decode cX11_fits 49 = .ok (.goto 4, 3) := by decide +kernel
theorem dX11_fits_52 : decode cX11_fits 52 = .ok (.iconst 0, 1) := by decide +kernel
theorem dX11_fits_53 : decode cX11_fits 53 = .ok (.ireturn, 1) := by decide +kernel
theorem dX11_seconds_0 : decode cX11_seconds 0 = .ok (.aload_n 0, 1) := by decide +kernel
theorem dX11_seconds_1 : decode cX11_seconds 1 = .ok (.iload_n 1, 1) := by decide +kernel
theorem dX11_seconds_2 : decode cX11_seconds 2 = .ok (.invokevirtual 196, 3) := by decide +kernel
theorem dX11_seconds_5 : decode cX11_seconds 5 = .ok (.ifCond .eq 20, 3) := by decide +kernel
theorem dX11_seconds_8 : decode cX11_seconds 8 = .ok (.aload_n 0, 1) := by decide +kernel
theorem dX11_seconds_9 : decode cX11_seconds 9 = .ok (.iload_n 2, 1) := by decide +kernel
theorem dX11_seconds_10 : decode cX11_seconds 10 = .ok (.invokevirtual 144, 3) := by decide +kernel
theorem dX11_seconds_13 : decode cX11_seconds 13 = .ok (.ifCond .eq 12, 3) := by decide +kernel
theorem dX11_seconds_16 : decode cX11_seconds 16 = .ok (.aload_n 0, 1) := by decide +kernel
theorem dX11_seconds_17 : decode cX11_seconds 17 = .ok (.iload 4, 2) := by decide +kernel
theorem dX11_seconds_19 : decode cX11_seconds 19 = .ok (.invokevirtual 144, 3) := by decide +kernel
theorem dX11_seconds_22 : decode cX11_seconds 22 = .ok (.ifCond .ne 9, 3) := by decide +kernel
theorem dX11_seconds_25 : decode cX11_seconds 25 = .ok (.aload_n 0, 1) := by decide +kernel
theorem dX11_seconds_26 : decode cX11_seconds 26 = .ok (.iconst (-1), 1) := by decide +kernel
theorem dX11_seconds_27 : decode cX11_seconds 27 = .ok (.invokevirtual 112, 3) := by decide +kernel
theorem dX11_seconds_30 : decode cX11_seconds 30 = .ok (.ireturn, 1) := by decide +kernel
theorem dX11_seconds_31 : decode cX11_seconds 31 = .ok (.iload_n 3, 1) := by decide +kernel
theorem dX11_seconds_32 : decode cX11_seconds 32 = .ok (.iconst 0, 1) := by decide +kernel
theorem dX11_seconds_33 : decode cX11_seconds 33 = .ok (.iconst 3, 1) := by decide +kernel
theorem dX11_seconds_34 : decode cX11_seconds 34 = .ok (.invokestatic 124, 3) := by decide +kernel
theorem dX11_seconds_37 : decode cX11_seconds 37 = .ok (.ifCond .ne 10, 3) := by decide +kernel
theorem dX11_seconds_40 : decode cX11_seconds 40 = .ok (.aload_n 0, 1) := by decide +kernel
theorem dX11_seconds_41 : decode cX11_seconds 41 = .ok (.bipush (-2), 2) := by decide +kernel
theorem dX11_seconds_43 : decode cX11_seconds 43 = .ok (.invokevirtual 112, 3) := by decide +kernel
theorem dX11_seconds_46 : decode cX11_seconds 46 = .ok (.ireturn, 1) := by decide +kernel
theorem dX11_seconds_47 : decode cX11_seconds 47 = .ok (.aload_n 0, 1) := by decide +kernel
theorem dX11_seconds_48 : decode cX11_seconds 48 = .ok (.getfield 22, 3) := by decide +kernel
theorem dX11_seconds_51 : decode cX11_seconds 51 = .ok (.iload 4, 2) := by decide +kernel
theorem dX11_seconds_53 : decode cX11_seconds 53 = .ok (.iaload, 1) := by decide +kernel
theorem dX11_seconds_54 : decode cX11_seconds 54 = .ok (.ifCond .lt 12, 3) := by decide +kernel
theorem dX11_seconds_57 : decode cX11_seconds 57 = .ok (.aload_n 0, 1) := by decide +kernel
theorem dX11_seconds_58 : decode cX11_seconds 58 = .ok (.bipush (-3), 2) := by decide +kernel
theorem dX11_seconds_60 : decode cX11_seconds 60 = .ok (.invokevirtual 112, 3) := by decide +kernel
theorem dX11_seconds_63 : decode cX11_seconds 63 = .ok (.goto 12, 3) := by decide +kernel
theorem dX11_seconds_66 : decode cX11_seconds 66 = .ok (.aload_n 0, 1) := by decide +kernel
theorem dX11_seconds_67 : decode cX11_seconds 67 = .ok (.iload_n 1, 1) := by decide +kernel
theorem dX11_seconds_68 : decode cX11_seconds 68 = .ok (.iload_n 2, 1) := by decide +kernel
theorem dX11_seconds_69 : decode cX11_seconds 69 = .ok (.iload_n 3, 1) := by decide +kernel
theorem dX11_seconds_70 : decode cX11_seconds 70 = .ok (.iload 4, 2) := by decide +kernel
theorem dX11_seconds_72 : decode cX11_seconds 72 = .ok (.invokevirtual 199, 3) := by decide +kernel
theorem dX11_seconds_75 : decode cX11_seconds 75 = .ok (.ireturn, 1) := by decide +kernel
theorem dX11_tries_0 : decode cX11_tries 0 = .ok (.aload_n 0, 1) := by decide +kernel
theorem dX11_tries_1 : decode cX11_tries 1 = .ok (.iload_n 2, 1) := by decide +kernel
theorem dX11_tries_2 : decode cX11_tries 2 = .ok (.iload_n 3, 1) := by decide +kernel
theorem dX11_tries_3 : decode cX11_tries 3 = .ok (.iload 4, 2) := by decide +kernel
theorem dX11_tries_5 : decode cX11_tries 5 = .ok (.invokevirtual 190, 3) := by decide +kernel
theorem dX11_tries_8 : decode cX11_tries 8 = .ok (.istore 5, 2) := by decide +kernel
theorem dX11_tries_10 : decode cX11_tries 10 = .ok (.aload_n 0, 1) := by decide +kernel
theorem dX11_tries_11 : decode cX11_tries 11 = .ok (.getfield 40, 3) := by decide +kernel
theorem dX11_tries_14 : decode cX11_tries 14 = .ok (.iload_n 1, 1) := by decide +kernel
theorem dX11_tries_15 : decode cX11_tries 15 = .ok (.dup2, 1) := by decide +kernel
theorem dX11_tries_16 : decode cX11_tries 16 = .ok (.iaload, 1) := by decide +kernel
theorem dX11_tries_17 : decode cX11_tries 17 = .ok (.aload_n 0, 1) := by decide +kernel
theorem dX11_tries_18 : decode cX11_tries 18 = .ok (.iload_n 1, 1) := by decide +kernel
theorem dX11_tries_19 : decode cX11_tries 19 = .ok (.iload_n 2, 1) := by decide +kernel
theorem dX11_tries_20 : decode cX11_tries 20 = .ok (.iload_n 3, 1) := by decide +kernel
theorem dX11_tries_21 : decode cX11_tries 21 = .ok (.iload 4, 2) := by decide +kernel
theorem dX11_tries_23 : decode cX11_tries 23 = .ok (.invokevirtual 199, 3) := by decide +kernel
theorem dX11_tries_26 : decode cX11_tries 26 = .ok (.iadd, 1) := by decide +kernel
theorem dX11_tries_27 : decode cX11_tries 27 = .ok (.iastore, 1) := by decide +kernel
theorem dX11_tries_28 : decode cX11_tries 28 = .ok (.aload_n 0, 1) := by decide +kernel
theorem dX11_tries_29 : decode cX11_tries 29 = .ok (.dup, 1) := by decide +kernel
theorem dX11_tries_30 : decode cX11_tries 30 = .ok (.getfield 172, 3) := by decide +kernel
theorem dX11_tries_33 : decode cX11_tries 33 = .ok (.iconst 1, 1) := by decide +kernel
theorem dX11_tries_34 : decode cX11_tries 34 = .ok (.iadd, 1) := by decide +kernel
theorem dX11_tries_35 : decode cX11_tries 35 = .ok (.putfield 172, 3) := by decide +kernel
theorem dX11_tries_38 : decode cX11_tries 38 = .ok (.iload 5, 2) := by decide +kernel
theorem dX11_tries_40 : decode cX11_tries 40 = .ok (.iconst 1, 1) := by decide +kernel
theorem dX11_tries_41 : decode cX11_tries 41 = .ok (.if_icmp .eq 9, 3) := by decide +kernel
theorem dX11_tries_44 : decode cX11_tries 44 = .ok (.iload 5, 2) := by decide +kernel
theorem dX11_tries_46 : decode cX11_tries 46 = .ok (.iconst 2, 1) := by decide +kernel
theorem dX11_tries_47 : decode cX11_tries 47 = .ok (.if_icmp .ne 27, 3) := by decide +kernel
theorem dX11_tries_50 : decode cX11_tries 50 = .ok (.aload_n 0, 1) := by decide +kernel
theorem dX11_tries_51 : decode cX11_tries 51 = .ok (.getfield 22, 3) := by decide +kernel
theorem dX11_tries_54 : decode cX11_tries 54 = .ok (.iload 4, 2) := by decide +kernel
theorem dX11_tries_56 : decode cX11_tries 56 = .ok (.iload_n 2, 1) := by decide +kernel
theorem dX11_tries_57 : decode cX11_tries 57 = .ok (.iastore, 1) := by decide +kernel
theorem dX11_tries_58 : decode cX11_tries 58 = .ok (.aload_n 0, 1) := by decide +kernel
theorem dX11_tries_59 : decode cX11_tries 59 = .ok (.getfield 25, 3) := by decide +kernel
theorem dX11_tries_62 : decode cX11_tries 62 = .ok (.iload 4, 2) := by decide +kernel
theorem dX11_tries_64 : decode cX11_tries 64 = .ok (.iload_n 3, 1) := by decide +kernel
theorem dX11_tries_65 : decode cX11_tries 65 = .ok (.iastore, 1) := by decide +kernel
theorem dX11_tries_66 : decode cX11_tries 66 = .ok (.aload_n 0, 1) := by decide +kernel
theorem dX11_tries_67 : decode cX11_tries 67 = .ok (.getfield 28, 3) := by decide +kernel
theorem dX11_tries_70 : decode cX11_tries 70 = .ok (.iload 4, 2) := by decide +kernel
theorem dX11_tries_72 : decode cX11_tries 72 = .ok (.iload_n 1, 1) := by decide +kernel
theorem dX11_tries_73 : decode cX11_tries 73 = .ok (.iastore, 1) := by decide +kernel
theorem dX11_tries_74 : decode cX11_tries 74 = .ok (.iload 5, 2) := by decide +kernel
theorem dX11_tries_76 : decode cX11_tries 76 = .ok (.ireturn, 1) := by decide +kernel
theorem dX11_tryIt_0 : decode cX11_tryIt 0 = .ok (.aload_n 0, 1) := by decide +kernel
theorem dX11_tryIt_1 : decode cX11_tryIt 1 = .ok (.iload_n 1, 1) := by decide +kernel
theorem dX11_tryIt_2 : decode cX11_tryIt 2 = .ok (.invokevirtual 196, 3) := by decide +kernel
theorem dX11_tryIt_5 : decode cX11_tryIt 5 = .ok (.ifCond .eq 20, 3) := by decide +kernel
theorem dX11_tryIt_8 : decode cX11_tryIt 8 = .ok (.aload_n 0, 1) := by decide +kernel
theorem dX11_tryIt_9 : decode cX11_tryIt 9 = .ok (.iload_n 2, 1) := by decide +kernel
theorem dX11_tryIt_10 : decode cX11_tryIt 10 = .ok (.invokevirtual 144, 3) := by decide +kernel
theorem dX11_tryIt_13 : decode cX11_tryIt 13 = .ok (.ifCond .eq 12, 3) := by decide +kernel
theorem dX11_tryIt_16 : decode cX11_tryIt 16 = .ok (.aload_n 0, 1) := by decide +kernel
theorem dX11_tryIt_17 : decode cX11_tryIt 17 = .ok (.iload 4, 2) := by decide +kernel
theorem dX11_tryIt_19 : decode cX11_tryIt 19 = .ok (.invokevirtual 144, 3) := by decide +kernel
theorem dX11_tryIt_22 : decode cX11_tryIt 22 = .ok (.ifCond .ne 9, 3) := by decide +kernel
theorem dX11_tryIt_25 : decode cX11_tryIt 25 = .ok (.aload_n 0, 1) := by decide +kernel
theorem dX11_tryIt_26 : decode cX11_tryIt 26 = .ok (.iconst (-1), 1) := by decide +kernel
theorem dX11_tryIt_27 : decode cX11_tryIt 27 = .ok (.invokevirtual 112, 3) := by decide +kernel
theorem dX11_tryIt_30 : decode cX11_tryIt 30 = .ok (.ireturn, 1) := by decide +kernel
theorem dX11_tryIt_31 : decode cX11_tryIt 31 = .ok (.iload_n 3, 1) := by decide +kernel
theorem dX11_tryIt_32 : decode cX11_tryIt 32 = .ok (.iconst 0, 1) := by decide +kernel
theorem dX11_tryIt_33 : decode cX11_tryIt 33 = .ok (.iconst 3, 1) := by decide +kernel
theorem dX11_tryIt_34 : decode cX11_tryIt 34 = .ok (.invokestatic 124, 3) := by decide +kernel
theorem dX11_tryIt_37 : decode cX11_tryIt 37 = .ok (.ifCond .ne 10, 3) := by decide +kernel
theorem dX11_tryIt_40 : decode cX11_tryIt 40 = .ok (.aload_n 0, 1) := by decide +kernel
theorem dX11_tryIt_41 : decode cX11_tryIt 41 = .ok (.bipush (-2), 2) := by decide +kernel
theorem dX11_tryIt_43 : decode cX11_tryIt 43 = .ok (.invokevirtual 112, 3) := by decide +kernel
theorem dX11_tryIt_46 : decode cX11_tryIt 46 = .ok (.ireturn, 1) := by decide +kernel
theorem dX11_tryIt_47 : decode cX11_tryIt 47 = .ok (.aload_n 0, 1) := by decide +kernel
theorem dX11_tryIt_48 : decode cX11_tryIt 48 = .ok (.getfield 22, 3) := by decide +kernel
theorem dX11_tryIt_51 : decode cX11_tryIt 51 = .ok (.iload 4, 2) := by decide +kernel
theorem dX11_tryIt_53 : decode cX11_tryIt 53 = .ok (.iaload, 1) := by decide +kernel
theorem dX11_tryIt_54 : decode cX11_tryIt 54 = .ok (.ifCond .ge 21, 3) := by decide +kernel
theorem dX11_tryIt_57 : decode cX11_tryIt 57 = .ok (.aload_n 0, 1) := by decide +kernel
theorem dX11_tryIt_58 : decode cX11_tryIt 58 = .ok (.iload_n 2, 1) := by decide +kernel
theorem dX11_tryIt_59 : decode cX11_tryIt 59 = .ok (.invokevirtual 203, 3) := by decide +kernel
theorem dX11_tryIt_62 : decode cX11_tryIt 62 = .ok (.ifCond .ne 13, 3) := by decide +kernel
theorem dX11_tryIt_65 : decode cX11_tryIt 65 = .ok (.aload_n 0, 1) := by decide +kernel
theorem dX11_tryIt_66 : decode cX11_tryIt 66 = .ok (.getfield 31, 3) := by decide +kernel
theorem dX11_tryIt_69 : decode cX11_tryIt 69 = .ok (.iload_n 2, 1) := by decide +kernel
theorem dX11_tryIt_70 : decode cX11_tryIt 70 = .ok (.iaload, 1) := by decide +kernel
theorem dX11_tryIt_71 : decode cX11_tryIt 71 = .ok (.iconst 1, 1) := by decide +kernel
theorem dX11_tryIt_72 : decode cX11_tryIt 72 = .ok (.if_icmp .ne 10, 3) := by decide +kernel
theorem dX11_tryIt_75 : decode cX11_tryIt 75 = .ok (.aload_n 0, 1) := by decide +kernel
theorem dX11_tryIt_76 : decode cX11_tryIt 76 = .ok (.bipush (-3), 2) := by decide +kernel
theorem dX11_tryIt_78 : decode cX11_tryIt 78 = .ok (.invokevirtual 112, 3) := by decide +kernel
theorem dX11_tryIt_81 : decode cX11_tryIt 81 = .ok (.ireturn, 1) := by decide +kernel
theorem dX11_tryIt_82 : decode cX11_tryIt 82 = .ok (.aload_n 0, 1) := by decide +kernel
theorem dX11_tryIt_83 : decode cX11_tryIt 83 = .ok (.iload_n 1, 1) := by decide +kernel
theorem dX11_tryIt_84 : decode cX11_tryIt 84 = .ok (.iload_n 2, 1) := by decide +kernel
theorem dX11_tryIt_85 : decode cX11_tryIt 85 = .ok (.iload_n 3, 1) := by decide +kernel
theorem dX11_tryIt_86 : decode cX11_tryIt 86 = .ok (.iload 4, 2) := by decide +kernel
theorem dX11_tryIt_88 : decode cX11_tryIt 88 = .ok (.invokevirtual 206, 3) := by decide +kernel
theorem dX11_tryIt_91 : decode cX11_tryIt 91 = .ok (.ireturn, 1) := by decide +kernel
theorem dX11_lift_0 : decode cX11_lift 0 = .ok (.aload_n 0, 1) := by decide +kernel
theorem dX11_lift_1 : decode cX11_lift 1 = .ok (.iload_n 1, 1) := by decide +kernel
theorem dX11_lift_2 : decode cX11_lift 2 = .ok (.invokevirtual 144, 3) := by decide +kernel
theorem dX11_lift_5 : decode cX11_lift 5 = .ok (.ifCond .ne 9, 3) := by decide +kernel
theorem dX11_lift_8 : decode cX11_lift 8 = .ok (.aload_n 0, 1) := by decide +kernel
theorem dX11_lift_9 : decode cX11_lift 9 = .ok (.iconst (-1), 1) := by decide +kernel
theorem dX11_lift_10 : decode cX11_lift 10 = .ok (.invokevirtual 112, 3) := by decide +kernel
theorem dX11_lift_13 : decode cX11_lift 13 = .ok (.ireturn, 1) := by decide +kernel
theorem dX11_lift_14 : decode cX11_lift 14 = .ok (.aload_n 0, 1) := by decide +kernel
theorem dX11_lift_15 : decode cX11_lift 15 = .ok (.getfield 22, 3) := by decide +kernel
theorem dX11_lift_18 : decode cX11_lift 18 = .ok (.iload_n 1, 1) := by decide +kernel
theorem dX11_lift_19 : decode cX11_lift 19 = .ok (.iaload, 1) := by decide +kernel
theorem dX11_lift_20 : decode cX11_lift 20 = .ok (.ifCond .ge 10, 3) := by decide +kernel
theorem dX11_lift_23 : decode cX11_lift 23 = .ok (.aload_n 0, 1) := by decide +kernel
theorem dX11_lift_24 : decode cX11_lift 24 = .ok (.bipush (-3), 2) := by decide +kernel
theorem dX11_lift_26 : decode cX11_lift 26 = .ok (.invokevirtual 112, 3) := by decide +kernel
theorem dX11_lift_29 : decode cX11_lift 29 = .ok (.ireturn, 1) := by decide +kernel
theorem dX11_lift_30 : decode cX11_lift 30 = .ok (.aload_n 0, 1) := by decide +kernel
theorem dX11_lift_31 : decode cX11_lift 31 = .ok (.getfield 22, 3) := by decide +kernel
theorem dX11_lift_34 : decode cX11_lift 34 = .ok (.iload_n 1, 1) := by decide +kernel
theorem dX11_lift_35 : decode cX11_lift 35 = .ok (.iaload, 1) := by decide +kernel
theorem dX11_lift_36 : decode cX11_lift 36 = .ok (.istore_n 2, 1) := by decide +kernel
theorem dX11_lift_37 : decode cX11_lift 37 = .ok (.aload_n 0, 1) := by decide +kernel
theorem dX11_lift_38 : decode cX11_lift 38 = .ok (.getfield 22, 3) := by decide +kernel
theorem dX11_lift_41 : decode cX11_lift 41 = .ok (.iload_n 1, 1) := by decide +kernel
theorem dX11_lift_42 : decode cX11_lift 42 = .ok (.iconst (-1), 1) := by decide +kernel
theorem dX11_lift_43 : decode cX11_lift 43 = .ok (.iastore, 1) := by decide +kernel
theorem dX11_lift_44 : decode cX11_lift 44 = .ok (.iload_n 2, 1) := by decide +kernel
theorem dX11_lift_45 : decode cX11_lift 45 = .ok (.ireturn, 1) := by decide +kernel
theorem dX11_pocket_0 : decode cX11_pocket 0 = .ok (.aload_n 0, 1) := by decide +kernel
theorem dX11_pocket_1 : decode cX11_pocket 1 = .ok (.iload_n 1, 1) := by decide +kernel
theorem dX11_pocket_2 : decode cX11_pocket 2 = .ok (.invokevirtual 144, 3) := by decide +kernel
theorem dX11_pocket_5 : decode cX11_pocket 5 = .ok (.ifCond .ne 9, 3) := by decide +kernel
theorem dX11_pocket_8 : decode cX11_pocket 8 = .ok (.aload_n 0, 1) := by decide +kernel
theorem dX11_pocket_9 : decode cX11_pocket 9 = .ok (.iconst (-1), 1) := by decide +kernel
theorem dX11_pocket_10 : decode cX11_pocket 10 = .ok (.invokevirtual 112, 3) := by decide +kernel
theorem dX11_pocket_13 : decode cX11_pocket 13 = .ok (.ireturn, 1) := by decide +kernel
theorem dX11_pocket_14 : decode cX11_pocket 14 = .ok (.aload_n 0, 1) := by decide +kernel
theorem dX11_pocket_15 : decode cX11_pocket 15 = .ok (.iload_n 1, 1) := by decide +kernel
theorem dX11_pocket_16 : decode cX11_pocket 16 = .ok (.invokevirtual 203, 3) := by decide +kernel
theorem dX11_pocket_19 : decode cX11_pocket 19 = .ok (.ifCond .ne 13, 3) := by decide +kernel
theorem dX11_pocket_22 : decode cX11_pocket 22 = .ok (.aload_n 0, 1) := by decide +kernel
theorem dX11_pocket_23 : decode cX11_pocket 23 = .ok (.getfield 31, 3) := by decide +kernel
theorem dX11_pocket_26 : decode cX11_pocket 26 = .ok (.iload_n 1, 1) := by decide +kernel
theorem dX11_pocket_27 : decode cX11_pocket 27 = .ok (.iaload, 1) := by decide +kernel
theorem dX11_pocket_28 : decode cX11_pocket 28 = .ok (.iconst 1, 1) := by decide +kernel
theorem dX11_pocket_29 : decode cX11_pocket 29 = .ok (.if_icmp .ne 10, 3) := by decide +kernel
theorem dX11_pocket_32 : decode cX11_pocket 32 = .ok (.aload_n 0, 1) := by decide +kernel
theorem dX11_pocket_33 : decode cX11_pocket 33 = .ok (.bipush (-3), 2) := by decide +kernel
theorem dX11_pocket_35 : decode cX11_pocket 35 = .ok (.invokevirtual 112, 3) := by decide +kernel
theorem dX11_pocket_38 : decode cX11_pocket 38 = .ok (.ireturn, 1) := by decide +kernel
theorem dX11_pocket_39 : decode cX11_pocket 39 = .ok (.aload_n 0, 1) := by decide +kernel
theorem dX11_pocket_40 : decode cX11_pocket 40 = .ok (.getfield 31, 3) := by decide +kernel
theorem dX11_pocket_43 : decode cX11_pocket 43 = .ok (.iload_n 1, 1) := by decide +kernel
theorem dX11_pocket_44 : decode cX11_pocket 44 = .ok (.iconst 1, 1) := by decide +kernel
theorem dX11_pocket_45 : decode cX11_pocket 45 = .ok (.iastore, 1) := by decide +kernel
theorem dX11_pocket_46 : decode cX11_pocket 46 = .ok (.aload_n 0, 1) := by decide +kernel
theorem dX11_pocket_47 : decode cX11_pocket 47 = .ok (.invokevirtual 208, 3) := by decide +kernel
theorem dX11_pocket_50 : decode cX11_pocket 50 = .ok (.ireturn, 1) := by decide +kernel
theorem dX11_find_0 : decode cX11_find 0 = .ok (.aload_n 0, 1) := by decide +kernel
theorem dX11_find_1 : decode cX11_find 1 = .ok (.iload_n 1, 1) := by decide +kernel
theorem dX11_find_2 : decode cX11_find 2 = .ok (.invokevirtual 144, 3) := by decide +kernel
theorem dX11_find_5 : decode cX11_find 5 = .ok (.ifCond .ne 9, 3) := by decide +kernel
theorem dX11_find_8 : decode cX11_find 8 = .ok (.aload_n 0, 1) := by decide +kernel
theorem dX11_find_9 : decode cX11_find 9 = .ok (.iconst (-1), 1) := by decide +kernel
theorem dX11_find_10 : decode cX11_find 10 = .ok (.invokevirtual 112, 3) := by decide +kernel
theorem dX11_find_13 : decode cX11_find 13 = .ok (.ireturn, 1) := by decide +kernel
theorem dX11_find_14 : decode cX11_find 14 = .ok (.aload_n 0, 1) := by decide +kernel
theorem dX11_find_15 : decode cX11_find 15 = .ok (.getfield 31, 3) := by decide +kernel
theorem dX11_find_18 : decode cX11_find 18 = .ok (.iload_n 1, 1) := by decide +kernel
theorem dX11_find_19 : decode cX11_find 19 = .ok (.iaload, 1) := by decide +kernel
theorem dX11_find_20 : decode cX11_find 20 = .ok (.ifCond .ne 10, 3) := by decide +kernel
theorem dX11_find_23 : decode cX11_find 23 = .ok (.aload_n 0, 1) := by decide +kernel
theorem dX11_find_24 : decode cX11_find 24 = .ok (.bipush (-3), 2) := by decide +kernel
theorem dX11_find_26 : decode cX11_find 26 = .ok (.invokevirtual 112, 3) := by decide +kernel
theorem dX11_find_29 : decode cX11_find 29 = .ok (.ireturn, 1) := by decide +kernel
theorem dX11_find_30 : decode cX11_find 30 = .ok (.aload_n 0, 1) := by decide +kernel
theorem dX11_find_31 : decode cX11_find 31 = .ok (.getfield 31, 3) := by decide +kernel
theorem dX11_find_34 : decode cX11_find 34 = .ok (.iload_n 1, 1) := by decide +kernel
theorem dX11_find_35 : decode cX11_find 35 = .ok (.iconst 0, 1) := by decide +kernel
theorem dX11_find_36 : decode cX11_find 36 = .ok (.iastore, 1) := by decide +kernel
theorem dX11_find_37 : decode cX11_find 37 = .ok (.aload_n 0, 1) := by decide +kernel
theorem dX11_find_38 : decode cX11_find 38 = .ok (.invokevirtual 208, 3) := by decide +kernel
theorem dX11_find_41 : decode cX11_find 41 = .ok (.ireturn, 1) := by decide +kernel
theorem dX11_findWays_0 : decode cX11_findWays 0 = .ok (.aload_n 0, 1) := by decide +kernel
theorem dX11_findWays_1 : decode cX11_findWays 1 = .ok (.iconst 1, 1) := by decide +kernel
theorem dX11_findWays_2 : decode cX11_findWays 2 = .ok (.iconst 1, 1) := by decide +kernel
theorem dX11_findWays_3 : decode cX11_findWays 3 = .ok (.invokevirtual 151, 3) := by decide +kernel
theorem dX11_findWays_6 : decode cX11_findWays 6 = .ok (.iconst 0, 1) := by decide +kernel
theorem dX11_findWays_7 : decode cX11_findWays 7 = .ok (.istore_n 1, 1) := by decide +kernel
theorem dX11_findWays_8 : decode cX11_findWays 8 = .ok (.iload_n 1, 1) := by decide +kernel
theorem dX11_findWays_9 : decode cX11_findWays 9 = .ok (.bipush 16, 2) := by decide +kernel
theorem dX11_findWays_11 : decode cX11_findWays 11 = .ok (.if_icmp .ge 16, 3) := by decide +kernel
theorem dX11_findWays_14 : decode cX11_findWays 14 = .ok (.aload_n 0, 1) := by decide +kernel
theorem dX11_findWays_15 : decode cX11_findWays 15 = .ok (.getfield 22, 3) := by decide +kernel
theorem dX11_findWays_18 : decode cX11_findWays 18 = .ok (.iload_n 1, 1) := by decide +kernel
theorem dX11_findWays_19 : decode cX11_findWays 19 = .ok (.iconst (-1), 1) := by decide +kernel
theorem dX11_findWays_20 : decode cX11_findWays 20 = .ok (.iastore, 1) := by decide +kernel
theorem dX11_findWays_21 : decode cX11_findWays 21 = .ok (.iinc 1 1, 3) := by decide +kernel
theorem dX11_findWays_24 : decode cX11_findWays 24 = .ok (.goto (-16), 3) := by decide +kernel
theorem dX11_findWays_27 : decode cX11_findWays 27 = .ok (.aload_n 0, 1) := by decide +kernel
theorem dX11_findWays_28 : decode cX11_findWays 28 = .ok (.iconst 0, 1) := by decide +kernel
theorem dX11_findWays_29 : decode cX11_findWays 29 = .ok (.putfield 211, 3) := by decide +kernel
theorem dX11_findWays_32 : decode cX11_findWays 32 = .ok (.aload_n 0, 1) := by decide +kernel
theorem dX11_findWays_33 : decode cX11_findWays 33 = .ok (.iconst 0, 1) := by decide +kernel
theorem dX11_findWays_34 : decode cX11_findWays 34 = .ok (.putfield 214, 3) := by decide +kernel
theorem dX11_findWays_37 : decode cX11_findWays 37 = .ok (.aload_n 0, 1) := by decide +kernel
theorem dX11_findWays_38 : decode cX11_findWays 38 = .ok (.iconst 0, 1) := by decide +kernel
theorem dX11_findWays_39 : decode cX11_findWays 39 = .ok (.putfield 217, 3) := by decide +kernel
theorem dX11_findWays_42 : decode cX11_findWays 42 = .ok (.iconst 0, 1) := by decide +kernel
theorem dX11_findWays_43 : decode cX11_findWays 43 = .ok (.istore_n 1, 1) := by decide +kernel
theorem dX11_findWays_44 : decode cX11_findWays 44 = .ok (.iconst 0, 1) := by decide +kernel
theorem dX11_findWays_45 : decode cX11_findWays 45 = .ok (.istore_n 2, 1) := by decide +kernel
theorem dX11_findWays_46 : decode cX11_findWays 46 = .ok (.iconst 0, 1) := by decide +kernel
theorem dX11_findWays_47 : decode cX11_findWays 47 = .ok (.istore_n 3, 1) := by decide +kernel
theorem dX11_findWays_48 : decode cX11_findWays 48 = .ok (.iload_n 1, 1) := by decide +kernel
theorem dX11_findWays_49 : decode cX11_findWays 49 = .ok (.ifCond .lt 250, 3) := by decide +kernel
theorem dX11_findWays_52 : decode cX11_findWays 52 = .ok (.aload_n 0, 1) := by decide +kernel
theorem dX11_findWays_53 : decode cX11_findWays 53 = .ok (.getfield 214, 3) := by decide +kernel
theorem dX11_findWays_56 : decode cX11_findWays 56 = .ok (.sipush 20000, 3) := by decide +kernel
theorem dX11_findWays_59 : decode cX11_findWays 59 = .ok (.if_icmp .gt 240, 3) := by decide +kernel
theorem dX11_findWays_62 : decode cX11_findWays 62 = .ok (.iload_n 1, 1) := by decide +kernel
theorem dX11_findWays_63 : decode cX11_findWays 63 = .ok (.aload_n 0, 1) := by decide +kernel
theorem dX11_findWays_64 : decode cX11_findWays 64 = .ok (.invokevirtual 91, 3) := by decide +kernel
theorem dX11_findWays_67 : decode cX11_findWays 67 = .ok (.if_icmp .eq 13, 3) := by decide +kernel
theorem dX11_findWays_70 : decode cX11_findWays 70 = .ok (.iload_n 2, 1) := by decide +kernel
theorem dX11_findWays_71 : decode cX11_findWays 71 = .ok (.iconst 4, 1) := by decide +kernel
theorem dX11_findWays_72 : decode cX11_findWays 72 = .ok (.aload_n 0, 1) := by decide +kernel
theorem dX11_findWays_73 : decode cX11_findWays 73 = .ok (.invokevirtual 91, 3) := by decide +kernel
theorem dX11_findWays_76 : decode cX11_findWays 76 = .ok (.imul, 1) := by decide +kernel
theorem dX11_findWays_77 : decode cX11_findWays 77 = .ok (.if_icmp .ne 130, 3) := by decide +kernel
theorem dX11_findWays_80 : decode cX11_findWays 80 = .ok (.iload_n 1, 1) := by decide +kernel
theorem dX11_findWays_81 : decode cX11_findWays 81 = .ok (.aload_n 0, 1) := by decide +kernel
theorem dX11_findWays_82 : decode cX11_findWays 82 = .ok (.invokevirtual 91, 3) := by decide +kernel
theorem dX11_findWays_85 : decode cX11_findWays 85 = .ok (.if_icmp .ne 71, 3) := by decide +kernel
theorem dX11_findWays_88 : decode cX11_findWays 88 = .ok (.aload_n 0, 1) := by decide +kernel
theorem dX11_findWays_89 : decode cX11_findWays 89 = .ok (.dup, 1) := by decide +kernel
theorem dX11_findWays_90 : decode cX11_findWays 90 = .ok (.getfield 211, 3) := by decide +kernel
theorem dX11_findWays_93 : decode cX11_findWays 93 = .ok (.iconst 1, 1) := by decide +kernel
theorem dX11_findWays_94 : decode cX11_findWays 94 = .ok (.iadd, 1) := by decide +kernel
theorem dX11_findWays_95 : decode cX11_findWays 95 = .ok (.putfield 211, 3) := by decide +kernel
theorem dX11_findWays_98 : decode cX11_findWays 98 = .ok (.iconst 0, 1) := by decide +kernel
theorem dX11_findWays_99 : decode cX11_findWays 99 = .ok (.istore 4, 2) := by decide +kernel
theorem dX11_findWays_101 : decode cX11_findWays 101 = .ok (.iload 4, 2) := by decide +kernel
theorem dX11_findWays_103 : decode cX11_findWays 103 = .ok (.aload_n 0, 1) := by decide +kernel
theorem dX11_findWays_104 : decode cX11_findWays 104 = .ok (.invokevirtual 91, 3) := by decide +kernel
theorem dX11_findWays_107 : decode cX11_findWays 107 = .ok (.if_icmp .ge 44, 3) := by decide +kernel
theorem dX11_findWays_110 : decode cX11_findWays 110 = .ok (.aload_n 0, 1) := by decide +kernel
theorem dX11_findWays_111 : decode cX11_findWays 111 = .ok (.getfield 217, 3) := by decide +kernel
theorem dX11_findWays_114 : decode cX11_findWays 114 = .ok (.ifCond .ne 37, 3) := by decide +kernel
theorem dX11_findWays_117 : decode cX11_findWays 117 = .ok (.aload_n 0, 1) := by decide +kernel
theorem dX11_findWays_118 : decode cX11_findWays 118 = .ok (.getfield 64, 3) := by decide +kernel
theorem dX11_findWays_121 : decode cX11_findWays 121 = .ok (.iload 4, 2) := by decide +kernel
theorem dX11_findWays_123 : decode cX11_findWays 123 = .ok (.aload_n 0, 1) := by decide +kernel
theorem dX11_findWays_124 : decode cX11_findWays 124 = .ok (.getfield 22, 3) := by decide +kernel
theorem dX11_findWays_127 : decode cX11_findWays 127 = .ok (.iload 4, 2) := by decide +kernel
theorem dX11_findWays_129 : decode cX11_findWays 129 = .ok (.iaload, 1) := by decide +kernel
theorem dX11_findWays_130 : decode cX11_findWays 130 = .ok (.iastore, 1) := by decide +kernel
theorem dX11_findWays_131 : decode cX11_findWays 131 = .ok (.aload_n 0, 1) := by decide +kernel
theorem dX11_findWays_132 : decode cX11_findWays 132 = .ok (.getfield 67, 3) := by decide +kernel
theorem dX11_findWays_135 : decode cX11_findWays 135 = .ok (.iload 4, 2) := by decide +kernel
theorem dX11_findWays_137 : decode cX11_findWays 137 = .ok (.aload_n 0, 1) := by decide +kernel
theorem dX11_findWays_138 : decode cX11_findWays 138 = .ok (.getfield 25, 3) := by decide +kernel
theorem dX11_findWays_141 : decode cX11_findWays 141 = .ok (.iload 4, 2) := by decide +kernel
theorem dX11_findWays_143 : decode cX11_findWays 143 = .ok (.iaload, 1) := by decide +kernel
theorem dX11_findWays_144 : decode cX11_findWays 144 = .ok (.iastore, 1) := by decide +kernel
theorem dX11_findWays_145 : decode cX11_findWays 145 = .ok (.iinc 4 1, 3) := by decide +kernel
theorem dX11_findWays_148 : decode cX11_findWays 148 = .ok (.goto (-47), 3) := by decide +kernel
theorem dX11_findWays_151 : decode cX11_findWays 151 = .ok (.aload_n 0, 1) := by decide +kernel
theorem dX11_findWays_152 : decode cX11_findWays 152 = .ok (.iconst 1, 1) := by decide +kernel
theorem dX11_findWays_153 : decode cX11_findWays 153 = .ok (.putfield 217, 3) := by decide +kernel
theorem dX11_findWays_156 : decode cX11_findWays 156 = .ok (.iinc 1 (-1), 3) := by decide +kernel
theorem dX11_findWays_159 : decode cX11_findWays 159 = .ok (.iload_n 1, 1) := by decide +kernel
theorem dX11_findWays_160 : decode cX11_findWays 160 = .ok (.ifCond .ge 6, 3) := by decide +kernel
theorem dX11_findWays_163 : decode cX11_findWays 163 = .ok (.goto (-115), 3) := by decide +kernel
theorem dX11_findWays_166 : decode cX11_findWays 166 = .ok (.iconst 4, 1) := by decide +kernel
theorem dX11_findWays_167 : decode cX11_findWays 167 = .ok (.aload_n 0, 1) := by decide +kernel
theorem dX11_findWays_168 : decode cX11_findWays 168 = .ok (.getfield 22, 3) := by decide +kernel
theorem dX11_findWays_171 : decode cX11_findWays 171 = .ok (.iload_n 1, 1) := by decide +kernel
theorem dX11_findWays_172 : decode cX11_findWays 172 = .ok (.iaload, 1) := by decide +kernel
theorem dX11_findWays_173 : decode cX11_findWays 173 = .ok (.imul, 1) := by decide +kernel
theorem dX11_findWays_174 : decode cX11_findWays 174 = .ok (.aload_n 0, 1) := by decide +kernel
theorem dX11_findWays_175 : decode cX11_findWays 175 = .ok (.getfield 25, 3) := by decide +kernel
theorem dX11_findWays_178 : decode cX11_findWays 178 = .ok (.iload_n 1, 1) := by decide +kernel
theorem dX11_findWays_179 : decode cX11_findWays 179 = .ok (.iaload, 1) := by decide +kernel
theorem dX11_findWays_180 : decode cX11_findWays 180 = .ok (.iadd, 1) := by decide +kernel
theorem dX11_findWays_181 : decode cX11_findWays 181 = .ok (.iconst 1, 1) := by decide +kernel
theorem dX11_findWays_182 : decode cX11_findWays 182 = .ok (.iadd, 1) := by decide +kernel
theorem dX11_findWays_183 : decode cX11_findWays 183 = .ok (.istore_n 2, 1) := by decide +kernel
theorem dX11_findWays_184 : decode cX11_findWays 184 = .ok (.iload_n 3, 1) := by decide +kernel
theorem dX11_findWays_185 : decode cX11_findWays 185 = .ok (.iconst 1, 1) := by decide +kernel
theorem dX11_findWays_186 : decode cX11_findWays 186 = .ok (.aload_n 0, 1) := by decide +kernel
theorem dX11_findWays_187 : decode cX11_findWays 187 = .ok (.getfield 22, 3) := by decide +kernel
theorem dX11_findWays_190 : decode cX11_findWays 190 = .ok (.iload_n 1, 1) := by decide +kernel
theorem dX11_findWays_191 : decode cX11_findWays 191 = .ok (.iaload, 1) := by decide +kernel
theorem dX11_findWays_192 : decode cX11_findWays 192 = .ok (.ishl, 1) := by decide +kernel
theorem dX11_findWays_193 : decode cX11_findWays 193 = .ok (.iconst (-1), 1) := by decide +kernel
theorem dX11_findWays_194 : decode cX11_findWays 194 = .ok (.ixor, 1) := by decide +kernel
theorem dX11_findWays_195 : decode cX11_findWays 195 = .ok (.iand, 1) := by decide +kernel
theorem dX11_findWays_196 : decode cX11_findWays 196 = .ok (.istore_n 3, 1) := by decide +kernel
theorem dX11_findWays_197 : decode cX11_findWays 197 = .ok (.aload_n 0, 1) := by decide +kernel
theorem dX11_findWays_198 : decode cX11_findWays 198 = .ok (.getfield 22, 3) := by decide +kernel
theorem dX11_findWays_201 : decode cX11_findWays 201 = .ok (.iload_n 1, 1) := by decide +kernel
theorem dX11_findWays_202 : decode cX11_findWays 202 = .ok (.iconst (-1), 1) := by decide +kernel
theorem dX11_findWays_203 : decode cX11_findWays 203 = .ok (.iastore, 1) := by decide +kernel
theorem dX11_findWays_204 : decode cX11_findWays 204 = .ok (.goto (-156), 3) := by decide +kernel
theorem dX11_findWays_207 : decode cX11_findWays 207 = .ok (.iload_n 2, 1) := by decide +kernel
theorem dX11_findWays_208 : decode cX11_findWays 208 = .ok (.iconst 4, 1) := by decide +kernel
theorem dX11_findWays_209 : decode cX11_findWays 209 = .ok (.idiv, 1) := by decide +kernel
theorem dX11_findWays_210 : decode cX11_findWays 210 = .ok (.istore 4, 2) := by decide +kernel
theorem dX11_findWays_212 : decode cX11_findWays 212 = .ok (.iload_n 2, 1) := by decide +kernel
theorem dX11_findWays_213 : decode cX11_findWays 213 = .ok (.iconst 4, 1) := by decide +kernel
theorem dX11_findWays_214 : decode cX11_findWays 214 = .ok (.irem, 1) := by decide +kernel
theorem dX11_findWays_215 : decode cX11_findWays 215 = .ok (.istore 5, 2) := by decide +kernel
theorem dX11_findWays_217 : decode cX11_findWays 217 = .ok (.iinc 2 1, 3) := by decide +kernel
theorem dX11_findWays_220 : decode cX11_findWays 220 = .ok (.iload_n 3, 1) := by decide +kernel
theorem dX11_findWays_221 : decode cX11_findWays 221 = .ok (.iload 4, 2) := by decide +kernel
theorem dX11_findWays_223 : decode cX11_findWays 223 = .ok (.ishr, 1) := by decide +kernel
theorem dX11_findWays_224 : decode cX11_findWays 224 = .ok (.iconst 1, 1) := by decide +kernel
theorem dX11_findWays_225 : decode cX11_findWays 225 = .ok (.iand, 1) := by decide +kernel
theorem dX11_findWays_226 : decode cX11_findWays 226 = .ok (.iconst 1, 1) := by decide +kernel
theorem dX11_findWays_227 : decode cX11_findWays 227 = .ok (.if_icmp .ne 6, 3) := by decide +kernel
theorem dX11_findWays_230 : decode cX11_findWays 230 = .ok (.goto (-182), 3) := by decide +kernel
theorem dX11_findWays_233 : decode cX11_findWays 233 = .ok (.aload_n 0, 1) := by decide +kernel
theorem dX11_findWays_234 : decode cX11_findWays 234 = .ok (.dup, 1) := by decide +kernel
theorem dX11_findWays_235 : decode cX11_findWays 235 = .ok (.getfield 214, 3) := by decide +kernel
theorem dX11_findWays_238 : decode cX11_findWays 238 = .ok (.iconst 1, 1) := by decide +kernel
theorem dX11_findWays_239 : decode cX11_findWays 239 = .ok (.iadd, 1) := by decide +kernel
theorem dX11_findWays_240 : decode cX11_findWays 240 = .ok (.putfield 214, 3) := by decide +kernel
theorem dX11_findWays_243 : decode cX11_findWays 243 = .ok (.aload_n 0, 1) := by decide +kernel
theorem dX11_findWays_244 : decode cX11_findWays 244 = .ok (.getfield 214, 3) := by decide +kernel
theorem dX11_findWays_247 : decode cX11_findWays 247 = .ok (.sipush 20000, 3) := by decide +kernel
theorem dX11_findWays_250 : decode cX11_findWays 250 = .ok (.if_icmp .gt (-202), 3) := by decide +kernel
theorem dX11_findWays_253 : decode cX11_findWays 253 = .ok (.aload_n 0, 1) := by decide +kernel
theorem dX11_findWays_254 : decode cX11_findWays 254 = .ok (.iload 4, 2) := by decide +kernel
theorem dX11_findWays_256 : decode cX11_findWays 256 = .ok (.iload 5, 2) := by decide +kernel
theorem dX11_findWays_258 : decode cX11_findWays 258 = .ok (.iload_n 1, 1) := by decide +kernel
theorem dX11_findWays_259 : decode cX11_findWays 259 = .ok (.invokevirtual 181, 3) := by decide +kernel
theorem dX11_findWays_262 : decode cX11_findWays 262 = .ok (.ifCond .ne 6, 3) := by decide +kernel
theorem dX11_findWays_265 : decode cX11_findWays 265 = .ok (.goto (-217), 3) := by decide +kernel
theorem dX11_findWays_268 : decode cX11_findWays 268 = .ok (.aload_n 0, 1) := by decide +kernel
theorem dX11_findWays_269 : decode cX11_findWays 269 = .ok (.getfield 22, 3) := by decide +kernel
theorem dX11_findWays_272 : decode cX11_findWays 272 = .ok (.iload_n 1, 1) := by decide +kernel
theorem dX11_findWays_273 : decode cX11_findWays 273 = .ok (.iload 4, 2) := by decide +kernel
theorem dX11_findWays_275 : decode cX11_findWays 275 = .ok (.iastore, 1) := by decide +kernel
theorem dX11_findWays_276 : decode cX11_findWays 276 = .ok (.aload_n 0, 1) := by decide +kernel
theorem dX11_findWays_277 : decode cX11_findWays 277 = .ok (.getfield 25, 3) := by decide +kernel
theorem dX11_findWays_280 : decode cX11_findWays 280 = .ok (.iload_n 1, 1) := by decide +kernel
theorem dX11_findWays_281 : decode cX11_findWays 281 = .ok (.iload 5, 2) := by decide +kernel
theorem dX11_findWays_283 : decode cX11_findWays 283 = .ok (.iastore, 1) := by decide +kernel
theorem dX11_findWays_284 : decode cX11_findWays 284 = .ok (.iload_n 3, 1) := by decide +kernel
theorem dX11_findWays_285 : decode cX11_findWays 285 = .ok (.iconst 1, 1) := by decide +kernel
theorem dX11_findWays_286 : decode cX11_findWays 286 = .ok (.iload 4, 2) := by decide +kernel
theorem dX11_findWays_288 : decode cX11_findWays 288 = .ok (.ishl, 1) := by decide +kernel
theorem dX11_findWays_289 : decode cX11_findWays 289 = .ok (.ior, 1) := by decide +kernel
theorem dX11_findWays_290 : decode cX11_findWays 290 = .ok (.istore_n 3, 1) := by decide +kernel
theorem dX11_findWays_291 : decode cX11_findWays 291 = .ok (.iinc 1 1, 3) := by decide +kernel
theorem dX11_findWays_294 : decode cX11_findWays 294 = .ok (.iconst 0, 1) := by decide +kernel
theorem dX11_findWays_295 : decode cX11_findWays 295 = .ok (.istore_n 2, 1) := by decide +kernel
theorem dX11_findWays_296 : decode cX11_findWays 296 = .ok (.goto (-248), 3) := by decide +kernel
theorem dX11_findWays_299 : decode cX11_findWays 299 = .ok (.aload_n 0, 1) := by decide +kernel
theorem dX11_findWays_300 : decode cX11_findWays 300 = .ok (.iconst 1, 1) := by decide +kernel
theorem dX11_findWays_301 : decode cX11_findWays 301 = .ok (.iconst 0, 1) := by decide +kernel
theorem dX11_findWays_302 : decode cX11_findWays 302 = .ok (.invokevirtual 151, 3) := by decide +kernel
theorem dX11_findWays_305 : decode cX11_findWays 305 = .ok (.return_, 1) := by decide +kernel
theorem dX11_ways_0 : decode cX11_ways 0 = .ok (.iload_n 1, 1) := by decide +kernel
theorem dX11_ways_1 : decode cX11_ways 1 = .ok (.iconst 0, 1) := by decide +kernel
theorem dX11_ways_2 : decode cX11_ways 2 = .ok (.iconst 1, 1) := by decide +kernel
theorem dX11_ways_3 : decode cX11_ways 3 = .ok (.invokestatic 124, 3) := by decide +kernel
theorem dX11_ways_6 : decode cX11_ways 6 = .ok (.ifCond .ne 10, 3) := by decide +kernel
theorem dX11_ways_9 : decode cX11_ways 9 = .ok (.aload_n 0, 1) := by decide +kernel
theorem dX11_ways_10 : decode cX11_ways 10 = .ok (.bipush (-2), 2) := by decide +kernel
theorem dX11_ways_12 : decode cX11_ways 12 = .ok (.invokevirtual 112, 3) := by decide +kernel
theorem dX11_ways_15 : decode cX11_ways 15 = .ok (.ireturn, 1) := by decide +kernel
theorem dX11_ways_16 : decode cX11_ways 16 = .ok (.aload_n 0, 1) := by decide +kernel
theorem dX11_ways_17 : decode cX11_ways 17 = .ok (.invokevirtual 220, 3) := by decide +kernel
theorem dX11_ways_20 : decode cX11_ways 20 = .ok (.iload_n 1, 1) := by decide +kernel
theorem dX11_ways_21 : decode cX11_ways 21 = .ok (.iconst 1, 1) := by decide +kernel
theorem dX11_ways_22 : decode cX11_ways 22 = .ok (.if_icmp .ne 10, 3) := by decide +kernel
theorem dX11_ways_25 : decode cX11_ways 25 = .ok (.aload_n 0, 1) := by decide +kernel
theorem dX11_ways_26 : decode cX11_ways 26 = .ok (.getfield 214, 3) := by decide +kernel
theorem dX11_ways_29 : decode cX11_ways 29 = .ok (.goto 22, 3) := by decide +kernel
theorem dX11_ways_32 : decode cX11_ways 32 = .ok (.aload_n 0, 1) := by decide +kernel
theorem dX11_ways_33 : decode cX11_ways 33 = .ok (.getfield 214, 3) := by decide +kernel
theorem dX11_ways_36 : decode cX11_ways 36 = .ok (.sipush 20000, 3) := by decide +kernel
theorem dX11_ways_39 : decode cX11_ways 39 = .ok (.if_icmp .le 8, 3) := by decide +kernel
theorem dX11_ways_42 : decode cX11_ways 42 = .ok (.bipush (-9), 2) := by decide +kernel
theorem dX11_ways_44 : decode cX11_ways 44 = .ok (.goto 7, 3) := by decide +kernel
theorem dX11_ways_47 : decode cX11_ways 47 = .ok (.aload_n 0, 1) := by decide +kernel
theorem dX11_ways_48 : decode cX11_ways 48 = .ok (.getfield 211, 3) := by decide +kernel
theorem dX11_ways_51 : decode cX11_ways 51 = .ok (.ireturn, 1) := by decide +kernel
theorem dX11_first_0 : decode cX11_first 0 = .ok (.aload_n 0, 1) := by decide +kernel
theorem dX11_first_1 : decode cX11_first 1 = .ok (.iload_n 1, 1) := by decide +kernel
theorem dX11_first_2 : decode cX11_first 2 = .ok (.invokevirtual 144, 3) := by decide +kernel
theorem dX11_first_5 : decode cX11_first 5 = .ok (.ifCond .ne 9, 3) := by decide +kernel
theorem dX11_first_8 : decode cX11_first 8 = .ok (.aload_n 0, 1) := by decide +kernel
theorem dX11_first_9 : decode cX11_first 9 = .ok (.iconst (-1), 1) := by decide +kernel
theorem dX11_first_10 : decode cX11_first 10 = .ok (.invokevirtual 112, 3) := by decide +kernel
theorem dX11_first_13 : decode cX11_first 13 = .ok (.ireturn, 1) := by decide +kernel
theorem dX11_first_14 : decode cX11_first 14 = .ok (.iload_n 2, 1) := by decide +kernel
theorem dX11_first_15 : decode cX11_first 15 = .ok (.iconst 0, 1) := by decide +kernel
theorem dX11_first_16 : decode cX11_first 16 = .ok (.iconst 1, 1) := by decide +kernel
theorem dX11_first_17 : decode cX11_first 17 = .ok (.invokestatic 124, 3) := by decide +kernel
theorem dX11_first_20 : decode cX11_first 20 = .ok (.ifCond .ne 10, 3) := by decide +kernel
theorem dX11_first_23 : decode cX11_first 23 = .ok (.aload_n 0, 1) := by decide +kernel
theorem dX11_first_24 : decode cX11_first 24 = .ok (.bipush (-2), 2) := by decide +kernel
theorem dX11_first_26 : decode cX11_first 26 = .ok (.invokevirtual 112, 3) := by decide +kernel
theorem dX11_first_29 : decode cX11_first 29 = .ok (.ireturn, 1) := by decide +kernel
theorem dX11_first_30 : decode cX11_first 30 = .ok (.aload_n 0, 1) := by decide +kernel
theorem dX11_first_31 : decode cX11_first 31 = .ok (.invokevirtual 220, 3) := by decide +kernel
theorem dX11_first_34 : decode cX11_first 34 = .ok (.aload_n 0, 1) := by decide +kernel
theorem dX11_first_35 : decode cX11_first 35 = .ok (.getfield 217, 3) := by decide +kernel
theorem dX11_first_38 : decode cX11_first 38 = .ok (.ifCond .ne 8, 3) := by decide +kernel
theorem dX11_first_41 : decode cX11_first 41 = .ok (.bipush (-9), 2) := by decide +kernel
theorem dX11_first_43 : decode cX11_first 43 = .ok (.goto 22, 3) := by decide +kernel
theorem dX11_first_46 : decode cX11_first 46 = .ok (.iload_n 2, 1) := by decide +kernel
theorem dX11_first_47 : decode cX11_first 47 = .ok (.ifCond .ne 12, 3) := by decide +kernel
theorem dX11_first_50 : decode cX11_first 50 = .ok (.aload_n 0, 1) := by decide +kernel
theorem dX11_first_51 : decode cX11_first 51 = .ok (.getfield 64, 3) := by decide +kernel
theorem dX11_first_54 : decode cX11_first 54 = .ok (.iload_n 1, 1) := by decide +kernel
theorem dX11_first_55 : decode cX11_first 55 = .ok (.iaload, 1) := by decide +kernel
theorem dX11_first_56 : decode cX11_first 56 = .ok (.goto 9, 3) := by decide +kernel
theorem dX11_first_59 : decode cX11_first 59 = .ok (.aload_n 0, 1) := by decide +kernel
theorem dX11_first_60 : decode cX11_first 60 = .ok (.getfield 67, 3) := by decide +kernel
theorem dX11_first_63 : decode cX11_first 63 = .ok (.iload_n 1, 1) := by decide +kernel
theorem dX11_first_64 : decode cX11_first 64 = .ok (.iaload, 1) := by decide +kernel
theorem dX11_first_65 : decode cX11_first 65 = .ok (.ireturn, 1) := by decide +kernel
theorem dX11_findOrder_0 : decode cX11_findOrder 0 = .ok (.aload_n 0, 1) := by decide +kernel
theorem dX11_findOrder_1 : decode cX11_findOrder 1 = .ok (.iconst 0, 1) := by decide +kernel
theorem dX11_findOrder_2 : decode cX11_findOrder 2 = .ok (.putfield 223, 3) := by decide +kernel
theorem dX11_findOrder_5 : decode cX11_findOrder 5 = .ok (.iconst 0, 1) := by decide +kernel
theorem dX11_findOrder_6 : decode cX11_findOrder 6 = .ok (.istore_n 2, 1) := by decide +kernel
theorem dX11_findOrder_7 : decode cX11_findOrder 7 = .ok (.iload_n 2, 1) := by decide +kernel
theorem dX11_findOrder_8 : decode cX11_findOrder 8 = .ok (.iconst 2, 1) := by decide +kernel
theorem dX11_findOrder_9 : decode cX11_findOrder 9 = .ok (.if_icmp .ge 91, 3) := by decide +kernel
theorem dX11_findOrder_12 : decode cX11_findOrder 12 = .ok (.iconst 0, 1) := by decide +kernel
theorem dX11_findOrder_13 : decode cX11_findOrder 13 = .ok (.istore_n 3, 1) := by decide +kernel
theorem dX11_findOrder_14 : decode cX11_findOrder 14 = .ok (.iload_n 3, 1) := by decide +kernel
theorem dX11_findOrder_15 : decode cX11_findOrder 15 = .ok (.aload_n 0, 1) := by decide +kernel
theorem dX11_findOrder_16 : decode cX11_findOrder 16 = .ok (.invokevirtual 91, 3) := by decide +kernel
theorem dX11_findOrder_19 : decode cX11_findOrder 19 = .ok (.if_icmp .ge 75, 3) := by decide +kernel
theorem dX11_findOrder_22 : decode cX11_findOrder 22 = .ok (.iload_n 1, 1) := by decide +kernel
theorem dX11_findOrder_23 : decode cX11_findOrder 23 = .ok (.iconst 1, 1) := by decide +kernel
theorem dX11_findOrder_24 : decode cX11_findOrder 24 = .ok (.if_icmp .ne 11, 3) := by decide +kernel
theorem dX11_findOrder_27 : decode cX11_findOrder 27 = .ok (.aload_n 0, 1) := by decide +kernel
theorem dX11_findOrder_28 : decode cX11_findOrder 28 = .ok (.iload_n 3, 1) := by decide +kernel
theorem dX11_findOrder_29 : decode cX11_findOrder 29 = .ok (.invokevirtual 187, 3) := by decide +kernel
theorem dX11_findOrder_32 : decode cX11_findOrder 32 = .ok (.ifCond .eq 7, 3) := by decide +kernel
theorem dX11_findOrder_35 : decode cX11_findOrder 35 = .ok (.iconst 1, 1) := by decide +kernel
theorem dX11_findOrder_36 : decode cX11_findOrder 36 = .ok (.goto 4, 3) := by decide +kernel
theorem dX11_findOrder_39 : decode cX11_findOrder 39 = .ok (.iconst 0, 1) := by decide +kernel
theorem dX11_findOrder_40 : decode cX11_findOrder 40 = .ok (.istore 4, 2) := by decide +kernel
theorem dX11_findOrder_42 : decode cX11_findOrder 42 = .ok (.aload_n 0, 1) := by decide +kernel
theorem dX11_findOrder_43 : decode cX11_findOrder 43 = .ok (.getfield 22, 3) := by decide +kernel
theorem dX11_findOrder_46 : decode cX11_findOrder 46 = .ok (.iload_n 3, 1) := by decide +kernel
theorem dX11_findOrder_47 : decode cX11_findOrder 47 = .ok (.iaload, 1) := by decide +kernel
theorem dX11_findOrder_48 : decode cX11_findOrder 48 = .ok (.ifCond .ge 40, 3) := by decide +kernel
theorem dX11_findOrder_51 : decode cX11_findOrder 51 = .ok (.iload 4, 2) := by decide +kernel
theorem dX11_findOrder_53 : decode cX11_findOrder 53 = .ok (.iload_n 2, 1) := by decide +kernel
theorem dX11_findOrder_54 : decode cX11_findOrder 54 = .ok (.ifCond .ne 7, 3) := by decide +kernel
theorem dX11_findOrder_57 : decode cX11_findOrder 57 = .ok (.iconst 1, 1) := by decide +kernel
theorem dX11_findOrder_58 : decode cX11_findOrder 58 = .ok (.goto 4, 3) := by decide +kernel
theorem dX11_findOrder_61 : decode cX11_findOrder 61 = .ok (.iconst 0, 1) := by decide +kernel
theorem dX11_findOrder_62 : decode cX11_findOrder 62 = .ok (.if_icmp .eq 6, 3) := by decide +kernel
theorem dX11_findOrder_65 : decode cX11_findOrder 65 = .ok (.goto 23, 3) := by decide +kernel
theorem dX11_findOrder_68 : decode cX11_findOrder 68 = .ok (.aload_n 0, 1) := by decide +kernel
theorem dX11_findOrder_69 : decode cX11_findOrder 69 = .ok (.getfield 70, 3) := by decide +kernel
theorem dX11_findOrder_72 : decode cX11_findOrder 72 = .ok (.aload_n 0, 1) := by decide +kernel
theorem dX11_findOrder_73 : decode cX11_findOrder 73 = .ok (.getfield 223, 3) := by decide +kernel
theorem dX11_findOrder_76 : decode cX11_findOrder 76 = .ok (.iload_n 3, 1) := by decide +kernel
theorem dX11_findOrder_77 : decode cX11_findOrder 77 = .ok (.iastore, 1) := by decide +kernel
theorem dX11_findOrder_78 : decode cX11_findOrder 78 = .ok (.aload_n 0, 1) := by decide +kernel
theorem dX11_findOrder_79 : decode cX11_findOrder 79 = .ok (.dup, 1) := by decide +kernel
theorem dX11_findOrder_80 : decode cX11_findOrder 80 = .ok (.getfield 223, 3) := by decide +kernel
theorem dX11_findOrder_83 : decode cX11_findOrder 83 = .ok (.iconst 1, 1) := by decide +kernel
theorem dX11_findOrder_84 : decode cX11_findOrder 84 = .ok (.iadd, 1) := by decide +kernel
theorem dX11_findOrder_85 : decode cX11_findOrder 85 = .ok (.putfield 223, 3) := by decide +kernel
theorem dX11_findOrder_88 : decode cX11_findOrder 88 = .ok (.iinc 3 1, 3) := by decide +kernel
theorem dX11_findOrder_91 : decode cX11_findOrder 91 = .ok (.goto (-77), 3) := by decide +kernel
theorem dX11_findOrder_94 : decode cX11_findOrder 94 = .ok (.iinc 2 1, 3) := by decide +kernel
theorem dX11_findOrder_97 : decode cX11_findOrder 97 = .ok (.goto (-90), 3) := by decide +kernel
theorem dX11_findOrder_100 : decode cX11_findOrder 100 = .ok (.return_, 1) := by decide +kernel
theorem dX11_nubs_0 : decode cX11_nubs 0 = .ok (.iconst 0, 1) := by decide +kernel
theorem dX11_nubs_1 : decode cX11_nubs 1 = .ok (.istore_n 2, 1) := by decide +kernel
theorem dX11_nubs_2 : decode cX11_nubs 2 = .ok (.iconst 0, 1) := by decide +kernel
theorem dX11_nubs_3 : decode cX11_nubs 3 = .ok (.istore_n 3, 1) := by decide +kernel
theorem dX11_nubs_4 : decode cX11_nubs 4 = .ok (.iload_n 3, 1) := by decide +kernel
theorem dX11_nubs_5 : decode cX11_nubs 5 = .ok (.iconst 4, 1) := by decide +kernel
theorem dX11_nubs_6 : decode cX11_nubs 6 = .ok (.if_icmp .ge 26, 3) := by decide +kernel
theorem dX11_nubs_9 : decode cX11_nubs 9 = .ok (.iload_n 2, 1) := by decide +kernel
theorem dX11_nubs_10 : decode cX11_nubs 10 = .ok (.aload_n 0, 1) := by decide +kernel
theorem dX11_nubs_11 : decode cX11_nubs 11 = .ok (.iload_n 1, 1) := by decide +kernel
theorem dX11_nubs_12 : decode cX11_nubs 12 = .ok (.iload_n 3, 1) := by decide +kernel
theorem dX11_nubs_13 : decode cX11_nubs 13 = .ok (.invokevirtual 102, 3) := by decide +kernel
theorem dX11_nubs_16 : decode cX11_nubs 16 = .ok (.ifCond .le 7, 3) := by decide +kernel
theorem dX11_nubs_19 : decode cX11_nubs 19 = .ok (.iconst 1, 1) := by decide +kernel
theorem dX11_nubs_20 : decode cX11_nubs 20 = .ok (.goto 4, 3) := by decide +kernel
theorem dX11_nubs_23 : decode cX11_nubs 23 = .ok (.iconst 0, 1) := by decide +kernel
theorem dX11_nubs_24 : decode cX11_nubs 24 = .ok (.iadd, 1) := by decide +kernel
theorem dX11_nubs_25 : decode cX11_nubs 25 = .ok (.istore_n 2, 1) := by decide +kernel
theorem dX11_nubs_26 : decode cX11_nubs 26 = .ok (.iinc 3 1, 3) := by decide +kernel
theorem dX11_nubs_29 : decode cX11_nubs 29 = .ok (.goto (-25), 3) := by decide +kernel
theorem dX11_nubs_32 : decode cX11_nubs 32 = .ok (.iload_n 2, 1) := by decide +kernel
theorem dX11_nubs_33 : decode cX11_nubs 33 = .ok (.ireturn, 1) := by decide +kernel
theorem dX11_hasFlat_0 : decode cX11_hasFlat 0 = .ok (.iconst 0, 1) := by decide +kernel
theorem dX11_hasFlat_1 : decode cX11_hasFlat 1 = .ok (.istore_n 2, 1) := by decide +kernel
theorem dX11_hasFlat_2 : decode cX11_hasFlat 2 = .ok (.iload_n 2, 1) := by decide +kernel
theorem dX11_hasFlat_3 : decode cX11_hasFlat 3 = .ok (.iconst 4, 1) := by decide +kernel
theorem dX11_hasFlat_4 : decode cX11_hasFlat 4 = .ok (.if_icmp .ge 20, 3) := by decide +kernel
theorem dX11_hasFlat_7 : decode cX11_hasFlat 7 = .ok (.aload_n 0, 1) := by decide +kernel
theorem dX11_hasFlat_8 : decode cX11_hasFlat 8 = .ok (.iload_n 1, 1) := by decide +kernel
theorem dX11_hasFlat_9 : decode cX11_hasFlat 9 = .ok (.iload_n 2, 1) := by decide +kernel
theorem dX11_hasFlat_10 : decode cX11_hasFlat 10 = .ok (.invokevirtual 102, 3) := by decide +kernel
theorem dX11_hasFlat_13 : decode cX11_hasFlat 13 = .ok (.ifCond .ne 5, 3) := by decide +kernel
theorem dX11_hasFlat_16 : decode cX11_hasFlat 16 = .ok (.iconst 1, 1) := by decide +kernel
theorem dX11_hasFlat_17 : decode cX11_hasFlat 17 = .ok (.ireturn, 1) := by decide +kernel
theorem dX11_hasFlat_18 : decode cX11_hasFlat 18 = .ok (.iinc 2 1, 3) := by decide +kernel
theorem dX11_hasFlat_21 : decode cX11_hasFlat 21 = .ok (.goto (-19), 3) := by decide +kernel
theorem dX11_hasFlat_24 : decode cX11_hasFlat 24 = .ok (.iconst 0, 1) := by decide +kernel
theorem dX11_hasFlat_25 : decode cX11_hasFlat 25 = .ok (.ireturn, 1) := by decide +kernel
theorem dX11_isAsked_0 : decode cX11_isAsked 0 = .ok (.iload_n 1, 1) := by decide +kernel
theorem dX11_isAsked_1 : decode cX11_isAsked 1 = .ok (.tableswitch 72 0 2 #[27, 29, 51], 27) := by decide +kernel
theorem dX11_isAsked_28 : decode cX11_isAsked 28 = .ok (.iconst 1, 1) := by decide +kernel
theorem dX11_isAsked_29 : decode cX11_isAsked 29 = .ok (.ireturn, 1) := by decide +kernel
theorem dX11_isAsked_30 : decode cX11_isAsked 30 = .ok (.aload_n 0, 1) := by decide +kernel
theorem dX11_isAsked_31 : decode cX11_isAsked 31 = .ok (.iload_n 3, 1) := by decide +kernel
theorem dX11_isAsked_32 : decode cX11_isAsked 32 = .ok (.invokevirtual 187, 3) := by decide +kernel
theorem dX11_isAsked_35 : decode cX11_isAsked 35 = .ok (.ifCond .eq 11, 3) := by decide +kernel
theorem dX11_isAsked_38 : decode cX11_isAsked 38 = .ok (.aload_n 0, 1) := by decide +kernel
theorem dX11_isAsked_39 : decode cX11_isAsked 39 = .ok (.iload_n 2, 1) := by decide +kernel
theorem dX11_isAsked_40 : decode cX11_isAsked 40 = .ok (.invokevirtual 226, 3) := by decide +kernel
theorem dX11_isAsked_43 : decode cX11_isAsked 43 = .ok (.ifCond .eq 7, 3) := by decide +kernel
theorem dX11_isAsked_46 : decode cX11_isAsked 46 = .ok (.iconst 1, 1) := by decide +kernel
theorem dX11_isAsked_47 : decode cX11_isAsked 47 = .ok (.goto 4, 3) := by decide +kernel
theorem dX11_isAsked_50 : decode cX11_isAsked 50 = .ok (.iconst 0, 1) := by decide +kernel
theorem dX11_isAsked_51 : decode cX11_isAsked 51 = .ok (.ireturn, 1) := by decide +kernel
theorem dX11_isAsked_52 : decode cX11_isAsked 52 = .ok (.aload_n 0, 1) := by decide +kernel
theorem dX11_isAsked_53 : decode cX11_isAsked 53 = .ok (.getfield 19, 3) := by decide +kernel
theorem dX11_isAsked_56 : decode cX11_isAsked 56 = .ok (.iload_n 2, 1) := by decide +kernel
theorem dX11_isAsked_57 : decode cX11_isAsked 57 = .ok (.iaload, 1) := by decide +kernel
theorem dX11_isAsked_58 : decode cX11_isAsked 58 = .ok (.aload_n 0, 1) := by decide +kernel
theorem dX11_isAsked_59 : decode cX11_isAsked 59 = .ok (.getfield 19, 3) := by decide +kernel
theorem dX11_isAsked_62 : decode cX11_isAsked 62 = .ok (.iload_n 3, 1) := by decide +kernel
theorem dX11_isAsked_63 : decode cX11_isAsked 63 = .ok (.iaload, 1) := by decide +kernel
theorem dX11_isAsked_64 : decode cX11_isAsked 64 = .ok (.if_icmp .ne 7, 3) := by decide +kernel
theorem dX11_isAsked_67 : decode cX11_isAsked 67 = .ok (.iconst 1, 1) := by decide +kernel
theorem dX11_isAsked_68 : decode cX11_isAsked 68 = .ok (.goto 4, 3) := by decide +kernel
theorem dX11_isAsked_71 : decode cX11_isAsked 71 = .ok (.iconst 0, 1) := by decide +kernel
theorem dX11_isAsked_72 : decode cX11_isAsked 72 = .ok (.ireturn, 1) := by decide +kernel
theorem dX11_isAsked_73 : decode cX11_isAsked 73 = .ok (.aload_n 0, 1) := by decide +kernel
theorem dX11_isAsked_74 : decode cX11_isAsked 74 = .ok (.iload_n 2, 1) := by decide +kernel
theorem dX11_isAsked_75 : decode cX11_isAsked 75 = .ok (.invokevirtual 229, 3) := by decide +kernel
theorem dX11_isAsked_78 : decode cX11_isAsked 78 = .ok (.aload_n 0, 1) := by decide +kernel
theorem dX11_isAsked_79 : decode cX11_isAsked 79 = .ok (.iload_n 3, 1) := by decide +kernel
theorem dX11_isAsked_80 : decode cX11_isAsked 80 = .ok (.invokevirtual 229, 3) := by decide +kernel
theorem dX11_isAsked_83 : decode cX11_isAsked 83 = .ok (.if_icmp .ne 7, 3) := by decide +kernel
theorem dX11_isAsked_86 : decode cX11_isAsked 86 = .ok (.iconst 1, 1) := by decide +kernel
theorem dX11_isAsked_87 : decode cX11_isAsked 87 = .ok (.goto 4, 3) := by decide +kernel
theorem dX11_isAsked_90 : decode cX11_isAsked 90 = .ok (.iconst 0, 1) := by decide +kernel
theorem dX11_isAsked_91 : decode cX11_isAsked 91 = .ok (.ireturn, 1) := by decide +kernel
theorem dX11_sortsFor_0 : decode cX11_sortsFor 0 = .ok (.iconst 0, 1) := by decide +kernel
theorem dX11_sortsFor_1 : decode cX11_sortsFor 1 = .ok (.istore_n 2, 1) := by decide +kernel
theorem dX11_sortsFor_2 : decode cX11_sortsFor 2 = .ok (.iconst 0, 1) := by decide +kernel
theorem dX11_sortsFor_3 : decode cX11_sortsFor 3 = .ok (.istore_n 3, 1) := by decide +kernel
theorem dX11_sortsFor_4 : decode cX11_sortsFor 4 = .ok (.iload_n 3, 1) := by decide +kernel
theorem dX11_sortsFor_5 : decode cX11_sortsFor 5 = .ok (.aload_n 0, 1) := by decide +kernel
theorem dX11_sortsFor_6 : decode cX11_sortsFor 6 = .ok (.invokevirtual 91, 3) := by decide +kernel
theorem dX11_sortsFor_9 : decode cX11_sortsFor 9 = .ok (.if_icmp .ge 34, 3) := by decide +kernel
theorem dX11_sortsFor_12 : decode cX11_sortsFor 12 = .ok (.iload_n 2, 1) := by decide +kernel
theorem dX11_sortsFor_13 : decode cX11_sortsFor 13 = .ok (.aload_n 0, 1) := by decide +kernel
theorem dX11_sortsFor_14 : decode cX11_sortsFor 14 = .ok (.getfield 31, 3) := by decide +kernel
theorem dX11_sortsFor_17 : decode cX11_sortsFor 17 = .ok (.iload_n 3, 1) := by decide +kernel
theorem dX11_sortsFor_18 : decode cX11_sortsFor 18 = .ok (.iaload, 1) := by decide +kernel
theorem dX11_sortsFor_19 : decode cX11_sortsFor 19 = .ok (.ifCond .ne 15, 3) := by decide +kernel
theorem dX11_sortsFor_22 : decode cX11_sortsFor 22 = .ok (.aload_n 0, 1) := by decide +kernel
theorem dX11_sortsFor_23 : decode cX11_sortsFor 23 = .ok (.iload_n 3, 1) := by decide +kernel
theorem dX11_sortsFor_24 : decode cX11_sortsFor 24 = .ok (.invokevirtual 203, 3) := by decide +kernel
theorem dX11_sortsFor_27 : decode cX11_sortsFor 27 = .ok (.ifCond .ne 7, 3) := by decide +kernel
theorem dX11_sortsFor_30 : decode cX11_sortsFor 30 = .ok (.iconst 1, 1) := by decide +kernel
theorem dX11_sortsFor_31 : decode cX11_sortsFor 31 = .ok (.goto 4, 3) := by decide +kernel
theorem dX11_sortsFor_34 : decode cX11_sortsFor 34 = .ok (.iconst 0, 1) := by decide +kernel
theorem dX11_sortsFor_35 : decode cX11_sortsFor 35 = .ok (.iadd, 1) := by decide +kernel
theorem dX11_sortsFor_36 : decode cX11_sortsFor 36 = .ok (.istore_n 2, 1) := by decide +kernel
theorem dX11_sortsFor_37 : decode cX11_sortsFor 37 = .ok (.iinc 3 1, 3) := by decide +kernel
theorem dX11_sortsFor_40 : decode cX11_sortsFor 40 = .ok (.goto (-36), 3) := by decide +kernel
theorem dX11_sortsFor_43 : decode cX11_sortsFor 43 = .ok (.iload_n 1, 1) := by decide +kernel
theorem dX11_sortsFor_44 : decode cX11_sortsFor 44 = .ok (.iconst 2, 1) := by decide +kernel
theorem dX11_sortsFor_45 : decode cX11_sortsFor 45 = .ok (.if_icmp .ne 9, 3) := by decide +kernel
theorem dX11_sortsFor_48 : decode cX11_sortsFor 48 = .ok (.iconst 2, 1) := by decide +kernel
theorem dX11_sortsFor_49 : decode cX11_sortsFor 49 = .ok (.iload_n 2, 1) := by decide +kernel
theorem dX11_sortsFor_50 : decode cX11_sortsFor 50 = .ok (.imul, 1) := by decide +kernel
theorem dX11_sortsFor_51 : decode cX11_sortsFor 51 = .ok (.goto 15, 3) := by decide +kernel
theorem dX11_sortsFor_54 : decode cX11_sortsFor 54 = .ok (.iload_n 1, 1) := by decide +kernel
theorem dX11_sortsFor_55 : decode cX11_sortsFor 55 = .ok (.iconst 2, 1) := by decide +kernel
theorem dX11_sortsFor_56 : decode cX11_sortsFor 56 = .ok (.if_icmp .le 9, 3) := by decide +kernel
theorem dX11_sortsFor_59 : decode cX11_sortsFor 59 = .ok (.iconst 3, 1) := by decide +kernel
theorem dX11_sortsFor_60 : decode cX11_sortsFor 60 = .ok (.iload_n 2, 1) := by decide +kernel
theorem dX11_sortsFor_61 : decode cX11_sortsFor 61 = .ok (.imul, 1) := by decide +kernel
theorem dX11_sortsFor_62 : decode cX11_sortsFor 62 = .ok (.goto 4, 3) := by decide +kernel
theorem dX11_sortsFor_65 : decode cX11_sortsFor 65 = .ok (.iconst 0, 1) := by decide +kernel
theorem dX11_sortsFor_66 : decode cX11_sortsFor 66 = .ok (.ireturn, 1) := by decide +kernel
theorem dX11_formOf_0 : decode cX11_formOf 0 = .ok (.iconst 0, 1) := by decide +kernel
theorem dX11_formOf_1 : decode cX11_formOf 1 = .ok (.istore_n 3, 1) := by decide +kernel
theorem dX11_formOf_2 : decode cX11_formOf 2 = .ok (.iconst 0, 1) := by decide +kernel
theorem dX11_formOf_3 : decode cX11_formOf 3 = .ok (.istore 4, 2) := by decide +kernel
theorem dX11_formOf_5 : decode cX11_formOf 5 = .ok (.iload 4, 2) := by decide +kernel
theorem dX11_formOf_7 : decode cX11_formOf 7 = .ok (.iconst 4, 1) := by decide +kernel
theorem dX11_formOf_8 : decode cX11_formOf 8 = .ok (.if_icmp .ge 26, 3) := by decide +kernel
theorem dX11_formOf_11 : decode cX11_formOf 11 = .ok (.bipush 20, 2) := by decide +kernel
theorem dX11_formOf_13 : decode cX11_formOf 13 = .ok (.iload_n 3, 1) := by decide +kernel
theorem dX11_formOf_14 : decode cX11_formOf 14 = .ok (.imul, 1) := by decide +kernel
theorem dX11_formOf_15 : decode cX11_formOf 15 = .ok (.aload_n 0, 1) := by decide +kernel
theorem dX11_formOf_16 : decode cX11_formOf 16 = .ok (.iload_n 1, 1) := by decide +kernel
theorem dX11_formOf_17 : decode cX11_formOf 17 = .ok (.iload_n 2, 1) := by decide +kernel
theorem dX11_formOf_18 : decode cX11_formOf 18 = .ok (.iload 4, 2) := by decide +kernel
theorem dX11_formOf_20 : decode cX11_formOf 20 = .ok (.invokevirtual 175, 3) := by decide +kernel
theorem dX11_formOf_23 : decode cX11_formOf 23 = .ok (.iadd, 1) := by decide +kernel
theorem dX11_formOf_24 : decode cX11_formOf 24 = .ok (.bipush 9, 2) := by decide +kernel
theorem dX11_formOf_26 : decode cX11_formOf 26 = .ok (.iadd, 1) := by decide +kernel
theorem dX11_formOf_27 : decode cX11_formOf 27 = .ok (.istore_n 3, 1) := by decide +kernel
theorem dX11_formOf_28 : decode cX11_formOf 28 = .ok (.iinc 4 1, 3) := by decide +kernel
theorem dX11_formOf_31 : decode cX11_formOf 31 = .ok (.goto (-26), 3) := by decide +kernel
theorem dX11_formOf_34 : decode cX11_formOf 34 = .ok (.iload_n 3, 1) := by decide +kernel
theorem dX11_formOf_35 : decode cX11_formOf 35 = .ok (.ireturn, 1) := by decide +kernel
theorem dX11_hasFailed_0 : decode cX11_hasFailed 0 = .ok (.iconst 0, 1) := by decide +kernel
theorem dX11_hasFailed_1 : decode cX11_hasFailed 1 = .ok (.istore_n 2, 1) := by decide +kernel
theorem dX11_hasFailed_2 : decode cX11_hasFailed 2 = .ok (.iload_n 2, 1) := by decide +kernel
theorem dX11_hasFailed_3 : decode cX11_hasFailed 3 = .ok (.aload_n 0, 1) := by decide +kernel
theorem dX11_hasFailed_4 : decode cX11_hasFailed 4 = .ok (.getfield 232, 3) := by decide +kernel
theorem dX11_hasFailed_7 : decode cX11_hasFailed 7 = .ok (.if_icmp .ge 21, 3) := by decide +kernel
theorem dX11_hasFailed_10 : decode cX11_hasFailed 10 = .ok (.aload_n 0, 1) := by decide +kernel
theorem dX11_hasFailed_11 : decode cX11_hasFailed 11 = .ok (.getfield 73, 3) := by decide +kernel
theorem dX11_hasFailed_14 : decode cX11_hasFailed 14 = .ok (.iload_n 2, 1) := by decide +kernel
theorem dX11_hasFailed_15 : decode cX11_hasFailed 15 = .ok (.iaload, 1) := by decide +kernel
theorem dX11_hasFailed_16 : decode cX11_hasFailed 16 = .ok (.iload_n 1, 1) := by decide +kernel
theorem dX11_hasFailed_17 : decode cX11_hasFailed 17 = .ok (.if_icmp .ne 5, 3) := by decide +kernel
theorem dX11_hasFailed_20 : decode cX11_hasFailed 20 = .ok (.iconst 1, 1) := by decide +kernel
theorem dX11_hasFailed_21 : decode cX11_hasFailed 21 = .ok (.ireturn, 1) := by decide +kernel
theorem dX11_hasFailed_22 : decode cX11_hasFailed 22 = .ok (.iinc 2 1, 3) := by decide +kernel
theorem dX11_hasFailed_25 : decode cX11_hasFailed 25 = .ok (.goto (-23), 3) := by decide +kernel
theorem dX11_hasFailed_28 : decode cX11_hasFailed 28 = .ok (.iconst 0, 1) := by decide +kernel
theorem dX11_hasFailed_29 : decode cX11_hasFailed 29 = .ok (.ireturn, 1) := by decide +kernel
theorem dX11_goesThrough_0 : decode cX11_goesThrough 0 = .ok (.iconst 0, 1) := by decide +kernel
theorem dX11_goesThrough_1 : decode cX11_goesThrough 1 = .ok (.istore 4, 2) := by decide +kernel
theorem dX11_goesThrough_3 : decode cX11_goesThrough 3 = .ok (.aload_n 0, 1) := by decide +kernel
theorem dX11_goesThrough_4 : decode cX11_goesThrough 4 = .ok (.iconst 0, 1) := by decide +kernel
theorem dX11_goesThrough_5 : decode cX11_goesThrough 5 = .ok (.putfield 232, 3) := by decide +kernel
theorem dX11_goesThrough_8 : decode cX11_goesThrough 8 = .ok (.iconst 0, 1) := by decide +kernel
theorem dX11_goesThrough_9 : decode cX11_goesThrough 9 = .ok (.istore 5, 2) := by decide +kernel
theorem dX11_goesThrough_11 : decode cX11_goesThrough 11 = .ok (.iload 5, 2) := by decide +kernel
theorem dX11_goesThrough_13 : decode cX11_goesThrough 13 = .ok (.aload_n 0, 1) := by decide +kernel
theorem dX11_goesThrough_14 : decode cX11_goesThrough 14 = .ok (.invokevirtual 91, 3) := by decide +kernel
theorem dX11_goesThrough_17 : decode cX11_goesThrough 17 = .ok (.if_icmp .ge 165, 3) := by decide +kernel
theorem dX11_goesThrough_20 : decode cX11_goesThrough 20 = .ok (.aload_n 0, 1) := by decide +kernel
theorem dX11_goesThrough_21 : decode cX11_goesThrough 21 = .ok (.getfield 31, 3) := by decide +kernel
theorem dX11_goesThrough_24 : decode cX11_goesThrough 24 = .ok (.iload 5, 2) := by decide +kernel
theorem dX11_goesThrough_26 : decode cX11_goesThrough 26 = .ok (.iaload, 1) := by decide +kernel
theorem dX11_goesThrough_27 : decode cX11_goesThrough 27 = .ok (.iconst 1, 1) := by decide +kernel
theorem dX11_goesThrough_28 : decode cX11_goesThrough 28 = .ok (.if_icmp .eq 148, 3) := by decide +kernel
theorem dX11_goesThrough_31 : decode cX11_goesThrough 31 = .ok (.aload_n 0, 1) := by decide +kernel
theorem dX11_goesThrough_32 : decode cX11_goesThrough 32 = .ok (.iload 5, 2) := by decide +kernel
theorem dX11_goesThrough_34 : decode cX11_goesThrough 34 = .ok (.invokevirtual 203, 3) := by decide +kernel
theorem dX11_goesThrough_37 : decode cX11_goesThrough 37 = .ok (.ifCond .ne 139, 3) := by decide +kernel
theorem dX11_goesThrough_40 : decode cX11_goesThrough 40 = .ok (.aload_n 0, 1) := by decide +kernel
theorem dX11_goesThrough_41 : decode cX11_goesThrough 41 = .ok (.iload_n 1, 1) := by decide +kernel
theorem dX11_goesThrough_42 : decode cX11_goesThrough 42 = .ok (.iload 5, 2) := by decide +kernel
theorem dX11_goesThrough_44 : decode cX11_goesThrough 44 = .ok (.iload_n 3, 1) := by decide +kernel
theorem dX11_goesThrough_45 : decode cX11_goesThrough 45 = .ok (.invokevirtual 235, 3) := by decide +kernel
theorem dX11_goesThrough_48 : decode cX11_goesThrough 48 = .ok (.ifCond .ne 6, 3) := by decide +kernel
theorem dX11_goesThrough_51 : decode cX11_goesThrough 51 = .ok (.goto 125, 3) := by decide +kernel
theorem dX11_goesThrough_54 : decode cX11_goesThrough 54 = .ok (.iconst 0, 1) := by decide +kernel
theorem dX11_goesThrough_55 : decode cX11_goesThrough 55 = .ok (.istore 6, 2) := by decide +kernel
theorem dX11_goesThrough_57 : decode cX11_goesThrough 57 = .ok (.iload 6, 2) := by decide +kernel
theorem dX11_goesThrough_59 : decode cX11_goesThrough 59 = .ok (.iconst 4, 1) := by decide +kernel
theorem dX11_goesThrough_60 : decode cX11_goesThrough 60 = .ok (.if_icmp .ge 116, 3) := by decide +kernel
theorem dX11_goesThrough_63 : decode cX11_goesThrough 63 = .ok (.iload_n 1, 1) := by decide +kernel
theorem dX11_goesThrough_64 : decode cX11_goesThrough 64 = .ok (.iconst 4, 1) := by decide +kernel
theorem dX11_goesThrough_65 : decode cX11_goesThrough 65 = .ok (.if_icmp .ne 21, 3) := by decide +kernel
theorem dX11_goesThrough_68 : decode cX11_goesThrough 68 = .ok (.aload_n 0, 1) := by decide +kernel
theorem dX11_goesThrough_69 : decode cX11_goesThrough 69 = .ok (.aload_n 0, 1) := by decide +kernel
theorem dX11_goesThrough_70 : decode cX11_goesThrough 70 = .ok (.iload 5, 2) := by decide +kernel
theorem dX11_goesThrough_72 : decode cX11_goesThrough 72 = .ok (.iload 6, 2) := by decide +kernel
theorem dX11_goesThrough_74 : decode cX11_goesThrough 74 = .ok (.invokevirtual 238, 3) := by decide +kernel
theorem dX11_goesThrough_77 : decode cX11_goesThrough 77 = .ok (.invokevirtual 241, 3) := by decide +kernel
theorem dX11_goesThrough_80 : decode cX11_goesThrough 80 = .ok (.ifCond .eq 6, 3) := by decide +kernel
theorem dX11_goesThrough_83 : decode cX11_goesThrough 83 = .ok (.goto 87, 3) := by decide +kernel
theorem dX11_goesThrough_86 : decode cX11_goesThrough 86 = .ok (.iload 4, 2) := by decide +kernel
theorem dX11_goesThrough_88 : decode cX11_goesThrough 88 = .ok (.aload_n 0, 1) := by decide +kernel
theorem dX11_goesThrough_89 : decode cX11_goesThrough 89 = .ok (.iload_n 2, 1) := by decide +kernel
theorem dX11_goesThrough_90 : decode cX11_goesThrough 90 = .ok (.iload 5, 2) := by decide +kernel
theorem dX11_goesThrough_92 : decode cX11_goesThrough 92 = .ok (.iload 6, 2) := by decide +kernel
theorem dX11_goesThrough_94 : decode cX11_goesThrough 94 = .ok (.iload_n 3, 1) := by decide +kernel
theorem dX11_goesThrough_95 : decode cX11_goesThrough 95 = .ok (.invokevirtual 199, 3) := by decide +kernel
theorem dX11_goesThrough_98 : decode cX11_goesThrough 98 = .ok (.iadd, 1) := by decide +kernel
theorem dX11_goesThrough_99 : decode cX11_goesThrough 99 = .ok (.istore 4, 2) := by decide +kernel
theorem dX11_goesThrough_101 : decode cX11_goesThrough 101 = .ok (.iload 5, 2) := by decide +kernel
theorem dX11_goesThrough_103 : decode cX11_goesThrough 103 = .ok (.iload_n 3, 1) := by decide +kernel
theorem dX11_goesThrough_104 : decode cX11_goesThrough 104 = .ok (.if_icmp .ne 26, 3) := by decide +kernel
theorem dX11_goesThrough_107 : decode cX11_goesThrough 107 = .ok (.iload 6, 2) := by decide +kernel
theorem dX11_goesThrough_109 : decode cX11_goesThrough 109 = .ok (.ifCond .ne 21, 3) := by decide +kernel
theorem dX11_goesThrough_112 : decode cX11_goesThrough 112 = .ok (.aload_n 0, 1) := by decide +kernel
theorem dX11_goesThrough_113 : decode cX11_goesThrough 113 = .ok (.getfield 22, 3) := by decide +kernel
theorem dX11_goesThrough_116 : decode cX11_goesThrough 116 = .ok (.iload_n 3, 1) := by decide +kernel
theorem dX11_goesThrough_117 : decode cX11_goesThrough 117 = .ok (.iload 5, 2) := by decide +kernel
theorem dX11_goesThrough_119 : decode cX11_goesThrough 119 = .ok (.iastore, 1) := by decide +kernel
theorem dX11_goesThrough_120 : decode cX11_goesThrough 120 = .ok (.aload_n 0, 1) := by decide +kernel
theorem dX11_goesThrough_121 : decode cX11_goesThrough 121 = .ok (.getfield 25, 3) := by decide +kernel
theorem dX11_goesThrough_124 : decode cX11_goesThrough 124 = .ok (.iload_n 3, 1) := by decide +kernel
theorem dX11_goesThrough_125 : decode cX11_goesThrough 125 = .ok (.iconst 0, 1) := by decide +kernel
theorem dX11_goesThrough_126 : decode cX11_goesThrough 126 = .ok (.iastore, 1) := by decide +kernel
theorem dX11_goesThrough_127 : decode cX11_goesThrough 127 = .ok (.iload 4, 2) := by decide +kernel
theorem dX11_goesThrough_129 : decode cX11_goesThrough 129 = .ok (.ireturn, 1) := by decide +kernel
theorem dX11_goesThrough_130 : decode cX11_goesThrough 130 = .ok (.aload_n 0, 1) := by decide +kernel
theorem dX11_goesThrough_131 : decode cX11_goesThrough 131 = .ok (.iload 5, 2) := by decide +kernel
theorem dX11_goesThrough_133 : decode cX11_goesThrough 133 = .ok (.iload 6, 2) := by decide +kernel
theorem dX11_goesThrough_135 : decode cX11_goesThrough 135 = .ok (.iload_n 3, 1) := by decide +kernel
theorem dX11_goesThrough_136 : decode cX11_goesThrough 136 = .ok (.invokevirtual 190, 3) := by decide +kernel
theorem dX11_goesThrough_139 : decode cX11_goesThrough 139 = .ok (.iconst 2, 1) := by decide +kernel
theorem dX11_goesThrough_140 : decode cX11_goesThrough 140 = .ok (.if_icmp .le 30, 3) := by decide +kernel
theorem dX11_goesThrough_143 : decode cX11_goesThrough 143 = .ok (.aload_n 0, 1) := by decide +kernel
theorem dX11_goesThrough_144 : decode cX11_goesThrough 144 = .ok (.getfield 73, 3) := by decide +kernel
theorem dX11_goesThrough_147 : decode cX11_goesThrough 147 = .ok (.aload_n 0, 1) := by decide +kernel
theorem dX11_goesThrough_148 : decode cX11_goesThrough 148 = .ok (.getfield 232, 3) := by decide +kernel
theorem dX11_goesThrough_151 : decode cX11_goesThrough 151 = .ok (.aload_n 0, 1) := by decide +kernel
theorem dX11_goesThrough_152 : decode cX11_goesThrough 152 = .ok (.iload 5, 2) := by decide +kernel
theorem dX11_goesThrough_154 : decode cX11_goesThrough 154 = .ok (.iload 6, 2) := by decide +kernel
theorem dX11_goesThrough_156 : decode cX11_goesThrough 156 = .ok (.invokevirtual 238, 3) := by decide +kernel
theorem dX11_goesThrough_159 : decode cX11_goesThrough 159 = .ok (.iastore, 1) := by decide +kernel
theorem dX11_goesThrough_160 : decode cX11_goesThrough 160 = .ok (.aload_n 0, 1) := by decide +kernel
theorem dX11_goesThrough_161 : decode cX11_goesThrough 161 = .ok (.dup, 1) := by decide +kernel
theorem dX11_goesThrough_162 : decode cX11_goesThrough 162 = .ok (.getfield 232, 3) := by decide +kernel
theorem dX11_goesThrough_165 : decode cX11_goesThrough 165 = .ok (.iconst 1, 1) := by decide +kernel
theorem dX11_goesThrough_166 : decode cX11_goesThrough 166 = .ok (.iadd, 1) := by decide +kernel
theorem dX11_goesThrough_167 : decode cX11_goesThrough 167 = .ok (.putfield 232, 3) := by decide +kernel
theorem dX11_goesThrough_170 : decode cX11_goesThrough 170 = .ok (.iinc 6 1, 3) := by decide +kernel
theorem dX11_goesThrough_173 : decode cX11_goesThrough 173 = .ok (.goto (-116), 3) := by decide +kernel
theorem dX11_goesThrough_176 : decode cX11_goesThrough 176 = .ok (.iinc 5 1, 3) := by decide +kernel
theorem dX11_goesThrough_179 : decode cX11_goesThrough 179 = .ok (.goto (-168), 3) := by decide +kernel
theorem dX11_goesThrough_182 : decode cX11_goesThrough 182 = .ok (.iload 4, 2) := by decide +kernel
theorem dX11_goesThrough_184 : decode cX11_goesThrough 184 = .ok (.ireturn, 1) := by decide +kernel
theorem dX11_doneBy_0 : decode cX11_doneBy 0 = .ok (.aload_n 0, 1) := by decide +kernel
theorem dX11_doneBy_1 : decode cX11_doneBy 1 = .ok (.iload_n 1, 1) := by decide +kernel
theorem dX11_doneBy_2 : decode cX11_doneBy 2 = .ok (.invokevirtual 244, 3) := by decide +kernel
theorem dX11_doneBy_5 : decode cX11_doneBy 5 = .ok (.aload_n 0, 1) := by decide +kernel
theorem dX11_doneBy_6 : decode cX11_doneBy 6 = .ok (.iconst 1, 1) := by decide +kernel
theorem dX11_doneBy_7 : decode cX11_doneBy 7 = .ok (.iconst 1, 1) := by decide +kernel
theorem dX11_doneBy_8 : decode cX11_doneBy 8 = .ok (.invokevirtual 151, 3) := by decide +kernel
theorem dX11_doneBy_11 : decode cX11_doneBy 11 = .ok (.iconst 0, 1) := by decide +kernel
theorem dX11_doneBy_12 : decode cX11_doneBy 12 = .ok (.istore 6, 2) := by decide +kernel
theorem dX11_doneBy_14 : decode cX11_doneBy 14 = .ok (.iconst 0, 1) := by decide +kernel
theorem dX11_doneBy_15 : decode cX11_doneBy 15 = .ok (.istore 7, 2) := by decide +kernel
theorem dX11_doneBy_17 : decode cX11_doneBy 17 = .ok (.iload 7, 2) := by decide +kernel
theorem dX11_doneBy_19 : decode cX11_doneBy 19 = .ok (.iload_n 3, 1) := by decide +kernel
theorem dX11_doneBy_20 : decode cX11_doneBy 20 = .ok (.if_icmp .ge 46, 3) := by decide +kernel
theorem dX11_doneBy_23 : decode cX11_doneBy 23 = .ok (.iload 7, 2) := by decide +kernel
theorem dX11_doneBy_25 : decode cX11_doneBy 25 = .ok (.aload_n 0, 1) := by decide +kernel
theorem dX11_doneBy_26 : decode cX11_doneBy 26 = .ok (.getfield 223, 3) := by decide +kernel
theorem dX11_doneBy_29 : decode cX11_doneBy 29 = .ok (.if_icmp .ge 37, 3) := by decide +kernel
theorem dX11_doneBy_32 : decode cX11_doneBy 32 = .ok (.iload 7, 2) := by decide +kernel
theorem dX11_doneBy_34 : decode cX11_doneBy 34 = .ok (.iload 4, 2) := by decide +kernel
theorem dX11_doneBy_36 : decode cX11_doneBy 36 = .ok (.irem, 1) := by decide +kernel
theorem dX11_doneBy_37 : decode cX11_doneBy 37 = .ok (.iload 5, 2) := by decide +kernel
theorem dX11_doneBy_39 : decode cX11_doneBy 39 = .ok (.if_icmp .ne 21, 3) := by decide +kernel
theorem dX11_doneBy_42 : decode cX11_doneBy 42 = .ok (.iload 6, 2) := by decide +kernel
theorem dX11_doneBy_44 : decode cX11_doneBy 44 = .ok (.aload_n 0, 1) := by decide +kernel
theorem dX11_doneBy_45 : decode cX11_doneBy 45 = .ok (.iload_n 1, 1) := by decide +kernel
theorem dX11_doneBy_46 : decode cX11_doneBy 46 = .ok (.iload_n 2, 1) := by decide +kernel
theorem dX11_doneBy_47 : decode cX11_doneBy 47 = .ok (.aload_n 0, 1) := by decide +kernel
theorem dX11_doneBy_48 : decode cX11_doneBy 48 = .ok (.getfield 70, 3) := by decide +kernel
theorem dX11_doneBy_51 : decode cX11_doneBy 51 = .ok (.iload 7, 2) := by decide +kernel
theorem dX11_doneBy_53 : decode cX11_doneBy 53 = .ok (.iaload, 1) := by decide +kernel
theorem dX11_doneBy_54 : decode cX11_doneBy 54 = .ok (.invokevirtual 248, 3) := by decide +kernel
theorem dX11_doneBy_57 : decode cX11_doneBy 57 = .ok (.iadd, 1) := by decide +kernel
theorem dX11_doneBy_58 : decode cX11_doneBy 58 = .ok (.istore 6, 2) := by decide +kernel
theorem dX11_doneBy_60 : decode cX11_doneBy 60 = .ok (.iinc 7 1, 3) := by decide +kernel
theorem dX11_doneBy_63 : decode cX11_doneBy 63 = .ok (.goto (-46), 3) := by decide +kernel
theorem dX11_doneBy_66 : decode cX11_doneBy 66 = .ok (.aload_n 0, 1) := by decide +kernel
theorem dX11_doneBy_67 : decode cX11_doneBy 67 = .ok (.iconst 1, 1) := by decide +kernel
theorem dX11_doneBy_68 : decode cX11_doneBy 68 = .ok (.iconst 0, 1) := by decide +kernel
theorem dX11_doneBy_69 : decode cX11_doneBy 69 = .ok (.invokevirtual 151, 3) := by decide +kernel
theorem dX11_doneBy_72 : decode cX11_doneBy 72 = .ok (.iload 6, 2) := by decide +kernel
theorem dX11_doneBy_74 : decode cX11_doneBy 74 = .ok (.ireturn, 1) := by decide +kernel
theorem dX11_doneOf_0 : decode cX11_doneOf 0 = .ok (.aload_n 0, 1) := by decide +kernel
theorem dX11_doneOf_1 : decode cX11_doneOf 1 = .ok (.iload_n 1, 1) := by decide +kernel
theorem dX11_doneOf_2 : decode cX11_doneOf 2 = .ok (.invokevirtual 251, 3) := by decide +kernel
theorem dX11_doneOf_5 : decode cX11_doneOf 5 = .ok (.aload_n 0, 1) := by decide +kernel
theorem dX11_doneOf_6 : decode cX11_doneOf 6 = .ok (.iload_n 1, 1) := by decide +kernel
theorem dX11_doneOf_7 : decode cX11_doneOf 7 = .ok (.iload_n 2, 1) := by decide +kernel
theorem dX11_doneOf_8 : decode cX11_doneOf 8 = .ok (.bipush 16, 2) := by decide +kernel
theorem dX11_doneOf_10 : decode cX11_doneOf 10 = .ok (.iconst 1, 1) := by decide +kernel
theorem dX11_doneOf_11 : decode cX11_doneOf 11 = .ok (.iconst 0, 1) := by decide +kernel
theorem dX11_doneOf_12 : decode cX11_doneOf 12 = .ok (.invokevirtual 254, 3) := by decide +kernel
theorem dX11_doneOf_15 : decode cX11_doneOf 15 = .ok (.iadd, 1) := by decide +kernel
theorem dX11_doneOf_16 : decode cX11_doneOf 16 = .ok (.ireturn, 1) := by decide +kernel
theorem dX11_done_0 : decode cX11_done 0 = .ok (.iload_n 1, 1) := by decide +kernel
theorem dX11_done_1 : decode cX11_done 1 = .ok (.iconst 0, 1) := by decide +kernel
theorem dX11_done_2 : decode cX11_done 2 = .ok (.iconst 4, 1) := by decide +kernel
theorem dX11_done_3 : decode cX11_done 3 = .ok (.invokestatic 124, 3) := by decide +kernel
theorem dX11_done_6 : decode cX11_done 6 = .ok (.ifCond .ne 10, 3) := by decide +kernel
theorem dX11_done_9 : decode cX11_done 9 = .ok (.aload_n 0, 1) := by decide +kernel
theorem dX11_done_10 : decode cX11_done 10 = .ok (.bipush (-2), 2) := by decide +kernel
theorem dX11_done_12 : decode cX11_done 12 = .ok (.invokevirtual 112, 3) := by decide +kernel
theorem dX11_done_15 : decode cX11_done 15 = .ok (.ireturn, 1) := by decide +kernel
theorem dX11_done_16 : decode cX11_done 16 = .ok (.aload_n 0, 1) := by decide +kernel
theorem dX11_done_17 : decode cX11_done 17 = .ok (.iload_n 2, 1) := by decide +kernel
theorem dX11_done_18 : decode cX11_done 18 = .ok (.invokevirtual 196, 3) := by decide +kernel
theorem dX11_done_21 : decode cX11_done 21 = .ok (.ifCond .eq 12, 3) := by decide +kernel
theorem dX11_done_24 : decode cX11_done 24 = .ok (.aload_n 0, 1) := by decide +kernel
theorem dX11_done_25 : decode cX11_done 25 = .ok (.iload_n 1, 1) := by decide +kernel
theorem dX11_done_26 : decode cX11_done 26 = .ok (.iload_n 2, 1) := by decide +kernel
theorem dX11_done_27 : decode cX11_done 27 = .ok (.invokevirtual 258, 3) := by decide +kernel
theorem dX11_done_30 : decode cX11_done 30 = .ok (.goto 8, 3) := by decide +kernel
theorem dX11_done_33 : decode cX11_done 33 = .ok (.aload_n 0, 1) := by decide +kernel
theorem dX11_done_34 : decode cX11_done 34 = .ok (.iconst (-1), 1) := by decide +kernel
theorem dX11_done_35 : decode cX11_done 35 = .ok (.invokevirtual 112, 3) := by decide +kernel
theorem dX11_done_38 : decode cX11_done 38 = .ok (.ireturn, 1) := by decide +kernel
theorem dX11_half_0 : decode cX11_half 0 = .ok (.iload_n 1, 1) := by decide +kernel
theorem dX11_half_1 : decode cX11_half 1 = .ok (.iconst 0, 1) := by decide +kernel
theorem dX11_half_2 : decode cX11_half 2 = .ok (.iconst 4, 1) := by decide +kernel
theorem dX11_half_3 : decode cX11_half 3 = .ok (.invokestatic 124, 3) := by decide +kernel
theorem dX11_half_6 : decode cX11_half 6 = .ok (.ifCond .ne 10, 3) := by decide +kernel
theorem dX11_half_9 : decode cX11_half 9 = .ok (.aload_n 0, 1) := by decide +kernel
theorem dX11_half_10 : decode cX11_half 10 = .ok (.bipush (-2), 2) := by decide +kernel
theorem dX11_half_12 : decode cX11_half 12 = .ok (.invokevirtual 112, 3) := by decide +kernel
theorem dX11_half_15 : decode cX11_half 15 = .ok (.ireturn, 1) := by decide +kernel
theorem dX11_half_16 : decode cX11_half 16 = .ok (.aload_n 0, 1) := by decide +kernel
theorem dX11_half_17 : decode cX11_half 17 = .ok (.iload_n 2, 1) := by decide +kernel
theorem dX11_half_18 : decode cX11_half 18 = .ok (.invokevirtual 196, 3) := by decide +kernel
theorem dX11_half_21 : decode cX11_half 21 = .ok (.ifCond .ne 9, 3) := by decide +kernel
theorem dX11_half_24 : decode cX11_half 24 = .ok (.aload_n 0, 1) := by decide +kernel
theorem dX11_half_25 : decode cX11_half 25 = .ok (.iconst (-1), 1) := by decide +kernel
theorem dX11_half_26 : decode cX11_half 26 = .ok (.invokevirtual 112, 3) := by decide +kernel
theorem dX11_half_29 : decode cX11_half 29 = .ok (.ireturn, 1) := by decide +kernel
theorem dX11_half_30 : decode cX11_half 30 = .ok (.aload_n 0, 1) := by decide +kernel
theorem dX11_half_31 : decode cX11_half 31 = .ok (.iload_n 1, 1) := by decide +kernel
theorem dX11_half_32 : decode cX11_half 32 = .ok (.invokevirtual 244, 3) := by decide +kernel
theorem dX11_half_35 : decode cX11_half 35 = .ok (.aload_n 0, 1) := by decide +kernel
theorem dX11_half_36 : decode cX11_half 36 = .ok (.getfield 223, 3) := by decide +kernel
theorem dX11_half_39 : decode cX11_half 39 = .ok (.ifCond .ne 5, 3) := by decide +kernel
theorem dX11_half_42 : decode cX11_half 42 = .ok (.iconst 0, 1) := by decide +kernel
theorem dX11_half_43 : decode cX11_half 43 = .ok (.ireturn, 1) := by decide +kernel
theorem dX11_half_44 : decode cX11_half 44 = .ok (.aload_n 0, 1) := by decide +kernel
theorem dX11_half_45 : decode cX11_half 45 = .ok (.iload_n 1, 1) := by decide +kernel
theorem dX11_half_46 : decode cX11_half 46 = .ok (.invokevirtual 251, 3) := by decide +kernel
theorem dX11_half_49 : decode cX11_half 49 = .ok (.aload_n 0, 1) := by decide +kernel
theorem dX11_half_50 : decode cX11_half 50 = .ok (.iload_n 1, 1) := by decide +kernel
theorem dX11_half_51 : decode cX11_half 51 = .ok (.iload_n 2, 1) := by decide +kernel
theorem dX11_half_52 : decode cX11_half 52 = .ok (.aload_n 0, 1) := by decide +kernel
theorem dX11_half_53 : decode cX11_half 53 = .ok (.getfield 223, 3) := by decide +kernel
theorem dX11_half_56 : decode cX11_half 56 = .ok (.iconst 2, 1) := by decide +kernel
theorem dX11_half_57 : decode cX11_half 57 = .ok (.if_icmp .ge 7, 3) := by decide +kernel
theorem dX11_half_60 : decode cX11_half 60 = .ok (.iconst 1, 1) := by decide +kernel
theorem dX11_half_61 : decode cX11_half 61 = .ok (.goto 9, 3) := by decide +kernel
theorem dX11_half_64 : decode cX11_half 64 = .ok (.aload_n 0, 1) := by decide +kernel
theorem dX11_half_65 : decode cX11_half 65 = .ok (.getfield 223, 3) := by decide +kernel
theorem dX11_half_68 : decode cX11_half 68 = .ok (.iconst 2, 1) := by decide +kernel
theorem dX11_half_69 : decode cX11_half 69 = .ok (.idiv, 1) := by decide +kernel
theorem dX11_half_70 : decode cX11_half 70 = .ok (.iconst 1, 1) := by decide +kernel
theorem dX11_half_71 : decode cX11_half 71 = .ok (.iconst 0, 1) := by decide +kernel
theorem dX11_half_72 : decode cX11_half 72 = .ok (.invokevirtual 254, 3) := by decide +kernel
theorem dX11_half_75 : decode cX11_half 75 = .ok (.iadd, 1) := by decide +kernel
theorem dX11_half_76 : decode cX11_half 76 = .ok (.ireturn, 1) := by decide +kernel
theorem dX11_bestRule_0 : decode cX11_bestRule 0 = .ok (.aload_n 0, 1) := by decide +kernel
theorem dX11_bestRule_1 : decode cX11_bestRule 1 = .ok (.iload_n 1, 1) := by decide +kernel
theorem dX11_bestRule_2 : decode cX11_bestRule 2 = .ok (.invokevirtual 196, 3) := by decide +kernel
theorem dX11_bestRule_5 : decode cX11_bestRule 5 = .ok (.ifCond .ne 9, 3) := by decide +kernel
theorem dX11_bestRule_8 : decode cX11_bestRule 8 = .ok (.aload_n 0, 1) := by decide +kernel
theorem dX11_bestRule_9 : decode cX11_bestRule 9 = .ok (.iconst (-1), 1) := by decide +kernel
theorem dX11_bestRule_10 : decode cX11_bestRule 10 = .ok (.invokevirtual 112, 3) := by decide +kernel
theorem dX11_bestRule_13 : decode cX11_bestRule 13 = .ok (.ireturn, 1) := by decide +kernel
theorem dX11_bestRule_14 : decode cX11_bestRule 14 = .ok (.iconst 0, 1) := by decide +kernel
theorem dX11_bestRule_15 : decode cX11_bestRule 15 = .ok (.istore_n 2, 1) := by decide +kernel
theorem dX11_bestRule_16 : decode cX11_bestRule 16 = .ok (.iconst 1, 1) := by decide +kernel
theorem dX11_bestRule_17 : decode cX11_bestRule 17 = .ok (.istore_n 3, 1) := by decide +kernel
theorem dX11_bestRule_18 : decode cX11_bestRule 18 = .ok (.iload_n 3, 1) := by decide +kernel
theorem dX11_bestRule_19 : decode cX11_bestRule 19 = .ok (.iconst 5, 1) := by decide +kernel
theorem dX11_bestRule_20 : decode cX11_bestRule 20 = .ok (.if_icmp .ge 30, 3) := by decide +kernel
theorem dX11_bestRule_23 : decode cX11_bestRule 23 = .ok (.aload_n 0, 1) := by decide +kernel
theorem dX11_bestRule_24 : decode cX11_bestRule 24 = .ok (.iload_n 3, 1) := by decide +kernel
theorem dX11_bestRule_25 : decode cX11_bestRule 25 = .ok (.iload_n 1, 1) := by decide +kernel
theorem dX11_bestRule_26 : decode cX11_bestRule 26 = .ok (.invokevirtual 258, 3) := by decide +kernel
theorem dX11_bestRule_29 : decode cX11_bestRule 29 = .ok (.aload_n 0, 1) := by decide +kernel
theorem dX11_bestRule_30 : decode cX11_bestRule 30 = .ok (.iload_n 2, 1) := by decide +kernel
theorem dX11_bestRule_31 : decode cX11_bestRule 31 = .ok (.iload_n 1, 1) := by decide +kernel
theorem dX11_bestRule_32 : decode cX11_bestRule 32 = .ok (.invokevirtual 258, 3) := by decide +kernel
theorem dX11_bestRule_35 : decode cX11_bestRule 35 = .ok (.if_icmp .ge 7, 3) := by decide +kernel
theorem dX11_bestRule_38 : decode cX11_bestRule 38 = .ok (.iload_n 3, 1) := by decide +kernel
theorem dX11_bestRule_39 : decode cX11_bestRule 39 = .ok (.goto 4, 3) := by decide +kernel
theorem dX11_bestRule_42 : decode cX11_bestRule 42 = .ok (.iload_n 2, 1) := by decide +kernel
theorem dX11_bestRule_43 : decode cX11_bestRule 43 = .ok (.istore_n 2, 1) := by decide +kernel
theorem dX11_bestRule_44 : decode cX11_bestRule 44 = .ok (.iinc 3 1, 3) := by decide +kernel
theorem dX11_bestRule_47 : decode cX11_bestRule 47 = .ok (.goto (-29), 3) := by decide +kernel
theorem dX11_bestRule_50 : decode cX11_bestRule 50 = .ok (.iload_n 2, 1) := by decide +kernel
theorem dX11_bestRule_51 : decode cX11_bestRule 51 = .ok (.ireturn, 1) := by decide +kernel
theorem dX11_tableOf_0 : decode cX11_tableOf 0 = .ok (.iconst 0, 1) := by decide +kernel
theorem dX11_tableOf_1 : decode cX11_tableOf 1 = .ok (.istore_n 3, 1) := by decide +kernel
theorem dX11_tableOf_2 : decode cX11_tableOf 2 = .ok (.iconst 0, 1) := by decide +kernel
theorem dX11_tableOf_3 : decode cX11_tableOf 3 = .ok (.istore 4, 2) := by decide +kernel
theorem dX11_tableOf_5 : decode cX11_tableOf 5 = .ok (.iload 4, 2) := by decide +kernel
theorem dX11_tableOf_7 : decode cX11_tableOf 7 = .ok (.iload_n 2, 1) := by decide +kernel
theorem dX11_tableOf_8 : decode cX11_tableOf 8 = .ok (.if_icmp .ge 36, 3) := by decide +kernel
theorem dX11_tableOf_11 : decode cX11_tableOf 11 = .ok (.aload_n 0, 1) := by decide +kernel
theorem dX11_tableOf_12 : decode cX11_tableOf 12 = .ok (.iload_n 1, 1) := by decide +kernel
theorem dX11_tableOf_13 : decode cX11_tableOf 13 = .ok (.iload 4, 2) := by decide +kernel
theorem dX11_tableOf_15 : decode cX11_tableOf 15 = .ok (.bipush 16, 2) := by decide +kernel
theorem dX11_tableOf_17 : decode cX11_tableOf 17 = .ok (.iload_n 2, 1) := by decide +kernel
theorem dX11_tableOf_18 : decode cX11_tableOf 18 = .ok (.iload 4, 2) := by decide +kernel
theorem dX11_tableOf_20 : decode cX11_tableOf 20 = .ok (.invokevirtual 254, 3) := by decide +kernel
theorem dX11_tableOf_23 : decode cX11_tableOf 23 = .ok (.istore 5, 2) := by decide +kernel
theorem dX11_tableOf_25 : decode cX11_tableOf 25 = .ok (.iload 5, 2) := by decide +kernel
theorem dX11_tableOf_27 : decode cX11_tableOf 27 = .ok (.iload_n 3, 1) := by decide +kernel
theorem dX11_tableOf_28 : decode cX11_tableOf 28 = .ok (.if_icmp .le 8, 3) := by decide +kernel
theorem dX11_tableOf_31 : decode cX11_tableOf 31 = .ok (.iload 5, 2) := by decide +kernel
theorem dX11_tableOf_33 : decode cX11_tableOf 33 = .ok (.goto 4, 3) := by decide +kernel
theorem dX11_tableOf_36 : decode cX11_tableOf 36 = .ok (.iload_n 3, 1) := by decide +kernel
theorem dX11_tableOf_37 : decode cX11_tableOf 37 = .ok (.istore_n 3, 1) := by decide +kernel
theorem dX11_tableOf_38 : decode cX11_tableOf 38 = .ok (.iinc 4 1, 3) := by decide +kernel
theorem dX11_tableOf_41 : decode cX11_tableOf 41 = .ok (.goto (-36), 3) := by decide +kernel
theorem dX11_tableOf_44 : decode cX11_tableOf 44 = .ok (.iload_n 3, 1) := by decide +kernel
theorem dX11_tableOf_45 : decode cX11_tableOf 45 = .ok (.iload_n 2, 1) := by decide +kernel
theorem dX11_tableOf_46 : decode cX11_tableOf 46 = .ok (.iconst 3, 1) := by decide +kernel
theorem dX11_tableOf_47 : decode cX11_tableOf 47 = .ok (.if_icmp .le 14, 3) := by decide +kernel
theorem dX11_tableOf_50 : decode cX11_tableOf 50 = .ok (.iload_n 2, 1) := by decide +kernel
theorem dX11_tableOf_51 : decode cX11_tableOf 51 = .ok (.iconst 3, 1) := by decide +kernel
theorem dX11_tableOf_52 : decode cX11_tableOf 52 = .ok (.isub, 1) := by decide +kernel
theorem dX11_tableOf_53 : decode cX11_tableOf 53 = .ok (.iload_n 3, 1) := by decide +kernel
theorem dX11_tableOf_54 : decode cX11_tableOf 54 = .ok (.bipush 10, 2) := by decide +kernel
theorem dX11_tableOf_56 : decode cX11_tableOf 56 = .ok (.idiv, 1) := by decide +kernel
theorem dX11_tableOf_57 : decode cX11_tableOf 57 = .ok (.imul, 1) := by decide +kernel
theorem dX11_tableOf_58 : decode cX11_tableOf 58 = .ok (.goto 4, 3) := by decide +kernel
theorem dX11_tableOf_61 : decode cX11_tableOf 61 = .ok (.iconst 0, 1) := by decide +kernel
theorem dX11_tableOf_62 : decode cX11_tableOf 62 = .ok (.iadd, 1) := by decide +kernel
theorem dX11_tableOf_63 : decode cX11_tableOf 63 = .ok (.aload_n 0, 1) := by decide +kernel
theorem dX11_tableOf_64 : decode cX11_tableOf 64 = .ok (.iload_n 1, 1) := by decide +kernel
theorem dX11_tableOf_65 : decode cX11_tableOf 65 = .ok (.invokevirtual 251, 3) := by decide +kernel
theorem dX11_tableOf_68 : decode cX11_tableOf 68 = .ok (.iadd, 1) := by decide +kernel
theorem dX11_tableOf_69 : decode cX11_tableOf 69 = .ok (.ireturn, 1) := by decide +kernel
theorem dX11_table_0 : decode cX11_table 0 = .ok (.iload_n 1, 1) := by decide +kernel
theorem dX11_table_1 : decode cX11_table 1 = .ok (.iconst 0, 1) := by decide +kernel
theorem dX11_table_2 : decode cX11_table 2 = .ok (.iconst 4, 1) := by decide +kernel
theorem dX11_table_3 : decode cX11_table 3 = .ok (.invokestatic 124, 3) := by decide +kernel
theorem dX11_table_6 : decode cX11_table 6 = .ok (.ifCond .ne 10, 3) := by decide +kernel
theorem dX11_table_9 : decode cX11_table 9 = .ok (.aload_n 0, 1) := by decide +kernel
theorem dX11_table_10 : decode cX11_table 10 = .ok (.bipush (-2), 2) := by decide +kernel
theorem dX11_table_12 : decode cX11_table 12 = .ok (.invokevirtual 112, 3) := by decide +kernel
theorem dX11_table_15 : decode cX11_table 15 = .ok (.ireturn, 1) := by decide +kernel
theorem dX11_table_16 : decode cX11_table 16 = .ok (.iload_n 2, 1) := by decide +kernel
theorem dX11_table_17 : decode cX11_table 17 = .ok (.iconst 1, 1) := by decide +kernel
theorem dX11_table_18 : decode cX11_table 18 = .ok (.aload_n 0, 1) := by decide +kernel
theorem dX11_table_19 : decode cX11_table 19 = .ok (.getfield 95, 3) := by decide +kernel
theorem dX11_table_22 : decode cX11_table 22 = .ok (.invokestatic 105, 3) := by decide +kernel
theorem dX11_table_25 : decode cX11_table 25 = .ok (.istore_n 3, 1) := by decide +kernel
theorem dX11_table_26 : decode cX11_table 26 = .ok (.iload_n 3, 1) := by decide +kernel
theorem dX11_table_27 : decode cX11_table 27 = .ok (.ifCond .eq 11, 3) := by decide +kernel
theorem dX11_table_30 : decode cX11_table 30 = .ok (.aload_n 0, 1) := by decide +kernel
theorem dX11_table_31 : decode cX11_table 31 = .ok (.iload_n 3, 1) := by decide +kernel
theorem dX11_table_32 : decode cX11_table 32 = .ok (.invokevirtual 112, 3) := by decide +kernel
theorem dX11_table_35 : decode cX11_table 35 = .ok (.goto 9, 3) := by decide +kernel
theorem dX11_table_38 : decode cX11_table 38 = .ok (.aload_n 0, 1) := by decide +kernel
theorem dX11_table_39 : decode cX11_table 39 = .ok (.iload_n 1, 1) := by decide +kernel
theorem dX11_table_40 : decode cX11_table 40 = .ok (.iload_n 2, 1) := by decide +kernel
theorem dX11_table_41 : decode cX11_table 41 = .ok (.invokevirtual 261, 3) := by decide +kernel
theorem dX11_table_44 : decode cX11_table 44 = .ok (.ireturn, 1) := by decide +kernel
theorem dX11_line_0 : decode cX11_line 0 = .ok (.iload_n 1, 1) := by decide +kernel
theorem dX11_line_1 : decode cX11_line 1 = .ok (.iconst 0, 1) := by decide +kernel
theorem dX11_line_2 : decode cX11_line 2 = .ok (.iconst 4, 1) := by decide +kernel
theorem dX11_line_3 : decode cX11_line 3 = .ok (.invokestatic 124, 3) := by decide +kernel
theorem dX11_line_6 : decode cX11_line 6 = .ok (.ifCond .ne 10, 3) := by decide +kernel
theorem dX11_line_9 : decode cX11_line 9 = .ok (.aload_n 0, 1) := by decide +kernel
theorem dX11_line_10 : decode cX11_line 10 = .ok (.bipush (-2), 2) := by decide +kernel
theorem dX11_line_12 : decode cX11_line 12 = .ok (.invokevirtual 112, 3) := by decide +kernel
theorem dX11_line_15 : decode cX11_line 15 = .ok (.ireturn, 1) := by decide +kernel
theorem dX11_line_16 : decode cX11_line 16 = .ok (.aload_n 0, 1) := by decide +kernel
theorem dX11_line_17 : decode cX11_line 17 = .ok (.getfield 95, 3) := by decide +kernel
theorem dX11_line_20 : decode cX11_line 20 = .ok (.ifCond .ne 6, 3) := by decide +kernel
theorem dX11_line_23 : decode cX11_line 23 = .ok (.bipush (-9), 2) := by decide +kernel
theorem dX11_line_25 : decode cX11_line 25 = .ok (.ireturn, 1) := by decide +kernel
theorem dX11_line_26 : decode cX11_line 26 = .ok (.iconst 1, 1) := by decide +kernel
theorem dX11_line_27 : decode cX11_line 27 = .ok (.istore_n 2, 1) := by decide +kernel
theorem dX11_line_28 : decode cX11_line 28 = .ok (.iconst 2, 1) := by decide +kernel
theorem dX11_line_29 : decode cX11_line 29 = .ok (.istore_n 3, 1) := by decide +kernel
theorem dX11_line_30 : decode cX11_line 30 = .ok (.iload_n 3, 1) := by decide +kernel
theorem dX11_line_31 : decode cX11_line 31 = .ok (.aload_n 0, 1) := by decide +kernel
theorem dX11_line_32 : decode cX11_line 32 = .ok (.getfield 95, 3) := by decide +kernel
theorem dX11_line_35 : decode cX11_line 35 = .ok (.if_icmp .gt 30, 3) := by decide +kernel
theorem dX11_line_38 : decode cX11_line 38 = .ok (.aload_n 0, 1) := by decide +kernel
theorem dX11_line_39 : decode cX11_line 39 = .ok (.iload_n 1, 1) := by decide +kernel
theorem dX11_line_40 : decode cX11_line 40 = .ok (.iload_n 3, 1) := by decide +kernel
theorem dX11_line_41 : decode cX11_line 41 = .ok (.invokevirtual 261, 3) := by decide +kernel
theorem dX11_line_44 : decode cX11_line 44 = .ok (.aload_n 0, 1) := by decide +kernel
theorem dX11_line_45 : decode cX11_line 45 = .ok (.iload_n 1, 1) := by decide +kernel
theorem dX11_line_46 : decode cX11_line 46 = .ok (.iload_n 2, 1) := by decide +kernel
theorem dX11_line_47 : decode cX11_line 47 = .ok (.invokevirtual 261, 3) := by decide +kernel
theorem dX11_line_50 : decode cX11_line 50 = .ok (.if_icmp .ge 7, 3) := by decide +kernel
theorem dX11_line_53 : decode cX11_line 53 = .ok (.iload_n 3, 1) := by decide +kernel
theorem dX11_line_54 : decode cX11_line 54 = .ok (.goto 4, 3) := by decide +kernel
theorem dX11_line_57 : decode cX11_line 57 = .ok (.iload_n 2, 1) := by decide +kernel
theorem dX11_line_58 : decode cX11_line 58 = .ok (.istore_n 2, 1) := by decide +kernel
theorem dX11_line_59 : decode cX11_line 59 = .ok (.iinc 3 1, 3) := by decide +kernel
theorem dX11_line_62 : decode cX11_line 62 = .ok (.goto (-32), 3) := by decide +kernel
theorem dX11_line_65 : decode cX11_line 65 = .ok (.iload_n 2, 1) := by decide +kernel
theorem dX11_line_66 : decode cX11_line 66 = .ok (.ireturn, 1) := by decide +kernel
theorem dX11_seemsOf_0 : decode cX11_seemsOf 0 = .ok (.iconst 0, 1) := by decide +kernel
theorem dX11_seemsOf_1 : decode cX11_seemsOf 1 = .ok (.istore_n 1, 1) := by decide +kernel
theorem dX11_seemsOf_2 : decode cX11_seemsOf 2 = .ok (.iconst 0, 1) := by decide +kernel
theorem dX11_seemsOf_3 : decode cX11_seemsOf 3 = .ok (.istore_n 2, 1) := by decide +kernel
theorem dX11_seemsOf_4 : decode cX11_seemsOf 4 = .ok (.iload_n 2, 1) := by decide +kernel
theorem dX11_seemsOf_5 : decode cX11_seemsOf 5 = .ok (.aload_n 0, 1) := by decide +kernel
theorem dX11_seemsOf_6 : decode cX11_seemsOf 6 = .ok (.invokevirtual 91, 3) := by decide +kernel
theorem dX11_seemsOf_9 : decode cX11_seemsOf 9 = .ok (.if_icmp .ge 150, 3) := by decide +kernel
theorem dX11_seemsOf_12 : decode cX11_seemsOf 12 = .ok (.iload_n 2, 1) := by decide +kernel
theorem dX11_seemsOf_13 : decode cX11_seemsOf 13 = .ok (.iconst 1, 1) := by decide +kernel
theorem dX11_seemsOf_14 : decode cX11_seemsOf 14 = .ok (.iadd, 1) := by decide +kernel
theorem dX11_seemsOf_15 : decode cX11_seemsOf 15 = .ok (.istore_n 3, 1) := by decide +kernel
theorem dX11_seemsOf_16 : decode cX11_seemsOf 16 = .ok (.iload_n 3, 1) := by decide +kernel
theorem dX11_seemsOf_17 : decode cX11_seemsOf 17 = .ok (.aload_n 0, 1) := by decide +kernel
theorem dX11_seemsOf_18 : decode cX11_seemsOf 18 = .ok (.invokevirtual 91, 3) := by decide +kernel
theorem dX11_seemsOf_21 : decode cX11_seemsOf 21 = .ok (.if_icmp .ge 132, 3) := by decide +kernel
theorem dX11_seemsOf_24 : decode cX11_seemsOf 24 = .ok (.aload_n 0, 1) := by decide +kernel
theorem dX11_seemsOf_25 : decode cX11_seemsOf 25 = .ok (.getfield 31, 3) := by decide +kernel
theorem dX11_seemsOf_28 : decode cX11_seemsOf 28 = .ok (.iload_n 2, 1) := by decide +kernel
theorem dX11_seemsOf_29 : decode cX11_seemsOf 29 = .ok (.iaload, 1) := by decide +kernel
theorem dX11_seemsOf_30 : decode cX11_seemsOf 30 = .ok (.iconst 1, 1) := by decide +kernel
theorem dX11_seemsOf_31 : decode cX11_seemsOf 31 = .ok (.if_icmp .eq 116, 3) := by decide +kernel
theorem dX11_seemsOf_34 : decode cX11_seemsOf 34 = .ok (.aload_n 0, 1) := by decide +kernel
theorem dX11_seemsOf_35 : decode cX11_seemsOf 35 = .ok (.getfield 31, 3) := by decide +kernel
theorem dX11_seemsOf_38 : decode cX11_seemsOf 38 = .ok (.iload_n 3, 1) := by decide +kernel
theorem dX11_seemsOf_39 : decode cX11_seemsOf 39 = .ok (.iaload, 1) := by decide +kernel
theorem dX11_seemsOf_40 : decode cX11_seemsOf 40 = .ok (.iconst 1, 1) := by decide +kernel
theorem dX11_seemsOf_41 : decode cX11_seemsOf 41 = .ok (.if_icmp .ne 6, 3) := by decide +kernel
theorem dX11_seemsOf_44 : decode cX11_seemsOf 44 = .ok (.goto 103, 3) := by decide +kernel
theorem dX11_seemsOf_47 : decode cX11_seemsOf 47 = .ok (.iconst 0, 1) := by decide +kernel
theorem dX11_seemsOf_48 : decode cX11_seemsOf 48 = .ok (.istore 4, 2) := by decide +kernel
theorem dX11_seemsOf_50 : decode cX11_seemsOf 50 = .ok (.iload 4, 2) := by decide +kernel
theorem dX11_seemsOf_52 : decode cX11_seemsOf 52 = .ok (.iconst 4, 1) := by decide +kernel
theorem dX11_seemsOf_53 : decode cX11_seemsOf 53 = .ok (.if_icmp .ge 94, 3) := by decide +kernel
theorem dX11_seemsOf_56 : decode cX11_seemsOf 56 = .ok (.iconst 0, 1) := by decide +kernel
theorem dX11_seemsOf_57 : decode cX11_seemsOf 57 = .ok (.istore 5, 2) := by decide +kernel
theorem dX11_seemsOf_59 : decode cX11_seemsOf 59 = .ok (.iload 5, 2) := by decide +kernel
theorem dX11_seemsOf_61 : decode cX11_seemsOf 61 = .ok (.iconst 4, 1) := by decide +kernel
theorem dX11_seemsOf_62 : decode cX11_seemsOf 62 = .ok (.if_icmp .ge 79, 3) := by decide +kernel
theorem dX11_seemsOf_65 : decode cX11_seemsOf 65 = .ok (.aload_n 0, 1) := by decide +kernel
theorem dX11_seemsOf_66 : decode cX11_seemsOf 66 = .ok (.iload_n 2, 1) := by decide +kernel
theorem dX11_seemsOf_67 : decode cX11_seemsOf 67 = .ok (.iload 4, 2) := by decide +kernel
theorem dX11_seemsOf_69 : decode cX11_seemsOf 69 = .ok (.invokevirtual 98, 3) := by decide +kernel
theorem dX11_seemsOf_72 : decode cX11_seemsOf 72 = .ok (.iload_n 3, 1) := by decide +kernel
theorem dX11_seemsOf_73 : decode cX11_seemsOf 73 = .ok (.if_icmp .ne 18, 3) := by decide +kernel
theorem dX11_seemsOf_76 : decode cX11_seemsOf 76 = .ok (.iload 5, 2) := by decide +kernel
theorem dX11_seemsOf_78 : decode cX11_seemsOf 78 = .ok (.iload 4, 2) := by decide +kernel
theorem dX11_seemsOf_80 : decode cX11_seemsOf 80 = .ok (.iconst 2, 1) := by decide +kernel
theorem dX11_seemsOf_81 : decode cX11_seemsOf 81 = .ok (.iadd, 1) := by decide +kernel
theorem dX11_seemsOf_82 : decode cX11_seemsOf 82 = .ok (.iconst 4, 1) := by decide +kernel
theorem dX11_seemsOf_83 : decode cX11_seemsOf 83 = .ok (.irem, 1) := by decide +kernel
theorem dX11_seemsOf_84 : decode cX11_seemsOf 84 = .ok (.if_icmp .ne 7, 3) := by decide +kernel
theorem dX11_seemsOf_87 : decode cX11_seemsOf 87 = .ok (.iconst 1, 1) := by decide +kernel
theorem dX11_seemsOf_88 : decode cX11_seemsOf 88 = .ok (.goto 4, 3) := by decide +kernel
theorem dX11_seemsOf_91 : decode cX11_seemsOf 91 = .ok (.iconst 0, 1) := by decide +kernel
theorem dX11_seemsOf_92 : decode cX11_seemsOf 92 = .ok (.istore 6, 2) := by decide +kernel
theorem dX11_seemsOf_94 : decode cX11_seemsOf 94 = .ok (.iload_n 1, 1) := by decide +kernel
theorem dX11_seemsOf_95 : decode cX11_seemsOf 95 = .ok (.iload 6, 2) := by decide +kernel
theorem dX11_seemsOf_97 : decode cX11_seemsOf 97 = .ok (.ifCond .ne 35, 3) := by decide +kernel
theorem dX11_seemsOf_100 : decode cX11_seemsOf 100 = .ok (.aload_n 0, 1) := by decide +kernel
theorem dX11_seemsOf_101 : decode cX11_seemsOf 101 = .ok (.iload_n 2, 1) := by decide +kernel
theorem dX11_seemsOf_102 : decode cX11_seemsOf 102 = .ok (.iload 4, 2) := by decide +kernel
theorem dX11_seemsOf_104 : decode cX11_seemsOf 104 = .ok (.invokevirtual 102, 3) := by decide +kernel
theorem dX11_seemsOf_107 : decode cX11_seemsOf 107 = .ok (.ifCond .eq 25, 3) := by decide +kernel
theorem dX11_seemsOf_110 : decode cX11_seemsOf 110 = .ok (.aload_n 0, 1) := by decide +kernel
theorem dX11_seemsOf_111 : decode cX11_seemsOf 111 = .ok (.iload_n 2, 1) := by decide +kernel
theorem dX11_seemsOf_112 : decode cX11_seemsOf 112 = .ok (.iload 4, 2) := by decide +kernel
theorem dX11_seemsOf_114 : decode cX11_seemsOf 114 = .ok (.invokevirtual 102, 3) := by decide +kernel
theorem dX11_seemsOf_117 : decode cX11_seemsOf 117 = .ok (.aload_n 0, 1) := by decide +kernel
theorem dX11_seemsOf_118 : decode cX11_seemsOf 118 = .ok (.iload_n 3, 1) := by decide +kernel
theorem dX11_seemsOf_119 : decode cX11_seemsOf 119 = .ok (.iload 5, 2) := by decide +kernel
theorem dX11_seemsOf_121 : decode cX11_seemsOf 121 = .ok (.invokevirtual 102, 3) := by decide +kernel
theorem dX11_seemsOf_124 : decode cX11_seemsOf 124 = .ok (.iadd, 1) := by decide +kernel
theorem dX11_seemsOf_125 : decode cX11_seemsOf 125 = .ok (.ifCond .ne 7, 3) := by decide +kernel
theorem dX11_seemsOf_128 : decode cX11_seemsOf 128 = .ok (.iconst 1, 1) := by decide +kernel
theorem dX11_seemsOf_129 : decode cX11_seemsOf 129 = .ok (.goto 4, 3) := by decide +kernel
theorem dX11_seemsOf_132 : decode cX11_seemsOf 132 = .ok (.iconst 0, 1) := by decide +kernel
theorem dX11_seemsOf_133 : decode cX11_seemsOf 133 = .ok (.iadd, 1) := by decide +kernel
theorem dX11_seemsOf_134 : decode cX11_seemsOf 134 = .ok (.istore_n 1, 1) := by decide +kernel
theorem dX11_seemsOf_135 : decode cX11_seemsOf 135 = .ok (.iinc 5 1, 3) := by decide +kernel
theorem dX11_seemsOf_138 : decode cX11_seemsOf 138 = .ok (.goto (-79), 3) := by decide +kernel
theorem dX11_seemsOf_141 : decode cX11_seemsOf 141 = .ok (.iinc 4 1, 3) := by decide +kernel
theorem dX11_seemsOf_144 : decode cX11_seemsOf 144 = .ok (.goto (-94), 3) := by decide +kernel
theorem dX11_seemsOf_147 : decode cX11_seemsOf 147 = .ok (.iinc 3 1, 3) := by decide +kernel
theorem dX11_seemsOf_150 : decode cX11_seemsOf 150 = .ok (.goto (-134), 3) := by decide +kernel
theorem dX11_seemsOf_153 : decode cX11_seemsOf 153 = .ok (.iinc 2 1, 3) := by decide +kernel
theorem dX11_seemsOf_156 : decode cX11_seemsOf 156 = .ok (.goto (-152), 3) := by decide +kernel
theorem dX11_seemsOf_159 : decode cX11_seemsOf 159 = .ok (.iload_n 1, 1) := by decide +kernel
theorem dX11_seemsOf_160 : decode cX11_seemsOf 160 = .ok (.ireturn, 1) := by decide +kernel
theorem dX11_seems_0 : decode cX11_seems 0 = .ok (.aload_n 0, 1) := by decide +kernel
theorem dX11_seems_1 : decode cX11_seems 1 = .ok (.invokevirtual 264, 3) := by decide +kernel
theorem dX11_seems_4 : decode cX11_seems 4 = .ok (.ireturn, 1) := by decide +kernel
theorem dX11_isOwn_0 : decode cX11_isOwn 0 = .ok (.aload_n 0, 1) := by decide +kernel
theorem dX11_isOwn_1 : decode cX11_isOwn 1 = .ok (.getfield 22, 3) := by decide +kernel
theorem dX11_isOwn_4 : decode cX11_isOwn 4 = .ok (.iload_n 1, 1) := by decide +kernel
theorem dX11_isOwn_5 : decode cX11_isOwn 5 = .ok (.iaload, 1) := by decide +kernel
theorem dX11_isOwn_6 : decode cX11_isOwn 6 = .ok (.iload_n 1, 1) := by decide +kernel
theorem dX11_isOwn_7 : decode cX11_isOwn 7 = .ok (.if_icmp .ne 16, 3) := by decide +kernel
theorem dX11_isOwn_10 : decode cX11_isOwn 10 = .ok (.aload_n 0, 1) := by decide +kernel
theorem dX11_isOwn_11 : decode cX11_isOwn 11 = .ok (.getfield 25, 3) := by decide +kernel
theorem dX11_isOwn_14 : decode cX11_isOwn 14 = .ok (.iload_n 1, 1) := by decide +kernel
theorem dX11_isOwn_15 : decode cX11_isOwn 15 = .ok (.iaload, 1) := by decide +kernel
theorem dX11_isOwn_16 : decode cX11_isOwn 16 = .ok (.ifCond .ne 7, 3) := by decide +kernel
theorem dX11_isOwn_19 : decode cX11_isOwn 19 = .ok (.iconst 1, 1) := by decide +kernel
theorem dX11_isOwn_20 : decode cX11_isOwn 20 = .ok (.goto 4, 3) := by decide +kernel
theorem dX11_isOwn_23 : decode cX11_isOwn 23 = .ok (.iconst 0, 1) := by decide +kernel
theorem dX11_isOwn_24 : decode cX11_isOwn 24 = .ok (.ireturn, 1) := by decide +kernel
theorem dX11_wrong_0 : decode cX11_wrong 0 = .ok (.iconst 0, 1) := by decide +kernel
theorem dX11_wrong_1 : decode cX11_wrong 1 = .ok (.istore_n 1, 1) := by decide +kernel
theorem dX11_wrong_2 : decode cX11_wrong 2 = .ok (.iconst 0, 1) := by decide +kernel
theorem dX11_wrong_3 : decode cX11_wrong 3 = .ok (.istore_n 2, 1) := by decide +kernel
theorem dX11_wrong_4 : decode cX11_wrong 4 = .ok (.iload_n 2, 1) := by decide +kernel
theorem dX11_wrong_5 : decode cX11_wrong 5 = .ok (.aload_n 0, 1) := by decide +kernel
theorem dX11_wrong_6 : decode cX11_wrong 6 = .ok (.invokevirtual 91, 3) := by decide +kernel
theorem dX11_wrong_9 : decode cX11_wrong 9 = .ok (.if_icmp .ge 25, 3) := by decide +kernel
theorem dX11_wrong_12 : decode cX11_wrong 12 = .ok (.iload_n 1, 1) := by decide +kernel
theorem dX11_wrong_13 : decode cX11_wrong 13 = .ok (.aload_n 0, 1) := by decide +kernel
theorem dX11_wrong_14 : decode cX11_wrong 14 = .ok (.iload_n 2, 1) := by decide +kernel
theorem dX11_wrong_15 : decode cX11_wrong 15 = .ok (.invokevirtual 267, 3) := by decide +kernel
theorem dX11_wrong_18 : decode cX11_wrong 18 = .ok (.ifCond .eq 7, 3) := by decide +kernel
theorem dX11_wrong_21 : decode cX11_wrong 21 = .ok (.iconst 0, 1) := by decide +kernel
theorem dX11_wrong_22 : decode cX11_wrong 22 = .ok (.goto 4, 3) := by decide +kernel
theorem dX11_wrong_25 : decode cX11_wrong 25 = .ok (.iconst 1, 1) := by decide +kernel
theorem dX11_wrong_26 : decode cX11_wrong 26 = .ok (.iadd, 1) := by decide +kernel
theorem dX11_wrong_27 : decode cX11_wrong 27 = .ok (.istore_n 1, 1) := by decide +kernel
theorem dX11_wrong_28 : decode cX11_wrong 28 = .ok (.iinc 2 1, 3) := by decide +kernel
theorem dX11_wrong_31 : decode cX11_wrong 31 = .ok (.goto (-27), 3) := by decide +kernel
theorem dX11_wrong_34 : decode cX11_wrong 34 = .ok (.iload_n 1, 1) := by decide +kernel
theorem dX11_wrong_35 : decode cX11_wrong 35 = .ok (.ireturn, 1) := by decide +kernel
theorem dX11_falseOne_0 : decode cX11_falseOne 0 = .ok (.iconst 0, 1) := by decide +kernel
theorem dX11_falseOne_1 : decode cX11_falseOne 1 = .ok (.istore_n 1, 1) := by decide +kernel
theorem dX11_falseOne_2 : decode cX11_falseOne 2 = .ok (.iload_n 1, 1) := by decide +kernel
theorem dX11_falseOne_3 : decode cX11_falseOne 3 = .ok (.aload_n 0, 1) := by decide +kernel
theorem dX11_falseOne_4 : decode cX11_falseOne 4 = .ok (.invokevirtual 91, 3) := by decide +kernel
theorem dX11_falseOne_7 : decode cX11_falseOne 7 = .ok (.if_icmp .ge 28, 3) := by decide +kernel
theorem dX11_falseOne_10 : decode cX11_falseOne 10 = .ok (.aload_n 0, 1) := by decide +kernel
theorem dX11_falseOne_11 : decode cX11_falseOne 11 = .ok (.getfield 22, 3) := by decide +kernel
theorem dX11_falseOne_14 : decode cX11_falseOne 14 = .ok (.iload_n 1, 1) := by decide +kernel
theorem dX11_falseOne_15 : decode cX11_falseOne 15 = .ok (.iaload, 1) := by decide +kernel
theorem dX11_falseOne_16 : decode cX11_falseOne 16 = .ok (.ifCond .lt 13, 3) := by decide +kernel
theorem dX11_falseOne_19 : decode cX11_falseOne 19 = .ok (.aload_n 0, 1) := by decide +kernel
theorem dX11_falseOne_20 : decode cX11_falseOne 20 = .ok (.iload_n 1, 1) := by decide +kernel
theorem dX11_falseOne_21 : decode cX11_falseOne 21 = .ok (.invokevirtual 267, 3) := by decide +kernel
theorem dX11_falseOne_24 : decode cX11_falseOne 24 = .ok (.ifCond .ne 5, 3) := by decide +kernel
theorem dX11_falseOne_27 : decode cX11_falseOne 27 = .ok (.iload_n 1, 1) := by decide +kernel
theorem dX11_falseOne_28 : decode cX11_falseOne 28 = .ok (.ireturn, 1) := by decide +kernel
theorem dX11_falseOne_29 : decode cX11_falseOne 29 = .ok (.iinc 1 1, 3) := by decide +kernel
theorem dX11_falseOne_32 : decode cX11_falseOne 32 = .ok (.goto (-30), 3) := by decide +kernel
theorem dX11_falseOne_35 : decode cX11_falseOne 35 = .ok (.bipush (-9), 2) := by decide +kernel
theorem dX11_falseOne_37 : decode cX11_falseOne 37 = .ok (.ireturn, 1) := by decide +kernel
theorem dX11_fitsSomewhere_0 : decode cX11_fitsSomewhere 0 = .ok (.iconst 0, 1) := by decide +kernel
theorem dX11_fitsSomewhere_1 : decode cX11_fitsSomewhere 1 = .ok (.istore_n 2, 1) := by decide +kernel
theorem dX11_fitsSomewhere_2 : decode cX11_fitsSomewhere 2 = .ok (.iload_n 2, 1) := by decide +kernel
theorem dX11_fitsSomewhere_3 : decode cX11_fitsSomewhere 3 = .ok (.aload_n 0, 1) := by decide +kernel
theorem dX11_fitsSomewhere_4 : decode cX11_fitsSomewhere 4 = .ok (.invokevirtual 91, 3) := by decide +kernel
theorem dX11_fitsSomewhere_7 : decode cX11_fitsSomewhere 7 = .ok (.if_icmp .ge 43, 3) := by decide +kernel
theorem dX11_fitsSomewhere_10 : decode cX11_fitsSomewhere 10 = .ok (.iconst 0, 1) := by decide +kernel
theorem dX11_fitsSomewhere_11 : decode cX11_fitsSomewhere 11 = .ok (.istore_n 3, 1) := by decide +kernel
theorem dX11_fitsSomewhere_12 : decode cX11_fitsSomewhere 12 = .ok (.iload_n 3, 1) := by decide +kernel
theorem dX11_fitsSomewhere_13 : decode cX11_fitsSomewhere 13 = .ok (.iconst 4, 1) := by decide +kernel
theorem dX11_fitsSomewhere_14 : decode cX11_fitsSomewhere 14 = .ok (.if_icmp .ge 30, 3) := by decide +kernel
theorem dX11_fitsSomewhere_17 : decode cX11_fitsSomewhere 17 = .ok (.aload_n 0, 1) := by decide +kernel
theorem dX11_fitsSomewhere_18 : decode cX11_fitsSomewhere 18 = .ok (.getfield 22, 3) := by decide +kernel
theorem dX11_fitsSomewhere_21 : decode cX11_fitsSomewhere 21 = .ok (.iload_n 2, 1) := by decide +kernel
theorem dX11_fitsSomewhere_22 : decode cX11_fitsSomewhere 22 = .ok (.iaload, 1) := by decide +kernel
end
section
theorem dX11_fitsSomewhere_23 : decode cX11_fitsSomewhere 23 = .ok (.ifCond .ge 15, 3) := by decide +kernel
theorem dX11_fitsSomewhere_26 : decode cX11_fitsSomewhere 26 = .ok (.aload_n 0, 1) := by decide +kernel
theorem dX11_fitsSomewhere_27 : decode cX11_fitsSomewhere 27 = .ok (.iload_n 1, 1) := by decide +kernel
theorem dX11_fitsSomewhere_28 : decode cX11_fitsSomewhere 28 = .ok (.iload_n 3, 1) := by decide +kernel
theorem dX11_fitsSomewhere_29 : decode cX11_fitsSomewhere 29 = .ok (.iload_n 2, 1) := by decide +kernel
theorem dX11_fitsSomewhere_30 : decode cX11_fitsSomewhere 30 = .ok (.invokevirtual 181, 3) := by decide +kernel
theorem dX11_fitsSomewhere_33 : decode cX11_fitsSomewhere 33 = .ok (.ifCond .eq 5, 3) := by decide +kernel
theorem dX11_fitsSomewhere_36 : decode cX11_fitsSomewhere 36 = .ok (.iconst 1, 1) := by decide +kernel
theorem dX11_fitsSomewhere_37 : decode cX11_fitsSomewhere 37 = .ok (.ireturn, 1) := by decide +kernel
theorem dX11_fitsSomewhere_38 : decode cX11_fitsSomewhere 38 = .ok (.iinc 3 1, 3) := by decide +kernel
theorem dX11_fitsSomewhere_41 : decode cX11_fitsSomewhere 41 = .ok (.goto (-29), 3) := by decide +kernel
theorem dX11_fitsSomewhere_44 : decode cX11_fitsSomewhere 44 = .ok (.iinc 2 1, 3) := by decide +kernel
theorem dX11_fitsSomewhere_47 : decode cX11_fitsSomewhere 47 = .ok (.goto (-45), 3) := by decide +kernel
theorem dX11_fitsSomewhere_50 : decode cX11_fitsSomewhere 50 = .ok (.iconst 0, 1) := by decide +kernel
theorem dX11_fitsSomewhere_51 : decode cX11_fitsSomewhere 51 = .ok (.ireturn, 1) := by decide +kernel
theorem dX11_over_0 : decode cX11_over 0 = .ok (.iconst 0, 1) := by decide +kernel
theorem dX11_over_1 : decode cX11_over 1 = .ok (.istore_n 1, 1) := by decide +kernel
theorem dX11_over_2 : decode cX11_over 2 = .ok (.iload_n 1, 1) := by decide +kernel
theorem dX11_over_3 : decode cX11_over 3 = .ok (.aload_n 0, 1) := by decide +kernel
theorem dX11_over_4 : decode cX11_over 4 = .ok (.invokevirtual 91, 3) := by decide +kernel
theorem dX11_over_7 : decode cX11_over 7 = .ok (.if_icmp .ge 36, 3) := by decide +kernel
theorem dX11_over_10 : decode cX11_over 10 = .ok (.aload_n 0, 1) := by decide +kernel
theorem dX11_over_11 : decode cX11_over 11 = .ok (.getfield 31, 3) := by decide +kernel
theorem dX11_over_14 : decode cX11_over 14 = .ok (.iload_n 1, 1) := by decide +kernel
theorem dX11_over_15 : decode cX11_over 15 = .ok (.iaload, 1) := by decide +kernel
theorem dX11_over_16 : decode cX11_over 16 = .ok (.ifCond .ne 21, 3) := by decide +kernel
theorem dX11_over_19 : decode cX11_over 19 = .ok (.aload_n 0, 1) := by decide +kernel
theorem dX11_over_20 : decode cX11_over 20 = .ok (.iload_n 1, 1) := by decide +kernel
theorem dX11_over_21 : decode cX11_over 21 = .ok (.invokevirtual 203, 3) := by decide +kernel
theorem dX11_over_24 : decode cX11_over 24 = .ok (.ifCond .ne 13, 3) := by decide +kernel
theorem dX11_over_27 : decode cX11_over 27 = .ok (.aload_n 0, 1) := by decide +kernel
theorem dX11_over_28 : decode cX11_over 28 = .ok (.iload_n 1, 1) := by decide +kernel
theorem dX11_over_29 : decode cX11_over 29 = .ok (.invokevirtual 270, 3) := by decide +kernel
theorem dX11_over_32 : decode cX11_over 32 = .ok (.ifCond .ne 5, 3) := by decide +kernel
theorem dX11_over_35 : decode cX11_over 35 = .ok (.iload_n 1, 1) := by decide +kernel
theorem dX11_over_36 : decode cX11_over 36 = .ok (.ireturn, 1) := by decide +kernel
theorem dX11_over_37 : decode cX11_over 37 = .ok (.iinc 1 1, 3) := by decide +kernel
theorem dX11_over_40 : decode cX11_over 40 = .ok (.goto (-38), 3) := by decide +kernel
theorem dX11_over_43 : decode cX11_over 43 = .ok (.bipush (-9), 2) := by decide +kernel
theorem dX11_over_45 : decode cX11_over 45 = .ok (.ireturn, 1) := by decide +kernel
theorem dX11_balanceOn_0 : decode cX11_balanceOn 0 = .ok (.iconst 0, 1) := by decide +kernel
theorem dX11_balanceOn_1 : decode cX11_balanceOn 1 = .ok (.istore_n 3, 1) := by decide +kernel
theorem dX11_balanceOn_2 : decode cX11_balanceOn 2 = .ok (.iconst 0, 1) := by decide +kernel
theorem dX11_balanceOn_3 : decode cX11_balanceOn 3 = .ok (.istore 4, 2) := by decide +kernel
theorem dX11_balanceOn_5 : decode cX11_balanceOn 5 = .ok (.iload 4, 2) := by decide +kernel
theorem dX11_balanceOn_7 : decode cX11_balanceOn 7 = .ok (.iconst 4, 1) := by decide +kernel
theorem dX11_balanceOn_8 : decode cX11_balanceOn 8 = .ok (.if_icmp .ge 63, 3) := by decide +kernel
theorem dX11_balanceOn_11 : decode cX11_balanceOn 11 = .ok (.aload_n 0, 1) := by decide +kernel
theorem dX11_balanceOn_12 : decode cX11_balanceOn 12 = .ok (.iload_n 1, 1) := by decide +kernel
theorem dX11_balanceOn_13 : decode cX11_balanceOn 13 = .ok (.iload 4, 2) := by decide +kernel
theorem dX11_balanceOn_15 : decode cX11_balanceOn 15 = .ok (.invokevirtual 102, 3) := by decide +kernel
theorem dX11_balanceOn_18 : decode cX11_balanceOn 18 = .ok (.istore 5, 2) := by decide +kernel
theorem dX11_balanceOn_20 : decode cX11_balanceOn 20 = .ok (.iload_n 2, 1) := by decide +kernel
theorem dX11_balanceOn_21 : decode cX11_balanceOn 21 = .ok (.ifCond .ne 19, 3) := by decide +kernel
theorem dX11_balanceOn_24 : decode cX11_balanceOn 24 = .ok (.iload_n 3, 1) := by decide +kernel
theorem dX11_balanceOn_25 : decode cX11_balanceOn 25 = .ok (.iload 5, 2) := by decide +kernel
theorem dX11_balanceOn_27 : decode cX11_balanceOn 27 = .ok (.ifCond .ne 7, 3) := by decide +kernel
theorem dX11_balanceOn_30 : decode cX11_balanceOn 30 = .ok (.iconst 1, 1) := by decide +kernel
theorem dX11_balanceOn_31 : decode cX11_balanceOn 31 = .ok (.goto 4, 3) := by decide +kernel
theorem dX11_balanceOn_34 : decode cX11_balanceOn 34 = .ok (.iconst 0, 1) := by decide +kernel
theorem dX11_balanceOn_35 : decode cX11_balanceOn 35 = .ok (.iadd, 1) := by decide +kernel
theorem dX11_balanceOn_36 : decode cX11_balanceOn 36 = .ok (.istore_n 3, 1) := by decide +kernel
theorem dX11_balanceOn_37 : decode cX11_balanceOn 37 = .ok (.goto 28, 3) := by decide +kernel
theorem dX11_balanceOn_40 : decode cX11_balanceOn 40 = .ok (.iload_n 3, 1) := by decide +kernel
theorem dX11_balanceOn_41 : decode cX11_balanceOn 41 = .ok (.iload 5, 2) := by decide +kernel
theorem dX11_balanceOn_43 : decode cX11_balanceOn 43 = .ok (.iload_n 2, 1) := by decide +kernel
theorem dX11_balanceOn_44 : decode cX11_balanceOn 44 = .ok (.if_icmp .ne 7, 3) := by decide +kernel
theorem dX11_balanceOn_47 : decode cX11_balanceOn 47 = .ok (.iconst 1, 1) := by decide +kernel
theorem dX11_balanceOn_48 : decode cX11_balanceOn 48 = .ok (.goto 15, 3) := by decide +kernel
theorem dX11_balanceOn_51 : decode cX11_balanceOn 51 = .ok (.iload 5, 2) := by decide +kernel
theorem dX11_balanceOn_53 : decode cX11_balanceOn 53 = .ok (.iload_n 2, 1) := by decide +kernel
theorem dX11_balanceOn_54 : decode cX11_balanceOn 54 = .ok (.ineg, 1) := by decide +kernel
theorem dX11_balanceOn_55 : decode cX11_balanceOn 55 = .ok (.if_icmp .ne 7, 3) := by decide +kernel
theorem dX11_balanceOn_58 : decode cX11_balanceOn 58 = .ok (.iconst (-1), 1) := by decide +kernel
theorem dX11_balanceOn_59 : decode cX11_balanceOn 59 = .ok (.goto 4, 3) := by decide +kernel
theorem dX11_balanceOn_62 : decode cX11_balanceOn 62 = .ok (.iconst 0, 1) := by decide +kernel
theorem dX11_balanceOn_63 : decode cX11_balanceOn 63 = .ok (.iadd, 1) := by decide +kernel
theorem dX11_balanceOn_64 : decode cX11_balanceOn 64 = .ok (.istore_n 3, 1) := by decide +kernel
theorem dX11_balanceOn_65 : decode cX11_balanceOn 65 = .ok (.iinc 4 1, 3) := by decide +kernel
theorem dX11_balanceOn_68 : decode cX11_balanceOn 68 = .ok (.goto (-63), 3) := by decide +kernel
theorem dX11_balanceOn_71 : decode cX11_balanceOn 71 = .ok (.iload_n 3, 1) := by decide +kernel
theorem dX11_balanceOn_72 : decode cX11_balanceOn 72 = .ok (.ireturn, 1) := by decide +kernel
theorem dX11_balanceOf_0 : decode cX11_balanceOf 0 = .ok (.iconst 0, 1) := by decide +kernel
theorem dX11_balanceOf_1 : decode cX11_balanceOf 1 = .ok (.istore_n 2, 1) := by decide +kernel
theorem dX11_balanceOf_2 : decode cX11_balanceOf 2 = .ok (.iconst 0, 1) := by decide +kernel
theorem dX11_balanceOf_3 : decode cX11_balanceOf 3 = .ok (.istore_n 3, 1) := by decide +kernel
theorem dX11_balanceOf_4 : decode cX11_balanceOf 4 = .ok (.iload_n 3, 1) := by decide +kernel
theorem dX11_balanceOf_5 : decode cX11_balanceOf 5 = .ok (.aload_n 0, 1) := by decide +kernel
theorem dX11_balanceOf_6 : decode cX11_balanceOf 6 = .ok (.invokevirtual 91, 3) := by decide +kernel
theorem dX11_balanceOf_9 : decode cX11_balanceOf 9 = .ok (.if_icmp .ge 31, 3) := by decide +kernel
theorem dX11_balanceOf_12 : decode cX11_balanceOf 12 = .ok (.iload_n 2, 1) := by decide +kernel
theorem dX11_balanceOf_13 : decode cX11_balanceOf 13 = .ok (.aload_n 0, 1) := by decide +kernel
theorem dX11_balanceOf_14 : decode cX11_balanceOf 14 = .ok (.getfield 31, 3) := by decide +kernel
theorem dX11_balanceOf_17 : decode cX11_balanceOf 17 = .ok (.iload_n 3, 1) := by decide +kernel
theorem dX11_balanceOf_18 : decode cX11_balanceOf 18 = .ok (.iaload, 1) := by decide +kernel
theorem dX11_balanceOf_19 : decode cX11_balanceOf 19 = .ok (.ifCond .ne 12, 3) := by decide +kernel
theorem dX11_balanceOf_22 : decode cX11_balanceOf 22 = .ok (.aload_n 0, 1) := by decide +kernel
theorem dX11_balanceOf_23 : decode cX11_balanceOf 23 = .ok (.iload_n 3, 1) := by decide +kernel
theorem dX11_balanceOf_24 : decode cX11_balanceOf 24 = .ok (.iload_n 1, 1) := by decide +kernel
theorem dX11_balanceOf_25 : decode cX11_balanceOf 25 = .ok (.invokevirtual 273, 3) := by decide +kernel
theorem dX11_balanceOf_28 : decode cX11_balanceOf 28 = .ok (.goto 4, 3) := by decide +kernel
theorem dX11_balanceOf_31 : decode cX11_balanceOf 31 = .ok (.iconst 0, 1) := by decide +kernel
theorem dX11_balanceOf_32 : decode cX11_balanceOf 32 = .ok (.iadd, 1) := by decide +kernel
theorem dX11_balanceOf_33 : decode cX11_balanceOf 33 = .ok (.istore_n 2, 1) := by decide +kernel
theorem dX11_balanceOf_34 : decode cX11_balanceOf 34 = .ok (.iinc 3 1, 3) := by decide +kernel
theorem dX11_balanceOf_37 : decode cX11_balanceOf 37 = .ok (.goto (-33), 3) := by decide +kernel
theorem dX11_balanceOf_40 : decode cX11_balanceOf 40 = .ok (.iload_n 2, 1) := by decide +kernel
theorem dX11_balanceOf_41 : decode cX11_balanceOf 41 = .ok (.ireturn, 1) := by decide +kernel
theorem dX11_balance_0 : decode cX11_balance 0 = .ok (.iload_n 1, 1) := by decide +kernel
theorem dX11_balance_1 : decode cX11_balance 1 = .ok (.iconst 1, 1) := by decide +kernel
theorem dX11_balance_2 : decode cX11_balance 2 = .ok (.bipush 9, 2) := by decide +kernel
theorem dX11_balance_4 : decode cX11_balance 4 = .ok (.invokestatic 124, 3) := by decide +kernel
theorem dX11_balance_7 : decode cX11_balance 7 = .ok (.ifCond .eq 11, 3) := by decide +kernel
theorem dX11_balance_10 : decode cX11_balance 10 = .ok (.aload_n 0, 1) := by decide +kernel
theorem dX11_balance_11 : decode cX11_balance 11 = .ok (.iload_n 1, 1) := by decide +kernel
theorem dX11_balance_12 : decode cX11_balance 12 = .ok (.invokevirtual 276, 3) := by decide +kernel
theorem dX11_balance_15 : decode cX11_balance 15 = .ok (.goto 8, 3) := by decide +kernel
theorem dX11_balance_18 : decode cX11_balance 18 = .ok (.aload_n 0, 1) := by decide +kernel
theorem dX11_balance_19 : decode cX11_balance 19 = .ok (.iconst (-1), 1) := by decide +kernel
theorem dX11_balance_20 : decode cX11_balance 20 = .ok (.invokevirtual 193, 3) := by decide +kernel
theorem dX11_balance_23 : decode cX11_balance 23 = .ok (.ireturn, 1) := by decide +kernel
theorem dX11_doesLack_0 : decode cX11_doesLack 0 = .ok (.iconst 0, 1) := by decide +kernel
theorem dX11_doesLack_1 : decode cX11_doesLack 1 = .ok (.istore_n 1, 1) := by decide +kernel
theorem dX11_doesLack_2 : decode cX11_doesLack 2 = .ok (.iload_n 1, 1) := by decide +kernel
theorem dX11_doesLack_3 : decode cX11_doesLack 3 = .ok (.bipush 10, 2) := by decide +kernel
theorem dX11_doesLack_5 : decode cX11_doesLack 5 = .ok (.if_icmp .ge 47, 3) := by decide +kernel
theorem dX11_doesLack_8 : decode cX11_doesLack 8 = .ok (.iconst 0, 1) := by decide +kernel
theorem dX11_doesLack_9 : decode cX11_doesLack 9 = .ok (.istore_n 2, 1) := by decide +kernel
theorem dX11_doesLack_10 : decode cX11_doesLack 10 = .ok (.iconst 0, 1) := by decide +kernel
theorem dX11_doesLack_11 : decode cX11_doesLack 11 = .ok (.istore_n 3, 1) := by decide +kernel
theorem dX11_doesLack_12 : decode cX11_doesLack 12 = .ok (.iload_n 3, 1) := by decide +kernel
theorem dX11_doesLack_13 : decode cX11_doesLack 13 = .ok (.aload_n 0, 1) := by decide +kernel
theorem dX11_doesLack_14 : decode cX11_doesLack 14 = .ok (.invokevirtual 91, 3) := by decide +kernel
theorem dX11_doesLack_17 : decode cX11_doesLack 17 = .ok (.if_icmp .ge 18, 3) := by decide +kernel
theorem dX11_doesLack_20 : decode cX11_doesLack 20 = .ok (.iload_n 2, 1) := by decide +kernel
theorem dX11_doesLack_21 : decode cX11_doesLack 21 = .ok (.aload_n 0, 1) := by decide +kernel
theorem dX11_doesLack_22 : decode cX11_doesLack 22 = .ok (.iload_n 3, 1) := by decide +kernel
theorem dX11_doesLack_23 : decode cX11_doesLack 23 = .ok (.iload_n 1, 1) := by decide +kernel
theorem dX11_doesLack_24 : decode cX11_doesLack 24 = .ok (.invokevirtual 273, 3) := by decide +kernel
theorem dX11_doesLack_27 : decode cX11_doesLack 27 = .ok (.iadd, 1) := by decide +kernel
theorem dX11_doesLack_28 : decode cX11_doesLack 28 = .ok (.istore_n 2, 1) := by decide +kernel
theorem dX11_doesLack_29 : decode cX11_doesLack 29 = .ok (.iinc 3 1, 3) := by decide +kernel
theorem dX11_doesLack_32 : decode cX11_doesLack 32 = .ok (.goto (-20), 3) := by decide +kernel
theorem dX11_doesLack_35 : decode cX11_doesLack 35 = .ok (.aload_n 0, 1) := by decide +kernel
theorem dX11_doesLack_36 : decode cX11_doesLack 36 = .ok (.iload_n 1, 1) := by decide +kernel
theorem dX11_doesLack_37 : decode cX11_doesLack 37 = .ok (.invokevirtual 276, 3) := by decide +kernel
theorem dX11_doesLack_40 : decode cX11_doesLack 40 = .ok (.iload_n 2, 1) := by decide +kernel
theorem dX11_doesLack_41 : decode cX11_doesLack 41 = .ok (.if_icmp .eq 5, 3) := by decide +kernel
theorem dX11_doesLack_44 : decode cX11_doesLack 44 = .ok (.iconst 1, 1) := by decide +kernel
theorem dX11_doesLack_45 : decode cX11_doesLack 45 = .ok (.ireturn, 1) := by decide +kernel
theorem dX11_doesLack_46 : decode cX11_doesLack 46 = .ok (.iinc 1 1, 3) := by decide +kernel
theorem dX11_doesLack_49 : decode cX11_doesLack 49 = .ok (.goto (-47), 3) := by decide +kernel
theorem dX11_doesLack_52 : decode cX11_doesLack 52 = .ok (.iconst 0, 1) := by decide +kernel
theorem dX11_doesLack_53 : decode cX11_doesLack 53 = .ok (.ireturn, 1) := by decide +kernel
theorem dX11_lacks_0 : decode cX11_lacks 0 = .ok (.aload_n 0, 1) := by decide +kernel
theorem dX11_lacks_1 : decode cX11_lacks 1 = .ok (.invokevirtual 279, 3) := by decide +kernel
theorem dX11_lacks_4 : decode cX11_lacks 4 = .ok (.ifCond .eq 7, 3) := by decide +kernel
theorem dX11_lacks_7 : decode cX11_lacks 7 = .ok (.iconst 1, 1) := by decide +kernel
theorem dX11_lacks_8 : decode cX11_lacks 8 = .ok (.goto 4, 3) := by decide +kernel
theorem dX11_lacks_11 : decode cX11_lacks 11 = .ok (.iconst 0, 1) := by decide +kernel
theorem dX11_lacks_12 : decode cX11_lacks 12 = .ok (.ireturn, 1) := by decide +kernel
theorem dX11_which_0 : decode cX11_which 0 = .ok (.aload_n 0, 1) := by decide +kernel
theorem dX11_which_1 : decode cX11_which 1 = .ok (.invokevirtual 279, 3) := by decide +kernel
theorem dX11_which_4 : decode cX11_which 4 = .ok (.ifCond .ne 5, 3) := by decide +kernel
theorem dX11_which_7 : decode cX11_which 7 = .ok (.iconst 0, 1) := by decide +kernel
theorem dX11_which_8 : decode cX11_which 8 = .ok (.ireturn, 1) := by decide +kernel
theorem dX11_which_9 : decode cX11_which 9 = .ok (.iconst 0, 1) := by decide +kernel
theorem dX11_which_10 : decode cX11_which 10 = .ok (.istore_n 1, 1) := by decide +kernel
theorem dX11_which_11 : decode cX11_which 11 = .ok (.iconst 0, 1) := by decide +kernel
theorem dX11_which_12 : decode cX11_which 12 = .ok (.istore_n 2, 1) := by decide +kernel
theorem dX11_which_13 : decode cX11_which 13 = .ok (.iload_n 2, 1) := by decide +kernel
theorem dX11_which_14 : decode cX11_which 14 = .ok (.aload_n 0, 1) := by decide +kernel
theorem dX11_which_15 : decode cX11_which 15 = .ok (.invokevirtual 91, 3) := by decide +kernel
theorem dX11_which_18 : decode cX11_which 18 = .ok (.if_icmp .ge 106, 3) := by decide +kernel
theorem dX11_which_21 : decode cX11_which 21 = .ok (.iconst 1, 1) := by decide +kernel
theorem dX11_which_22 : decode cX11_which 22 = .ok (.istore_n 3, 1) := by decide +kernel
theorem dX11_which_23 : decode cX11_which 23 = .ok (.iconst 0, 1) := by decide +kernel
theorem dX11_which_24 : decode cX11_which 24 = .ok (.istore 4, 2) := by decide +kernel
theorem dX11_which_26 : decode cX11_which 26 = .ok (.iload 4, 2) := by decide +kernel
theorem dX11_which_28 : decode cX11_which 28 = .ok (.bipush 10, 2) := by decide +kernel
theorem dX11_which_30 : decode cX11_which 30 = .ok (.if_icmp .ge 74, 3) := by decide +kernel
theorem dX11_which_33 : decode cX11_which 33 = .ok (.iconst 0, 1) := by decide +kernel
theorem dX11_which_34 : decode cX11_which 34 = .ok (.istore 5, 2) := by decide +kernel
theorem dX11_which_36 : decode cX11_which 36 = .ok (.iconst 0, 1) := by decide +kernel
theorem dX11_which_37 : decode cX11_which 37 = .ok (.istore 6, 2) := by decide +kernel
theorem dX11_which_39 : decode cX11_which 39 = .ok (.iload 6, 2) := by decide +kernel
theorem dX11_which_41 : decode cX11_which 41 = .ok (.aload_n 0, 1) := by decide +kernel
theorem dX11_which_42 : decode cX11_which 42 = .ok (.invokevirtual 91, 3) := by decide +kernel
theorem dX11_which_45 : decode cX11_which 45 = .ok (.if_icmp .ge 32, 3) := by decide +kernel
theorem dX11_which_48 : decode cX11_which 48 = .ok (.iload 5, 2) := by decide +kernel
theorem dX11_which_50 : decode cX11_which 50 = .ok (.iload 6, 2) := by decide +kernel
theorem dX11_which_52 : decode cX11_which 52 = .ok (.iload_n 2, 1) := by decide +kernel
theorem dX11_which_53 : decode cX11_which 53 = .ok (.if_icmp .ne 7, 3) := by decide +kernel
theorem dX11_which_56 : decode cX11_which 56 = .ok (.iconst 0, 1) := by decide +kernel
theorem dX11_which_57 : decode cX11_which 57 = .ok (.goto 11, 3) := by decide +kernel
theorem dX11_which_60 : decode cX11_which 60 = .ok (.aload_n 0, 1) := by decide +kernel
theorem dX11_which_61 : decode cX11_which 61 = .ok (.iload 6, 2) := by decide +kernel
theorem dX11_which_63 : decode cX11_which 63 = .ok (.iload 4, 2) := by decide +kernel
theorem dX11_which_65 : decode cX11_which 65 = .ok (.invokevirtual 273, 3) := by decide +kernel
theorem dX11_which_68 : decode cX11_which 68 = .ok (.iadd, 1) := by decide +kernel
theorem dX11_which_69 : decode cX11_which 69 = .ok (.istore 5, 2) := by decide +kernel
theorem dX11_which_71 : decode cX11_which 71 = .ok (.iinc 6 1, 3) := by decide +kernel
theorem dX11_which_74 : decode cX11_which 74 = .ok (.goto (-35), 3) := by decide +kernel
theorem dX11_which_77 : decode cX11_which 77 = .ok (.iload_n 3, 1) := by decide +kernel
theorem dX11_which_78 : decode cX11_which 78 = .ok (.ifCond .eq 18, 3) := by decide +kernel
theorem dX11_which_81 : decode cX11_which 81 = .ok (.iload 5, 2) := by decide +kernel
theorem dX11_which_83 : decode cX11_which 83 = .ok (.aload_n 0, 1) := by decide +kernel
theorem dX11_which_84 : decode cX11_which 84 = .ok (.iload 4, 2) := by decide +kernel
theorem dX11_which_86 : decode cX11_which 86 = .ok (.invokevirtual 276, 3) := by decide +kernel
theorem dX11_which_89 : decode cX11_which 89 = .ok (.if_icmp .ne 7, 3) := by decide +kernel
theorem dX11_which_92 : decode cX11_which 92 = .ok (.iconst 1, 1) := by decide +kernel
theorem dX11_which_93 : decode cX11_which 93 = .ok (.goto 4, 3) := by decide +kernel
theorem dX11_which_96 : decode cX11_which 96 = .ok (.iconst 0, 1) := by decide +kernel
theorem dX11_which_97 : decode cX11_which 97 = .ok (.istore_n 3, 1) := by decide +kernel
theorem dX11_which_98 : decode cX11_which 98 = .ok (.iinc 4 1, 3) := by decide +kernel
theorem dX11_which_101 : decode cX11_which 101 = .ok (.goto (-75), 3) := by decide +kernel
theorem dX11_which_104 : decode cX11_which 104 = .ok (.iload_n 1, 1) := by decide +kernel
theorem dX11_which_105 : decode cX11_which 105 = .ok (.iload_n 3, 1) := by decide +kernel
theorem dX11_which_106 : decode cX11_which 106 = .ok (.ifCond .eq 9, 3) := by decide +kernel
theorem dX11_which_109 : decode cX11_which 109 = .ok (.iconst 1, 1) := by decide +kernel
theorem dX11_which_110 : decode cX11_which 110 = .ok (.iload_n 2, 1) := by decide +kernel
theorem dX11_which_111 : decode cX11_which 111 = .ok (.ishl, 1) := by decide +kernel
theorem dX11_which_112 : decode cX11_which 112 = .ok (.goto 4, 3) := by decide +kernel
theorem dX11_which_115 : decode cX11_which 115 = .ok (.iconst 0, 1) := by decide +kernel
theorem dX11_which_116 : decode cX11_which 116 = .ok (.ior, 1) := by decide +kernel
theorem dX11_which_117 : decode cX11_which 117 = .ok (.istore_n 1, 1) := by decide +kernel
theorem dX11_which_118 : decode cX11_which 118 = .ok (.iinc 2 1, 3) := by decide +kernel
theorem dX11_which_121 : decode cX11_which 121 = .ok (.goto (-108), 3) := by decide +kernel
theorem dX11_which_124 : decode cX11_which 124 = .ok (.iload_n 1, 1) := by decide +kernel
theorem dX11_which_125 : decode cX11_which 125 = .ok (.ireturn, 1) := by decide +kernel
theorem dX11_divisor_0 : decode cX11_divisor 0 = .ok (.iload_n 0, 1) := by decide +kernel
theorem dX11_divisor_1 : decode cX11_divisor 1 = .ok (.istore_n 2, 1) := by decide +kernel
theorem dX11_divisor_2 : decode cX11_divisor 2 = .ok (.iload_n 1, 1) := by decide +kernel
theorem dX11_divisor_3 : decode cX11_divisor 3 = .ok (.istore_n 3, 1) := by decide +kernel
theorem dX11_divisor_4 : decode cX11_divisor 4 = .ok (.iload_n 3, 1) := by decide +kernel
theorem dX11_divisor_5 : decode cX11_divisor 5 = .ok (.ifCond .eq 16, 3) := by decide +kernel
theorem dX11_divisor_8 : decode cX11_divisor 8 = .ok (.iload_n 2, 1) := by decide +kernel
theorem dX11_divisor_9 : decode cX11_divisor 9 = .ok (.iload_n 3, 1) := by decide +kernel
theorem dX11_divisor_10 : decode cX11_divisor 10 = .ok (.irem, 1) := by decide +kernel
theorem dX11_divisor_11 : decode cX11_divisor 11 = .ok (.istore 4, 2) := by decide +kernel
theorem dX11_divisor_13 : decode cX11_divisor 13 = .ok (.iload_n 3, 1) := by decide +kernel
theorem dX11_divisor_14 : decode cX11_divisor 14 = .ok (.istore_n 2, 1) := by decide +kernel
theorem dX11_divisor_15 : decode cX11_divisor 15 = .ok (.iload 4, 2) := by decide +kernel
theorem dX11_divisor_17 : decode cX11_divisor 17 = .ok (.istore_n 3, 1) := by decide +kernel
theorem dX11_divisor_18 : decode cX11_divisor 18 = .ok (.goto (-14), 3) := by decide +kernel
theorem dX11_divisor_21 : decode cX11_divisor 21 = .ok (.iload_n 2, 1) := by decide +kernel
theorem dX11_divisor_22 : decode cX11_divisor 22 = .ok (.ireturn, 1) := by decide +kernel
theorem dX11_mine_0 : decode cX11_mine 0 = .ok (.aload_n 0, 1) := by decide +kernel
theorem dX11_mine_1 : decode cX11_mine 1 = .ok (.iload_n 1, 1) := by decide +kernel
theorem dX11_mine_2 : decode cX11_mine 2 = .ok (.invokevirtual 196, 3) := by decide +kernel
theorem dX11_mine_5 : decode cX11_mine 5 = .ok (.ifCond .ne 9, 3) := by decide +kernel
theorem dX11_mine_8 : decode cX11_mine 8 = .ok (.aload_n 0, 1) := by decide +kernel
theorem dX11_mine_9 : decode cX11_mine 9 = .ok (.iconst (-1), 1) := by decide +kernel
theorem dX11_mine_10 : decode cX11_mine 10 = .ok (.invokevirtual 112, 3) := by decide +kernel
theorem dX11_mine_13 : decode cX11_mine 13 = .ok (.ireturn, 1) := by decide +kernel
theorem dX11_mine_14 : decode cX11_mine 14 = .ok (.iload_n 2, 1) := by decide +kernel
theorem dX11_mine_15 : decode cX11_mine 15 = .ok (.iconst 0, 1) := by decide +kernel
theorem dX11_mine_16 : decode cX11_mine 16 = .ok (.iconst 1, 1) := by decide +kernel
theorem dX11_mine_17 : decode cX11_mine 17 = .ok (.invokestatic 124, 3) := by decide +kernel
theorem dX11_mine_20 : decode cX11_mine 20 = .ok (.ifCond .ne 10, 3) := by decide +kernel
theorem dX11_mine_23 : decode cX11_mine 23 = .ok (.aload_n 0, 1) := by decide +kernel
theorem dX11_mine_24 : decode cX11_mine 24 = .ok (.bipush (-2), 2) := by decide +kernel
theorem dX11_mine_26 : decode cX11_mine 26 = .ok (.invokevirtual 112, 3) := by decide +kernel
theorem dX11_mine_29 : decode cX11_mine 29 = .ok (.ireturn, 1) := by decide +kernel
theorem dX11_mine_30 : decode cX11_mine 30 = .ok (.iconst 0, 1) := by decide +kernel
theorem dX11_mine_31 : decode cX11_mine 31 = .ok (.istore_n 3, 1) := by decide +kernel
theorem dX11_mine_32 : decode cX11_mine 32 = .ok (.iconst 0, 1) := by decide +kernel
theorem dX11_mine_33 : decode cX11_mine 33 = .ok (.istore 4, 2) := by decide +kernel
theorem dX11_mine_35 : decode cX11_mine 35 = .ok (.iload 4, 2) := by decide +kernel
theorem dX11_mine_37 : decode cX11_mine 37 = .ok (.aload_n 0, 1) := by decide +kernel
theorem dX11_mine_38 : decode cX11_mine 38 = .ok (.getfield 95, 3) := by decide +kernel
theorem dX11_mine_41 : decode cX11_mine 41 = .ok (.if_icmp .ge 19, 3) := by decide +kernel
theorem dX11_mine_44 : decode cX11_mine 44 = .ok (.iload_n 3, 1) := by decide +kernel
theorem dX11_mine_45 : decode cX11_mine 45 = .ok (.aload_n 0, 1) := by decide +kernel
theorem dX11_mine_46 : decode cX11_mine 46 = .ok (.getfield 40, 3) := by decide +kernel
theorem dX11_mine_49 : decode cX11_mine 49 = .ok (.iload 4, 2) := by decide +kernel
theorem dX11_mine_51 : decode cX11_mine 51 = .ok (.iaload, 1) := by decide +kernel
theorem dX11_mine_52 : decode cX11_mine 52 = .ok (.iadd, 1) := by decide +kernel
theorem dX11_mine_53 : decode cX11_mine 53 = .ok (.istore_n 3, 1) := by decide +kernel
theorem dX11_mine_54 : decode cX11_mine 54 = .ok (.iinc 4 1, 3) := by decide +kernel
theorem dX11_mine_57 : decode cX11_mine 57 = .ok (.goto (-22), 3) := by decide +kernel
theorem dX11_mine_60 : decode cX11_mine 60 = .ok (.iload_n 3, 1) := by decide +kernel
theorem dX11_mine_61 : decode cX11_mine 61 = .ok (.ifCond .ne 5, 3) := by decide +kernel
theorem dX11_mine_64 : decode cX11_mine 64 = .ok (.iload_n 2, 1) := by decide +kernel
theorem dX11_mine_65 : decode cX11_mine 65 = .ok (.ireturn, 1) := by decide +kernel
theorem dX11_mine_66 : decode cX11_mine 66 = .ok (.iload_n 2, 1) := by decide +kernel
theorem dX11_mine_67 : decode cX11_mine 67 = .ok (.ifCond .ne 12, 3) := by decide +kernel
theorem dX11_mine_70 : decode cX11_mine 70 = .ok (.aload_n 0, 1) := by decide +kernel
theorem dX11_mine_71 : decode cX11_mine 71 = .ok (.getfield 40, 3) := by decide +kernel
theorem dX11_mine_74 : decode cX11_mine 74 = .ok (.iload_n 1, 1) := by decide +kernel
theorem dX11_mine_75 : decode cX11_mine 75 = .ok (.iaload, 1) := by decide +kernel
theorem dX11_mine_76 : decode cX11_mine 76 = .ok (.goto 4, 3) := by decide +kernel
theorem dX11_mine_79 : decode cX11_mine 79 = .ok (.iload_n 3, 1) := by decide +kernel
theorem dX11_mine_80 : decode cX11_mine 80 = .ok (.aload_n 0, 1) := by decide +kernel
theorem dX11_mine_81 : decode cX11_mine 81 = .ok (.getfield 40, 3) := by decide +kernel
theorem dX11_mine_84 : decode cX11_mine 84 = .ok (.iload_n 1, 1) := by decide +kernel
theorem dX11_mine_85 : decode cX11_mine 85 = .ok (.iaload, 1) := by decide +kernel
theorem dX11_mine_86 : decode cX11_mine 86 = .ok (.iload_n 3, 1) := by decide +kernel
theorem dX11_mine_87 : decode cX11_mine 87 = .ok (.invokestatic 282, 3) := by decide +kernel
theorem dX11_mine_90 : decode cX11_mine 90 = .ok (.idiv, 1) := by decide +kernel
theorem dX11_mine_91 : decode cX11_mine 91 = .ok (.ireturn, 1) := by decide +kernel
theorem dX11_classed_0 : decode cX11_classed 0 = .ok (.iload_n 1, 1) := by decide +kernel
theorem dX11_classed_1 : decode cX11_classed 1 = .ok (.ifCond .le 7, 3) := by decide +kernel
theorem dX11_classed_4 : decode cX11_classed 4 = .ok (.iload_n 2, 1) := by decide +kernel
theorem dX11_classed_5 : decode cX11_classed 5 = .ok (.goto 5, 3) := by decide +kernel
theorem dX11_classed_8 : decode cX11_classed 8 = .ok (.iload_n 2, 1) := by decide +kernel
theorem dX11_classed_9 : decode cX11_classed 9 = .ok (.ineg, 1) := by decide +kernel
theorem dX11_classed_10 : decode cX11_classed 10 = .ok (.ireturn, 1) := by decide +kernel
theorem dX11_hardest_0 : decode cX11_hardest 0 = .ok (.aload_n 0, 1) := by decide +kernel
theorem dX11_hardest_1 : decode cX11_hardest 1 = .ok (.iconst 1, 1) := by decide +kernel
theorem dX11_hardest_2 : decode cX11_hardest 2 = .ok (.iconst 1, 1) := by decide +kernel
theorem dX11_hardest_3 : decode cX11_hardest 3 = .ok (.invokevirtual 151, 3) := by decide +kernel
theorem dX11_hardest_6 : decode cX11_hardest 6 = .ok (.iconst 0, 1) := by decide +kernel
theorem dX11_hardest_7 : decode cX11_hardest 7 = .ok (.istore_n 1, 1) := by decide +kernel
theorem dX11_hardest_8 : decode cX11_hardest 8 = .ok (.iload_n 1, 1) := by decide +kernel
theorem dX11_hardest_9 : decode cX11_hardest 9 = .ok (.bipush 16, 2) := by decide +kernel
theorem dX11_hardest_11 : decode cX11_hardest 11 = .ok (.if_icmp .ge 16, 3) := by decide +kernel
theorem dX11_hardest_14 : decode cX11_hardest 14 = .ok (.aload_n 0, 1) := by decide +kernel
theorem dX11_hardest_15 : decode cX11_hardest 15 = .ok (.getfield 31, 3) := by decide +kernel
theorem dX11_hardest_18 : decode cX11_hardest 18 = .ok (.iload_n 1, 1) := by decide +kernel
theorem dX11_hardest_19 : decode cX11_hardest 19 = .ok (.iconst 0, 1) := by decide +kernel
theorem dX11_hardest_20 : decode cX11_hardest 20 = .ok (.iastore, 1) := by decide +kernel
theorem dX11_hardest_21 : decode cX11_hardest 21 = .ok (.iinc 1 1, 3) := by decide +kernel
theorem dX11_hardest_24 : decode cX11_hardest 24 = .ok (.goto (-16), 3) := by decide +kernel
theorem dX11_hardest_27 : decode cX11_hardest 27 = .ok (.iconst 0, 1) := by decide +kernel
theorem dX11_hardest_28 : decode cX11_hardest 28 = .ok (.istore_n 1, 1) := by decide +kernel
theorem dX11_hardest_29 : decode cX11_hardest 29 = .ok (.iconst (-1), 1) := by decide +kernel
theorem dX11_hardest_30 : decode cX11_hardest 30 = .ok (.istore_n 2, 1) := by decide +kernel
theorem dX11_hardest_31 : decode cX11_hardest 31 = .ok (.iconst 1, 1) := by decide +kernel
theorem dX11_hardest_32 : decode cX11_hardest 32 = .ok (.istore_n 3, 1) := by decide +kernel
theorem dX11_hardest_33 : decode cX11_hardest 33 = .ok (.iload_n 3, 1) := by decide +kernel
theorem dX11_hardest_34 : decode cX11_hardest 34 = .ok (.bipush 7, 2) := by decide +kernel
theorem dX11_hardest_36 : decode cX11_hardest 36 = .ok (.if_icmp .ge 124, 3) := by decide +kernel
theorem dX11_hardest_39 : decode cX11_hardest 39 = .ok (.iconst 0, 1) := by decide +kernel
theorem dX11_hardest_40 : decode cX11_hardest 40 = .ok (.istore 4, 2) := by decide +kernel
theorem dX11_hardest_42 : decode cX11_hardest 42 = .ok (.iconst 0, 1) := by decide +kernel
theorem dX11_hardest_43 : decode cX11_hardest 43 = .ok (.istore 5, 2) := by decide +kernel
theorem dX11_hardest_45 : decode cX11_hardest 45 = .ok (.iload 5, 2) := by decide +kernel
theorem dX11_hardest_47 : decode cX11_hardest 47 = .ok (.aload_n 0, 1) := by decide +kernel
theorem dX11_hardest_48 : decode cX11_hardest 48 = .ok (.invokevirtual 91, 3) := by decide +kernel
theorem dX11_hardest_51 : decode cX11_hardest 51 = .ok (.if_icmp .ge 83, 3) := by decide +kernel
theorem dX11_hardest_54 : decode cX11_hardest 54 = .ok (.aload_n 0, 1) := by decide +kernel
theorem dX11_hardest_55 : decode cX11_hardest 55 = .ok (.iload 5, 2) := by decide +kernel
theorem dX11_hardest_57 : decode cX11_hardest 57 = .ok (.iconst 1, 1) := by decide +kernel
theorem dX11_hardest_58 : decode cX11_hardest 58 = .ok (.invokevirtual 98, 3) := by decide +kernel
theorem dX11_hardest_61 : decode cX11_hardest 61 = .ok (.ifCond .lt 30, 3) := by decide +kernel
theorem dX11_hardest_64 : decode cX11_hardest 64 = .ok (.aload_n 0, 1) := by decide +kernel
theorem dX11_hardest_65 : decode cX11_hardest 65 = .ok (.getfield 13, 3) := by decide +kernel
theorem dX11_hardest_68 : decode cX11_hardest 68 = .ok (.iload 5, 2) := by decide +kernel
theorem dX11_hardest_70 : decode cX11_hardest 70 = .ok (.aload_n 0, 1) := by decide +kernel
theorem dX11_hardest_71 : decode cX11_hardest 71 = .ok (.aload_n 0, 1) := by decide +kernel
theorem dX11_hardest_72 : decode cX11_hardest 72 = .ok (.getfield 13, 3) := by decide +kernel
theorem dX11_hardest_75 : decode cX11_hardest 75 = .ok (.iload 5, 2) := by decide +kernel
theorem dX11_hardest_77 : decode cX11_hardest 77 = .ok (.iaload, 1) := by decide +kernel
theorem dX11_hardest_78 : decode cX11_hardest 78 = .ok (.iconst 1, 1) := by decide +kernel
theorem dX11_hardest_79 : decode cX11_hardest 79 = .ok (.iload 4, 2) := by decide +kernel
theorem dX11_hardest_81 : decode cX11_hardest 81 = .ok (.iload_n 3, 1) := by decide +kernel
theorem dX11_hardest_82 : decode cX11_hardest 82 = .ok (.irem, 1) := by decide +kernel
theorem dX11_hardest_83 : decode cX11_hardest 83 = .ok (.iadd, 1) := by decide +kernel
theorem dX11_hardest_84 : decode cX11_hardest 84 = .ok (.invokevirtual 285, 3) := by decide +kernel
theorem dX11_hardest_87 : decode cX11_hardest 87 = .ok (.iastore, 1) := by decide +kernel
theorem dX11_hardest_88 : decode cX11_hardest 88 = .ok (.iinc 4 1, 3) := by decide +kernel
theorem dX11_hardest_91 : decode cX11_hardest 91 = .ok (.aload_n 0, 1) := by decide +kernel
theorem dX11_hardest_92 : decode cX11_hardest 92 = .ok (.iload 5, 2) := by decide +kernel
theorem dX11_hardest_94 : decode cX11_hardest 94 = .ok (.iconst 2, 1) := by decide +kernel
theorem dX11_hardest_95 : decode cX11_hardest 95 = .ok (.invokevirtual 98, 3) := by decide +kernel
theorem dX11_hardest_98 : decode cX11_hardest 98 = .ok (.ifCond .lt 30, 3) := by decide +kernel
theorem dX11_hardest_101 : decode cX11_hardest 101 = .ok (.aload_n 0, 1) := by decide +kernel
theorem dX11_hardest_102 : decode cX11_hardest 102 = .ok (.getfield 16, 3) := by decide +kernel
theorem dX11_hardest_105 : decode cX11_hardest 105 = .ok (.iload 5, 2) := by decide +kernel
theorem dX11_hardest_107 : decode cX11_hardest 107 = .ok (.aload_n 0, 1) := by decide +kernel
theorem dX11_hardest_108 : decode cX11_hardest 108 = .ok (.aload_n 0, 1) := by decide +kernel
theorem dX11_hardest_109 : decode cX11_hardest 109 = .ok (.getfield 16, 3) := by decide +kernel
theorem dX11_hardest_112 : decode cX11_hardest 112 = .ok (.iload 5, 2) := by decide +kernel
theorem dX11_hardest_114 : decode cX11_hardest 114 = .ok (.iaload, 1) := by decide +kernel
theorem dX11_hardest_115 : decode cX11_hardest 115 = .ok (.iconst 1, 1) := by decide +kernel
theorem dX11_hardest_116 : decode cX11_hardest 116 = .ok (.iload 4, 2) := by decide +kernel
theorem dX11_hardest_118 : decode cX11_hardest 118 = .ok (.iload_n 3, 1) := by decide +kernel
theorem dX11_hardest_119 : decode cX11_hardest 119 = .ok (.irem, 1) := by decide +kernel
theorem dX11_hardest_120 : decode cX11_hardest 120 = .ok (.iadd, 1) := by decide +kernel
theorem dX11_hardest_121 : decode cX11_hardest 121 = .ok (.invokevirtual 285, 3) := by decide +kernel
theorem dX11_hardest_124 : decode cX11_hardest 124 = .ok (.iastore, 1) := by decide +kernel
theorem dX11_hardest_125 : decode cX11_hardest 125 = .ok (.iinc 4 1, 3) := by decide +kernel
theorem dX11_hardest_128 : decode cX11_hardest 128 = .ok (.iinc 5 1, 3) := by decide +kernel
theorem dX11_hardest_131 : decode cX11_hardest 131 = .ok (.goto (-86), 3) := by decide +kernel
theorem dX11_hardest_134 : decode cX11_hardest 134 = .ok (.aload_n 0, 1) := by decide +kernel
theorem dX11_hardest_135 : decode cX11_hardest 135 = .ok (.invokevirtual 264, 3) := by decide +kernel
theorem dX11_hardest_138 : decode cX11_hardest 138 = .ok (.istore 5, 2) := by decide +kernel
theorem dX11_hardest_140 : decode cX11_hardest 140 = .ok (.iload 5, 2) := by decide +kernel
theorem dX11_hardest_142 : decode cX11_hardest 142 = .ok (.iload_n 2, 1) := by decide +kernel
theorem dX11_hardest_143 : decode cX11_hardest 143 = .ok (.if_icmp .gt 6, 3) := by decide +kernel
theorem dX11_hardest_146 : decode cX11_hardest 146 = .ok (.goto 8, 3) := by decide +kernel
theorem dX11_hardest_149 : decode cX11_hardest 149 = .ok (.iload 5, 2) := by decide +kernel
theorem dX11_hardest_151 : decode cX11_hardest 151 = .ok (.istore_n 2, 1) := by decide +kernel
theorem dX11_hardest_152 : decode cX11_hardest 152 = .ok (.iload_n 3, 1) := by decide +kernel
theorem dX11_hardest_153 : decode cX11_hardest 153 = .ok (.istore_n 1, 1) := by decide +kernel
theorem dX11_hardest_154 : decode cX11_hardest 154 = .ok (.iinc 3 1, 3) := by decide +kernel
theorem dX11_hardest_157 : decode cX11_hardest 157 = .ok (.goto (-124), 3) := by decide +kernel
theorem dX11_hardest_160 : decode cX11_hardest 160 = .ok (.aload_n 0, 1) := by decide +kernel
theorem dX11_hardest_161 : decode cX11_hardest 161 = .ok (.iconst 1, 1) := by decide +kernel
theorem dX11_hardest_162 : decode cX11_hardest 162 = .ok (.iconst 0, 1) := by decide +kernel
theorem dX11_hardest_163 : decode cX11_hardest 163 = .ok (.invokevirtual 151, 3) := by decide +kernel
theorem dX11_hardest_166 : decode cX11_hardest 166 = .ok (.iload_n 1, 1) := by decide +kernel
theorem dX11_hardest_167 : decode cX11_hardest 167 = .ok (.ireturn, 1) := by decide +kernel
theorem dX11_keeper_0 : decode cX11_keeper 0 = .ok (.iload_n 1, 1) := by decide +kernel
theorem dX11_keeper_1 : decode cX11_keeper 1 = .ok (.ifCond .lt 8, 3) := by decide +kernel
theorem dX11_keeper_4 : decode cX11_keeper 4 = .ok (.iload_n 2, 1) := by decide +kernel
theorem dX11_keeper_5 : decode cX11_keeper 5 = .ok (.iconst 1, 1) := by decide +kernel
theorem dX11_keeper_6 : decode cX11_keeper 6 = .ok (.if_icmp .ge 8, 3) := by decide +kernel
theorem dX11_keeper_9 : decode cX11_keeper 9 = .ok (.bipush (-4), 2) := by decide +kernel
theorem dX11_keeper_11 : decode cX11_keeper 11 = .ok (.goto 22, 3) := by decide +kernel
theorem dX11_keeper_14 : decode cX11_keeper 14 = .ok (.iload_n 1, 1) := by decide +kernel
theorem dX11_keeper_15 : decode cX11_keeper 15 = .ok (.sipush 999, 3) := by decide +kernel
theorem dX11_keeper_18 : decode cX11_keeper 18 = .ok (.if_icmp .gt 9, 3) := by decide +kernel
theorem dX11_keeper_21 : decode cX11_keeper 21 = .ok (.iload_n 2, 1) := by decide +kernel
theorem dX11_keeper_22 : decode cX11_keeper 22 = .ok (.bipush 99, 2) := by decide +kernel
theorem dX11_keeper_24 : decode cX11_keeper 24 = .ok (.if_icmp .le 8, 3) := by decide +kernel
theorem dX11_keeper_27 : decode cX11_keeper 27 = .ok (.bipush (-6), 2) := by decide +kernel
theorem dX11_keeper_29 : decode cX11_keeper 29 = .ok (.goto 4, 3) := by decide +kernel
theorem dX11_keeper_32 : decode cX11_keeper 32 = .ok (.iconst 0, 1) := by decide +kernel
theorem dX11_keeper_33 : decode cX11_keeper 33 = .ok (.istore_n 3, 1) := by decide +kernel
theorem dX11_keeper_34 : decode cX11_keeper 34 = .ok (.iload_n 3, 1) := by decide +kernel
theorem dX11_keeper_35 : decode cX11_keeper 35 = .ok (.ifCond .eq 9, 3) := by decide +kernel
theorem dX11_keeper_38 : decode cX11_keeper 38 = .ok (.aload_n 0, 1) := by decide +kernel
theorem dX11_keeper_39 : decode cX11_keeper 39 = .ok (.iload_n 3, 1) := by decide +kernel
theorem dX11_keeper_40 : decode cX11_keeper 40 = .ok (.invokevirtual 112, 3) := by decide +kernel
theorem dX11_keeper_43 : decode cX11_keeper 43 = .ok (.ireturn, 1) := by decide +kernel
theorem dX11_keeper_44 : decode cX11_keeper 44 = .ok (.iload_n 1, 1) := by decide +kernel
theorem dX11_keeper_45 : decode cX11_keeper 45 = .ok (.iload_n 2, 1) := by decide +kernel
theorem dX11_keeper_46 : decode cX11_keeper 46 = .ok (.iconst 1, 1) := by decide +kernel
theorem dX11_keeper_47 : decode cX11_keeper 47 = .ok (.iadd, 1) := by decide +kernel
theorem dX11_keeper_48 : decode cX11_keeper 48 = .ok (.irem, 1) := by decide +kernel
theorem dX11_keeper_49 : decode cX11_keeper 49 = .ok (.ifCond .eq 7, 3) := by decide +kernel
theorem dX11_keeper_52 : decode cX11_keeper 52 = .ok (.iconst 1, 1) := by decide +kernel
theorem dX11_keeper_53 : decode cX11_keeper 53 = .ok (.goto 4, 3) := by decide +kernel
theorem dX11_keeper_56 : decode cX11_keeper 56 = .ok (.iconst 0, 1) := by decide +kernel
theorem dX11_keeper_57 : decode cX11_keeper 57 = .ok (.ireturn, 1) := by decide +kernel
theorem dX11_draw_0 : decode cX11_draw 0 = .ok (.aload_n 0, 1) := by decide +kernel
theorem dX11_draw_1 : decode cX11_draw 1 = .ok (.aload_n 0, 1) := by decide +kernel
theorem dX11_draw_2 : decode cX11_draw 2 = .ok (.getfield 288, 3) := by decide +kernel
theorem dX11_draw_5 : decode cX11_draw 5 = .ok (.ldc_w 291, 3) := by decide +kernel
theorem dX11_draw_8 : decode cX11_draw 8 = .ok (.imul, 1) := by decide +kernel
theorem dX11_draw_9 : decode cX11_draw 9 = .ok (.ldc_w 292, 3) := by decide +kernel
theorem dX11_draw_12 : decode cX11_draw 12 = .ok (.iadd, 1) := by decide +kernel
theorem dX11_draw_13 : decode cX11_draw 13 = .ok (.putfield 288, 3) := by decide +kernel
theorem dX11_draw_16 : decode cX11_draw 16 = .ok (.aload_n 0, 1) := by decide +kernel
theorem dX11_draw_17 : decode cX11_draw 17 = .ok (.getfield 288, 3) := by decide +kernel
theorem dX11_draw_20 : decode cX11_draw 20 = .ok (.ldc_w 293, 3) := by decide +kernel
theorem dX11_draw_23 : decode cX11_draw 23 = .ok (.iand, 1) := by decide +kernel
theorem dX11_draw_24 : decode cX11_draw 24 = .ok (.sipush 256, 3) := by decide +kernel
theorem dX11_draw_27 : decode cX11_draw 27 = .ok (.idiv, 1) := by decide +kernel
theorem dX11_draw_28 : decode cX11_draw 28 = .ok (.iload_n 1, 1) := by decide +kernel
theorem dX11_draw_29 : decode cX11_draw 29 = .ok (.irem, 1) := by decide +kernel
theorem dX11_draw_30 : decode cX11_draw 30 = .ok (.ireturn, 1) := by decide +kernel
theorem dX11_evening_0 : decode cX11_evening 0 = .ok (.iload_n 1, 1) := by decide +kernel
theorem dX11_evening_1 : decode cX11_evening 1 = .ok (.iconst 1, 1) := by decide +kernel
theorem dX11_evening_2 : decode cX11_evening 2 = .ok (.sipush 200, 3) := by decide +kernel
theorem dX11_evening_5 : decode cX11_evening 5 = .ok (.invokestatic 105, 3) := by decide +kernel
theorem dX11_evening_8 : decode cX11_evening 8 = .ok (.istore_n 3, 1) := by decide +kernel
theorem dX11_evening_9 : decode cX11_evening 9 = .ok (.iload_n 3, 1) := by decide +kernel
theorem dX11_evening_10 : decode cX11_evening 10 = .ok (.ifCond .ne 13, 3) := by decide +kernel
theorem dX11_evening_13 : decode cX11_evening 13 = .ok (.aload_n 0, 1) := by decide +kernel
theorem dX11_evening_14 : decode cX11_evening 14 = .ok (.getfield 95, 3) := by decide +kernel
theorem dX11_evening_17 : decode cX11_evening 17 = .ok (.ifCond .ne 6, 3) := by decide +kernel
theorem dX11_evening_20 : decode cX11_evening 20 = .ok (.bipush (-3), 2) := by decide +kernel
theorem dX11_evening_22 : decode cX11_evening 22 = .ok (.istore_n 3, 1) := by decide +kernel
theorem dX11_evening_23 : decode cX11_evening 23 = .ok (.iload_n 3, 1) := by decide +kernel
theorem dX11_evening_24 : decode cX11_evening 24 = .ok (.ifCond .eq 9, 3) := by decide +kernel
theorem dX11_evening_27 : decode cX11_evening 27 = .ok (.aload_n 0, 1) := by decide +kernel
theorem dX11_evening_28 : decode cX11_evening 28 = .ok (.iload_n 3, 1) := by decide +kernel
theorem dX11_evening_29 : decode cX11_evening 29 = .ok (.invokevirtual 112, 3) := by decide +kernel
theorem dX11_evening_32 : decode cX11_evening 32 = .ok (.ireturn, 1) := by decide +kernel
theorem dX11_evening_33 : decode cX11_evening 33 = .ok (.aload_n 0, 1) := by decide +kernel
theorem dX11_evening_34 : decode cX11_evening 34 = .ok (.iconst 1, 1) := by decide +kernel
theorem dX11_evening_35 : decode cX11_evening 35 = .ok (.iconst 1, 1) := by decide +kernel
theorem dX11_evening_36 : decode cX11_evening 36 = .ok (.invokevirtual 151, 3) := by decide +kernel
theorem dX11_evening_39 : decode cX11_evening 39 = .ok (.aload_n 0, 1) := by decide +kernel
theorem dX11_evening_40 : decode cX11_evening 40 = .ok (.invokevirtual 294, 3) := by decide +kernel
theorem dX11_evening_43 : decode cX11_evening 43 = .ok (.istore 4, 2) := by decide +kernel
theorem dX11_evening_45 : decode cX11_evening 45 = .ok (.aload_n 0, 1) := by decide +kernel
theorem dX11_evening_46 : decode cX11_evening 46 = .ok (.iload_n 2, 1) := by decide +kernel
theorem dX11_evening_47 : decode cX11_evening 47 = .ok (.putfield 288, 3) := by decide +kernel
theorem dX11_evening_50 : decode cX11_evening 50 = .ok (.iconst 0, 1) := by decide +kernel
theorem dX11_evening_51 : decode cX11_evening 51 = .ok (.istore 5, 2) := by decide +kernel
theorem dX11_evening_53 : decode cX11_evening 53 = .ok (.iload 5, 2) := by decide +kernel
theorem dX11_evening_55 : decode cX11_evening 55 = .ok (.iload_n 1, 1) := by decide +kernel
theorem dX11_evening_56 : decode cX11_evening 56 = .ok (.if_icmp .ge 88, 3) := by decide +kernel
theorem dX11_evening_59 : decode cX11_evening 59 = .ok (.aload_n 0, 1) := by decide +kernel
theorem dX11_evening_60 : decode cX11_evening 60 = .ok (.aload_n 0, 1) := by decide +kernel
theorem dX11_evening_61 : decode cX11_evening 61 = .ok (.getfield 95, 3) := by decide +kernel
theorem dX11_evening_64 : decode cX11_evening 64 = .ok (.invokevirtual 297, 3) := by decide +kernel
theorem dX11_evening_67 : decode cX11_evening 67 = .ok (.istore 6, 2) := by decide +kernel
theorem dX11_evening_69 : decode cX11_evening 69 = .ok (.aload_n 0, 1) := by decide +kernel
theorem dX11_evening_70 : decode cX11_evening 70 = .ok (.aload_n 0, 1) := by decide +kernel
theorem dX11_evening_71 : decode cX11_evening 71 = .ok (.invokevirtual 91, 3) := by decide +kernel
theorem dX11_evening_74 : decode cX11_evening 74 = .ok (.invokevirtual 297, 3) := by decide +kernel
theorem dX11_evening_77 : decode cX11_evening 77 = .ok (.istore 7, 2) := by decide +kernel
theorem dX11_evening_79 : decode cX11_evening 79 = .ok (.aload_n 0, 1) := by decide +kernel
theorem dX11_evening_80 : decode cX11_evening 80 = .ok (.iconst 4, 1) := by decide +kernel
theorem dX11_evening_81 : decode cX11_evening 81 = .ok (.invokevirtual 297, 3) := by decide +kernel
theorem dX11_evening_84 : decode cX11_evening 84 = .ok (.istore 8, 2) := by decide +kernel
theorem dX11_evening_86 : decode cX11_evening 86 = .ok (.aload_n 0, 1) := by decide +kernel
theorem dX11_evening_87 : decode cX11_evening 87 = .ok (.aload_n 0, 1) := by decide +kernel
theorem dX11_evening_88 : decode cX11_evening 88 = .ok (.invokevirtual 91, 3) := by decide +kernel
theorem dX11_evening_91 : decode cX11_evening 91 = .ok (.invokevirtual 297, 3) := by decide +kernel
theorem dX11_evening_94 : decode cX11_evening 94 = .ok (.istore 9, 2) := by decide +kernel
theorem dX11_evening_96 : decode cX11_evening 96 = .ok (.aload_n 0, 1) := by decide +kernel
theorem dX11_evening_97 : decode cX11_evening 97 = .ok (.getfield 22, 3) := by decide +kernel
theorem dX11_evening_100 : decode cX11_evening 100 = .ok (.iload 9, 2) := by decide +kernel
theorem dX11_evening_102 : decode cX11_evening 102 = .ok (.iaload, 1) := by decide +kernel
theorem dX11_evening_103 : decode cX11_evening 103 = .ok (.ifCond .ge 35, 3) := by decide +kernel
theorem dX11_evening_106 : decode cX11_evening 106 = .ok (.aload_n 0, 1) := by decide +kernel
theorem dX11_evening_107 : decode cX11_evening 107 = .ok (.iload 7, 2) := by decide +kernel
theorem dX11_evening_109 : decode cX11_evening 109 = .ok (.invokevirtual 203, 3) := by decide +kernel
theorem dX11_evening_112 : decode cX11_evening 112 = .ok (.ifCond .ne 26, 3) := by decide +kernel
theorem dX11_evening_115 : decode cX11_evening 115 = .ok (.aload_n 0, 1) := by decide +kernel
theorem dX11_evening_116 : decode cX11_evening 116 = .ok (.getfield 31, 3) := by decide +kernel
theorem dX11_evening_119 : decode cX11_evening 119 = .ok (.iload 7, 2) := by decide +kernel
theorem dX11_evening_121 : decode cX11_evening 121 = .ok (.iaload, 1) := by decide +kernel
theorem dX11_evening_122 : decode cX11_evening 122 = .ok (.ifCond .ne 16, 3) := by decide +kernel
theorem dX11_evening_125 : decode cX11_evening 125 = .ok (.aload_n 0, 1) := by decide +kernel
theorem dX11_evening_126 : decode cX11_evening 126 = .ok (.iload 6, 2) := by decide +kernel
theorem dX11_evening_128 : decode cX11_evening 128 = .ok (.iload 7, 2) := by decide +kernel
theorem dX11_evening_130 : decode cX11_evening 130 = .ok (.iload 8, 2) := by decide +kernel
theorem dX11_evening_132 : decode cX11_evening 132 = .ok (.iload 9, 2) := by decide +kernel
theorem dX11_evening_134 : decode cX11_evening 134 = .ok (.invokevirtual 206, 3) := by decide +kernel
theorem dX11_evening_137 : decode cX11_evening 137 = .ok (.pop, 1) := by decide +kernel
theorem dX11_evening_138 : decode cX11_evening 138 = .ok (.iinc 5 1, 3) := by decide +kernel
theorem dX11_evening_141 : decode cX11_evening 141 = .ok (.goto (-88), 3) := by decide +kernel
theorem dX11_evening_144 : decode cX11_evening 144 = .ok (.aload_n 0, 1) := by decide +kernel
theorem dX11_evening_145 : decode cX11_evening 145 = .ok (.invokevirtual 294, 3) := by decide +kernel
theorem dX11_evening_148 : decode cX11_evening 148 = .ok (.iload 4, 2) := by decide +kernel
theorem dX11_evening_150 : decode cX11_evening 150 = .ok (.isub, 1) := by decide +kernel
theorem dX11_evening_151 : decode cX11_evening 151 = .ok (.istore 5, 2) := by decide +kernel
theorem dX11_evening_153 : decode cX11_evening 153 = .ok (.aload_n 0, 1) := by decide +kernel
theorem dX11_evening_154 : decode cX11_evening 154 = .ok (.iconst 1, 1) := by decide +kernel
theorem dX11_evening_155 : decode cX11_evening 155 = .ok (.iconst 0, 1) := by decide +kernel
theorem dX11_evening_156 : decode cX11_evening 156 = .ok (.invokevirtual 151, 3) := by decide +kernel
theorem dX11_evening_159 : decode cX11_evening 159 = .ok (.iload 5, 2) := by decide +kernel
theorem dX11_evening_161 : decode cX11_evening 161 = .ok (.ireturn, 1) := by decide +kernel
theorem dX11_row_0 : decode cX11_row 0 = .ok (.iload_n 1, 1) := by decide +kernel
theorem dX11_row_1 : decode cX11_row 1 = .ok (.iconst 0, 1) := by decide +kernel
theorem dX11_row_2 : decode cX11_row 2 = .ok (.bipush 99, 2) := by decide +kernel
theorem dX11_row_4 : decode cX11_row 4 = .ok (.invokestatic 105, 3) := by decide +kernel
theorem dX11_row_7 : decode cX11_row 7 = .ok (.istore_n 2, 1) := by decide +kernel
theorem dX11_row_8 : decode cX11_row 8 = .ok (.iload_n 2, 1) := by decide +kernel
theorem dX11_row_9 : decode cX11_row 9 = .ok (.ifCond .ne 15, 3) := by decide +kernel
theorem dX11_row_12 : decode cX11_row 12 = .ok (.aload_n 0, 1) := by decide +kernel
theorem dX11_row_13 : decode cX11_row 13 = .ok (.getfield 300, 3) := by decide +kernel
theorem dX11_row_16 : decode cX11_row 16 = .ok (.bipush 16, 2) := by decide +kernel
theorem dX11_row_18 : decode cX11_row 18 = .ok (.if_icmp .ne 6, 3) := by decide +kernel
theorem dX11_row_21 : decode cX11_row 21 = .ok (.bipush (-6), 2) := by decide +kernel
theorem dX11_row_23 : decode cX11_row 23 = .ok (.istore_n 2, 1) := by decide +kernel
theorem dX11_row_24 : decode cX11_row 24 = .ok (.iload_n 2, 1) := by decide +kernel
theorem dX11_row_25 : decode cX11_row 25 = .ok (.ifCond .eq 9, 3) := by decide +kernel
theorem dX11_row_28 : decode cX11_row 28 = .ok (.aload_n 0, 1) := by decide +kernel
theorem dX11_row_29 : decode cX11_row 29 = .ok (.iload_n 2, 1) := by decide +kernel
theorem dX11_row_30 : decode cX11_row 30 = .ok (.invokevirtual 112, 3) := by decide +kernel
theorem dX11_row_33 : decode cX11_row 33 = .ok (.ireturn, 1) := by decide +kernel
theorem dX11_row_34 : decode cX11_row 34 = .ok (.aload_n 0, 1) := by decide +kernel
theorem dX11_row_35 : decode cX11_row 35 = .ok (.getfield 76, 3) := by decide +kernel
theorem dX11_row_38 : decode cX11_row 38 = .ok (.aload_n 0, 1) := by decide +kernel
theorem dX11_row_39 : decode cX11_row 39 = .ok (.getfield 300, 3) := by decide +kernel
theorem dX11_row_42 : decode cX11_row 42 = .ok (.iload_n 1, 1) := by decide +kernel
theorem dX11_row_43 : decode cX11_row 43 = .ok (.iastore, 1) := by decide +kernel
theorem dX11_row_44 : decode cX11_row 44 = .ok (.aload_n 0, 1) := by decide +kernel
theorem dX11_row_45 : decode cX11_row 45 = .ok (.dup, 1) := by decide +kernel
theorem dX11_row_46 : decode cX11_row 46 = .ok (.getfield 300, 3) := by decide +kernel
theorem dX11_row_49 : decode cX11_row 49 = .ok (.iconst 1, 1) := by decide +kernel
theorem dX11_row_50 : decode cX11_row 50 = .ok (.iadd, 1) := by decide +kernel
theorem dX11_row_51 : decode cX11_row 51 = .ok (.putfield 300, 3) := by decide +kernel
theorem dX11_row_54 : decode cX11_row 54 = .ok (.aload_n 0, 1) := by decide +kernel
theorem dX11_row_55 : decode cX11_row 55 = .ok (.getfield 300, 3) := by decide +kernel
theorem dX11_row_58 : decode cX11_row 58 = .ok (.ireturn, 1) := by decide +kernel
theorem dX11_judge_0 : decode cX11_judge 0 = .ok (.aload_n 0, 1) := by decide +kernel
theorem dX11_judge_1 : decode cX11_judge 1 = .ok (.getfield 300, 3) := by decide +kernel
theorem dX11_judge_4 : decode cX11_judge 4 = .ok (.istore_n 1, 1) := by decide +kernel
theorem dX11_judge_5 : decode cX11_judge 5 = .ok (.aload_n 0, 1) := by decide +kernel
theorem dX11_judge_6 : decode cX11_judge 6 = .ok (.iconst 0, 1) := by decide +kernel
theorem dX11_judge_7 : decode cX11_judge 7 = .ok (.putfield 300, 3) := by decide +kernel
theorem dX11_judge_10 : decode cX11_judge 10 = .ok (.iconst 0, 1) := by decide +kernel
theorem dX11_judge_11 : decode cX11_judge 11 = .ok (.istore_n 2, 1) := by decide +kernel
theorem dX11_judge_12 : decode cX11_judge 12 = .ok (.iload_n 2, 1) := by decide +kernel
theorem dX11_judge_13 : decode cX11_judge 13 = .ok (.iload_n 1, 1) := by decide +kernel
theorem dX11_judge_14 : decode cX11_judge 14 = .ok (.if_icmp .ge 48, 3) := by decide +kernel
theorem dX11_judge_17 : decode cX11_judge 17 = .ok (.iload_n 2, 1) := by decide +kernel
theorem dX11_judge_18 : decode cX11_judge 18 = .ok (.aload_n 0, 1) := by decide +kernel
theorem dX11_judge_19 : decode cX11_judge 19 = .ok (.invokevirtual 91, 3) := by decide +kernel
theorem dX11_judge_22 : decode cX11_judge 22 = .ok (.if_icmp .ge 40, 3) := by decide +kernel
theorem dX11_judge_25 : decode cX11_judge 25 = .ok (.aload_n 0, 1) := by decide +kernel
theorem dX11_judge_26 : decode cX11_judge 26 = .ok (.getfield 22, 3) := by decide +kernel
theorem dX11_judge_29 : decode cX11_judge 29 = .ok (.iload_n 2, 1) := by decide +kernel
theorem dX11_judge_30 : decode cX11_judge 30 = .ok (.iaload, 1) := by decide +kernel
theorem dX11_judge_31 : decode cX11_judge 31 = .ok (.ifCond .ge 8, 3) := by decide +kernel
theorem dX11_judge_34 : decode cX11_judge 34 = .ok (.bipush 99, 2) := by decide +kernel
theorem dX11_judge_36 : decode cX11_judge 36 = .ok (.goto 9, 3) := by decide +kernel
theorem dX11_judge_39 : decode cX11_judge 39 = .ok (.aload_n 0, 1) := by decide +kernel
theorem dX11_judge_40 : decode cX11_judge 40 = .ok (.getfield 22, 3) := by decide +kernel
theorem dX11_judge_43 : decode cX11_judge 43 = .ok (.iload_n 2, 1) := by decide +kernel
theorem dX11_judge_44 : decode cX11_judge 44 = .ok (.iaload, 1) := by decide +kernel
theorem dX11_judge_45 : decode cX11_judge 45 = .ok (.aload_n 0, 1) := by decide +kernel
theorem dX11_judge_46 : decode cX11_judge 46 = .ok (.getfield 76, 3) := by decide +kernel
theorem dX11_judge_49 : decode cX11_judge 49 = .ok (.iload_n 2, 1) := by decide +kernel
theorem dX11_judge_50 : decode cX11_judge 50 = .ok (.iaload, 1) := by decide +kernel
theorem dX11_judge_51 : decode cX11_judge 51 = .ok (.if_icmp .eq 5, 3) := by decide +kernel
theorem dX11_judge_54 : decode cX11_judge 54 = .ok (.iload_n 2, 1) := by decide +kernel
theorem dX11_judge_55 : decode cX11_judge 55 = .ok (.ireturn, 1) := by decide +kernel
theorem dX11_judge_56 : decode cX11_judge 56 = .ok (.iinc 2 1, 3) := by decide +kernel
theorem dX11_judge_59 : decode cX11_judge 59 = .ok (.goto (-47), 3) := by decide +kernel
theorem dX11_judge_62 : decode cX11_judge 62 = .ok (.iload_n 1, 1) := by decide +kernel
theorem dX11_judge_63 : decode cX11_judge 63 = .ok (.aload_n 0, 1) := by decide +kernel
theorem dX11_judge_64 : decode cX11_judge 64 = .ok (.invokevirtual 91, 3) := by decide +kernel
theorem dX11_judge_67 : decode cX11_judge 67 = .ok (.if_icmp .ge 7, 3) := by decide +kernel
theorem dX11_judge_70 : decode cX11_judge 70 = .ok (.iload_n 1, 1) := by decide +kernel
theorem dX11_judge_71 : decode cX11_judge 71 = .ok (.goto 20, 3) := by decide +kernel
theorem dX11_judge_74 : decode cX11_judge 74 = .ok (.iload_n 1, 1) := by decide +kernel
theorem dX11_judge_75 : decode cX11_judge 75 = .ok (.aload_n 0, 1) := by decide +kernel
theorem dX11_judge_76 : decode cX11_judge 76 = .ok (.invokevirtual 91, 3) := by decide +kernel
theorem dX11_judge_79 : decode cX11_judge 79 = .ok (.if_icmp .le 10, 3) := by decide +kernel
theorem dX11_judge_82 : decode cX11_judge 82 = .ok (.aload_n 0, 1) := by decide +kernel
theorem dX11_judge_83 : decode cX11_judge 83 = .ok (.invokevirtual 91, 3) := by decide +kernel
theorem dX11_judge_86 : decode cX11_judge 86 = .ok (.goto 5, 3) := by decide +kernel
theorem dX11_judge_89 : decode cX11_judge 89 = .ok (.bipush (-9), 2) := by decide +kernel
theorem dX11_judge_91 : decode cX11_judge 91 = .ok (.ireturn, 1) := by decide +kernel
theorem dX11_image_0 : decode cX11_image 0 = .ok (.aload_n 0, 1) := by decide +kernel
theorem dX11_image_1 : decode cX11_image 1 = .ok (.iconst 1, 1) := by decide +kernel
theorem dX11_image_2 : decode cX11_image 2 = .ok (.putfield 303, 3) := by decide +kernel
theorem dX11_image_5 : decode cX11_image 5 = .ok (.aload_n 0, 1) := by decide +kernel
theorem dX11_image_6 : decode cX11_image 6 = .ok (.iconst 0, 1) := by decide +kernel
theorem dX11_image_7 : decode cX11_image 7 = .ok (.iconst 1, 1) := by decide +kernel
theorem dX11_image_8 : decode cX11_image 8 = .ok (.invokevirtual 151, 3) := by decide +kernel
theorem dX11_image_11 : decode cX11_image 11 = .ok (.aload_n 0, 1) := by decide +kernel
theorem dX11_image_12 : decode cX11_image 12 = .ok (.invokevirtual 294, 3) := by decide +kernel
theorem dX11_image_15 : decode cX11_image 15 = .ok (.ireturn, 1) := by decide +kernel
theorem dX11_on_0 : decode cX11_on 0 = .ok (.aload_n 0, 1) := by decide +kernel
theorem dX11_on_1 : decode cX11_on 1 = .ok (.getfield 303, 3) := by decide +kernel
theorem dX11_on_4 : decode cX11_on 4 = .ok (.ifCond .ne 10, 3) := by decide +kernel
theorem dX11_on_7 : decode cX11_on 7 = .ok (.aload_n 0, 1) := by decide +kernel
theorem dX11_on_8 : decode cX11_on 8 = .ok (.bipush (-3), 2) := by decide +kernel
theorem dX11_on_10 : decode cX11_on 10 = .ok (.invokevirtual 112, 3) := by decide +kernel
theorem dX11_on_13 : decode cX11_on 13 = .ok (.ireturn, 1) := by decide +kernel
theorem dX11_on_14 : decode cX11_on 14 = .ok (.aload_n 0, 1) := by decide +kernel
theorem dX11_on_15 : decode cX11_on 15 = .ok (.iconst 0, 1) := by decide +kernel
theorem dX11_on_16 : decode cX11_on 16 = .ok (.iconst 0, 1) := by decide +kernel
theorem dX11_on_17 : decode cX11_on 17 = .ok (.invokevirtual 151, 3) := by decide +kernel
theorem dX11_on_20 : decode cX11_on 20 = .ok (.aload_n 0, 1) := by decide +kernel
theorem dX11_on_21 : decode cX11_on 21 = .ok (.invokevirtual 294, 3) := by decide +kernel
theorem dX11_on_24 : decode cX11_on 24 = .ok (.ireturn, 1) := by decide +kernel
theorem dX11_count_0 : decode cX11_count 0 = .ok (.iload_n 1, 1) := by decide +kernel
theorem dX11_count_1 : decode cX11_count 1 = .ok (.bipush 11, 2) := by decide +kernel
theorem dX11_count_3 : decode cX11_count 3 = .ok (.bipush 16, 2) := by decide +kernel
theorem dX11_count_5 : decode cX11_count 5 = .ok (.invokestatic 124, 3) := by decide +kernel
theorem dX11_count_8 : decode cX11_count 8 = .ok (.ifCond .eq 13, 3) := by decide +kernel
theorem dX11_count_11 : decode cX11_count 11 = .ok (.aload_n 0, 1) := by decide +kernel
theorem dX11_count_12 : decode cX11_count 12 = .ok (.getfield 7, 3) := by decide +kernel
theorem dX11_count_15 : decode cX11_count 15 = .ok (.iload_n 1, 1) := by decide +kernel
theorem dX11_count_16 : decode cX11_count 16 = .ok (.bipush 10, 2) := by decide +kernel
theorem dX11_count_18 : decode cX11_count 18 = .ok (.isub, 1) := by decide +kernel
theorem dX11_count_19 : decode cX11_count 19 = .ok (.iaload, 1) := by decide +kernel
theorem dX11_count_20 : decode cX11_count 20 = .ok (.ireturn, 1) := by decide +kernel
theorem dX11_count_21 : decode cX11_count 21 = .ok (.iload_n 1, 1) := by decide +kernel
theorem dX11_count_22 : decode cX11_count 22 = .ok (.tableswitch 114 0 8 #[50, 55, 60, 65, 70, 75, 99, 104, 109], 50) := by decide +kernel
theorem dX11_count_72 : decode cX11_count 72 = .ok (.aload_n 0, 1) := by decide +kernel
theorem dX11_count_73 : decode cX11_count 73 = .ok (.getfield 84, 3) := by decide +kernel
theorem dX11_count_76 : decode cX11_count 76 = .ok (.ireturn, 1) := by decide +kernel
theorem dX11_count_77 : decode cX11_count 77 = .ok (.aload_n 0, 1) := by decide +kernel
theorem dX11_count_78 : decode cX11_count 78 = .ok (.getfield 88, 3) := by decide +kernel
theorem dX11_count_81 : decode cX11_count 81 = .ok (.ireturn, 1) := by decide +kernel
theorem dX11_count_82 : decode cX11_count 82 = .ok (.aload_n 0, 1) := by decide +kernel
theorem dX11_count_83 : decode cX11_count 83 = .ok (.getfield 95, 3) := by decide +kernel
theorem dX11_count_86 : decode cX11_count 86 = .ok (.ireturn, 1) := by decide +kernel
theorem dX11_count_87 : decode cX11_count 87 = .ok (.aload_n 0, 1) := by decide +kernel
theorem dX11_count_88 : decode cX11_count 88 = .ok (.invokevirtual 294, 3) := by decide +kernel
theorem dX11_count_91 : decode cX11_count 91 = .ok (.ireturn, 1) := by decide +kernel
theorem dX11_count_92 : decode cX11_count 92 = .ok (.aload_n 0, 1) := by decide +kernel
theorem dX11_count_93 : decode cX11_count 93 = .ok (.invokevirtual 208, 3) := by decide +kernel
theorem dX11_count_96 : decode cX11_count 96 = .ok (.ireturn, 1) := by decide +kernel
theorem dX11_count_97 : decode cX11_count 97 = .ok (.aload_n 0, 1) := by decide +kernel
theorem dX11_count_98 : decode cX11_count 98 = .ok (.getfield 84, 3) := by decide +kernel
theorem dX11_count_101 : decode cX11_count 101 = .ok (.aload_n 0, 1) := by decide +kernel
theorem dX11_count_102 : decode cX11_count 102 = .ok (.getfield 88, 3) := by decide +kernel
theorem dX11_count_105 : decode cX11_count 105 = .ok (.iconst 1, 1) := by decide +kernel
theorem dX11_count_106 : decode cX11_count 106 = .ok (.isub, 1) := by decide +kernel
theorem dX11_count_107 : decode cX11_count 107 = .ok (.imul, 1) := by decide +kernel
theorem dX11_count_108 : decode cX11_count 108 = .ok (.aload_n 0, 1) := by decide +kernel
theorem dX11_count_109 : decode cX11_count 109 = .ok (.getfield 88, 3) := by decide +kernel
theorem dX11_count_112 : decode cX11_count 112 = .ok (.aload_n 0, 1) := by decide +kernel
theorem dX11_count_113 : decode cX11_count 113 = .ok (.getfield 84, 3) := by decide +kernel
theorem dX11_count_116 : decode cX11_count 116 = .ok (.iconst 1, 1) := by decide +kernel
theorem dX11_count_117 : decode cX11_count 117 = .ok (.isub, 1) := by decide +kernel
theorem dX11_count_118 : decode cX11_count 118 = .ok (.imul, 1) := by decide +kernel
theorem dX11_count_119 : decode cX11_count 119 = .ok (.iadd, 1) := by decide +kernel
theorem dX11_count_120 : decode cX11_count 120 = .ok (.ireturn, 1) := by decide +kernel
theorem dX11_count_121 : decode cX11_count 121 = .ok (.aload_n 0, 1) := by decide +kernel
theorem dX11_count_122 : decode cX11_count 122 = .ok (.getfield 172, 3) := by decide +kernel
theorem dX11_count_125 : decode cX11_count 125 = .ok (.ireturn, 1) := by decide +kernel
theorem dX11_count_126 : decode cX11_count 126 = .ok (.aload_n 0, 1) := by decide +kernel
theorem dX11_count_127 : decode cX11_count 127 = .ok (.getfield 300, 3) := by decide +kernel
theorem dX11_count_130 : decode cX11_count 130 = .ok (.ireturn, 1) := by decide +kernel
theorem dX11_count_131 : decode cX11_count 131 = .ok (.aload_n 0, 1) := by decide +kernel
theorem dX11_count_132 : decode cX11_count 132 = .ok (.getfield 109, 3) := by decide +kernel
theorem dX11_count_135 : decode cX11_count 135 = .ok (.ireturn, 1) := by decide +kernel
theorem dX11_count_136 : decode cX11_count 136 = .ok (.bipush (-9), 2) := by decide +kernel
theorem dX11_count_138 : decode cX11_count 138 = .ok (.ireturn, 1) := by decide +kernel
theorem dJ11_isValidCodePoint_9a6ad_0 : decode cJ11_isValidCodePoint_9a6ad 0 = .ok (.iload_n 0, 1) := by decide +kernel
theorem dJ11_isValidCodePoint_9a6ad_1 : decode cJ11_isValidCodePoint_9a6ad 1 = .ok (.bipush 16, 2) := by decide +kernel
theorem dJ11_isValidCodePoint_9a6ad_3 : decode cJ11_isValidCodePoint_9a6ad 3 = .ok (.iushr, 1) := by decide +kernel
theorem dJ11_isValidCodePoint_9a6ad_4 : decode cJ11_isValidCodePoint_9a6ad 4 = .ok (.istore_n 1, 1) := by decide +kernel
theorem dJ11_isValidCodePoint_9a6ad_5 : decode cJ11_isValidCodePoint_9a6ad 5 = .ok (.iload_n 1, 1) := by decide +kernel
theorem dJ11_isValidCodePoint_9a6ad_6 : decode cJ11_isValidCodePoint_9a6ad 6 = .ok (.bipush 17, 2) := by decide +kernel
theorem dJ11_isValidCodePoint_9a6ad_8 : decode cJ11_isValidCodePoint_9a6ad 8 = .ok (.if_icmp .ge 7, 3) := by decide +kernel
theorem dJ11_isValidCodePoint_9a6ad_11 : decode cJ11_isValidCodePoint_9a6ad 11 = .ok (.iconst 1, 1) := by decide +kernel
theorem dJ11_isValidCodePoint_9a6ad_12 : decode cJ11_isValidCodePoint_9a6ad 12 = .ok (.goto 4, 3) := by decide +kernel
theorem dJ11_isValidCodePoint_9a6ad_15 : decode cJ11_isValidCodePoint_9a6ad 15 = .ok (.iconst 0, 1) := by decide +kernel
theorem dJ11_isValidCodePoint_9a6ad_16 : decode cJ11_isValidCodePoint_9a6ad 16 = .ok (.ireturn, 1) := by decide +kernel
theorem dJ11_highSurrogate_5068e_0 : decode cJ11_highSurrogate_5068e 0 = .ok (.iload_n 0, 1) := by decide +kernel
theorem dJ11_highSurrogate_5068e_1 : decode cJ11_highSurrogate_5068e 1 = .ok (.bipush 10, 2) := by decide +kernel
theorem dJ11_highSurrogate_5068e_3 : decode cJ11_highSurrogate_5068e 3 = .ok (.iushr, 1) := by decide +kernel
theorem dJ11_highSurrogate_5068e_4 : decode cJ11_highSurrogate_5068e 4 = .ok (.ldc 110, 2) := by decide +kernel
theorem dJ11_highSurrogate_5068e_6 : decode cJ11_highSurrogate_5068e 6 = .ok (.iadd, 1) := by decide +kernel
theorem dJ11_highSurrogate_5068e_7 : decode cJ11_highSurrogate_5068e 7 = .ok (.i2c, 1) := by decide +kernel
theorem dJ11_highSurrogate_5068e_8 : decode cJ11_highSurrogate_5068e 8 = .ok (.ireturn, 1) := by decide +kernel
theorem dJ11_lowSurrogate_5068e_0 : decode cJ11_lowSurrogate_5068e 0 = .ok (.iload_n 0, 1) := by decide +kernel
theorem dJ11_lowSurrogate_5068e_1 : decode cJ11_lowSurrogate_5068e 1 = .ok (.sipush 1023, 3) := by decide +kernel
theorem dJ11_lowSurrogate_5068e_4 : decode cJ11_lowSurrogate_5068e 4 = .ok (.iand, 1) := by decide +kernel
theorem dJ11_lowSurrogate_5068e_5 : decode cJ11_lowSurrogate_5068e 5 = .ok (.ldc 76, 2) := by decide +kernel
theorem dJ11_lowSurrogate_5068e_7 : decode cJ11_lowSurrogate_5068e 7 = .ok (.iadd, 1) := by decide +kernel
theorem dJ11_lowSurrogate_5068e_8 : decode cJ11_lowSurrogate_5068e 8 = .ok (.i2c, 1) := by decide +kernel
theorem dJ11_lowSurrogate_5068e_9 : decode cJ11_lowSurrogate_5068e 9 = .ok (.ireturn, 1) := by decide +kernel
theorem dJ9_abs_0f7a4_0 : decode cJ9_abs_0f7a4 0 = .ok (.iload_n 0, 1) := by decide +kernel
theorem dJ9_abs_0f7a4_1 : decode cJ9_abs_0f7a4 1 = .ok (.ifCond .ge 8, 3) := by decide +kernel
theorem dJ9_abs_0f7a4_4 : decode cJ9_abs_0f7a4 4 = .ok (.iload_n 0, 1) := by decide +kernel
theorem dJ9_abs_0f7a4_5 : decode cJ9_abs_0f7a4 5 = .ok (.ineg, 1) := by decide +kernel
theorem dJ9_abs_0f7a4_6 : decode cJ9_abs_0f7a4 6 = .ok (.goto 4, 3) := by decide +kernel
theorem dJ9_abs_0f7a4_9 : decode cJ9_abs_0f7a4 9 = .ok (.iload_n 0, 1) := by decide +kernel
theorem dJ9_abs_0f7a4_10 : decode cJ9_abs_0f7a4 10 = .ok (.ireturn, 1) := by decide +kernel
theorem dJ9_max_7cf53_0 : decode cJ9_max_7cf53 0 = .ok (.iload_n 0, 1) := by decide +kernel
theorem dJ9_max_7cf53_1 : decode cJ9_max_7cf53 1 = .ok (.iload_n 1, 1) := by decide +kernel
theorem dJ9_max_7cf53_2 : decode cJ9_max_7cf53 2 = .ok (.if_icmp .lt 7, 3) := by decide +kernel
theorem dJ9_max_7cf53_5 : decode cJ9_max_7cf53 5 = .ok (.iload_n 0, 1) := by decide +kernel
theorem dJ9_max_7cf53_6 : decode cJ9_max_7cf53 6 = .ok (.goto 4, 3) := by decide +kernel
theorem dJ9_max_7cf53_9 : decode cJ9_max_7cf53 9 = .ok (.iload_n 1, 1) := by decide +kernel
theorem dJ9_max_7cf53_10 : decode cJ9_max_7cf53 10 = .ok (.ireturn, 1) := by decide +kernel
theorem dJ9_min_7cf53_0 : decode cJ9_min_7cf53 0 = .ok (.iload_n 0, 1) := by decide +kernel
theorem dJ9_min_7cf53_1 : decode cJ9_min_7cf53 1 = .ok (.iload_n 1, 1) := by decide +kernel
theorem dJ9_min_7cf53_2 : decode cJ9_min_7cf53 2 = .ok (.if_icmp .gt 7, 3) := by decide +kernel
theorem dJ9_min_7cf53_5 : decode cJ9_min_7cf53 5 = .ok (.iload_n 0, 1) := by decide +kernel
theorem dJ9_min_7cf53_6 : decode cJ9_min_7cf53 6 = .ok (.goto 4, 3) := by decide +kernel
theorem dJ9_min_7cf53_9 : decode cJ9_min_7cf53 9 = .ok (.iload_n 1, 1) := by decide +kernel
theorem dJ9_min_7cf53_10 : decode cJ9_min_7cf53 10 = .ok (.ireturn, 1) := by decide +kernel
theorem dJ0_length_8abf5_0 : decode cJ0_length_8abf5 0 = .ok (.aload_n 0, 1) := by decide +kernel
theorem dJ0_length_8abf5_1 : decode cJ0_length_8abf5 1 = .ok (.getfield 9, 3) := by decide +kernel
theorem dJ0_length_8abf5_4 : decode cJ0_length_8abf5 4 = .ok (.arraylength, 1) := by decide +kernel
theorem dJ0_length_8abf5_5 : decode cJ0_length_8abf5 5 = .ok (.aload_n 0, 1) := by decide +kernel
theorem dJ0_length_8abf5_6 : decode cJ0_length_8abf5 6 = .ok (.invokevirtual 335, 3) := by decide +kernel
theorem dJ0_length_8abf5_9 : decode cJ0_length_8abf5 9 = .ok (.ishr, 1) := by decide +kernel
theorem dJ0_length_8abf5_10 : decode cJ0_length_8abf5 10 = .ok (.ireturn, 1) := by decide +kernel
theorem dJ0_indexOf_0f7a4_0 : decode cJ0_indexOf_0f7a4 0 = .ok (.aload_n 0, 1) := by decide +kernel
theorem dJ0_indexOf_0f7a4_1 : decode cJ0_indexOf_0f7a4 1 = .ok (.iload_n 1, 1) := by decide +kernel
theorem dJ0_indexOf_0f7a4_2 : decode cJ0_indexOf_0f7a4 2 = .ok (.iconst 0, 1) := by decide +kernel
theorem dJ0_indexOf_0f7a4_3 : decode cJ0_indexOf_0f7a4 3 = .ok (.invokevirtual 633, 3) := by decide +kernel
theorem dJ0_indexOf_0f7a4_6 : decode cJ0_indexOf_0f7a4 6 = .ok (.ireturn, 1) := by decide +kernel
theorem dJ0_indexOf_7cf53_0 : decode cJ0_indexOf_7cf53 0 = .ok (.aload_n 0, 1) := by decide +kernel
theorem dJ0_indexOf_7cf53_1 : decode cJ0_indexOf_7cf53 1 = .ok (.invokevirtual 492, 3) := by decide +kernel
theorem dJ0_indexOf_7cf53_4 : decode cJ0_indexOf_7cf53 4 = .ok (.ifCond .eq 19, 3) := by decide +kernel
theorem dJ0_indexOf_7cf53_7 : decode cJ0_indexOf_7cf53 7 = .ok (.aload_n 0, 1) := by decide +kernel
theorem dJ0_indexOf_7cf53_8 : decode cJ0_indexOf_7cf53 8 = .ok (.getfield 9, 3) := by decide +kernel
theorem dJ0_indexOf_7cf53_11 : decode cJ0_indexOf_7cf53 11 = .ok (.iload_n 1, 1) := by decide +kernel
theorem dJ0_indexOf_7cf53_12 : decode cJ0_indexOf_7cf53 12 = .ok (.iload_n 2, 1) := by decide +kernel
theorem dJ0_indexOf_7cf53_13 : decode cJ0_indexOf_7cf53 13 = .ok (.aload_n 0, 1) := by decide +kernel
theorem dJ0_indexOf_7cf53_14 : decode cJ0_indexOf_7cf53 14 = .ok (.invokevirtual 505, 3) := by decide +kernel
theorem dJ0_indexOf_7cf53_17 : decode cJ0_indexOf_7cf53 17 = .ok (.invokestatic 637, 3) := by decide +kernel
theorem dJ0_indexOf_7cf53_20 : decode cJ0_indexOf_7cf53 20 = .ok (.goto 16, 3) := by decide +kernel
theorem dJ0_indexOf_7cf53_23 : decode cJ0_indexOf_7cf53 23 = .ok (.aload_n 0, 1) := by decide +kernel
theorem dJ0_indexOf_7cf53_24 : decode cJ0_indexOf_7cf53 24 = .ok (.getfield 9, 3) := by decide +kernel
theorem dJ0_indexOf_7cf53_27 : decode cJ0_indexOf_7cf53 27 = .ok (.iload_n 1, 1) := by decide +kernel
theorem dJ0_indexOf_7cf53_28 : decode cJ0_indexOf_7cf53 28 = .ok (.iload_n 2, 1) := by decide +kernel
theorem dJ0_indexOf_7cf53_29 : decode cJ0_indexOf_7cf53 29 = .ok (.aload_n 0, 1) := by decide +kernel
theorem dJ0_indexOf_7cf53_30 : decode cJ0_indexOf_7cf53 30 = .ok (.invokevirtual 505, 3) := by decide +kernel
theorem dJ0_indexOf_7cf53_33 : decode cJ0_indexOf_7cf53 33 = .ok (.invokestatic 640, 3) := by decide +kernel
theorem dJ0_indexOf_7cf53_36 : decode cJ0_indexOf_7cf53 36 = .ok (.ireturn, 1) := by decide +kernel
theorem dJ0_coder_7d493_0 : decode cJ0_coder_7d493 0 = .ok (.getstatic 38, 3) := by decide +kernel
theorem dJ0_coder_7d493_3 : decode cJ0_coder_7d493 3 = .ok (.ifCond .eq 10, 3) := by decide +kernel
theorem dJ0_coder_7d493_6 : decode cJ0_coder_7d493 6 = .ok (.aload_n 0, 1) := by decide +kernel
theorem dJ0_coder_7d493_7 : decode cJ0_coder_7d493 7 = .ok (.getfield 15, 3) := by decide +kernel
theorem dJ0_coder_7d493_10 : decode cJ0_coder_7d493 10 = .ok (.goto 4, 3) := by decide +kernel
theorem dJ0_coder_7d493_13 : decode cJ0_coder_7d493 13 = .ok (.iconst 1, 1) := by decide +kernel
theorem dJ0_coder_7d493_14 : decode cJ0_coder_7d493 14 = .ok (.ireturn, 1) := by decide +kernel
theorem dJ0_isLatin1_aae02_0 : decode cJ0_isLatin1_aae02 0 = .ok (.getstatic 38, 3) := by decide +kernel
theorem dJ0_isLatin1_aae02_3 : decode cJ0_isLatin1_aae02 3 = .ok (.ifCond .eq 14, 3) := by decide +kernel
theorem dJ0_isLatin1_aae02_6 : decode cJ0_isLatin1_aae02 6 = .ok (.aload_n 0, 1) := by decide +kernel
theorem dJ0_isLatin1_aae02_7 : decode cJ0_isLatin1_aae02 7 = .ok (.getfield 15, 3) := by decide +kernel
theorem dJ0_isLatin1_aae02_10 : decode cJ0_isLatin1_aae02 10 = .ok (.ifCond .ne 7, 3) := by decide +kernel
theorem dJ0_isLatin1_aae02_13 : decode cJ0_isLatin1_aae02 13 = .ok (.iconst 1, 1) := by decide +kernel
theorem dJ0_isLatin1_aae02_14 : decode cJ0_isLatin1_aae02 14 = .ok (.goto 4, 3) := by decide +kernel
theorem dJ0_isLatin1_aae02_17 : decode cJ0_isLatin1_aae02 17 = .ok (.iconst 0, 1) := by decide +kernel
theorem dJ0_isLatin1_aae02_18 : decode cJ0_isLatin1_aae02 18 = .ok (.ireturn, 1) := by decide +kernel
theorem dJ0_checkBoundsBeginEnd_23922_0 : decode cJ0_checkBoundsBeginEnd_23922 0 = .ok (.iload_n 0, 1) := by decide +kernel
theorem dJ0_checkBoundsBeginEnd_23922_1 : decode cJ0_checkBoundsBeginEnd_23922 1 = .ok (.iload_n 1, 1) := by decide +kernel
theorem dJ0_checkBoundsBeginEnd_23922_2 : decode cJ0_checkBoundsBeginEnd_23922 2 = .ok (.iload_n 2, 1) := by decide +kernel
theorem dJ0_checkBoundsBeginEnd_23922_3 : decode cJ0_checkBoundsBeginEnd_23922 3 = .ok (.getstatic 1053, 3) := by decide +kernel
theorem dJ0_checkBoundsBeginEnd_23922_6 : decode cJ0_checkBoundsBeginEnd_23922 6 = .ok (.invokestatic 1062, 3) := by decide +kernel
theorem dJ0_checkBoundsBeginEnd_23922_9 : decode cJ0_checkBoundsBeginEnd_23922 9 = .ok (.pop, 1) := by decide +kernel
theorem dJ0_checkBoundsBeginEnd_23922_10 : decode cJ0_checkBoundsBeginEnd_23922 10 = .ok (.return_, 1) := by decide +kernel
theorem dJ1_canEncode_9a6ad_0 : decode cJ1_canEncode_9a6ad 0 = .ok (.iload_n 0, 1) := by decide +kernel
theorem dJ1_canEncode_9a6ad_1 : decode cJ1_canEncode_9a6ad 1 = .ok (.ifCond .lt 14, 3) := by decide +kernel
theorem dJ1_canEncode_9a6ad_4 : decode cJ1_canEncode_9a6ad 4 = .ok (.iload_n 0, 1) := by decide +kernel
theorem dJ1_canEncode_9a6ad_5 : decode cJ1_canEncode_9a6ad 5 = .ok (.sipush 255, 3) := by decide +kernel
theorem dJ1_canEncode_9a6ad_8 : decode cJ1_canEncode_9a6ad 8 = .ok (.if_icmp .gt 7, 3) := by decide +kernel
theorem dJ1_canEncode_9a6ad_11 : decode cJ1_canEncode_9a6ad 11 = .ok (.iconst 1, 1) := by decide +kernel
theorem dJ1_canEncode_9a6ad_12 : decode cJ1_canEncode_9a6ad 12 = .ok (.goto 4, 3) := by decide +kernel
theorem dJ1_canEncode_9a6ad_15 : decode cJ1_canEncode_9a6ad 15 = .ok (.iconst 0, 1) := by decide +kernel
theorem dJ1_canEncode_9a6ad_16 : decode cJ1_canEncode_9a6ad 16 = .ok (.ireturn, 1) := by decide +kernel
theorem dJ1_indexOf_4cfef_0 : decode cJ1_indexOf_4cfef 0 = .ok (.iload_n 1, 1) := by decide +kernel
theorem dJ1_indexOf_4cfef_1 : decode cJ1_indexOf_4cfef 1 = .ok (.invokestatic 88, 3) := by decide +kernel
theorem dJ1_indexOf_4cfef_4 : decode cJ1_indexOf_4cfef 4 = .ok (.ifCond .ne 5, 3) := by decide +kernel
theorem dJ1_indexOf_4cfef_7 : decode cJ1_indexOf_4cfef 7 = .ok (.iconst (-1), 1) := by decide +kernel
theorem dJ1_indexOf_4cfef_8 : decode cJ1_indexOf_4cfef 8 = .ok (.ireturn, 1) := by decide +kernel
theorem dJ1_indexOf_4cfef_9 : decode cJ1_indexOf_4cfef 9 = .ok (.iload_n 2, 1) := by decide +kernel
theorem dJ1_indexOf_4cfef_10 : decode cJ1_indexOf_4cfef 10 = .ok (.iconst 0, 1) := by decide +kernel
theorem dJ1_indexOf_4cfef_11 : decode cJ1_indexOf_4cfef 11 = .ok (.invokestatic 92, 3) := by decide +kernel
theorem dJ1_indexOf_4cfef_14 : decode cJ1_indexOf_4cfef 14 = .ok (.istore_n 2, 1) := by decide +kernel
theorem dJ1_indexOf_4cfef_15 : decode cJ1_indexOf_4cfef 15 = .ok (.iload_n 3, 1) := by decide +kernel
theorem dJ1_indexOf_4cfef_16 : decode cJ1_indexOf_4cfef 16 = .ok (.aload_n 0, 1) := by decide +kernel
theorem dJ1_indexOf_4cfef_17 : decode cJ1_indexOf_4cfef 17 = .ok (.arraylength, 1) := by decide +kernel
theorem dJ1_indexOf_4cfef_18 : decode cJ1_indexOf_4cfef 18 = .ok (.invokestatic 38, 3) := by decide +kernel
theorem dJ1_indexOf_4cfef_21 : decode cJ1_indexOf_4cfef 21 = .ok (.istore_n 3, 1) := by decide +kernel
theorem dJ1_indexOf_4cfef_22 : decode cJ1_indexOf_4cfef 22 = .ok (.iload_n 2, 1) := by decide +kernel
theorem dJ1_indexOf_4cfef_23 : decode cJ1_indexOf_4cfef 23 = .ok (.iload_n 3, 1) := by decide +kernel
theorem dJ1_indexOf_4cfef_24 : decode cJ1_indexOf_4cfef 24 = .ok (.if_icmp .lt 5, 3) := by decide +kernel
theorem dJ1_indexOf_4cfef_27 : decode cJ1_indexOf_4cfef 27 = .ok (.iconst (-1), 1) := by decide +kernel
theorem dJ1_indexOf_4cfef_28 : decode cJ1_indexOf_4cfef 28 = .ok (.ireturn, 1) := by decide +kernel
theorem dJ1_indexOf_4cfef_29 : decode cJ1_indexOf_4cfef 29 = .ok (.aload_n 0, 1) := by decide +kernel
theorem dJ1_indexOf_4cfef_30 : decode cJ1_indexOf_4cfef 30 = .ok (.iload_n 1, 1) := by decide +kernel
theorem dJ1_indexOf_4cfef_31 : decode cJ1_indexOf_4cfef 31 = .ok (.iload_n 2, 1) := by decide +kernel
theorem dJ1_indexOf_4cfef_32 : decode cJ1_indexOf_4cfef 32 = .ok (.iload_n 3, 1) := by decide +kernel
theorem dJ1_indexOf_4cfef_33 : decode cJ1_indexOf_4cfef 33 = .ok (.invokestatic 95, 3) := by decide +kernel
theorem dJ1_indexOf_4cfef_36 : decode cJ1_indexOf_4cfef 36 = .ok (.ireturn, 1) := by decide +kernel
theorem dJ1_indexOfChar_4cfef_0 : decode cJ1_indexOfChar_4cfef 0 = .ok (.iload_n 1, 1) := by decide +kernel
theorem dJ1_indexOfChar_4cfef_1 : decode cJ1_indexOfChar_4cfef 1 = .ok (.i2b, 1) := by decide +kernel
theorem dJ1_indexOfChar_4cfef_2 : decode cJ1_indexOfChar_4cfef 2 = .ok (.istore 4, 2) := by decide +kernel
theorem dJ1_indexOfChar_4cfef_4 : decode cJ1_indexOfChar_4cfef 4 = .ok (.iload_n 2, 1) := by decide +kernel
theorem dJ1_indexOfChar_4cfef_5 : decode cJ1_indexOfChar_4cfef 5 = .ok (.istore 5, 2) := by decide +kernel
theorem dJ1_indexOfChar_4cfef_7 : decode cJ1_indexOfChar_4cfef 7 = .ok (.iload 5, 2) := by decide +kernel
theorem dJ1_indexOfChar_4cfef_9 : decode cJ1_indexOfChar_4cfef 9 = .ok (.iload_n 3, 1) := by decide +kernel
theorem dJ1_indexOfChar_4cfef_10 : decode cJ1_indexOfChar_4cfef 10 = .ok (.if_icmp .ge 21, 3) := by decide +kernel
theorem dJ1_indexOfChar_4cfef_13 : decode cJ1_indexOfChar_4cfef 13 = .ok (.aload_n 0, 1) := by decide +kernel
theorem dJ1_indexOfChar_4cfef_14 : decode cJ1_indexOfChar_4cfef 14 = .ok (.iload 5, 2) := by decide +kernel
theorem dJ1_indexOfChar_4cfef_16 : decode cJ1_indexOfChar_4cfef 16 = .ok (.baload, 1) := by decide +kernel
theorem dJ1_indexOfChar_4cfef_17 : decode cJ1_indexOfChar_4cfef 17 = .ok (.iload 4, 2) := by decide +kernel
theorem dJ1_indexOfChar_4cfef_19 : decode cJ1_indexOfChar_4cfef 19 = .ok (.if_icmp .ne 6, 3) := by decide +kernel
theorem dJ1_indexOfChar_4cfef_22 : decode cJ1_indexOfChar_4cfef 22 = .ok (.iload 5, 2) := by decide +kernel
theorem dJ1_indexOfChar_4cfef_24 : decode cJ1_indexOfChar_4cfef 24 = .ok (.ireturn, 1) := by decide +kernel
theorem dJ1_indexOfChar_4cfef_25 : decode cJ1_indexOfChar_4cfef 25 = .ok (.iinc 5 1, 3) := by decide +kernel
theorem dJ1_indexOfChar_4cfef_28 : decode cJ1_indexOfChar_4cfef 28 = .ok (.goto (-21), 3) := by decide +kernel
theorem dJ1_indexOfChar_4cfef_31 : decode cJ1_indexOfChar_4cfef 31 = .ok (.iconst (-1), 1) := by decide +kernel
theorem dJ1_indexOfChar_4cfef_32 : decode cJ1_indexOfChar_4cfef 32 = .ok (.ireturn, 1) := by decide +kernel
theorem dJ2_getChar_3b067_0 : decode cJ2_getChar_3b067 0 = .ok (.getstatic 44, 3) := by decide +kernel
theorem dJ2_getChar_3b067_3 : decode cJ2_getChar_3b067 3 = .ok (.ifCond .ne 25, 3) := by decide +kernel
theorem dJ2_getChar_3b067_6 : decode cJ2_getChar_3b067 6 = .ok (.iload_n 1, 1) := by decide +kernel
theorem dJ2_getChar_3b067_7 : decode cJ2_getChar_3b067 7 = .ok (.ifCond .lt 11, 3) := by decide +kernel
theorem dJ2_getChar_3b067_10 : decode cJ2_getChar_3b067 10 = .ok (.iload_n 1, 1) := by decide +kernel
theorem dJ2_getChar_3b067_11 : decode cJ2_getChar_3b067 11 = .ok (.aload_n 0, 1) := by decide +kernel
theorem dJ2_getChar_3b067_12 : decode cJ2_getChar_3b067 12 = .ok (.invokestatic 48, 3) := by decide +kernel
theorem dJ2_getChar_3b067_15 : decode cJ2_getChar_3b067 15 = .ok (.if_icmp .lt 13, 3) := by decide +kernel
theorem dJ2_getChar_3b067_18 : decode cJ2_getChar_3b067 18 = .ok (.new 52, 3) := by decide +kernel
theorem dJ2_getChar_3b067_21 : decode cJ2_getChar_3b067 21 = .ok (.dup, 1) := by decide +kernel
theorem dJ2_getChar_3b067_22 : decode cJ2_getChar_3b067 22 = .ok (.ldc 54, 2) := by decide +kernel
theorem dJ2_getChar_3b067_24 : decode cJ2_getChar_3b067 24 = .ok (.invokespecial 56, 3) := by decide +kernel
theorem dJ2_getChar_3b067_27 : decode cJ2_getChar_3b067 27 = .ok (.athrow, 1) := by decide +kernel
theorem dJ2_getChar_3b067_28 : decode cJ2_getChar_3b067 28 = .ok (.iload_n 1, 1) := by decide +kernel
theorem dJ2_getChar_3b067_29 : decode cJ2_getChar_3b067 29 = .ok (.iconst 1, 1) := by decide +kernel
theorem dJ2_getChar_3b067_30 : decode cJ2_getChar_3b067 30 = .ok (.ishl, 1) := by decide +kernel
theorem dJ2_getChar_3b067_31 : decode cJ2_getChar_3b067 31 = .ok (.istore_n 1, 1) := by decide +kernel
theorem dJ2_getChar_3b067_32 : decode cJ2_getChar_3b067 32 = .ok (.aload_n 0, 1) := by decide +kernel
theorem dJ2_getChar_3b067_33 : decode cJ2_getChar_3b067 33 = .ok (.iload_n 1, 1) := by decide +kernel
theorem dJ2_getChar_3b067_34 : decode cJ2_getChar_3b067 34 = .ok (.iinc 1 1, 3) := by decide +kernel
theorem dJ2_getChar_3b067_37 : decode cJ2_getChar_3b067 37 = .ok (.baload, 1) := by decide +kernel
theorem dJ2_getChar_3b067_38 : decode cJ2_getChar_3b067 38 = .ok (.sipush 255, 3) := by decide +kernel
theorem dJ2_getChar_3b067_41 : decode cJ2_getChar_3b067 41 = .ok (.iand, 1) := by decide +kernel
theorem dJ2_getChar_3b067_42 : decode cJ2_getChar_3b067 42 = .ok (.getstatic 59, 3) := by decide +kernel
theorem dJ2_getChar_3b067_45 : decode cJ2_getChar_3b067 45 = .ok (.ishl, 1) := by decide +kernel
theorem dJ2_getChar_3b067_46 : decode cJ2_getChar_3b067 46 = .ok (.aload_n 0, 1) := by decide +kernel
theorem dJ2_getChar_3b067_47 : decode cJ2_getChar_3b067 47 = .ok (.iload_n 1, 1) := by decide +kernel
theorem dJ2_getChar_3b067_48 : decode cJ2_getChar_3b067 48 = .ok (.baload, 1) := by decide +kernel
theorem dJ2_getChar_3b067_49 : decode cJ2_getChar_3b067 49 = .ok (.sipush 255, 3) := by decide +kernel
theorem dJ2_getChar_3b067_52 : decode cJ2_getChar_3b067 52 = .ok (.iand, 1) := by decide +kernel
theorem dJ2_getChar_3b067_53 : decode cJ2_getChar_3b067 53 = .ok (.getstatic 63, 3) := by decide +kernel
theorem dJ2_getChar_3b067_56 : decode cJ2_getChar_3b067 56 = .ok (.ishl, 1) := by decide +kernel
theorem dJ2_getChar_3b067_57 : decode cJ2_getChar_3b067 57 = .ok (.ior, 1) := by decide +kernel
theorem dJ2_getChar_3b067_58 : decode cJ2_getChar_3b067 58 = .ok (.i2c, 1) := by decide +kernel
theorem dJ2_getChar_3b067_59 : decode cJ2_getChar_3b067 59 = .ok (.ireturn, 1) := by decide +kernel
theorem dJ2_length_9d52b_0 : decode cJ2_length_9d52b 0 = .ok (.aload_n 0, 1) := by decide +kernel
theorem dJ2_length_9d52b_1 : decode cJ2_length_9d52b 1 = .ok (.arraylength, 1) := by decide +kernel
theorem dJ2_length_9d52b_2 : decode cJ2_length_9d52b 2 = .ok (.iconst 1, 1) := by decide +kernel
theorem dJ2_length_9d52b_3 : decode cJ2_length_9d52b 3 = .ok (.ishr, 1) := by decide +kernel
theorem dJ2_length_9d52b_4 : decode cJ2_length_9d52b 4 = .ok (.ireturn, 1) := by decide +kernel
theorem dJ2_indexOf_4cfef_0 : decode cJ2_indexOf_4cfef 0 = .ok (.iload_n 2, 1) := by decide +kernel
theorem dJ2_indexOf_4cfef_1 : decode cJ2_indexOf_4cfef 1 = .ok (.iconst 0, 1) := by decide +kernel
theorem dJ2_indexOf_4cfef_2 : decode cJ2_indexOf_4cfef 2 = .ok (.invokestatic 224, 3) := by decide +kernel
theorem dJ2_indexOf_4cfef_5 : decode cJ2_indexOf_4cfef 5 = .ok (.istore_n 2, 1) := by decide +kernel
theorem dJ2_indexOf_4cfef_6 : decode cJ2_indexOf_4cfef 6 = .ok (.iload_n 3, 1) := by decide +kernel
theorem dJ2_indexOf_4cfef_7 : decode cJ2_indexOf_4cfef 7 = .ok (.aload_n 0, 1) := by decide +kernel
theorem dJ2_indexOf_4cfef_8 : decode cJ2_indexOf_4cfef 8 = .ok (.arraylength, 1) := by decide +kernel
theorem dJ2_indexOf_4cfef_9 : decode cJ2_indexOf_4cfef 9 = .ok (.iconst 1, 1) := by decide +kernel
theorem dJ2_indexOf_4cfef_10 : decode cJ2_indexOf_4cfef 10 = .ok (.ishr, 1) := by decide +kernel
theorem dJ2_indexOf_4cfef_11 : decode cJ2_indexOf_4cfef 11 = .ok (.invokestatic 183, 3) := by decide +kernel
theorem dJ2_indexOf_4cfef_14 : decode cJ2_indexOf_4cfef 14 = .ok (.istore_n 3, 1) := by decide +kernel
theorem dJ2_indexOf_4cfef_15 : decode cJ2_indexOf_4cfef 15 = .ok (.iload_n 2, 1) := by decide +kernel
theorem dJ2_indexOf_4cfef_16 : decode cJ2_indexOf_4cfef 16 = .ok (.iload_n 3, 1) := by decide +kernel
theorem dJ2_indexOf_4cfef_17 : decode cJ2_indexOf_4cfef 17 = .ok (.if_icmp .lt 5, 3) := by decide +kernel
theorem dJ2_indexOf_4cfef_20 : decode cJ2_indexOf_4cfef 20 = .ok (.iconst (-1), 1) := by decide +kernel
theorem dJ2_indexOf_4cfef_21 : decode cJ2_indexOf_4cfef 21 = .ok (.ireturn, 1) := by decide +kernel
theorem dJ2_indexOf_4cfef_22 : decode cJ2_indexOf_4cfef 22 = .ok (.iload_n 1, 1) := by decide +kernel
theorem dJ2_indexOf_4cfef_23 : decode cJ2_indexOf_4cfef 23 = .ok (.ldc 227, 2) := by decide +kernel
theorem dJ2_indexOf_4cfef_25 : decode cJ2_indexOf_4cfef 25 = .ok (.if_icmp .ge 11, 3) := by decide +kernel
theorem dJ2_indexOf_4cfef_28 : decode cJ2_indexOf_4cfef 28 = .ok (.aload_n 0, 1) := by decide +kernel
theorem dJ2_indexOf_4cfef_29 : decode cJ2_indexOf_4cfef 29 = .ok (.iload_n 1, 1) := by decide +kernel
theorem dJ2_indexOf_4cfef_30 : decode cJ2_indexOf_4cfef 30 = .ok (.iload_n 2, 1) := by decide +kernel
theorem dJ2_indexOf_4cfef_31 : decode cJ2_indexOf_4cfef 31 = .ok (.iload_n 3, 1) := by decide +kernel
theorem dJ2_indexOf_4cfef_32 : decode cJ2_indexOf_4cfef 32 = .ok (.invokestatic 228, 3) := by decide +kernel
theorem dJ2_indexOf_4cfef_35 : decode cJ2_indexOf_4cfef 35 = .ok (.ireturn, 1) := by decide +kernel
theorem dJ2_indexOf_4cfef_36 : decode cJ2_indexOf_4cfef 36 = .ok (.aload_n 0, 1) := by decide +kernel
theorem dJ2_indexOf_4cfef_37 : decode cJ2_indexOf_4cfef 37 = .ok (.iload_n 1, 1) := by decide +kernel
theorem dJ2_indexOf_4cfef_38 : decode cJ2_indexOf_4cfef 38 = .ok (.iload_n 2, 1) := by decide +kernel
theorem dJ2_indexOf_4cfef_39 : decode cJ2_indexOf_4cfef 39 = .ok (.iload_n 3, 1) := by decide +kernel
theorem dJ2_indexOf_4cfef_40 : decode cJ2_indexOf_4cfef 40 = .ok (.invokestatic 232, 3) := by decide +kernel
theorem dJ2_indexOf_4cfef_43 : decode cJ2_indexOf_4cfef 43 = .ok (.ireturn, 1) := by decide +kernel
theorem dJ2_indexOfChar_4cfef_0 : decode cJ2_indexOfChar_4cfef 0 = .ok (.iload_n 2, 1) := by decide +kernel
theorem dJ2_indexOfChar_4cfef_1 : decode cJ2_indexOfChar_4cfef 1 = .ok (.iload_n 3, 1) := by decide +kernel
theorem dJ2_indexOfChar_4cfef_2 : decode cJ2_indexOfChar_4cfef 2 = .ok (.aload_n 0, 1) := by decide +kernel
theorem dJ2_indexOfChar_4cfef_3 : decode cJ2_indexOfChar_4cfef 3 = .ok (.invokestatic 96, 3) := by decide +kernel
theorem dJ2_indexOfChar_4cfef_6 : decode cJ2_indexOfChar_4cfef 6 = .ok (.aload_n 0, 1) := by decide +kernel
theorem dJ2_indexOfChar_4cfef_7 : decode cJ2_indexOfChar_4cfef 7 = .ok (.iload_n 1, 1) := by decide +kernel
theorem dJ2_indexOfChar_4cfef_8 : decode cJ2_indexOfChar_4cfef 8 = .ok (.iload_n 2, 1) := by decide +kernel
theorem dJ2_indexOfChar_4cfef_9 : decode cJ2_indexOfChar_4cfef 9 = .ok (.iload_n 3, 1) := by decide +kernel
theorem dJ2_indexOfChar_4cfef_10 : decode cJ2_indexOfChar_4cfef 10 = .ok (.invokestatic 244, 3) := by decide +kernel
theorem dJ2_indexOfChar_4cfef_13 : decode cJ2_indexOfChar_4cfef 13 = .ok (.ireturn, 1) := by decide +kernel
theorem dJ2_indexOfCharUnsafe_4cfef_0 : decode cJ2_indexOfCharUnsafe_4cfef 0 = .ok (.iload_n 2, 1) := by decide +kernel
theorem dJ2_indexOfCharUnsafe_4cfef_1 : decode cJ2_indexOfCharUnsafe_4cfef 1 = .ok (.istore 4, 2) := by decide +kernel
theorem dJ2_indexOfCharUnsafe_4cfef_3 : decode cJ2_indexOfCharUnsafe_4cfef 3 = .ok (.iload 4, 2) := by decide +kernel
theorem dJ2_indexOfCharUnsafe_4cfef_5 : decode cJ2_indexOfCharUnsafe_4cfef 5 = .ok (.iload_n 3, 1) := by decide +kernel
theorem dJ2_indexOfCharUnsafe_4cfef_6 : decode cJ2_indexOfCharUnsafe_4cfef 6 = .ok (.if_icmp .ge 22, 3) := by decide +kernel
theorem dJ2_indexOfCharUnsafe_4cfef_9 : decode cJ2_indexOfCharUnsafe_4cfef 9 = .ok (.aload_n 0, 1) := by decide +kernel
theorem dJ2_indexOfCharUnsafe_4cfef_10 : decode cJ2_indexOfCharUnsafe_4cfef 10 = .ok (.iload 4, 2) := by decide +kernel
theorem dJ2_indexOfCharUnsafe_4cfef_12 : decode cJ2_indexOfCharUnsafe_4cfef 12 = .ok (.invokestatic 71, 3) := by decide +kernel
theorem dJ2_indexOfCharUnsafe_4cfef_15 : decode cJ2_indexOfCharUnsafe_4cfef 15 = .ok (.iload_n 1, 1) := by decide +kernel
theorem dJ2_indexOfCharUnsafe_4cfef_16 : decode cJ2_indexOfCharUnsafe_4cfef 16 = .ok (.if_icmp .ne 6, 3) := by decide +kernel
theorem dJ2_indexOfCharUnsafe_4cfef_19 : decode cJ2_indexOfCharUnsafe_4cfef 19 = .ok (.iload 4, 2) := by decide +kernel
theorem dJ2_indexOfCharUnsafe_4cfef_21 : decode cJ2_indexOfCharUnsafe_4cfef 21 = .ok (.ireturn, 1) := by decide +kernel
theorem dJ2_indexOfCharUnsafe_4cfef_22 : decode cJ2_indexOfCharUnsafe_4cfef 22 = .ok (.iinc 4 1, 3) := by decide +kernel
theorem dJ2_indexOfCharUnsafe_4cfef_25 : decode cJ2_indexOfCharUnsafe_4cfef 25 = .ok (.goto (-22), 3) := by decide +kernel
theorem dJ2_indexOfCharUnsafe_4cfef_28 : decode cJ2_indexOfCharUnsafe_4cfef 28 = .ok (.iconst (-1), 1) := by decide +kernel
theorem dJ2_indexOfCharUnsafe_4cfef_29 : decode cJ2_indexOfCharUnsafe_4cfef 29 = .ok (.ireturn, 1) := by decide +kernel
theorem dJ2_indexOfSupplementary_4cfef_0 : decode cJ2_indexOfSupplementary_4cfef 0 = .ok (.iload_n 1, 1) := by decide +kernel
theorem dJ2_indexOfSupplementary_4cfef_1 : decode cJ2_indexOfSupplementary_4cfef 1 = .ok (.invokestatic 164, 3) := by decide +kernel
theorem dJ2_indexOfSupplementary_4cfef_4 : decode cJ2_indexOfSupplementary_4cfef 4 = .ok (.ifCond .eq 65, 3) := by decide +kernel
theorem dJ2_indexOfSupplementary_4cfef_7 : decode cJ2_indexOfSupplementary_4cfef 7 = .ok (.iload_n 1, 1) := by decide +kernel
theorem dJ2_indexOfSupplementary_4cfef_8 : decode cJ2_indexOfSupplementary_4cfef 8 = .ok (.invokestatic 157, 3) := by decide +kernel
theorem dJ2_indexOfSupplementary_4cfef_11 : decode cJ2_indexOfSupplementary_4cfef 11 = .ok (.istore 4, 2) := by decide +kernel
theorem dJ2_indexOfSupplementary_4cfef_13 : decode cJ2_indexOfSupplementary_4cfef 13 = .ok (.iload_n 1, 1) := by decide +kernel
theorem dJ2_indexOfSupplementary_4cfef_14 : decode cJ2_indexOfSupplementary_4cfef 14 = .ok (.invokestatic 161, 3) := by decide +kernel
theorem dJ2_indexOfSupplementary_4cfef_17 : decode cJ2_indexOfSupplementary_4cfef 17 = .ok (.istore 5, 2) := by decide +kernel
theorem dJ2_indexOfSupplementary_4cfef_19 : decode cJ2_indexOfSupplementary_4cfef 19 = .ok (.iload_n 2, 1) := by decide +kernel
theorem dJ2_indexOfSupplementary_4cfef_20 : decode cJ2_indexOfSupplementary_4cfef 20 = .ok (.iload_n 3, 1) := by decide +kernel
theorem dJ2_indexOfSupplementary_4cfef_21 : decode cJ2_indexOfSupplementary_4cfef 21 = .ok (.aload_n 0, 1) := by decide +kernel
theorem dJ2_indexOfSupplementary_4cfef_22 : decode cJ2_indexOfSupplementary_4cfef 22 = .ok (.invokestatic 96, 3) := by decide +kernel
theorem dJ2_indexOfSupplementary_4cfef_25 : decode cJ2_indexOfSupplementary_4cfef 25 = .ok (.iload_n 2, 1) := by decide +kernel
theorem dJ2_indexOfSupplementary_4cfef_26 : decode cJ2_indexOfSupplementary_4cfef 26 = .ok (.istore 6, 2) := by decide +kernel
theorem dJ2_indexOfSupplementary_4cfef_28 : decode cJ2_indexOfSupplementary_4cfef 28 = .ok (.iload 6, 2) := by decide +kernel
theorem dJ2_indexOfSupplementary_4cfef_30 : decode cJ2_indexOfSupplementary_4cfef 30 = .ok (.iload_n 3, 1) := by decide +kernel
theorem dJ2_indexOfSupplementary_4cfef_31 : decode cJ2_indexOfSupplementary_4cfef 31 = .ok (.iconst 1, 1) := by decide +kernel
theorem dJ2_indexOfSupplementary_4cfef_32 : decode cJ2_indexOfSupplementary_4cfef 32 = .ok (.isub, 1) := by decide +kernel
theorem dJ2_indexOfSupplementary_4cfef_33 : decode cJ2_indexOfSupplementary_4cfef 33 = .ok (.if_icmp .ge 36, 3) := by decide +kernel
theorem dJ2_indexOfSupplementary_4cfef_36 : decode cJ2_indexOfSupplementary_4cfef 36 = .ok (.aload_n 0, 1) := by decide +kernel
theorem dJ2_indexOfSupplementary_4cfef_37 : decode cJ2_indexOfSupplementary_4cfef 37 = .ok (.iload 6, 2) := by decide +kernel
theorem dJ2_indexOfSupplementary_4cfef_39 : decode cJ2_indexOfSupplementary_4cfef 39 = .ok (.invokestatic 71, 3) := by decide +kernel
theorem dJ2_indexOfSupplementary_4cfef_42 : decode cJ2_indexOfSupplementary_4cfef 42 = .ok (.iload 4, 2) := by decide +kernel
theorem dJ2_indexOfSupplementary_4cfef_44 : decode cJ2_indexOfSupplementary_4cfef 44 = .ok (.if_icmp .ne 19, 3) := by decide +kernel
theorem dJ2_indexOfSupplementary_4cfef_47 : decode cJ2_indexOfSupplementary_4cfef 47 = .ok (.aload_n 0, 1) := by decide +kernel
theorem dJ2_indexOfSupplementary_4cfef_48 : decode cJ2_indexOfSupplementary_4cfef 48 = .ok (.iload 6, 2) := by decide +kernel
theorem dJ2_indexOfSupplementary_4cfef_50 : decode cJ2_indexOfSupplementary_4cfef 50 = .ok (.iconst 1, 1) := by decide +kernel
theorem dJ2_indexOfSupplementary_4cfef_51 : decode cJ2_indexOfSupplementary_4cfef 51 = .ok (.iadd, 1) := by decide +kernel
theorem dJ2_indexOfSupplementary_4cfef_52 : decode cJ2_indexOfSupplementary_4cfef 52 = .ok (.invokestatic 71, 3) := by decide +kernel
theorem dJ2_indexOfSupplementary_4cfef_55 : decode cJ2_indexOfSupplementary_4cfef 55 = .ok (.iload 5, 2) := by decide +kernel
theorem dJ2_indexOfSupplementary_4cfef_57 : decode cJ2_indexOfSupplementary_4cfef 57 = .ok (.if_icmp .ne 6, 3) := by decide +kernel
theorem dJ2_indexOfSupplementary_4cfef_60 : decode cJ2_indexOfSupplementary_4cfef 60 = .ok (.iload 6, 2) := by decide +kernel
theorem dJ2_indexOfSupplementary_4cfef_62 : decode cJ2_indexOfSupplementary_4cfef 62 = .ok (.ireturn, 1) := by decide +kernel
theorem dJ2_indexOfSupplementary_4cfef_63 : decode cJ2_indexOfSupplementary_4cfef 63 = .ok (.iinc 6 1, 3) := by decide +kernel
theorem dJ2_indexOfSupplementary_4cfef_66 : decode cJ2_indexOfSupplementary_4cfef 66 = .ok (.goto (-38), 3) := by decide +kernel
theorem dJ2_indexOfSupplementary_4cfef_69 : decode cJ2_indexOfSupplementary_4cfef 69 = .ok (.iconst (-1), 1) := by decide +kernel
theorem dJ2_indexOfSupplementary_4cfef_70 : decode cJ2_indexOfSupplementary_4cfef 70 = .ok (.ireturn, 1) := by decide +kernel
theorem dJ2_checkBoundsBeginEnd_d044e_0 : decode cJ2_checkBoundsBeginEnd_d044e 0 = .ok (.iload_n 0, 1) := by decide +kernel
theorem dJ2_checkBoundsBeginEnd_d044e_1 : decode cJ2_checkBoundsBeginEnd_d044e 1 = .ok (.iload_n 1, 1) := by decide +kernel
theorem dJ2_checkBoundsBeginEnd_d044e_2 : decode cJ2_checkBoundsBeginEnd_d044e 2 = .ok (.aload_n 2, 1) := by decide +kernel
theorem dJ2_checkBoundsBeginEnd_d044e_3 : decode cJ2_checkBoundsBeginEnd_d044e 3 = .ok (.invokestatic 48, 3) := by decide +kernel
theorem dJ2_checkBoundsBeginEnd_d044e_6 : decode cJ2_checkBoundsBeginEnd_d044e 6 = .ok (.invokestatic 241, 3) := by decide +kernel
theorem dJ2_checkBoundsBeginEnd_d044e_9 : decode cJ2_checkBoundsBeginEnd_d044e 9 = .ok (.return_, 1) := by decide +kernel
theorem dJ3_checkFromToIndex_8c36e_0 : decode cJ3_checkFromToIndex_8c36e 0 = .ok (.iload_n 0, 1) := by decide +kernel
theorem dJ3_checkFromToIndex_8c36e_1 : decode cJ3_checkFromToIndex_8c36e 1 = .ok (.ifCond .lt 13, 3) := by decide +kernel
theorem dJ3_checkFromToIndex_8c36e_4 : decode cJ3_checkFromToIndex_8c36e 4 = .ok (.iload_n 0, 1) := by decide +kernel
theorem dJ3_checkFromToIndex_8c36e_5 : decode cJ3_checkFromToIndex_8c36e 5 = .ok (.iload_n 1, 1) := by decide +kernel
theorem dJ3_checkFromToIndex_8c36e_6 : decode cJ3_checkFromToIndex_8c36e 6 = .ok (.if_icmp .gt 8, 3) := by decide +kernel
theorem dJ3_checkFromToIndex_8c36e_9 : decode cJ3_checkFromToIndex_8c36e 9 = .ok (.iload_n 1, 1) := by decide +kernel
theorem dJ3_checkFromToIndex_8c36e_10 : decode cJ3_checkFromToIndex_8c36e 10 = .ok (.iload_n 2, 1) := by decide +kernel
theorem dJ3_checkFromToIndex_8c36e_11 : decode cJ3_checkFromToIndex_8c36e 11 = .ok (.if_icmp .le 11, 3) := by decide +kernel
theorem dJ3_checkFromToIndex_8c36e_14 : decode cJ3_checkFromToIndex_8c36e 14 = .ok (.aload_n 3, 1) := by decide +kernel
theorem dJ3_checkFromToIndex_8c36e_15 : decode cJ3_checkFromToIndex_8c36e 15 = .ok (.iload_n 0, 1) := by decide +kernel
theorem dJ3_checkFromToIndex_8c36e_16 : decode cJ3_checkFromToIndex_8c36e 16 = .ok (.iload_n 1, 1) := by decide +kernel
theorem dJ3_checkFromToIndex_8c36e_17 : decode cJ3_checkFromToIndex_8c36e 17 = .ok (.iload_n 2, 1) := by decide +kernel
theorem dJ3_checkFromToIndex_8c36e_18 : decode cJ3_checkFromToIndex_8c36e 18 = .ok (.invokestatic 99, 3) := by decide +kernel
theorem dJ3_checkFromToIndex_8c36e_21 : decode cJ3_checkFromToIndex_8c36e 21 = .ok (.athrow, 1) := by decide +kernel
theorem dJ3_checkFromToIndex_8c36e_22 : decode cJ3_checkFromToIndex_8c36e 22 = .ok (.iload_n 0, 1) := by decide +kernel
theorem dJ3_checkFromToIndex_8c36e_23 : decode cJ3_checkFromToIndex_8c36e 23 = .ok (.ireturn, 1) := by decide +kernel
theorem dL_law_0 : decode cL_law 0 = .ok (.new 7, 3) := by decide +kernel
theorem dL_law_3 : decode cL_law 3 = .ok (.dup, 1) := by decide +kernel
theorem dL_law_4 : decode cL_law 4 = .ok (.invokespecial 9, 3) := by decide +kernel
theorem dL_law_7 : decode cL_law 7 = .ok (.astore_n 1, 1) := by decide +kernel
theorem dL_law_8 : decode cL_law 8 = .ok (.new 10, 3) := by decide +kernel
theorem dL_law_11 : decode cL_law 11 = .ok (.dup, 1) := by decide +kernel
theorem dL_law_12 : decode cL_law 12 = .ok (.invokespecial 12, 3) := by decide +kernel
theorem dL_law_15 : decode cL_law 15 = .ok (.astore_n 2, 1) := by decide +kernel
theorem dL_law_16 : decode cL_law 16 = .ok (.iconst 0, 1) := by decide +kernel
theorem dL_law_17 : decode cL_law 17 = .ok (.istore_n 3, 1) := by decide +kernel
theorem dL_law_18 : decode cL_law 18 = .ok (.iload_n 3, 1) := by decide +kernel
theorem dL_law_19 : decode cL_law 19 = .ok (.aload_n 0, 1) := by decide +kernel
theorem dL_law_20 : decode cL_law 20 = .ok (.arraylength, 1) := by decide +kernel
theorem dL_law_21 : decode cL_law 21 = .ok (.iconst 5, 1) := by decide +kernel
theorem dL_law_22 : decode cL_law 22 = .ok (.isub, 1) := by decide +kernel
theorem dL_law_23 : decode cL_law 23 = .ok (.if_icmp .gt 1096, 3) := by decide +kernel
theorem dL_law_26 : decode cL_law 26 = .ok (.aload_n 0, 1) := by decide +kernel
theorem dL_law_27 : decode cL_law 27 = .ok (.iload_n 3, 1) := by decide +kernel
theorem dL_law_28 : decode cL_law 28 = .ok (.iaload, 1) := by decide +kernel
theorem dL_law_29 : decode cL_law 29 = .ok (.bipush 63, 2) := by decide +kernel
theorem dL_law_31 : decode cL_law 31 = .ok (.iand, 1) := by decide +kernel
theorem dL_law_32 : decode cL_law 32 = .ok (.tableswitch 1081 0 34 #[156, 219, 232, 275, 298, 331, 364, 407, 460, 513, 536, 559, 582, 605, 638, 671, 704, 727, 760, 783, 796, 809, 822, 835, 858, 871, 884, 917, 930, 963, 996, 1019, 1032, 1045, 1058], 156) := by decide +kernel
theorem dL_law_188 : decode cL_law 188 = .ok (.aload_n 1, 1) := by decide +kernel
theorem dL_law_189 : decode cL_law 189 = .ok (.aload_n 0, 1) := by decide +kernel
theorem dL_law_190 : decode cL_law 190 = .ok (.iload_n 3, 1) := by decide +kernel
theorem dL_law_191 : decode cL_law 191 = .ok (.iconst 1, 1) := by decide +kernel
theorem dL_law_192 : decode cL_law 192 = .ok (.iadd, 1) := by decide +kernel
theorem dL_law_193 : decode cL_law 193 = .ok (.iaload, 1) := by decide +kernel
theorem dL_law_194 : decode cL_law 194 = .ok (.aload_n 0, 1) := by decide +kernel
theorem dL_law_195 : decode cL_law 195 = .ok (.iload_n 3, 1) := by decide +kernel
theorem dL_law_196 : decode cL_law 196 = .ok (.iconst 2, 1) := by decide +kernel
theorem dL_law_197 : decode cL_law 197 = .ok (.iadd, 1) := by decide +kernel
theorem dL_law_198 : decode cL_law 198 = .ok (.iaload, 1) := by decide +kernel
theorem dL_law_199 : decode cL_law 199 = .ok (.i2l, 1) := by decide +kernel
theorem dL_law_200 : decode cL_law 200 = .ok (.bipush 32, 2) := by decide +kernel
theorem dL_law_202 : decode cL_law 202 = .ok (.lshl, 1) := by decide +kernel
theorem dL_law_203 : decode cL_law 203 = .ok (.aload_n 0, 1) := by decide +kernel
theorem dL_law_204 : decode cL_law 204 = .ok (.iload_n 3, 1) := by decide +kernel
theorem dL_law_205 : decode cL_law 205 = .ok (.iconst 3, 1) := by decide +kernel
theorem dL_law_206 : decode cL_law 206 = .ok (.iadd, 1) := by decide +kernel
theorem dL_law_207 : decode cL_law 207 = .ok (.iaload, 1) := by decide +kernel
theorem dL_law_208 : decode cL_law 208 = .ok (.i2l, 1) := by decide +kernel
theorem dL_law_209 : decode cL_law 209 = .ok (.ldc2_w 13, 3) := by decide +kernel
theorem dL_law_212 : decode cL_law 212 = .ok (.land, 1) := by decide +kernel
theorem dL_law_213 : decode cL_law 213 = .ok (.lor, 1) := by decide +kernel
theorem dL_law_214 : decode cL_law 214 = .ok (.invokevirtual 15, 3) := by decide +kernel
theorem dL_law_217 : decode cL_law 217 = .ok (.aload_n 2, 1) := by decide +kernel
theorem dL_law_218 : decode cL_law 218 = .ok (.aload_n 0, 1) := by decide +kernel
theorem dL_law_219 : decode cL_law 219 = .ok (.iload_n 3, 1) := by decide +kernel
theorem dL_law_220 : decode cL_law 220 = .ok (.iconst 1, 1) := by decide +kernel
theorem dL_law_221 : decode cL_law 221 = .ok (.iadd, 1) := by decide +kernel
theorem dL_law_222 : decode cL_law 222 = .ok (.iaload, 1) := by decide +kernel
theorem dL_law_223 : decode cL_law 223 = .ok (.aload_n 0, 1) := by decide +kernel
theorem dL_law_224 : decode cL_law 224 = .ok (.iload_n 3, 1) := by decide +kernel
theorem dL_law_225 : decode cL_law 225 = .ok (.iconst 2, 1) := by decide +kernel
theorem dL_law_226 : decode cL_law 226 = .ok (.iadd, 1) := by decide +kernel
theorem dL_law_227 : decode cL_law 227 = .ok (.iaload, 1) := by decide +kernel
theorem dL_law_228 : decode cL_law 228 = .ok (.i2l, 1) := by decide +kernel
theorem dL_law_229 : decode cL_law 229 = .ok (.bipush 32, 2) := by decide +kernel
theorem dL_law_231 : decode cL_law 231 = .ok (.lshl, 1) := by decide +kernel
theorem dL_law_232 : decode cL_law 232 = .ok (.aload_n 0, 1) := by decide +kernel
theorem dL_law_233 : decode cL_law 233 = .ok (.iload_n 3, 1) := by decide +kernel
theorem dL_law_234 : decode cL_law 234 = .ok (.iconst 3, 1) := by decide +kernel
theorem dL_law_235 : decode cL_law 235 = .ok (.iadd, 1) := by decide +kernel
theorem dL_law_236 : decode cL_law 236 = .ok (.iaload, 1) := by decide +kernel
theorem dL_law_237 : decode cL_law 237 = .ok (.i2l, 1) := by decide +kernel
theorem dL_law_238 : decode cL_law 238 = .ok (.ldc2_w 13, 3) := by decide +kernel
theorem dL_law_241 : decode cL_law 241 = .ok (.land, 1) := by decide +kernel
theorem dL_law_242 : decode cL_law 242 = .ok (.lor, 1) := by decide +kernel
theorem dL_law_243 : decode cL_law 243 = .ok (.invokevirtual 19, 3) := by decide +kernel
theorem dL_law_246 : decode cL_law 246 = .ok (.if_icmp .eq 867, 3) := by decide +kernel
theorem dL_law_249 : decode cL_law 249 = .ok (.iconst 0, 1) := by decide +kernel
theorem dL_law_250 : decode cL_law 250 = .ok (.ireturn, 1) := by decide +kernel
theorem dL_law_251 : decode cL_law 251 = .ok (.aload_n 1, 1) := by decide +kernel
theorem dL_law_252 : decode cL_law 252 = .ok (.invokevirtual 20, 3) := by decide +kernel
theorem dL_law_255 : decode cL_law 255 = .ok (.aload_n 2, 1) := by decide +kernel
theorem dL_law_256 : decode cL_law 256 = .ok (.invokevirtual 24, 3) := by decide +kernel
theorem dL_law_259 : decode cL_law 259 = .ok (.if_icmp .eq 854, 3) := by decide +kernel
theorem dL_law_262 : decode cL_law 262 = .ok (.iconst 0, 1) := by decide +kernel
theorem dL_law_263 : decode cL_law 263 = .ok (.ireturn, 1) := by decide +kernel
theorem dL_law_264 : decode cL_law 264 = .ok (.aload_n 1, 1) := by decide +kernel
theorem dL_law_265 : decode cL_law 265 = .ok (.aload_n 0, 1) := by decide +kernel
theorem dL_law_266 : decode cL_law 266 = .ok (.iload_n 3, 1) := by decide +kernel
theorem dL_law_267 : decode cL_law 267 = .ok (.iconst 1, 1) := by decide +kernel
theorem dL_law_268 : decode cL_law 268 = .ok (.iadd, 1) := by decide +kernel
theorem dL_law_269 : decode cL_law 269 = .ok (.iaload, 1) := by decide +kernel
theorem dL_law_270 : decode cL_law 270 = .ok (.aload_n 0, 1) := by decide +kernel
theorem dL_law_271 : decode cL_law 271 = .ok (.iload_n 3, 1) := by decide +kernel
theorem dL_law_272 : decode cL_law 272 = .ok (.iconst 2, 1) := by decide +kernel
theorem dL_law_273 : decode cL_law 273 = .ok (.iadd, 1) := by decide +kernel
theorem dL_law_274 : decode cL_law 274 = .ok (.iaload, 1) := by decide +kernel
theorem dL_law_275 : decode cL_law 275 = .ok (.aload_n 0, 1) := by decide +kernel
theorem dL_law_276 : decode cL_law 276 = .ok (.iload_n 3, 1) := by decide +kernel
theorem dL_law_277 : decode cL_law 277 = .ok (.iconst 3, 1) := by decide +kernel
theorem dL_law_278 : decode cL_law 278 = .ok (.iadd, 1) := by decide +kernel
theorem dL_law_279 : decode cL_law 279 = .ok (.iaload, 1) := by decide +kernel
theorem dL_law_280 : decode cL_law 280 = .ok (.invokevirtual 25, 3) := by decide +kernel
theorem dL_law_283 : decode cL_law 283 = .ok (.aload_n 2, 1) := by decide +kernel
theorem dL_law_284 : decode cL_law 284 = .ok (.aload_n 0, 1) := by decide +kernel
theorem dL_law_285 : decode cL_law 285 = .ok (.iload_n 3, 1) := by decide +kernel
theorem dL_law_286 : decode cL_law 286 = .ok (.iconst 1, 1) := by decide +kernel
theorem dL_law_287 : decode cL_law 287 = .ok (.iadd, 1) := by decide +kernel
theorem dL_law_288 : decode cL_law 288 = .ok (.iaload, 1) := by decide +kernel
theorem dL_law_289 : decode cL_law 289 = .ok (.aload_n 0, 1) := by decide +kernel
theorem dL_law_290 : decode cL_law 290 = .ok (.iload_n 3, 1) := by decide +kernel
theorem dL_law_291 : decode cL_law 291 = .ok (.iconst 2, 1) := by decide +kernel
theorem dL_law_292 : decode cL_law 292 = .ok (.iadd, 1) := by decide +kernel
theorem dL_law_293 : decode cL_law 293 = .ok (.iaload, 1) := by decide +kernel
theorem dL_law_294 : decode cL_law 294 = .ok (.aload_n 0, 1) := by decide +kernel
theorem dL_law_295 : decode cL_law 295 = .ok (.iload_n 3, 1) := by decide +kernel
theorem dL_law_296 : decode cL_law 296 = .ok (.iconst 3, 1) := by decide +kernel
theorem dL_law_297 : decode cL_law 297 = .ok (.iadd, 1) := by decide +kernel
theorem dL_law_298 : decode cL_law 298 = .ok (.iaload, 1) := by decide +kernel
theorem dL_law_299 : decode cL_law 299 = .ok (.invokevirtual 29, 3) := by decide +kernel
theorem dL_law_302 : decode cL_law 302 = .ok (.if_icmp .eq 811, 3) := by decide +kernel
theorem dL_law_305 : decode cL_law 305 = .ok (.iconst 0, 1) := by decide +kernel
theorem dL_law_306 : decode cL_law 306 = .ok (.ireturn, 1) := by decide +kernel
theorem dL_law_307 : decode cL_law 307 = .ok (.aload_n 1, 1) := by decide +kernel
theorem dL_law_308 : decode cL_law 308 = .ok (.aload_n 0, 1) := by decide +kernel
theorem dL_law_309 : decode cL_law 309 = .ok (.iload_n 3, 1) := by decide +kernel
theorem dL_law_310 : decode cL_law 310 = .ok (.iconst 1, 1) := by decide +kernel
theorem dL_law_311 : decode cL_law 311 = .ok (.iadd, 1) := by decide +kernel
theorem dL_law_312 : decode cL_law 312 = .ok (.iaload, 1) := by decide +kernel
theorem dL_law_313 : decode cL_law 313 = .ok (.invokevirtual 30, 3) := by decide +kernel
theorem dL_law_316 : decode cL_law 316 = .ok (.aload_n 2, 1) := by decide +kernel
theorem dL_law_317 : decode cL_law 317 = .ok (.aload_n 0, 1) := by decide +kernel
theorem dL_law_318 : decode cL_law 318 = .ok (.iload_n 3, 1) := by decide +kernel
theorem dL_law_319 : decode cL_law 319 = .ok (.iconst 1, 1) := by decide +kernel
theorem dL_law_320 : decode cL_law 320 = .ok (.iadd, 1) := by decide +kernel
theorem dL_law_321 : decode cL_law 321 = .ok (.iaload, 1) := by decide +kernel
theorem dL_law_322 : decode cL_law 322 = .ok (.invokevirtual 34, 3) := by decide +kernel
theorem dL_law_325 : decode cL_law 325 = .ok (.if_icmp .eq 788, 3) := by decide +kernel
theorem dL_law_328 : decode cL_law 328 = .ok (.iconst 0, 1) := by decide +kernel
theorem dL_law_329 : decode cL_law 329 = .ok (.ireturn, 1) := by decide +kernel
theorem dL_law_330 : decode cL_law 330 = .ok (.aload_n 1, 1) := by decide +kernel
theorem dL_law_331 : decode cL_law 331 = .ok (.aload_n 0, 1) := by decide +kernel
theorem dL_law_332 : decode cL_law 332 = .ok (.iload_n 3, 1) := by decide +kernel
theorem dL_law_333 : decode cL_law 333 = .ok (.iconst 1, 1) := by decide +kernel
theorem dL_law_334 : decode cL_law 334 = .ok (.iadd, 1) := by decide +kernel
theorem dL_law_335 : decode cL_law 335 = .ok (.iaload, 1) := by decide +kernel
theorem dL_law_336 : decode cL_law 336 = .ok (.aload_n 0, 1) := by decide +kernel
theorem dL_law_337 : decode cL_law 337 = .ok (.iload_n 3, 1) := by decide +kernel
theorem dL_law_338 : decode cL_law 338 = .ok (.iconst 2, 1) := by decide +kernel
theorem dL_law_339 : decode cL_law 339 = .ok (.iadd, 1) := by decide +kernel
theorem dL_law_340 : decode cL_law 340 = .ok (.iaload, 1) := by decide +kernel
theorem dL_law_341 : decode cL_law 341 = .ok (.invokevirtual 35, 3) := by decide +kernel
theorem dL_law_344 : decode cL_law 344 = .ok (.aload_n 2, 1) := by decide +kernel
theorem dL_law_345 : decode cL_law 345 = .ok (.aload_n 0, 1) := by decide +kernel
theorem dL_law_346 : decode cL_law 346 = .ok (.iload_n 3, 1) := by decide +kernel
theorem dL_law_347 : decode cL_law 347 = .ok (.iconst 1, 1) := by decide +kernel
theorem dL_law_348 : decode cL_law 348 = .ok (.iadd, 1) := by decide +kernel
theorem dL_law_349 : decode cL_law 349 = .ok (.iaload, 1) := by decide +kernel
theorem dL_law_350 : decode cL_law 350 = .ok (.aload_n 0, 1) := by decide +kernel
theorem dL_law_351 : decode cL_law 351 = .ok (.iload_n 3, 1) := by decide +kernel
theorem dL_law_352 : decode cL_law 352 = .ok (.iconst 2, 1) := by decide +kernel
theorem dL_law_353 : decode cL_law 353 = .ok (.iadd, 1) := by decide +kernel
theorem dL_law_354 : decode cL_law 354 = .ok (.iaload, 1) := by decide +kernel
theorem dL_law_355 : decode cL_law 355 = .ok (.invokevirtual 39, 3) := by decide +kernel
theorem dL_law_358 : decode cL_law 358 = .ok (.if_icmp .eq 755, 3) := by decide +kernel
theorem dL_law_361 : decode cL_law 361 = .ok (.iconst 0, 1) := by decide +kernel
theorem dL_law_362 : decode cL_law 362 = .ok (.ireturn, 1) := by decide +kernel
theorem dL_law_363 : decode cL_law 363 = .ok (.aload_n 1, 1) := by decide +kernel
theorem dL_law_364 : decode cL_law 364 = .ok (.aload_n 0, 1) := by decide +kernel
theorem dL_law_365 : decode cL_law 365 = .ok (.iload_n 3, 1) := by decide +kernel
theorem dL_law_366 : decode cL_law 366 = .ok (.iconst 1, 1) := by decide +kernel
theorem dL_law_367 : decode cL_law 367 = .ok (.iadd, 1) := by decide +kernel
theorem dL_law_368 : decode cL_law 368 = .ok (.iaload, 1) := by decide +kernel
theorem dL_law_369 : decode cL_law 369 = .ok (.aload_n 0, 1) := by decide +kernel
theorem dL_law_370 : decode cL_law 370 = .ok (.iload_n 3, 1) := by decide +kernel
theorem dL_law_371 : decode cL_law 371 = .ok (.iconst 2, 1) := by decide +kernel
theorem dL_law_372 : decode cL_law 372 = .ok (.iadd, 1) := by decide +kernel
theorem dL_law_373 : decode cL_law 373 = .ok (.iaload, 1) := by decide +kernel
theorem dL_law_374 : decode cL_law 374 = .ok (.invokevirtual 40, 3) := by decide +kernel
theorem dL_law_377 : decode cL_law 377 = .ok (.aload_n 2, 1) := by decide +kernel
theorem dL_law_378 : decode cL_law 378 = .ok (.aload_n 0, 1) := by decide +kernel
theorem dL_law_379 : decode cL_law 379 = .ok (.iload_n 3, 1) := by decide +kernel
theorem dL_law_380 : decode cL_law 380 = .ok (.iconst 1, 1) := by decide +kernel
theorem dL_law_381 : decode cL_law 381 = .ok (.iadd, 1) := by decide +kernel
theorem dL_law_382 : decode cL_law 382 = .ok (.iaload, 1) := by decide +kernel
theorem dL_law_383 : decode cL_law 383 = .ok (.aload_n 0, 1) := by decide +kernel
theorem dL_law_384 : decode cL_law 384 = .ok (.iload_n 3, 1) := by decide +kernel
theorem dL_law_385 : decode cL_law 385 = .ok (.iconst 2, 1) := by decide +kernel
theorem dL_law_386 : decode cL_law 386 = .ok (.iadd, 1) := by decide +kernel
theorem dL_law_387 : decode cL_law 387 = .ok (.iaload, 1) := by decide +kernel
theorem dL_law_388 : decode cL_law 388 = .ok (.invokevirtual 43, 3) := by decide +kernel
theorem dL_law_391 : decode cL_law 391 = .ok (.if_icmp .eq 722, 3) := by decide +kernel
theorem dL_law_394 : decode cL_law 394 = .ok (.iconst 0, 1) := by decide +kernel
theorem dL_law_395 : decode cL_law 395 = .ok (.ireturn, 1) := by decide +kernel
theorem dL_law_396 : decode cL_law 396 = .ok (.aload_n 1, 1) := by decide +kernel
theorem dL_law_397 : decode cL_law 397 = .ok (.aload_n 0, 1) := by decide +kernel
theorem dL_law_398 : decode cL_law 398 = .ok (.iload_n 3, 1) := by decide +kernel
theorem dL_law_399 : decode cL_law 399 = .ok (.iconst 1, 1) := by decide +kernel
theorem dL_law_400 : decode cL_law 400 = .ok (.iadd, 1) := by decide +kernel
theorem dL_law_401 : decode cL_law 401 = .ok (.iaload, 1) := by decide +kernel
theorem dL_law_402 : decode cL_law 402 = .ok (.aload_n 0, 1) := by decide +kernel
theorem dL_law_403 : decode cL_law 403 = .ok (.iload_n 3, 1) := by decide +kernel
theorem dL_law_404 : decode cL_law 404 = .ok (.iconst 2, 1) := by decide +kernel
theorem dL_law_405 : decode cL_law 405 = .ok (.iadd, 1) := by decide +kernel
theorem dL_law_406 : decode cL_law 406 = .ok (.iaload, 1) := by decide +kernel
theorem dL_law_407 : decode cL_law 407 = .ok (.aload_n 0, 1) := by decide +kernel
theorem dL_law_408 : decode cL_law 408 = .ok (.iload_n 3, 1) := by decide +kernel
theorem dL_law_409 : decode cL_law 409 = .ok (.iconst 3, 1) := by decide +kernel
theorem dL_law_410 : decode cL_law 410 = .ok (.iadd, 1) := by decide +kernel
theorem dL_law_411 : decode cL_law 411 = .ok (.iaload, 1) := by decide +kernel
theorem dL_law_412 : decode cL_law 412 = .ok (.invokevirtual 44, 3) := by decide +kernel
theorem dL_law_415 : decode cL_law 415 = .ok (.aload_n 2, 1) := by decide +kernel
theorem dL_law_416 : decode cL_law 416 = .ok (.aload_n 0, 1) := by decide +kernel
theorem dL_law_417 : decode cL_law 417 = .ok (.iload_n 3, 1) := by decide +kernel
theorem dL_law_418 : decode cL_law 418 = .ok (.iconst 1, 1) := by decide +kernel
theorem dL_law_419 : decode cL_law 419 = .ok (.iadd, 1) := by decide +kernel
theorem dL_law_420 : decode cL_law 420 = .ok (.iaload, 1) := by decide +kernel
theorem dL_law_421 : decode cL_law 421 = .ok (.aload_n 0, 1) := by decide +kernel
theorem dL_law_422 : decode cL_law 422 = .ok (.iload_n 3, 1) := by decide +kernel
theorem dL_law_423 : decode cL_law 423 = .ok (.iconst 2, 1) := by decide +kernel
theorem dL_law_424 : decode cL_law 424 = .ok (.iadd, 1) := by decide +kernel
theorem dL_law_425 : decode cL_law 425 = .ok (.iaload, 1) := by decide +kernel
theorem dL_law_426 : decode cL_law 426 = .ok (.aload_n 0, 1) := by decide +kernel
theorem dL_law_427 : decode cL_law 427 = .ok (.iload_n 3, 1) := by decide +kernel
theorem dL_law_428 : decode cL_law 428 = .ok (.iconst 3, 1) := by decide +kernel
theorem dL_law_429 : decode cL_law 429 = .ok (.iadd, 1) := by decide +kernel
theorem dL_law_430 : decode cL_law 430 = .ok (.iaload, 1) := by decide +kernel
theorem dL_law_431 : decode cL_law 431 = .ok (.invokevirtual 47, 3) := by decide +kernel
theorem dL_law_434 : decode cL_law 434 = .ok (.if_icmp .eq 679, 3) := by decide +kernel
theorem dL_law_437 : decode cL_law 437 = .ok (.iconst 0, 1) := by decide +kernel
theorem dL_law_438 : decode cL_law 438 = .ok (.ireturn, 1) := by decide +kernel
theorem dL_law_439 : decode cL_law 439 = .ok (.aload_n 1, 1) := by decide +kernel
theorem dL_law_440 : decode cL_law 440 = .ok (.aload_n 0, 1) := by decide +kernel
theorem dL_law_441 : decode cL_law 441 = .ok (.iload_n 3, 1) := by decide +kernel
theorem dL_law_442 : decode cL_law 442 = .ok (.iconst 1, 1) := by decide +kernel
theorem dL_law_443 : decode cL_law 443 = .ok (.iadd, 1) := by decide +kernel
theorem dL_law_444 : decode cL_law 444 = .ok (.iaload, 1) := by decide +kernel
theorem dL_law_445 : decode cL_law 445 = .ok (.aload_n 0, 1) := by decide +kernel
theorem dL_law_446 : decode cL_law 446 = .ok (.iload_n 3, 1) := by decide +kernel
theorem dL_law_447 : decode cL_law 447 = .ok (.iconst 2, 1) := by decide +kernel
theorem dL_law_448 : decode cL_law 448 = .ok (.iadd, 1) := by decide +kernel
theorem dL_law_449 : decode cL_law 449 = .ok (.iaload, 1) := by decide +kernel
theorem dL_law_450 : decode cL_law 450 = .ok (.aload_n 0, 1) := by decide +kernel
theorem dL_law_451 : decode cL_law 451 = .ok (.iload_n 3, 1) := by decide +kernel
theorem dL_law_452 : decode cL_law 452 = .ok (.iconst 3, 1) := by decide +kernel
theorem dL_law_453 : decode cL_law 453 = .ok (.iadd, 1) := by decide +kernel
theorem dL_law_454 : decode cL_law 454 = .ok (.iaload, 1) := by decide +kernel
theorem dL_law_455 : decode cL_law 455 = .ok (.aload_n 0, 1) := by decide +kernel
theorem dL_law_456 : decode cL_law 456 = .ok (.iload_n 3, 1) := by decide +kernel
theorem dL_law_457 : decode cL_law 457 = .ok (.iconst 4, 1) := by decide +kernel
theorem dL_law_458 : decode cL_law 458 = .ok (.iadd, 1) := by decide +kernel
theorem dL_law_459 : decode cL_law 459 = .ok (.iaload, 1) := by decide +kernel
theorem dL_law_460 : decode cL_law 460 = .ok (.invokevirtual 48, 3) := by decide +kernel
theorem dL_law_463 : decode cL_law 463 = .ok (.aload_n 2, 1) := by decide +kernel
theorem dL_law_464 : decode cL_law 464 = .ok (.aload_n 0, 1) := by decide +kernel
theorem dL_law_465 : decode cL_law 465 = .ok (.iload_n 3, 1) := by decide +kernel
theorem dL_law_466 : decode cL_law 466 = .ok (.iconst 1, 1) := by decide +kernel
theorem dL_law_467 : decode cL_law 467 = .ok (.iadd, 1) := by decide +kernel
theorem dL_law_468 : decode cL_law 468 = .ok (.iaload, 1) := by decide +kernel
theorem dL_law_469 : decode cL_law 469 = .ok (.aload_n 0, 1) := by decide +kernel
theorem dL_law_470 : decode cL_law 470 = .ok (.iload_n 3, 1) := by decide +kernel
theorem dL_law_471 : decode cL_law 471 = .ok (.iconst 2, 1) := by decide +kernel
theorem dL_law_472 : decode cL_law 472 = .ok (.iadd, 1) := by decide +kernel
theorem dL_law_473 : decode cL_law 473 = .ok (.iaload, 1) := by decide +kernel
theorem dL_law_474 : decode cL_law 474 = .ok (.aload_n 0, 1) := by decide +kernel
theorem dL_law_475 : decode cL_law 475 = .ok (.iload_n 3, 1) := by decide +kernel
theorem dL_law_476 : decode cL_law 476 = .ok (.iconst 3, 1) := by decide +kernel
theorem dL_law_477 : decode cL_law 477 = .ok (.iadd, 1) := by decide +kernel
theorem dL_law_478 : decode cL_law 478 = .ok (.iaload, 1) := by decide +kernel
theorem dL_law_479 : decode cL_law 479 = .ok (.aload_n 0, 1) := by decide +kernel
theorem dL_law_480 : decode cL_law 480 = .ok (.iload_n 3, 1) := by decide +kernel
theorem dL_law_481 : decode cL_law 481 = .ok (.iconst 4, 1) := by decide +kernel
theorem dL_law_482 : decode cL_law 482 = .ok (.iadd, 1) := by decide +kernel
theorem dL_law_483 : decode cL_law 483 = .ok (.iaload, 1) := by decide +kernel
theorem dL_law_484 : decode cL_law 484 = .ok (.invokevirtual 52, 3) := by decide +kernel
theorem dL_law_487 : decode cL_law 487 = .ok (.if_icmp .eq 626, 3) := by decide +kernel
theorem dL_law_490 : decode cL_law 490 = .ok (.iconst 0, 1) := by decide +kernel
theorem dL_law_491 : decode cL_law 491 = .ok (.ireturn, 1) := by decide +kernel
theorem dL_law_492 : decode cL_law 492 = .ok (.aload_n 1, 1) := by decide +kernel
theorem dL_law_493 : decode cL_law 493 = .ok (.aload_n 0, 1) := by decide +kernel
theorem dL_law_494 : decode cL_law 494 = .ok (.iload_n 3, 1) := by decide +kernel
theorem dL_law_495 : decode cL_law 495 = .ok (.iconst 1, 1) := by decide +kernel
theorem dL_law_496 : decode cL_law 496 = .ok (.iadd, 1) := by decide +kernel
theorem dL_law_497 : decode cL_law 497 = .ok (.iaload, 1) := by decide +kernel
theorem dL_law_498 : decode cL_law 498 = .ok (.aload_n 0, 1) := by decide +kernel
theorem dL_law_499 : decode cL_law 499 = .ok (.iload_n 3, 1) := by decide +kernel
theorem dL_law_500 : decode cL_law 500 = .ok (.iconst 2, 1) := by decide +kernel
theorem dL_law_501 : decode cL_law 501 = .ok (.iadd, 1) := by decide +kernel
theorem dL_law_502 : decode cL_law 502 = .ok (.iaload, 1) := by decide +kernel
theorem dL_law_503 : decode cL_law 503 = .ok (.aload_n 0, 1) := by decide +kernel
theorem dL_law_504 : decode cL_law 504 = .ok (.iload_n 3, 1) := by decide +kernel
theorem dL_law_505 : decode cL_law 505 = .ok (.iconst 3, 1) := by decide +kernel
theorem dL_law_506 : decode cL_law 506 = .ok (.iadd, 1) := by decide +kernel
theorem dL_law_507 : decode cL_law 507 = .ok (.iaload, 1) := by decide +kernel
theorem dL_law_508 : decode cL_law 508 = .ok (.aload_n 0, 1) := by decide +kernel
theorem dL_law_509 : decode cL_law 509 = .ok (.iload_n 3, 1) := by decide +kernel
theorem dL_law_510 : decode cL_law 510 = .ok (.iconst 4, 1) := by decide +kernel
theorem dL_law_511 : decode cL_law 511 = .ok (.iadd, 1) := by decide +kernel
theorem dL_law_512 : decode cL_law 512 = .ok (.iaload, 1) := by decide +kernel
theorem dL_law_513 : decode cL_law 513 = .ok (.invokevirtual 53, 3) := by decide +kernel
theorem dL_law_516 : decode cL_law 516 = .ok (.aload_n 2, 1) := by decide +kernel
theorem dL_law_517 : decode cL_law 517 = .ok (.aload_n 0, 1) := by decide +kernel
theorem dL_law_518 : decode cL_law 518 = .ok (.iload_n 3, 1) := by decide +kernel
theorem dL_law_519 : decode cL_law 519 = .ok (.iconst 1, 1) := by decide +kernel
theorem dL_law_520 : decode cL_law 520 = .ok (.iadd, 1) := by decide +kernel
theorem dL_law_521 : decode cL_law 521 = .ok (.iaload, 1) := by decide +kernel
theorem dL_law_522 : decode cL_law 522 = .ok (.aload_n 0, 1) := by decide +kernel
theorem dL_law_523 : decode cL_law 523 = .ok (.iload_n 3, 1) := by decide +kernel
theorem dL_law_524 : decode cL_law 524 = .ok (.iconst 2, 1) := by decide +kernel
theorem dL_law_525 : decode cL_law 525 = .ok (.iadd, 1) := by decide +kernel
theorem dL_law_526 : decode cL_law 526 = .ok (.iaload, 1) := by decide +kernel
theorem dL_law_527 : decode cL_law 527 = .ok (.aload_n 0, 1) := by decide +kernel
theorem dL_law_528 : decode cL_law 528 = .ok (.iload_n 3, 1) := by decide +kernel
theorem dL_law_529 : decode cL_law 529 = .ok (.iconst 3, 1) := by decide +kernel
theorem dL_law_530 : decode cL_law 530 = .ok (.iadd, 1) := by decide +kernel
theorem dL_law_531 : decode cL_law 531 = .ok (.iaload, 1) := by decide +kernel
theorem dL_law_532 : decode cL_law 532 = .ok (.aload_n 0, 1) := by decide +kernel
theorem dL_law_533 : decode cL_law 533 = .ok (.iload_n 3, 1) := by decide +kernel
theorem dL_law_534 : decode cL_law 534 = .ok (.iconst 4, 1) := by decide +kernel
theorem dL_law_535 : decode cL_law 535 = .ok (.iadd, 1) := by decide +kernel
theorem dL_law_536 : decode cL_law 536 = .ok (.iaload, 1) := by decide +kernel
theorem dL_law_537 : decode cL_law 537 = .ok (.invokevirtual 56, 3) := by decide +kernel
theorem dL_law_540 : decode cL_law 540 = .ok (.if_icmp .eq 573, 3) := by decide +kernel
theorem dL_law_543 : decode cL_law 543 = .ok (.iconst 0, 1) := by decide +kernel
theorem dL_law_544 : decode cL_law 544 = .ok (.ireturn, 1) := by decide +kernel
theorem dL_law_545 : decode cL_law 545 = .ok (.aload_n 1, 1) := by decide +kernel
theorem dL_law_546 : decode cL_law 546 = .ok (.aload_n 0, 1) := by decide +kernel
theorem dL_law_547 : decode cL_law 547 = .ok (.iload_n 3, 1) := by decide +kernel
theorem dL_law_548 : decode cL_law 548 = .ok (.iconst 1, 1) := by decide +kernel
theorem dL_law_549 : decode cL_law 549 = .ok (.iadd, 1) := by decide +kernel
theorem dL_law_550 : decode cL_law 550 = .ok (.iaload, 1) := by decide +kernel
theorem dL_law_551 : decode cL_law 551 = .ok (.invokevirtual 57, 3) := by decide +kernel
theorem dL_law_554 : decode cL_law 554 = .ok (.aload_n 2, 1) := by decide +kernel
theorem dL_law_555 : decode cL_law 555 = .ok (.aload_n 0, 1) := by decide +kernel
theorem dL_law_556 : decode cL_law 556 = .ok (.iload_n 3, 1) := by decide +kernel
theorem dL_law_557 : decode cL_law 557 = .ok (.iconst 1, 1) := by decide +kernel
theorem dL_law_558 : decode cL_law 558 = .ok (.iadd, 1) := by decide +kernel
theorem dL_law_559 : decode cL_law 559 = .ok (.iaload, 1) := by decide +kernel
theorem dL_law_560 : decode cL_law 560 = .ok (.invokevirtual 60, 3) := by decide +kernel
theorem dL_law_563 : decode cL_law 563 = .ok (.if_icmp .eq 550, 3) := by decide +kernel
theorem dL_law_566 : decode cL_law 566 = .ok (.iconst 0, 1) := by decide +kernel
theorem dL_law_567 : decode cL_law 567 = .ok (.ireturn, 1) := by decide +kernel
theorem dL_law_568 : decode cL_law 568 = .ok (.aload_n 1, 1) := by decide +kernel
theorem dL_law_569 : decode cL_law 569 = .ok (.aload_n 0, 1) := by decide +kernel
theorem dL_law_570 : decode cL_law 570 = .ok (.iload_n 3, 1) := by decide +kernel
theorem dL_law_571 : decode cL_law 571 = .ok (.iconst 1, 1) := by decide +kernel
theorem dL_law_572 : decode cL_law 572 = .ok (.iadd, 1) := by decide +kernel
theorem dL_law_573 : decode cL_law 573 = .ok (.iaload, 1) := by decide +kernel
theorem dL_law_574 : decode cL_law 574 = .ok (.invokevirtual 61, 3) := by decide +kernel
theorem dL_law_577 : decode cL_law 577 = .ok (.aload_n 2, 1) := by decide +kernel
theorem dL_law_578 : decode cL_law 578 = .ok (.aload_n 0, 1) := by decide +kernel
theorem dL_law_579 : decode cL_law 579 = .ok (.iload_n 3, 1) := by decide +kernel
theorem dL_law_580 : decode cL_law 580 = .ok (.iconst 1, 1) := by decide +kernel
theorem dL_law_581 : decode cL_law 581 = .ok (.iadd, 1) := by decide +kernel
theorem dL_law_582 : decode cL_law 582 = .ok (.iaload, 1) := by decide +kernel
theorem dL_law_583 : decode cL_law 583 = .ok (.invokevirtual 64, 3) := by decide +kernel
theorem dL_law_586 : decode cL_law 586 = .ok (.if_icmp .eq 527, 3) := by decide +kernel
theorem dL_law_589 : decode cL_law 589 = .ok (.iconst 0, 1) := by decide +kernel
theorem dL_law_590 : decode cL_law 590 = .ok (.ireturn, 1) := by decide +kernel
theorem dL_law_591 : decode cL_law 591 = .ok (.aload_n 1, 1) := by decide +kernel
theorem dL_law_592 : decode cL_law 592 = .ok (.aload_n 0, 1) := by decide +kernel
theorem dL_law_593 : decode cL_law 593 = .ok (.iload_n 3, 1) := by decide +kernel
theorem dL_law_594 : decode cL_law 594 = .ok (.iconst 1, 1) := by decide +kernel
theorem dL_law_595 : decode cL_law 595 = .ok (.iadd, 1) := by decide +kernel
theorem dL_law_596 : decode cL_law 596 = .ok (.iaload, 1) := by decide +kernel
theorem dL_law_597 : decode cL_law 597 = .ok (.invokevirtual 65, 3) := by decide +kernel
theorem dL_law_600 : decode cL_law 600 = .ok (.aload_n 2, 1) := by decide +kernel
theorem dL_law_601 : decode cL_law 601 = .ok (.aload_n 0, 1) := by decide +kernel
theorem dL_law_602 : decode cL_law 602 = .ok (.iload_n 3, 1) := by decide +kernel
theorem dL_law_603 : decode cL_law 603 = .ok (.iconst 1, 1) := by decide +kernel
theorem dL_law_604 : decode cL_law 604 = .ok (.iadd, 1) := by decide +kernel
theorem dL_law_605 : decode cL_law 605 = .ok (.iaload, 1) := by decide +kernel
theorem dL_law_606 : decode cL_law 606 = .ok (.invokevirtual 68, 3) := by decide +kernel
theorem dL_law_609 : decode cL_law 609 = .ok (.if_icmp .eq 504, 3) := by decide +kernel
theorem dL_law_612 : decode cL_law 612 = .ok (.iconst 0, 1) := by decide +kernel
theorem dL_law_613 : decode cL_law 613 = .ok (.ireturn, 1) := by decide +kernel
theorem dL_law_614 : decode cL_law 614 = .ok (.aload_n 1, 1) := by decide +kernel
theorem dL_law_615 : decode cL_law 615 = .ok (.aload_n 0, 1) := by decide +kernel
theorem dL_law_616 : decode cL_law 616 = .ok (.iload_n 3, 1) := by decide +kernel
theorem dL_law_617 : decode cL_law 617 = .ok (.iconst 1, 1) := by decide +kernel
theorem dL_law_618 : decode cL_law 618 = .ok (.iadd, 1) := by decide +kernel
theorem dL_law_619 : decode cL_law 619 = .ok (.iaload, 1) := by decide +kernel
theorem dL_law_620 : decode cL_law 620 = .ok (.invokevirtual 69, 3) := by decide +kernel
theorem dL_law_623 : decode cL_law 623 = .ok (.aload_n 2, 1) := by decide +kernel
theorem dL_law_624 : decode cL_law 624 = .ok (.aload_n 0, 1) := by decide +kernel
theorem dL_law_625 : decode cL_law 625 = .ok (.iload_n 3, 1) := by decide +kernel
theorem dL_law_626 : decode cL_law 626 = .ok (.iconst 1, 1) := by decide +kernel
theorem dL_law_627 : decode cL_law 627 = .ok (.iadd, 1) := by decide +kernel
theorem dL_law_628 : decode cL_law 628 = .ok (.iaload, 1) := by decide +kernel
theorem dL_law_629 : decode cL_law 629 = .ok (.invokevirtual 72, 3) := by decide +kernel
theorem dL_law_632 : decode cL_law 632 = .ok (.if_icmp .eq 481, 3) := by decide +kernel
theorem dL_law_635 : decode cL_law 635 = .ok (.iconst 0, 1) := by decide +kernel
theorem dL_law_636 : decode cL_law 636 = .ok (.ireturn, 1) := by decide +kernel
theorem dL_law_637 : decode cL_law 637 = .ok (.aload_n 1, 1) := by decide +kernel
theorem dL_law_638 : decode cL_law 638 = .ok (.aload_n 0, 1) := by decide +kernel
theorem dL_law_639 : decode cL_law 639 = .ok (.iload_n 3, 1) := by decide +kernel
theorem dL_law_640 : decode cL_law 640 = .ok (.iconst 1, 1) := by decide +kernel
theorem dL_law_641 : decode cL_law 641 = .ok (.iadd, 1) := by decide +kernel
theorem dL_law_642 : decode cL_law 642 = .ok (.iaload, 1) := by decide +kernel
theorem dL_law_643 : decode cL_law 643 = .ok (.aload_n 0, 1) := by decide +kernel
theorem dL_law_644 : decode cL_law 644 = .ok (.iload_n 3, 1) := by decide +kernel
theorem dL_law_645 : decode cL_law 645 = .ok (.iconst 2, 1) := by decide +kernel
theorem dL_law_646 : decode cL_law 646 = .ok (.iadd, 1) := by decide +kernel
theorem dL_law_647 : decode cL_law 647 = .ok (.iaload, 1) := by decide +kernel
theorem dL_law_648 : decode cL_law 648 = .ok (.invokevirtual 73, 3) := by decide +kernel
theorem dL_law_651 : decode cL_law 651 = .ok (.aload_n 2, 1) := by decide +kernel
theorem dL_law_652 : decode cL_law 652 = .ok (.aload_n 0, 1) := by decide +kernel
theorem dL_law_653 : decode cL_law 653 = .ok (.iload_n 3, 1) := by decide +kernel
theorem dL_law_654 : decode cL_law 654 = .ok (.iconst 1, 1) := by decide +kernel
theorem dL_law_655 : decode cL_law 655 = .ok (.iadd, 1) := by decide +kernel
theorem dL_law_656 : decode cL_law 656 = .ok (.iaload, 1) := by decide +kernel
theorem dL_law_657 : decode cL_law 657 = .ok (.aload_n 0, 1) := by decide +kernel
theorem dL_law_658 : decode cL_law 658 = .ok (.iload_n 3, 1) := by decide +kernel
theorem dL_law_659 : decode cL_law 659 = .ok (.iconst 2, 1) := by decide +kernel
theorem dL_law_660 : decode cL_law 660 = .ok (.iadd, 1) := by decide +kernel
theorem dL_law_661 : decode cL_law 661 = .ok (.iaload, 1) := by decide +kernel
theorem dL_law_662 : decode cL_law 662 = .ok (.invokevirtual 76, 3) := by decide +kernel
theorem dL_law_665 : decode cL_law 665 = .ok (.if_icmp .eq 448, 3) := by decide +kernel
theorem dL_law_668 : decode cL_law 668 = .ok (.iconst 0, 1) := by decide +kernel
theorem dL_law_669 : decode cL_law 669 = .ok (.ireturn, 1) := by decide +kernel
theorem dL_law_670 : decode cL_law 670 = .ok (.aload_n 1, 1) := by decide +kernel
theorem dL_law_671 : decode cL_law 671 = .ok (.aload_n 0, 1) := by decide +kernel
theorem dL_law_672 : decode cL_law 672 = .ok (.iload_n 3, 1) := by decide +kernel
theorem dL_law_673 : decode cL_law 673 = .ok (.iconst 1, 1) := by decide +kernel
theorem dL_law_674 : decode cL_law 674 = .ok (.iadd, 1) := by decide +kernel
theorem dL_law_675 : decode cL_law 675 = .ok (.iaload, 1) := by decide +kernel
theorem dL_law_676 : decode cL_law 676 = .ok (.aload_n 0, 1) := by decide +kernel
theorem dL_law_677 : decode cL_law 677 = .ok (.iload_n 3, 1) := by decide +kernel
theorem dL_law_678 : decode cL_law 678 = .ok (.iconst 2, 1) := by decide +kernel
theorem dL_law_679 : decode cL_law 679 = .ok (.iadd, 1) := by decide +kernel
theorem dL_law_680 : decode cL_law 680 = .ok (.iaload, 1) := by decide +kernel
theorem dL_law_681 : decode cL_law 681 = .ok (.invokevirtual 77, 3) := by decide +kernel
theorem dL_law_684 : decode cL_law 684 = .ok (.aload_n 2, 1) := by decide +kernel
theorem dL_law_685 : decode cL_law 685 = .ok (.aload_n 0, 1) := by decide +kernel
theorem dL_law_686 : decode cL_law 686 = .ok (.iload_n 3, 1) := by decide +kernel
theorem dL_law_687 : decode cL_law 687 = .ok (.iconst 1, 1) := by decide +kernel
theorem dL_law_688 : decode cL_law 688 = .ok (.iadd, 1) := by decide +kernel
theorem dL_law_689 : decode cL_law 689 = .ok (.iaload, 1) := by decide +kernel
theorem dL_law_690 : decode cL_law 690 = .ok (.aload_n 0, 1) := by decide +kernel
theorem dL_law_691 : decode cL_law 691 = .ok (.iload_n 3, 1) := by decide +kernel
theorem dL_law_692 : decode cL_law 692 = .ok (.iconst 2, 1) := by decide +kernel
theorem dL_law_693 : decode cL_law 693 = .ok (.iadd, 1) := by decide +kernel
theorem dL_law_694 : decode cL_law 694 = .ok (.iaload, 1) := by decide +kernel
theorem dL_law_695 : decode cL_law 695 = .ok (.invokevirtual 80, 3) := by decide +kernel
theorem dL_law_698 : decode cL_law 698 = .ok (.if_icmp .eq 415, 3) := by decide +kernel
theorem dL_law_701 : decode cL_law 701 = .ok (.iconst 0, 1) := by decide +kernel
theorem dL_law_702 : decode cL_law 702 = .ok (.ireturn, 1) := by decide +kernel
theorem dL_law_703 : decode cL_law 703 = .ok (.aload_n 1, 1) := by decide +kernel
theorem dL_law_704 : decode cL_law 704 = .ok (.aload_n 0, 1) := by decide +kernel
theorem dL_law_705 : decode cL_law 705 = .ok (.iload_n 3, 1) := by decide +kernel
theorem dL_law_706 : decode cL_law 706 = .ok (.iconst 1, 1) := by decide +kernel
theorem dL_law_707 : decode cL_law 707 = .ok (.iadd, 1) := by decide +kernel
theorem dL_law_708 : decode cL_law 708 = .ok (.iaload, 1) := by decide +kernel
theorem dL_law_709 : decode cL_law 709 = .ok (.aload_n 0, 1) := by decide +kernel
theorem dL_law_710 : decode cL_law 710 = .ok (.iload_n 3, 1) := by decide +kernel
theorem dL_law_711 : decode cL_law 711 = .ok (.iconst 2, 1) := by decide +kernel
theorem dL_law_712 : decode cL_law 712 = .ok (.iadd, 1) := by decide +kernel
theorem dL_law_713 : decode cL_law 713 = .ok (.iaload, 1) := by decide +kernel
theorem dL_law_714 : decode cL_law 714 = .ok (.invokevirtual 81, 3) := by decide +kernel
theorem dL_law_717 : decode cL_law 717 = .ok (.aload_n 2, 1) := by decide +kernel
theorem dL_law_718 : decode cL_law 718 = .ok (.aload_n 0, 1) := by decide +kernel
theorem dL_law_719 : decode cL_law 719 = .ok (.iload_n 3, 1) := by decide +kernel
theorem dL_law_720 : decode cL_law 720 = .ok (.iconst 1, 1) := by decide +kernel
theorem dL_law_721 : decode cL_law 721 = .ok (.iadd, 1) := by decide +kernel
theorem dL_law_722 : decode cL_law 722 = .ok (.iaload, 1) := by decide +kernel
theorem dL_law_723 : decode cL_law 723 = .ok (.aload_n 0, 1) := by decide +kernel
theorem dL_law_724 : decode cL_law 724 = .ok (.iload_n 3, 1) := by decide +kernel
theorem dL_law_725 : decode cL_law 725 = .ok (.iconst 2, 1) := by decide +kernel
theorem dL_law_726 : decode cL_law 726 = .ok (.iadd, 1) := by decide +kernel
theorem dL_law_727 : decode cL_law 727 = .ok (.iaload, 1) := by decide +kernel
theorem dL_law_728 : decode cL_law 728 = .ok (.invokevirtual 84, 3) := by decide +kernel
theorem dL_law_731 : decode cL_law 731 = .ok (.if_icmp .eq 382, 3) := by decide +kernel
theorem dL_law_734 : decode cL_law 734 = .ok (.iconst 0, 1) := by decide +kernel
theorem dL_law_735 : decode cL_law 735 = .ok (.ireturn, 1) := by decide +kernel
theorem dL_law_736 : decode cL_law 736 = .ok (.aload_n 1, 1) := by decide +kernel
theorem dL_law_737 : decode cL_law 737 = .ok (.aload_n 0, 1) := by decide +kernel
theorem dL_law_738 : decode cL_law 738 = .ok (.iload_n 3, 1) := by decide +kernel
theorem dL_law_739 : decode cL_law 739 = .ok (.iconst 1, 1) := by decide +kernel
theorem dL_law_740 : decode cL_law 740 = .ok (.iadd, 1) := by decide +kernel
theorem dL_law_741 : decode cL_law 741 = .ok (.iaload, 1) := by decide +kernel
theorem dL_law_742 : decode cL_law 742 = .ok (.invokevirtual 85, 3) := by decide +kernel
theorem dL_law_745 : decode cL_law 745 = .ok (.aload_n 2, 1) := by decide +kernel
theorem dL_law_746 : decode cL_law 746 = .ok (.aload_n 0, 1) := by decide +kernel
theorem dL_law_747 : decode cL_law 747 = .ok (.iload_n 3, 1) := by decide +kernel
theorem dL_law_748 : decode cL_law 748 = .ok (.iconst 1, 1) := by decide +kernel
theorem dL_law_749 : decode cL_law 749 = .ok (.iadd, 1) := by decide +kernel
theorem dL_law_750 : decode cL_law 750 = .ok (.iaload, 1) := by decide +kernel
theorem dL_law_751 : decode cL_law 751 = .ok (.invokevirtual 88, 3) := by decide +kernel
theorem dL_law_754 : decode cL_law 754 = .ok (.if_icmp .eq 359, 3) := by decide +kernel
theorem dL_law_757 : decode cL_law 757 = .ok (.iconst 0, 1) := by decide +kernel
theorem dL_law_758 : decode cL_law 758 = .ok (.ireturn, 1) := by decide +kernel
theorem dL_law_759 : decode cL_law 759 = .ok (.aload_n 1, 1) := by decide +kernel
theorem dL_law_760 : decode cL_law 760 = .ok (.aload_n 0, 1) := by decide +kernel
theorem dL_law_761 : decode cL_law 761 = .ok (.iload_n 3, 1) := by decide +kernel
theorem dL_law_762 : decode cL_law 762 = .ok (.iconst 1, 1) := by decide +kernel
theorem dL_law_763 : decode cL_law 763 = .ok (.iadd, 1) := by decide +kernel
theorem dL_law_764 : decode cL_law 764 = .ok (.iaload, 1) := by decide +kernel
theorem dL_law_765 : decode cL_law 765 = .ok (.aload_n 0, 1) := by decide +kernel
theorem dL_law_766 : decode cL_law 766 = .ok (.iload_n 3, 1) := by decide +kernel
theorem dL_law_767 : decode cL_law 767 = .ok (.iconst 2, 1) := by decide +kernel
theorem dL_law_768 : decode cL_law 768 = .ok (.iadd, 1) := by decide +kernel
theorem dL_law_769 : decode cL_law 769 = .ok (.iaload, 1) := by decide +kernel
theorem dL_law_770 : decode cL_law 770 = .ok (.invokevirtual 89, 3) := by decide +kernel
theorem dL_law_773 : decode cL_law 773 = .ok (.aload_n 2, 1) := by decide +kernel
theorem dL_law_774 : decode cL_law 774 = .ok (.aload_n 0, 1) := by decide +kernel
theorem dL_law_775 : decode cL_law 775 = .ok (.iload_n 3, 1) := by decide +kernel
theorem dL_law_776 : decode cL_law 776 = .ok (.iconst 1, 1) := by decide +kernel
theorem dL_law_777 : decode cL_law 777 = .ok (.iadd, 1) := by decide +kernel
theorem dL_law_778 : decode cL_law 778 = .ok (.iaload, 1) := by decide +kernel
theorem dL_law_779 : decode cL_law 779 = .ok (.aload_n 0, 1) := by decide +kernel
theorem dL_law_780 : decode cL_law 780 = .ok (.iload_n 3, 1) := by decide +kernel
theorem dL_law_781 : decode cL_law 781 = .ok (.iconst 2, 1) := by decide +kernel
theorem dL_law_782 : decode cL_law 782 = .ok (.iadd, 1) := by decide +kernel
theorem dL_law_783 : decode cL_law 783 = .ok (.iaload, 1) := by decide +kernel
theorem dL_law_784 : decode cL_law 784 = .ok (.invokevirtual 92, 3) := by decide +kernel
theorem dL_law_787 : decode cL_law 787 = .ok (.if_icmp .eq 326, 3) := by decide +kernel
theorem dL_law_790 : decode cL_law 790 = .ok (.iconst 0, 1) := by decide +kernel
theorem dL_law_791 : decode cL_law 791 = .ok (.ireturn, 1) := by decide +kernel
theorem dL_law_792 : decode cL_law 792 = .ok (.aload_n 1, 1) := by decide +kernel
theorem dL_law_793 : decode cL_law 793 = .ok (.aload_n 0, 1) := by decide +kernel
theorem dL_law_794 : decode cL_law 794 = .ok (.iload_n 3, 1) := by decide +kernel
theorem dL_law_795 : decode cL_law 795 = .ok (.iconst 1, 1) := by decide +kernel
theorem dL_law_796 : decode cL_law 796 = .ok (.iadd, 1) := by decide +kernel
theorem dL_law_797 : decode cL_law 797 = .ok (.iaload, 1) := by decide +kernel
theorem dL_law_798 : decode cL_law 798 = .ok (.invokevirtual 93, 3) := by decide +kernel
theorem dL_law_801 : decode cL_law 801 = .ok (.aload_n 2, 1) := by decide +kernel
theorem dL_law_802 : decode cL_law 802 = .ok (.aload_n 0, 1) := by decide +kernel
theorem dL_law_803 : decode cL_law 803 = .ok (.iload_n 3, 1) := by decide +kernel
theorem dL_law_804 : decode cL_law 804 = .ok (.iconst 1, 1) := by decide +kernel
theorem dL_law_805 : decode cL_law 805 = .ok (.iadd, 1) := by decide +kernel
theorem dL_law_806 : decode cL_law 806 = .ok (.iaload, 1) := by decide +kernel
theorem dL_law_807 : decode cL_law 807 = .ok (.invokevirtual 96, 3) := by decide +kernel
theorem dL_law_810 : decode cL_law 810 = .ok (.if_icmp .eq 303, 3) := by decide +kernel
theorem dL_law_813 : decode cL_law 813 = .ok (.iconst 0, 1) := by decide +kernel
theorem dL_law_814 : decode cL_law 814 = .ok (.ireturn, 1) := by decide +kernel
theorem dL_law_815 : decode cL_law 815 = .ok (.aload_n 1, 1) := by decide +kernel
theorem dL_law_816 : decode cL_law 816 = .ok (.invokevirtual 97, 3) := by decide +kernel
theorem dL_law_819 : decode cL_law 819 = .ok (.aload_n 2, 1) := by decide +kernel
theorem dL_law_820 : decode cL_law 820 = .ok (.invokevirtual 100, 3) := by decide +kernel
theorem dL_law_823 : decode cL_law 823 = .ok (.if_icmp .eq 290, 3) := by decide +kernel
theorem dL_law_826 : decode cL_law 826 = .ok (.iconst 0, 1) := by decide +kernel
theorem dL_law_827 : decode cL_law 827 = .ok (.ireturn, 1) := by decide +kernel
theorem dL_law_828 : decode cL_law 828 = .ok (.aload_n 1, 1) := by decide +kernel
theorem dL_law_829 : decode cL_law 829 = .ok (.invokevirtual 101, 3) := by decide +kernel
theorem dL_law_832 : decode cL_law 832 = .ok (.aload_n 2, 1) := by decide +kernel
theorem dL_law_833 : decode cL_law 833 = .ok (.invokevirtual 104, 3) := by decide +kernel
theorem dL_law_836 : decode cL_law 836 = .ok (.if_icmp .eq 277, 3) := by decide +kernel
theorem dL_law_839 : decode cL_law 839 = .ok (.iconst 0, 1) := by decide +kernel
theorem dL_law_840 : decode cL_law 840 = .ok (.ireturn, 1) := by decide +kernel
theorem dL_law_841 : decode cL_law 841 = .ok (.aload_n 1, 1) := by decide +kernel
theorem dL_law_842 : decode cL_law 842 = .ok (.invokevirtual 105, 3) := by decide +kernel
theorem dL_law_845 : decode cL_law 845 = .ok (.aload_n 2, 1) := by decide +kernel
theorem dL_law_846 : decode cL_law 846 = .ok (.invokevirtual 108, 3) := by decide +kernel
theorem dL_law_849 : decode cL_law 849 = .ok (.if_icmp .eq 264, 3) := by decide +kernel
theorem dL_law_852 : decode cL_law 852 = .ok (.iconst 0, 1) := by decide +kernel
theorem dL_law_853 : decode cL_law 853 = .ok (.ireturn, 1) := by decide +kernel
theorem dL_law_854 : decode cL_law 854 = .ok (.aload_n 1, 1) := by decide +kernel
theorem dL_law_855 : decode cL_law 855 = .ok (.invokevirtual 109, 3) := by decide +kernel
theorem dL_law_858 : decode cL_law 858 = .ok (.aload_n 2, 1) := by decide +kernel
theorem dL_law_859 : decode cL_law 859 = .ok (.invokevirtual 112, 3) := by decide +kernel
theorem dL_law_862 : decode cL_law 862 = .ok (.if_icmp .eq 251, 3) := by decide +kernel
theorem dL_law_865 : decode cL_law 865 = .ok (.iconst 0, 1) := by decide +kernel
theorem dL_law_866 : decode cL_law 866 = .ok (.ireturn, 1) := by decide +kernel
theorem dL_law_867 : decode cL_law 867 = .ok (.aload_n 1, 1) := by decide +kernel
theorem dL_law_868 : decode cL_law 868 = .ok (.aload_n 0, 1) := by decide +kernel
theorem dL_law_869 : decode cL_law 869 = .ok (.iload_n 3, 1) := by decide +kernel
theorem dL_law_870 : decode cL_law 870 = .ok (.iconst 1, 1) := by decide +kernel
theorem dL_law_871 : decode cL_law 871 = .ok (.iadd, 1) := by decide +kernel
theorem dL_law_872 : decode cL_law 872 = .ok (.iaload, 1) := by decide +kernel
theorem dL_law_873 : decode cL_law 873 = .ok (.invokevirtual 113, 3) := by decide +kernel
theorem dL_law_876 : decode cL_law 876 = .ok (.aload_n 2, 1) := by decide +kernel
theorem dL_law_877 : decode cL_law 877 = .ok (.aload_n 0, 1) := by decide +kernel
theorem dL_law_878 : decode cL_law 878 = .ok (.iload_n 3, 1) := by decide +kernel
theorem dL_law_879 : decode cL_law 879 = .ok (.iconst 1, 1) := by decide +kernel
theorem dL_law_880 : decode cL_law 880 = .ok (.iadd, 1) := by decide +kernel
theorem dL_law_881 : decode cL_law 881 = .ok (.iaload, 1) := by decide +kernel
theorem dL_law_882 : decode cL_law 882 = .ok (.invokevirtual 116, 3) := by decide +kernel
theorem dL_law_885 : decode cL_law 885 = .ok (.if_icmp .eq 228, 3) := by decide +kernel
theorem dL_law_888 : decode cL_law 888 = .ok (.iconst 0, 1) := by decide +kernel
theorem dL_law_889 : decode cL_law 889 = .ok (.ireturn, 1) := by decide +kernel
theorem dL_law_890 : decode cL_law 890 = .ok (.aload_n 1, 1) := by decide +kernel
theorem dL_law_891 : decode cL_law 891 = .ok (.invokevirtual 117, 3) := by decide +kernel
theorem dL_law_894 : decode cL_law 894 = .ok (.aload_n 2, 1) := by decide +kernel
theorem dL_law_895 : decode cL_law 895 = .ok (.invokevirtual 120, 3) := by decide +kernel
theorem dL_law_898 : decode cL_law 898 = .ok (.if_icmp .eq 215, 3) := by decide +kernel
theorem dL_law_901 : decode cL_law 901 = .ok (.iconst 0, 1) := by decide +kernel
theorem dL_law_902 : decode cL_law 902 = .ok (.ireturn, 1) := by decide +kernel
theorem dL_law_903 : decode cL_law 903 = .ok (.aload_n 1, 1) := by decide +kernel
theorem dL_law_904 : decode cL_law 904 = .ok (.invokevirtual 121, 3) := by decide +kernel
theorem dL_law_907 : decode cL_law 907 = .ok (.aload_n 2, 1) := by decide +kernel
theorem dL_law_908 : decode cL_law 908 = .ok (.invokevirtual 124, 3) := by decide +kernel
theorem dL_law_911 : decode cL_law 911 = .ok (.if_icmp .eq 202, 3) := by decide +kernel
theorem dL_law_914 : decode cL_law 914 = .ok (.iconst 0, 1) := by decide +kernel
theorem dL_law_915 : decode cL_law 915 = .ok (.ireturn, 1) := by decide +kernel
theorem dL_law_916 : decode cL_law 916 = .ok (.aload_n 1, 1) := by decide +kernel
theorem dL_law_917 : decode cL_law 917 = .ok (.aload_n 0, 1) := by decide +kernel
theorem dL_law_918 : decode cL_law 918 = .ok (.iload_n 3, 1) := by decide +kernel
theorem dL_law_919 : decode cL_law 919 = .ok (.iconst 1, 1) := by decide +kernel
theorem dL_law_920 : decode cL_law 920 = .ok (.iadd, 1) := by decide +kernel
theorem dL_law_921 : decode cL_law 921 = .ok (.iaload, 1) := by decide +kernel
theorem dL_law_922 : decode cL_law 922 = .ok (.aload_n 0, 1) := by decide +kernel
theorem dL_law_923 : decode cL_law 923 = .ok (.iload_n 3, 1) := by decide +kernel
theorem dL_law_924 : decode cL_law 924 = .ok (.iconst 2, 1) := by decide +kernel
theorem dL_law_925 : decode cL_law 925 = .ok (.iadd, 1) := by decide +kernel
theorem dL_law_926 : decode cL_law 926 = .ok (.iaload, 1) := by decide +kernel
theorem dL_law_927 : decode cL_law 927 = .ok (.invokevirtual 125, 3) := by decide +kernel
theorem dL_law_930 : decode cL_law 930 = .ok (.aload_n 2, 1) := by decide +kernel
theorem dL_law_931 : decode cL_law 931 = .ok (.aload_n 0, 1) := by decide +kernel
theorem dL_law_932 : decode cL_law 932 = .ok (.iload_n 3, 1) := by decide +kernel
theorem dL_law_933 : decode cL_law 933 = .ok (.iconst 1, 1) := by decide +kernel
theorem dL_law_934 : decode cL_law 934 = .ok (.iadd, 1) := by decide +kernel
theorem dL_law_935 : decode cL_law 935 = .ok (.iaload, 1) := by decide +kernel
theorem dL_law_936 : decode cL_law 936 = .ok (.aload_n 0, 1) := by decide +kernel
theorem dL_law_937 : decode cL_law 937 = .ok (.iload_n 3, 1) := by decide +kernel
theorem dL_law_938 : decode cL_law 938 = .ok (.iconst 2, 1) := by decide +kernel
theorem dL_law_939 : decode cL_law 939 = .ok (.iadd, 1) := by decide +kernel
theorem dL_law_940 : decode cL_law 940 = .ok (.iaload, 1) := by decide +kernel
theorem dL_law_941 : decode cL_law 941 = .ok (.invokevirtual 128, 3) := by decide +kernel
theorem dL_law_944 : decode cL_law 944 = .ok (.if_icmp .eq 169, 3) := by decide +kernel
theorem dL_law_947 : decode cL_law 947 = .ok (.iconst 0, 1) := by decide +kernel
theorem dL_law_948 : decode cL_law 948 = .ok (.ireturn, 1) := by decide +kernel
theorem dL_law_949 : decode cL_law 949 = .ok (.aload_n 1, 1) := by decide +kernel
theorem dL_law_950 : decode cL_law 950 = .ok (.invokevirtual 129, 3) := by decide +kernel
theorem dL_law_953 : decode cL_law 953 = .ok (.aload_n 2, 1) := by decide +kernel
theorem dL_law_954 : decode cL_law 954 = .ok (.invokevirtual 132, 3) := by decide +kernel
theorem dL_law_957 : decode cL_law 957 = .ok (.if_icmp .eq 156, 3) := by decide +kernel
theorem dL_law_960 : decode cL_law 960 = .ok (.iconst 0, 1) := by decide +kernel
theorem dL_law_961 : decode cL_law 961 = .ok (.ireturn, 1) := by decide +kernel
theorem dL_law_962 : decode cL_law 962 = .ok (.aload_n 1, 1) := by decide +kernel
theorem dL_law_963 : decode cL_law 963 = .ok (.aload_n 0, 1) := by decide +kernel
theorem dL_law_964 : decode cL_law 964 = .ok (.iload_n 3, 1) := by decide +kernel
theorem dL_law_965 : decode cL_law 965 = .ok (.iconst 1, 1) := by decide +kernel
theorem dL_law_966 : decode cL_law 966 = .ok (.iadd, 1) := by decide +kernel
theorem dL_law_967 : decode cL_law 967 = .ok (.iaload, 1) := by decide +kernel
theorem dL_law_968 : decode cL_law 968 = .ok (.aload_n 0, 1) := by decide +kernel
theorem dL_law_969 : decode cL_law 969 = .ok (.iload_n 3, 1) := by decide +kernel
theorem dL_law_970 : decode cL_law 970 = .ok (.iconst 2, 1) := by decide +kernel
theorem dL_law_971 : decode cL_law 971 = .ok (.iadd, 1) := by decide +kernel
theorem dL_law_972 : decode cL_law 972 = .ok (.iaload, 1) := by decide +kernel
theorem dL_law_973 : decode cL_law 973 = .ok (.invokevirtual 133, 3) := by decide +kernel
theorem dL_law_976 : decode cL_law 976 = .ok (.aload_n 2, 1) := by decide +kernel
theorem dL_law_977 : decode cL_law 977 = .ok (.aload_n 0, 1) := by decide +kernel
theorem dL_law_978 : decode cL_law 978 = .ok (.iload_n 3, 1) := by decide +kernel
theorem dL_law_979 : decode cL_law 979 = .ok (.iconst 1, 1) := by decide +kernel
theorem dL_law_980 : decode cL_law 980 = .ok (.iadd, 1) := by decide +kernel
theorem dL_law_981 : decode cL_law 981 = .ok (.iaload, 1) := by decide +kernel
theorem dL_law_982 : decode cL_law 982 = .ok (.aload_n 0, 1) := by decide +kernel
theorem dL_law_983 : decode cL_law 983 = .ok (.iload_n 3, 1) := by decide +kernel
theorem dL_law_984 : decode cL_law 984 = .ok (.iconst 2, 1) := by decide +kernel
theorem dL_law_985 : decode cL_law 985 = .ok (.iadd, 1) := by decide +kernel
theorem dL_law_986 : decode cL_law 986 = .ok (.iaload, 1) := by decide +kernel
theorem dL_law_987 : decode cL_law 987 = .ok (.invokevirtual 136, 3) := by decide +kernel
theorem dL_law_990 : decode cL_law 990 = .ok (.if_icmp .eq 123, 3) := by decide +kernel
theorem dL_law_993 : decode cL_law 993 = .ok (.iconst 0, 1) := by decide +kernel
theorem dL_law_994 : decode cL_law 994 = .ok (.ireturn, 1) := by decide +kernel
theorem dL_law_995 : decode cL_law 995 = .ok (.aload_n 1, 1) := by decide +kernel
theorem dL_law_996 : decode cL_law 996 = .ok (.aload_n 0, 1) := by decide +kernel
theorem dL_law_997 : decode cL_law 997 = .ok (.iload_n 3, 1) := by decide +kernel
theorem dL_law_998 : decode cL_law 998 = .ok (.iconst 1, 1) := by decide +kernel
theorem dL_law_999 : decode cL_law 999 = .ok (.iadd, 1) := by decide +kernel
theorem dL_law_1000 : decode cL_law 1000 = .ok (.iaload, 1) := by decide +kernel
theorem dL_law_1001 : decode cL_law 1001 = .ok (.aload_n 0, 1) := by decide +kernel
theorem dL_law_1002 : decode cL_law 1002 = .ok (.iload_n 3, 1) := by decide +kernel
theorem dL_law_1003 : decode cL_law 1003 = .ok (.iconst 2, 1) := by decide +kernel
theorem dL_law_1004 : decode cL_law 1004 = .ok (.iadd, 1) := by decide +kernel
theorem dL_law_1005 : decode cL_law 1005 = .ok (.iaload, 1) := by decide +kernel
theorem dL_law_1006 : decode cL_law 1006 = .ok (.invokevirtual 137, 3) := by decide +kernel
theorem dL_law_1009 : decode cL_law 1009 = .ok (.aload_n 2, 1) := by decide +kernel
theorem dL_law_1010 : decode cL_law 1010 = .ok (.aload_n 0, 1) := by decide +kernel
theorem dL_law_1011 : decode cL_law 1011 = .ok (.iload_n 3, 1) := by decide +kernel
theorem dL_law_1012 : decode cL_law 1012 = .ok (.iconst 1, 1) := by decide +kernel
theorem dL_law_1013 : decode cL_law 1013 = .ok (.iadd, 1) := by decide +kernel
theorem dL_law_1014 : decode cL_law 1014 = .ok (.iaload, 1) := by decide +kernel
theorem dL_law_1015 : decode cL_law 1015 = .ok (.aload_n 0, 1) := by decide +kernel
theorem dL_law_1016 : decode cL_law 1016 = .ok (.iload_n 3, 1) := by decide +kernel
theorem dL_law_1017 : decode cL_law 1017 = .ok (.iconst 2, 1) := by decide +kernel
theorem dL_law_1018 : decode cL_law 1018 = .ok (.iadd, 1) := by decide +kernel
theorem dL_law_1019 : decode cL_law 1019 = .ok (.iaload, 1) := by decide +kernel
theorem dL_law_1020 : decode cL_law 1020 = .ok (.invokevirtual 140, 3) := by decide +kernel
theorem dL_law_1023 : decode cL_law 1023 = .ok (.if_icmp .eq 90, 3) := by decide +kernel
theorem dL_law_1026 : decode cL_law 1026 = .ok (.iconst 0, 1) := by decide +kernel
theorem dL_law_1027 : decode cL_law 1027 = .ok (.ireturn, 1) := by decide +kernel
theorem dL_law_1028 : decode cL_law 1028 = .ok (.aload_n 1, 1) := by decide +kernel
theorem dL_law_1029 : decode cL_law 1029 = .ok (.aload_n 0, 1) := by decide +kernel
theorem dL_law_1030 : decode cL_law 1030 = .ok (.iload_n 3, 1) := by decide +kernel
theorem dL_law_1031 : decode cL_law 1031 = .ok (.iconst 1, 1) := by decide +kernel
theorem dL_law_1032 : decode cL_law 1032 = .ok (.iadd, 1) := by decide +kernel
theorem dL_law_1033 : decode cL_law 1033 = .ok (.iaload, 1) := by decide +kernel
theorem dL_law_1034 : decode cL_law 1034 = .ok (.invokevirtual 141, 3) := by decide +kernel
theorem dL_law_1037 : decode cL_law 1037 = .ok (.aload_n 2, 1) := by decide +kernel
theorem dL_law_1038 : decode cL_law 1038 = .ok (.aload_n 0, 1) := by decide +kernel
theorem dL_law_1039 : decode cL_law 1039 = .ok (.iload_n 3, 1) := by decide +kernel
theorem dL_law_1040 : decode cL_law 1040 = .ok (.iconst 1, 1) := by decide +kernel
theorem dL_law_1041 : decode cL_law 1041 = .ok (.iadd, 1) := by decide +kernel
theorem dL_law_1042 : decode cL_law 1042 = .ok (.iaload, 1) := by decide +kernel
theorem dL_law_1043 : decode cL_law 1043 = .ok (.invokevirtual 144, 3) := by decide +kernel
theorem dL_law_1046 : decode cL_law 1046 = .ok (.if_icmp .eq 67, 3) := by decide +kernel
theorem dL_law_1049 : decode cL_law 1049 = .ok (.iconst 0, 1) := by decide +kernel
theorem dL_law_1050 : decode cL_law 1050 = .ok (.ireturn, 1) := by decide +kernel
theorem dL_law_1051 : decode cL_law 1051 = .ok (.aload_n 1, 1) := by decide +kernel
theorem dL_law_1052 : decode cL_law 1052 = .ok (.invokevirtual 145, 3) := by decide +kernel
theorem dL_law_1055 : decode cL_law 1055 = .ok (.aload_n 2, 1) := by decide +kernel
theorem dL_law_1056 : decode cL_law 1056 = .ok (.invokevirtual 148, 3) := by decide +kernel
theorem dL_law_1059 : decode cL_law 1059 = .ok (.if_icmp .eq 54, 3) := by decide +kernel
theorem dL_law_1062 : decode cL_law 1062 = .ok (.iconst 0, 1) := by decide +kernel
theorem dL_law_1063 : decode cL_law 1063 = .ok (.ireturn, 1) := by decide +kernel
theorem dL_law_1064 : decode cL_law 1064 = .ok (.aload_n 1, 1) := by decide +kernel
theorem dL_law_1065 : decode cL_law 1065 = .ok (.invokevirtual 149, 3) := by decide +kernel
theorem dL_law_1068 : decode cL_law 1068 = .ok (.aload_n 2, 1) := by decide +kernel
theorem dL_law_1069 : decode cL_law 1069 = .ok (.invokevirtual 152, 3) := by decide +kernel
theorem dL_law_1072 : decode cL_law 1072 = .ok (.if_icmp .eq 41, 3) := by decide +kernel
theorem dL_law_1075 : decode cL_law 1075 = .ok (.iconst 0, 1) := by decide +kernel
theorem dL_law_1076 : decode cL_law 1076 = .ok (.ireturn, 1) := by decide +kernel
theorem dL_law_1077 : decode cL_law 1077 = .ok (.aload_n 1, 1) := by decide +kernel
theorem dL_law_1078 : decode cL_law 1078 = .ok (.invokevirtual 153, 3) := by decide +kernel
theorem dL_law_1081 : decode cL_law 1081 = .ok (.aload_n 2, 1) := by decide +kernel
theorem dL_law_1082 : decode cL_law 1082 = .ok (.invokevirtual 156, 3) := by decide +kernel
theorem dL_law_1085 : decode cL_law 1085 = .ok (.if_icmp .eq 28, 3) := by decide +kernel
theorem dL_law_1088 : decode cL_law 1088 = .ok (.iconst 0, 1) := by decide +kernel
theorem dL_law_1089 : decode cL_law 1089 = .ok (.ireturn, 1) := by decide +kernel
theorem dL_law_1090 : decode cL_law 1090 = .ok (.aload_n 1, 1) := by decide +kernel
theorem dL_law_1091 : decode cL_law 1091 = .ok (.aload_n 0, 1) := by decide +kernel
theorem dL_law_1092 : decode cL_law 1092 = .ok (.iload_n 3, 1) := by decide +kernel
theorem dL_law_1093 : decode cL_law 1093 = .ok (.iconst 1, 1) := by decide +kernel
theorem dL_law_1094 : decode cL_law 1094 = .ok (.iadd, 1) := by decide +kernel
theorem dL_law_1095 : decode cL_law 1095 = .ok (.iaload, 1) := by decide +kernel
theorem dL_law_1096 : decode cL_law 1096 = .ok (.invokevirtual 157, 3) := by decide +kernel
theorem dL_law_1099 : decode cL_law 1099 = .ok (.aload_n 2, 1) := by decide +kernel
theorem dL_law_1100 : decode cL_law 1100 = .ok (.aload_n 0, 1) := by decide +kernel
theorem dL_law_1101 : decode cL_law 1101 = .ok (.iload_n 3, 1) := by decide +kernel
theorem dL_law_1102 : decode cL_law 1102 = .ok (.iconst 1, 1) := by decide +kernel
theorem dL_law_1103 : decode cL_law 1103 = .ok (.iadd, 1) := by decide +kernel
theorem dL_law_1104 : decode cL_law 1104 = .ok (.iaload, 1) := by decide +kernel
theorem dL_law_1105 : decode cL_law 1105 = .ok (.invokevirtual 160, 3) := by decide +kernel
theorem dL_law_1108 : decode cL_law 1108 = .ok (.if_icmp .eq 5, 3) := by decide +kernel
theorem dL_law_1111 : decode cL_law 1111 = .ok (.iconst 0, 1) := by decide +kernel
theorem dL_law_1112 : decode cL_law 1112 = .ok (.ireturn, 1) := by decide +kernel
theorem dL_law_1113 : decode cL_law 1113 = .ok (.iinc 3 5, 3) := by decide +kernel
theorem dL_law_1116 : decode cL_law 1116 = .ok (.goto (-1098), 3) := by decide +kernel
theorem dL_law_1119 : decode cL_law 1119 = .ok (.iconst 1, 1) := by decide +kernel
theorem dL_law_1120 : decode cL_law 1120 = .ok (.ireturn, 1) := by decide +kernel
end
section
/-! MY LAYER OVER THE KIT. A state of all cells is one function σ: cell number, place -> int. A method is a pure function over σ (Option: none where an index, a divisor or the fuel falls short); a contract says that the machine does what the function says. -/
abbrev Sg : Type := Nat → Nat → Int32
abbrev Rs : Type := Option (Int32 × Sg)
def sg_up (σ : Sg) (k i : Nat) (v : Int32) : Sg := fun a b => if a = k ∧ b = i then v else σ a b
def ix (i : Int32) (n : Nat) : Bool := decide (0 ≤ i) && decide (i.toNatClampNeg < n)
def p_rd (σ : Sg) (k n : Nat) (i : Int32) (K : Int32 → Rs) : Rs := if ix i n = true then K (σ k i.toNatClampNeg) else none
def p_wr (σ : Sg) (k n : Nat) (i v : Int32) (K : Sg → Rs) : Rs := if ix i n = true then K (sg_up σ k i.toNatClampNeg v) else none
def p_nz (y : Int32) (K : Rs) : Rs := if y = 0 then none else K
def p_bo (y : Int32) (K : Rs) : Rs := if y = 0 ∨ y = 1 then K else none
def p_call (f : Rs) (K : Int32 → Sg → Rs) : Rs := match f with
  | none => none
  | some (r, s) => K r s
theorem ix_in {i : Int32} {n : Nat} (h : ix i n = true) : vp_in i n := by
  unfold ix at h
  simp only [Bool.and_eq_true, decide_eq_true_eq] at h
  intro q
  rcases q with q | q
  · exact absurd q (Int32.not_lt.mpr h.1)
  · omega
theorem p_rd_of {σ : Sg} {k n : Nat} {i : Int32} {K : Int32 → Rs} {o : Int32 × Sg} (h : p_rd σ k n i K = some o) : vp_in i n ∧ K (σ k i.toNatClampNeg) = some o := by
  unfold p_rd at h
  split at h
  · next h1 => exact ⟨ix_in h1, h⟩
  · cases h
theorem p_wr_of {σ : Sg} {k n : Nat} {i v : Int32} {K : Sg → Rs} {o : Int32 × Sg} (h : p_wr σ k n i v K = some o) : vp_in i n ∧ K (sg_up σ k i.toNatClampNeg v) = some o := by
  unfold p_wr at h
  split at h
  · next h1 => exact ⟨ix_in h1, h⟩
  · cases h
theorem p_nz_of {y : Int32} {K : Rs} {o : Int32 × Sg} (h : p_nz y K = some o) : ¬ y = 0 ∧ K = some o := by
  unfold p_nz at h
  split at h
  · cases h
  · next h1 => exact ⟨h1, h⟩
theorem p_bo_of {y : Int32} {K : Rs} {o : Int32 × Sg} (h : p_bo y K = some o) : narrow .boolean (.int y) = .int y ∧ fits .boolean (.int y) = true ∧ K = some o := by
  unfold p_bo at h
  split at h
  · next h1 => rcases h1 with rfl | rfl <;> exact ⟨by decide, by decide, h⟩
  · cases h
theorem p_call_of {f : Rs} {K : Int32 → Sg → Rs} {o : Int32 × Sg} (h : p_call f K = some o) : ∃ r s, f = some (r, s) ∧ K r s = some o := by
  unfold p_call at h
  cases hf : f with
  | none => rw [hf] at h; cases h
  | some x => obtain ⟨r, s⟩ := x; rw [hf] at h; exact ⟨r, s, rfl, h⟩
theorem p_ite {c : Prop} [Decidable c] {A B : Rs} {o : Int32 × Sg} (h : (if c then A else B) = some o) : (c → A = some o) ∧ (¬ c → B = some o) := ⟨fun q => by rw [if_pos q] at h; exact h, fun q => by rw [if_neg q] at h; exact h⟩
theorem p_iteN {c : Prop} [Decidable c] {A B : Rs} {o : Int32 × Sg} (h : (if c then A else B) = some o) : (¬ c → B = some o) ∧ (c → A = some o) := ⟨(p_ite h).2, (p_ite h).1⟩
-- the fields of a class: none an int, some d the cell that lies d behind the object
def fl_vs (ad : Nat → Nat) (σ : Sg) (k : Nat) : List (Option Nat) → Nat → List Value
  | [], _ => []
  | some d :: r, j => .ref (ad (k + d)) :: fl_vs ad σ k r (j + 1)
  | none :: r, j => .int (σ k j) :: fl_vs ad σ k r (j + 1)
theorem fl_len (ad : Nat → Nat) (σ : Sg) (k : Nat) : ∀ (fs : List (Option Nat)) (j : Nat), (fl_vs ad σ k fs j).length = fs.length
  | [], _ => rfl
  | some d :: r, j => by simp [fl_vs, fl_len ad σ k r]
  | none :: r, j => by simp [fl_vs, fl_len ad σ k r]
theorem fl_ref (ad : Nat → Nat) (σ : Sg) (k d : Nat) : ∀ (fs : List (Option Nat)) (j i : Nat), fs[i]? = some (some d) → (fl_vs ad σ k fs j)[i]? = some (.ref (ad (k + d)))
  | [], _, i, h => by simp at h
  | x :: r, j, 0, h => by
    simp only [List.getElem?_cons_zero, Option.some.injEq] at h
    subst h
    rfl
  | x :: r, j, i + 1, h => by
    rw [List.getElem?_cons_succ] at h
    cases x <;> (simp only [fl_vs, List.getElem?_cons_succ]; exact fl_ref ad σ k d r (j + 1) i h)
theorem fl_int (ad : Nat → Nat) (σ : Sg) (k : Nat) : ∀ (fs : List (Option Nat)) (j i : Nat), fs[i]? = some none → (fl_vs ad σ k fs j)[i]? = some (.int (σ k (j + i)))
  | [], _, i, h => by simp at h
  | x :: r, j, 0, h => by
    simp only [List.getElem?_cons_zero, Option.some.injEq] at h
    subst h
    rfl
  | x :: r, j, i + 1, h => by
    rw [List.getElem?_cons_succ] at h
    have := fl_int ad σ k r (j + 1) i h
    rw [show j + 1 + i = j + (i + 1) by omega] at this
    cases x <;> (simp only [fl_vs, List.getElem?_cons_succ]; exact this)
theorem fl_off (ad : Nat → Nat) (σ : Sg) (k i : Nat) (v : Int32) : ∀ (fs : List (Option Nat)) (j : Nat), i < j → fl_vs ad (sg_up σ k i v) k fs j = fl_vs ad σ k fs j
  | [], _, _ => rfl
  | some d :: r, j, h => by simp only [fl_vs]; rw [fl_off ad σ k i v r (j + 1) (by omega)]
  | none :: r, j, h => by
    simp only [fl_vs]
    rw [fl_off ad σ k i v r (j + 1) (by omega)]
    simp [sg_up, show ¬ j = i by omega]
theorem fl_set (ad : Nat → Nat) (σ : Sg) (k : Nat) (v : Int32) : ∀ (fs : List (Option Nat)) (j i : Nat), fs[i]? = some none → (fl_vs ad σ k fs j).set i (.int v) = fl_vs ad (sg_up σ k (j + i) v) k fs j
  | [], _, i, h => by simp at h
  | x :: r, j, 0, h => by
    simp only [List.getElem?_cons_zero, Option.some.injEq] at h
    subst h
    simp only [fl_vs, List.set_cons_zero]
    rw [fl_off ad σ k (j + 0) v r (j + 1) (by omega)]
    simp [sg_up]
  | x :: r, j, i + 1, h => by
    rw [List.getElem?_cons_succ] at h
    have := fl_set ad σ k v r (j + 1) i h
    rw [show j + 1 + i = j + (i + 1) by omega] at this
    cases x with
    | some d => simp only [fl_vs, List.set_cons_succ]; rw [this]
    | none =>
      simp only [fl_vs, List.set_cons_succ]
      rw [this]
      simp [sg_up, show ¬ j = j + (i + 1) by omega]
end
section
/-! printed by wip/whole/gen/layout.py: the classes' fields and parts -/
theorem inX0 : ∀ w ∈ u_ws RX0 TX0 5, w ∈ lw_tbl := by decide +kernel
theorem inX1 : ∀ w ∈ u_ws RX1 TX1 7, w ∈ lw_tbl := by decide +kernel
theorem inX2 : ∀ w ∈ u_ws RX2 TX2 2, w ∈ lw_tbl := by decide +kernel
theorem inX3 : ∀ w ∈ u_ws RX3 TX3 3, w ∈ lw_tbl := by decide +kernel
theorem inX4 : ∀ w ∈ u_ws RX4 TX4 4, w ∈ lw_tbl := by decide +kernel
theorem inX5 : ∀ w ∈ u_ws RX5 TX5 3, w ∈ lw_tbl := by decide +kernel
theorem inX6 : ∀ w ∈ u_ws RX6 TX6 5, w ∈ lw_tbl := by decide +kernel
theorem inX7 : ∀ w ∈ u_ws RX7 TX7 4, w ∈ lw_tbl := by decide +kernel
theorem inX8 : ∀ w ∈ u_ws RX8 TX8 2, w ∈ lw_tbl := by decide +kernel
theorem inX9 : ∀ w ∈ u_ws RX9 TX9 6, w ∈ lw_tbl := by decide +kernel
theorem inX10 : ∀ w ∈ u_ws RX10 TX10 12, w ∈ lw_tbl := by decide +kernel
theorem inX11 : ∀ w ∈ u_ws RX11 TX11 40, w ∈ lw_tbl := by decide +kernel
def fo (c : Nat) : List (Option Nat) := match c with
  | 0 => [some 1, some 2, some 3, some 4, some 5]
  | 1 => [none, none, none, some 1, some 2, some 3, some 4]
  | 2 => [some 1, none]
  | 3 => [some 1, some 6, some 12]
  | 4 => [none, some 1, some 2, some 3]
  | 5 => [some 1, some 2, some 3]
  | 6 => [some 1, some 7, none, none, none]
  | 7 => [some 1, none, none, none]
  | 8 => [some 1, none]
  | 9 => [some 1, some 17, some 18, none, none, none]
  | 10 => [some 1, some 17, some 33, some 49, some 51, some 53, some 66, some 85, some 89, some 96, none, none]
  | 11 => [some 1, some 2, some 3, some 4, some 5, some 6, some 7, some 8, some 9, some 10, some 11, none, none, none, none, some 12, some 13, some 14, some 15, some 16, some 17, none, none, none, some 18, none, none, none, some 19, some 20, none, none, none, some 21, some 22, none, none, none, some 23, none]
  | _ => []
abbrev sh_Board : List (Nat × Nat) := [(0, 0), (12, 16), (12, 16), (12, 16), (13, 16), (13, 16)]
abbrev sh_Cut : List (Nat × Nat) := [(1, 0), (12, 64), (12, 64), (13, 16), (12, 16)]
abbrev sh_Evening : List (Nat × Nat) := [(2, 0), (0, 0), (12, 16), (12, 16), (12, 16), (13, 16), (13, 16)]
abbrev sh_Game : List (Nat × Nat) := [(3, 0), (1, 0), (12, 64), (12, 64), (13, 16), (12, 16), (0, 0), (12, 16), (12, 16), (12, 16), (13, 16), (13, 16), (4, 0), (12, 6), (12, 6), (12, 6)]
abbrev sh_People : List (Nat × Nat) := [(4, 0), (12, 6), (12, 6), (12, 6)]
abbrev sh_Pile : List (Nat × Nat) := [(5, 0), (12, 10), (12, 10), (12, 10)]
abbrev sh_Search : List (Nat × Nat) := [(6, 0), (0, 0), (12, 16), (12, 16), (12, 16), (13, 16), (13, 16), (0, 0), (12, 16), (12, 16), (12, 16), (13, 16), (13, 16)]
abbrev sh_Tape : List (Nat × Nat) := [(7, 0), (14, 64)]
abbrev sh_Told : List (Nat × Nat) := [(8, 0), (12, 16)]
abbrev sh_Work : List (Nat × Nat) := [(9, 0), (3, 0), (1, 0), (12, 64), (12, 64), (13, 16), (12, 16), (0, 0), (12, 16), (12, 16), (12, 16), (13, 16), (13, 16), (4, 0), (12, 6), (12, 6), (12, 6), (12, 16), (12, 64)]
abbrev sh_AuntsPuzzle : List (Nat × Nat) := [(10, 0), (3, 0), (1, 0), (12, 64), (12, 64), (13, 16), (12, 16), (0, 0), (12, 16), (12, 16), (12, 16), (13, 16), (13, 16), (4, 0), (12, 6), (12, 6), (12, 6), (3, 0), (1, 0), (12, 64), (12, 64), (13, 16), (12, 16), (0, 0), (12, 16), (12, 16), (12, 16), (13, 16), (13, 16), (4, 0), (12, 6), (12, 6), (12, 6), (3, 0), (1, 0), (12, 64), (12, 64), (13, 16), (12, 16), (0, 0), (12, 16), (12, 16), (12, 16), (13, 16), (13, 16), (4, 0), (12, 6), (12, 6), (12, 6), (7, 0), (14, 64), (8, 0), (12, 16), (6, 0), (0, 0), (12, 16), (12, 16), (12, 16), (13, 16), (13, 16), (0, 0), (12, 16), (12, 16), (12, 16), (13, 16), (13, 16), (9, 0), (3, 0), (1, 0), (12, 64), (12, 64), (13, 16), (12, 16), (0, 0), (12, 16), (12, 16), (12, 16), (13, 16), (13, 16), (4, 0), (12, 6), (12, 6), (12, 6), (12, 16), (12, 64), (5, 0), (12, 10), (12, 10), (12, 10), (2, 0), (0, 0), (12, 16), (12, 16), (12, 16), (13, 16), (13, 16), (12, 7)]
abbrev sh_AuntsPuzzleModel : List (Nat × Nat) := [(11, 0), (12, 7), (12, 16), (12, 16), (12, 16), (12, 16), (12, 16), (12, 16), (12, 16), (12, 6), (12, 6), (12, 6), (12, 64), (12, 32), (12, 32), (12, 32), (12, 32), (12, 32), (12, 500), (12, 16), (12, 16), (12, 16), (12, 64), (12, 16)]
def layL : List (Nat × Nat) := sh_AuntsPuzzle ++ sh_AuntsPuzzleModel
def lay (k : Nat) : Nat × Nat := layL.getD k (99, 0)
abbrev nCls : Nat := 12
end
section
/-! the world of cells, the static facts, the judgement Vx over (pc, locals, stack, σ) -/
abbrev En : Type := va_G × (Nat → Nat) × (Nat → ClassId) × (Nat → Nat) × (Nat → Nat)
def ent (E : En) (σ : Sg) (k : Nat) : va_E := if (lay k).1 < nCls then .inr ((lay k).1, fl_vs E.2.1 σ k (fo (lay k).1) 0) else .inl (E.2.2.1 (lay k).1, ((lay k).2, .inl (σ k)))
def wo (E : En) (L : List Nat) (σ : Sg) : va_W := L.map (fun k => (E.2.1 k, ent E σ k))
def inL (E : En) (L : List Nat) : Nat → Prop := fun a => ∃ k, k ∈ L ∧ E.2.1 k = a
def tysE (E : En) : List (ClassId × FieldType) := [(E.2.2.1 nCls, .int), (E.2.2.1 (nCls + 1), .boolean), (E.2.2.1 (nCls + 2), .char)]
/-- the cell k is there, and is of the kind and length x -/
def Lc (L : List Nat) (k : Nat) (x : Nat × Nat) : Prop := k ∈ L ∧ lay k = x
/-- the block of cells from k on is there, and has the shape sh -/
def Bk (L : List Nat) (sh : List (Nat × Nat)) (k : Nat) : Prop := ∀ (j : Nat) (x : Nat × Nat), sh[j]? = some x → Lc L (k + j) x
theorem Bk.sub {L : List Nat} {sh sh' : List (Nat × Nat)} {k : Nat} (h : Bk L sh k) (d : Nat) (hs : (sh.drop d).take sh'.length = sh') : Bk L sh' (k + d) := by
  intro j x hj
  have h1 : j < sh'.length := (List.getElem?_eq_some_iff.mp hj).1
  rw [← hs, List.getElem?_take_of_lt h1, List.getElem?_drop] at hj
  have := h (d + j) x hj
  rwa [← Nat.add_assoc] at this
theorem fl_congr (ad : Nat → Nat) {σ τ : Sg} {k : Nat} (h : τ k = σ k) : ∀ (fs : List (Option Nat)) (j : Nat), fl_vs ad τ k fs j = fl_vs ad σ k fs j
  | [], _ => rfl
  | some d :: r, j => by simp only [fl_vs]; rw [fl_congr ad h r]
  | none :: r, j => by simp only [fl_vs]; rw [fl_congr ad h r, h]
theorem ent_congr (E : En) {σ τ : Sg} {k : Nat} (h : τ k = σ k) : ent E τ k = ent E σ k := by
  unfold ent
  rw [fl_congr E.2.1 h, h]
theorem wo_get (E : En) {L : List Nat} (σ : Sg) {k : Nat} (h : k ∈ L) : ∃ q0 : Nat, L[q0]? = some k ∧ (wo E L σ)[q0]? = some (E.2.1 k, ent E σ k) := by
  obtain ⟨q0, hq⟩ := List.getElem?_of_mem h
  exact ⟨q0, hq, by unfold wo; rw [List.getElem?_map, hq]; rfl⟩
theorem wo_set {E : En} {L : List Nat} {σ τ : Sg} {A : Nat → Prop} {k q0 : Nat} (hD : va_D A (wo E L σ)) (hk : L[q0]? = some k) (hoff : ∀ j, j ≠ k → τ j = σ j) : (wo E L σ).set q0 (E.2.1 k, ent E τ k) = wo E L τ := by
  have hw : ∀ (i j : Nat), L[i]? = some j → (wo E L σ)[i]? = some (E.2.1 j, ent E σ j) := fun i j h => by unfold wo; rw [List.getElem?_map, h]; rfl
  apply List.ext_getElem?
  intro i
  by_cases hi : i = q0
  · subst hi
    have hl : i < (wo E L σ).length := (List.getElem?_eq_some_iff.mp (hw i k hk)).1
    rw [List.getElem?_set_self hl]
    unfold wo
    rw [List.getElem?_map, hk]
    rfl
  · rw [List.getElem?_set_ne (Ne.symm hi)]
    unfold wo
    rw [List.getElem?_map, List.getElem?_map]
    cases hj : L[i]? with
    | none => rfl
    | some j =>
      have hne : j ≠ k := by
        intro e
        subst e
        exact hi (hD.1 i q0 _ _ (hw i j hj) (hw q0 j hk) rfl)
      simp only [Option.map_some]
      rw [ent_congr E (hoff j hne)]
theorem sg_up_off {σ : Sg} {k i : Nat} {v : Int32} (j : Nat) (h : j ≠ k) : sg_up σ k i v j = σ j := by
  funext b
  simp [sg_up, h]
theorem sg_up_row {σ : Sg} {k i : Nat} {v : Int32} : sg_up σ k i v k = upd (σ k) i v := by
  funext b
  by_cases h : b = i
  · subst h; simp [sg_up, upd]
  · simp [sg_up, upd, h]
theorem ent_arr (E : En) (σ : Sg) {k t n : Nat} (h : lay k = (t, n)) (ht : nCls ≤ t) : ent E σ k = .inl (E.2.2.1 t, (n, .inl (σ k))) := by
  unfold ent
  rw [h]
  exact if_neg (Nat.not_lt.mpr ht)
theorem ent_obj (E : En) (σ : Sg) {k t n : Nat} (h : lay k = (t, n)) (ht : t < nCls) : ent E σ k = .inr (t, fl_vs E.2.1 σ k (fo t) 0) := by
  unfold ent
  rw [h]
  exact if_pos ht
-- the tables' words as facts of a state, for any arguments
def wd_ok (w : Cond) : Bool := goodWord w || (match w with
  | .fieldLinkNest .. => true
  | .methodLinkNest .. => true
  | _ => false)
def Tb (U : State) : Prop := ∀ w ∈ lw_tbl, wd_ok w = true → ∀ a : Array Value, w.before a U = true
theorem Tb.warm {s U : State} (hW : s.WarmedH U.vm) (h : Tb s) : Tb U := by
  intro w hw ho a
  by_cases hg : goodWord w = true
  · exact word_at hW (good_of_word hg) (h w hw ho #[])
  · have h0 := h w hw ho #[]
    cases w <;> first
      | exact va_Nw.use rfl (va_Nw.warmF hW (va_Nw.of rfl h0))
      | exact va_Nw.use rfl (va_Nw.warmM hW (va_Nw.of rfl h0))
      | (exfalso; simp [wd_ok, hg] at ho; done)
def strIx : List Nat := [35, 41, 46, 48, 50, 54, 56]
def strTx : List String := ["zecp", "0123456789", "rd", "+-", ",", "fcels", ";"]
def strLen : List Nat := [4, 10, 2, 2, 1, 5, 1]
def strByt : List (List Int32) := [[122, 101, 99, 112], [48, 49, 50, 51, 52, 53, 54, 55, 56, 57], [114, 100], [43, 45], [44], [102, 99, 101, 108, 115], [59]]
/-- what stands in the heap outside of the world: the String constants, String's static field -/
def Jx (E : En) (A : Nat → Prop) (U : State) (H : Heap) : Prop := vk_S 7 strLen strByt E.2.2.2.1 E.2.2.2.2 A U H ∧ (∀ i : Nat, i < 7 → vk_R RX7 (strIx.getD i 0) (strTx.getD i "") (E.2.2.2.1 i) U) ∧ va_Z "java/lang/String" "COMPACT_STRINGS" "Z" (.int 1) A U H
def Sx (E : En) (A : Nat → Prop) (U : State) (H : Heap) : Prop := Tb U ∧ va_K E.1 vwCl (tysE E) U ∧ Jx E A U H
theorem Sx.warm {E : En} {A : Nat → Prop} {s U : State} {H : Heap} (hW : s.WarmedH U.vm) (h : Sx E A s H) : Sx E A U H := ⟨h.1.warm hW, va_K.moved hW.alike h.2.1, vk_S.moved hW.alike h.2.2.1, fun i hi => vk_R.warm hW (h.2.2.2.1 i hi), va_Z.moved hW.alike h.2.2.2.2⟩
theorem Sx.kept {E : En} {A : Nat → Prop} {U : State} {H H1 : Heap} (h : Sx E A U H) (hq : ∀ a : Nat, a < H.size → ¬ A a → H1[a]? = H[a]?) : Sx E A U H1 := ⟨h.1, h.2.1, vk_S.kept h.2.2.1 hq, h.2.2.2.1, va_Z.kept h.2.2.2.2 hq⟩
def World (E : En) (L : List Nat) (σ : Sg) (U : State) : Prop := va_P E.1 vwCl (wo E L σ) U.heap ∧ va_D (inL E L) (wo E L σ) ∧ Sx E (inL E L) U U.heap
theorem World.same {E : En} {L : List Nat} {σ : Sg} {U V : State} (h : World E L σ U) (hh : V.heap = U.heap) (hv : V.vm = U.vm) : World E L σ V := ⟨by rw [hh]; exact h.1, h.2.1, by rw [hh]; exact Sx.warm (by rw [hv]; exact State.WarmedH.refl U) h.2.2⟩
def rv (ret : Option FieldType) (r : Int32) : Option Value := match ret with
  | none => none
  | some _ => some (.int r)
abbrev rmd (d : Nat) : Room := { frames := d, cells := 0, slots := 0, locals := 60 * d }
def Qo (E : En) (L : List Nat) (ret : Option FieldType) (o : Int32 × Sg) : Array Value → State → Outcome → State → Prop := fun _ st oc t => oc = .returned (rv ret o.1) ∧ World E L o.2 t ∧ va_F (inL E L) st t
/-- THE CONTRACT: y, called with the values vs in the world σ, answers o.1 and leaves the world o.2 -/
def Mi (l : Launch) (y : MethodName) (cc : ByteArray) (maxL : Nat) (ret : Option FieldType) (d : Nat) (E : En) (L : List Nat) (vs : List Value) (σ : Sg) (o : Int32 × Sg) : Prop :=
  Met l y [.code y cc maxL ret] (rmd d) (va_Pc vs (World E L σ)) (Qo E L ret o) 0 0 (inL E L)
abbrev Mc : Type := Program × Launch × Env × Room × State × MethodId × Array Value × List Frame × Method × Code
abbrev mP (q : Mc) : Program := q.1
abbrev mL (q : Mc) : Launch := q.2.1
abbrev mE (q : Mc) : Env := q.2.2.1
abbrev mR (q : Mc) : Room := q.2.2.2.1
abbrev mS (q : Mc) : State := q.2.2.2.2.1
abbrev mM (q : Mc) : MethodId := q.2.2.2.2.2.1
abbrev mA (q : Mc) : Array Value := q.2.2.2.2.2.2.1
abbrev mB (q : Mc) : List Frame := q.2.2.2.2.2.2.2.1
abbrev mH (q : Mc) : Method := q.2.2.2.2.2.2.2.2.1
abbrev mC (q : Mc) : Code := q.2.2.2.2.2.2.2.2.2
/-- a method's body at work: its code, its class, its room, the static facts -/
def Cx (q : Mc) (E : En) (L : List Nat) (cc : ByteArray) (nL : Nat) (own : String) (ret : Option FieldType) (d : Nat) : Prop :=
  (mP q).tables.exec = Jvm.exec ∧ (mC q).code = cc ∧ (mC q).maxLocals = nL ∧ (mS q).vm.findClass own = some (mM q).cls ∧ (mH q).sig.returnType = ret ∧ (mH q).locks = false ∧ mR q = rmd d ∧ Sx E (inL E L) (mS q) (mS q).heap
/-- from pc, with these locals and stack, in the world σ, the body comes to its end with o -/
def Vx (q : Mc) (E : En) (L : List Nat) (nL : Nat) (ret : Option FieldType) (o : Int32 × Sg) (pc : Nat) (lv : List (Nat × Value)) (st : List Value) (σ : Sg) : Prop :=
  ∀ (H : Heap) (locs : List Loc) (ls : Array Slot), lv_has ls nL lv → va_P E.1 vwCl (wo E L σ) H → va_D (inL E L) (wo E L σ) → va_S (inL E L) (mS q).heap H locs →
    W (mP q) (mL q) (mE q) (mR q) (mS q) (mM q) (mA q) (mB q) (mH q) (mC q) H locs 0 0 (MQ (mB q) (Qo E L ret o) (mA q) (mS q) 0 0 (inL E L)) (F0 (mM q) pc ls st)
theorem Mi.of {l : Launch} {y : MethodName} {cc : ByteArray} {maxL : Nat} {ret : Option FieldType} {d : Nat} {E : En} {L : List Nat} {vs : List Value} {σ : Sg} {o : Int32 × Sg} (own : String) (hown : y.cls = own) (hy : plainName y.cls = true) (hlen : (lg_sl vs).length ≤ maxL)
    (body : ∀ q : Mc, mL q = l → Cx q E L cc maxL own ret d → Vx q E L maxL ret o 0 (lv_args 0 vs) [] σ) : Mi l y cc maxL ret d E L vs σ o := by
  refine Met.ofW (cc := cc) (maxL := maxL) (ret := ret) hy rfl ?_
  intro p e s m args below meth c s₁ B hml hv
  obtain ⟨rfl, hP, hD, hX⟩ := hv
  have hl := lv_entry vs (n := maxL) hlen
  rw [lg_entry_eq]
  exact body (p, l, e, (headSpec [Cond.code y cc maxL ret] (rmd d)).room, s, m, vs.toArray, below, meth, c) rfl ⟨B.exec, B.bytes, hml, by rw [← hown]; exact findClass_of_methodNamed B.named, B.returns, B.notSynchronized, rfl, hX⟩ s.heap [] _ hl hP hD va_S.rf
/-- fewer locals, in another order -/
theorem Vx.lv {q : Mc} {E : En} {L : List Nat} {nL : Nat} {ret : Option FieldType} {o : Int32 × Sg} {pc : Nat} {lv lv' : List (Nat × Value)} {st : List Value} {σ : Sg} (ks : List Nat) (h : lv_pick lv ks = lv') (k : Vx q E L nL ret o pc lv' st σ) : Vx q E L nL ret o pc lv st σ := fun H locs ls h1 h2 h3 h4 => k H locs ls (lv_sub h1 ks h) h2 h3 h4
end
section
/-! the rows of Vx; printed by wip/whole/gen/vrows.py -/
def lset : List (Nat × Value) → Nat → Value → List (Nat × Value)
  | [], i, v => [(i, v)]
  | (j, w) :: r, i, v => if j = i then (i, v) :: r else (j, w) :: lset r i v
def lgood : List (Nat × Value) → Nat → Bool
  | [], _ => true
  | (j, w) :: r, i => !(j + 1 == i && w.category == 2) && lgood r i
def ldis : List (Nat × Value) → Nat → Bool
  | [], _ => true
  | (j, _) :: r, i => !(j == i) && ldis r i
/-- the numbers of the locals are apart -/
def lnd : List (Nat × Value) → Bool
  | [] => true
  | (j, _) :: r => ldis r j && lnd r
theorem ldis_ne : ∀ (l : List (Nat × Value)) (i : Nat), ldis l i = true → ∀ q ∈ l, q.1 ≠ i
  | [], _, _, q, h => by cases h
  | (j, w) :: r, i, hd, q, h => by
    simp only [ldis, Bool.and_eq_true, Bool.not_eq_true', beq_eq_false_iff_ne] at hd
    rcases List.mem_cons.mp h with rfl | h
    · exact hd.1
    · exact ldis_ne r i hd.2 q h
theorem lset_in : ∀ (l : List (Nat × Value)) (i : Nat) (v : Value), lgood l i = true → lnd l = true → ∀ q ∈ lset l i v, q = (i, v) ∨ q ∈ l.filter (fun q => !(q.1 == i) && !(q.1 + 1 == i && q.2.category == 2))
  | [], i, v, _, _, q, h => by
    simp only [lset, List.mem_singleton] at h
    exact Or.inl h
  | (j, w) :: r, i, v, hg, hn, q, h => by
    simp only [lgood, Bool.and_eq_true, Bool.not_eq_true'] at hg
    simp only [lnd, Bool.and_eq_true] at hn
    have rest : ∀ (x : Nat × Value), x ∈ r → x.1 ≠ i → x ∈ ((j, w) :: r).filter (fun q => !(q.1 == i) && !(q.1 + 1 == i && q.2.category == 2)) := by
      intro x hx hne
      have h2 : ∀ (l : List (Nat × Value)), lgood l i = true → x ∈ l → (x.1 + 1 == i && x.2.category == 2) = false := by
        intro l
        induction l with
        | nil => intro _ h; cases h
        | cons y l ih =>
          intro hl hx
          obtain ⟨a, b⟩ := y
          simp only [lgood, Bool.and_eq_true, Bool.not_eq_true'] at hl
          rcases List.mem_cons.mp hx with rfl | hx
          · exact hl.1
          · exact ih hl.2 hx
      refine List.mem_filter.mpr ⟨List.mem_cons_of_mem _ hx, ?_⟩
      rw [h2 r hg.2 hx]
      simp [hne]
    unfold lset at h
    split at h
    · next e =>
      rcases List.mem_cons.mp h with h | h
      · exact Or.inl h
      · exact Or.inr (rest q h (by have := ldis_ne r j hn.1 q h; rw [e] at this; exact this))
    · next e =>
      rcases List.mem_cons.mp h with rfl | h
      · refine Or.inr (List.mem_filter.mpr ⟨List.mem_cons_self, ?_⟩)
        rw [hg.1]
        simp [e]
      · rcases lset_in r i v hg.2 hn.2 q h with h | h
        · exact Or.inl h
        · exact Or.inr (rest q (List.mem_filter.mp h).1 (by have := (List.mem_filter.mp h).2; simp at this; exact this.1))
theorem lset_has {ls : Array Slot} {nL : Nat} {l : List (Nat × Value)} {i : Nat} {v : Value} (hg : lgood l i = true) (hn : lnd l = true) (h : lv_has ls nL ((i, v) :: l.filter (fun q => !(q.1 == i) && !(q.1 + 1 == i && q.2.category == 2)))) : lv_has ls nL (lset l i v) :=
  ⟨h.1, h.2.1, fun q hq => h.2.2 q ((lset_in l i v hg hn q hq).elim (fun e => by rw [e]; exact List.mem_cons_self) (fun h => List.mem_cons_of_mem _ h))⟩
def lget : List (Nat × Value) → Nat → Option Value
  | [], _ => none
  | (j, w) :: r, i => if j = i then some w else lget r i
theorem lget_at {ls : Array Slot} {nL : Nat} : ∀ {l : List (Nat × Value)} {i : Nat} {v : Value}, (∀ q ∈ l, ls[q.1]? = some (.val q.2)) → lget l i = some v → ls[i]? = some (.val v)
  | [], _, _, _, hk => by cases hk
  | (j, w) :: r, i, v, h, hk => by
    unfold lget at hk
    split at hk
    · next e =>
      cases hk
      rw [← e]
      exact h (j, w) List.mem_cons_self
    · exact lget_at (nL := nL) (fun q hq => h q (List.mem_cons_of_mem _ hq)) hk
section VR
variable {q : Mc} {E : En} {L : List Nat} {cc : ByteArray} {nL : Nat} {own : String} {ret : Option FieldType} {d : Nat} {o : Int32 × Sg} {lv : List (Nat × Value)} {st : List Value} {σ : Sg}

theorem v_iconst (pc : Nat) (C : Cx q E L cc nL own ret d) {n : Int} {v : Int32} (hd : decode cc pc = .ok (.iconst n, 1)) (hv : Int32.ofInt n = v) (k : Vx q E L nL ret o (pc + 1) lv (.int v :: st) σ) : Vx q E L nL ret o pc lv st σ := fun H locs ls h1 h2 h3 h4 => lv_iconst C.1 C.2.1 hd hv (k H locs ls h1 h2 h3 h4)
theorem v_bipush (pc : Nat) (C : Cx q E L cc nL own ret d) {n : Int} {v : Int32} (hd : decode cc pc = .ok (.bipush n, 2)) (hv : (Int8.ofInt n).toInt32 = v) (k : Vx q E L nL ret o (pc + 2) lv (.int v :: st) σ) : Vx q E L nL ret o pc lv st σ := fun H locs ls h1 h2 h3 h4 => lv_bipush C.1 C.2.1 hd hv (k H locs ls h1 h2 h3 h4)
theorem v_sipush (pc : Nat) (C : Cx q E L cc nL own ret d) {n : Int} {v : Int32} (hd : decode cc pc = .ok (.sipush n, 3)) (hv : (Int16.ofInt n).toInt32 = v) (k : Vx q E L nL ret o (pc + 3) lv (.int v :: st) σ) : Vx q E L nL ret o pc lv st σ := fun H locs ls h1 h2 h3 h4 => lv_sipush C.1 C.2.1 hd hv (k H locs ls h1 h2 h3 h4)
theorem v_ldc (pc : Nat) (C : Cx q E L cc nL own ret d) {idx : Nat} {v : Int32} (hw : Cond.constant own idx v ∈ lw_tbl) (hd : decode cc pc = .ok (.ldc idx, 2)) (k : Vx q E L nL ret o (pc + 2) lv (.int v :: st) σ) : Vx q E L nL ret o pc lv st σ := fun H locs ls h1 h2 h3 h4 => lv_ldc C.1 C.2.1 C.2.2.2.1 (C.2.2.2.2.2.2.2.1 _ hw rfl _) hd (k H locs ls h1 h2 h3 h4)
theorem v_ldcw (pc : Nat) (C : Cx q E L cc nL own ret d) {idx : Nat} {v : Int32} (hw : Cond.constant own idx v ∈ lw_tbl) (hd : decode cc pc = .ok (.ldc_w idx, 3)) (k : Vx q E L nL ret o (pc + 3) lv (.int v :: st) σ) : Vx q E L nL ret o pc lv st σ := fun H locs ls h1 h2 h3 h4 => lv_ldcw C.1 C.2.1 C.2.2.2.1 (C.2.2.2.2.2.2.2.1 _ hw rfl _) hd (k H locs ls h1 h2 h3 h4)
theorem v_ldc2 (pc : Nat) (C : Cx q E L cc nL own ret d) {idx : Nat} {v : Int64} (hw : Cond.constantLong own idx v ∈ lw_tbl) (hd : decode cc pc = .ok (.ldc2_w idx, 3)) (k : Vx q E L nL ret o (pc + 3) lv (.long v :: st) σ) : Vx q E L nL ret o pc lv st σ := fun H locs ls h1 h2 h3 h4 => lv_ldc2 C.1 C.2.1 C.2.2.2.1 (C.2.2.2.2.2.2.2.1 _ hw rfl _) hd (k H locs ls h1 h2 h3 h4)
theorem v_ldcS (pc : Nat) (C : Cx q E L cc nL own ret d) {idx : Nat} (i : Nat) (hi : i < 7) (hx : strIx.getD i 0 = idx) (ho : own = RX7) (hd : decode cc pc = .ok (.ldc idx, 2)) (k : Vx q E L nL ret o (pc + 2) lv (.ref (E.2.2.2.1 i) :: st) σ) : Vx q E L nL ret o pc lv st σ := fun H locs ls h1 h2 h3 h4 => va_ldcS C.1 C.2.1 (by rw [← ho]; exact C.2.2.2.1) (C.2.2.2.2.2.2.2.2.2.2.1 i hi) (by rw [hx]; exact hd) (k H locs ls h1 h2 h3 h4)
theorem v_iload_n (pc : Nat) (C : Cx q E L cc nL own ret d) {k : Fin 4} {i : Nat} {x : Int32} (hd : decode cc pc = .ok (.iload_n k, 1)) (hi : (k : Nat) = i) (hl : lget lv i = some (.int x)) (kk : Vx q E L nL ret o (pc + 1) lv (.int x :: st) σ) : Vx q E L nL ret o pc lv st σ := fun H locs ls h1 h2 h3 h4 => lv_iload_n C.1 C.2.1 hd hi (lget_at (nL := nL) h1.2.2 hl) (kk H locs ls h1 h2 h3 h4)
theorem v_iload (pc : Nat) (C : Cx q E L cc nL own ret d) {i : Nat} {x : Int32} (hd : decode cc pc = .ok (.iload i, 2)) (hl : lget lv i = some (.int x)) (kk : Vx q E L nL ret o (pc + 2) lv (.int x :: st) σ) : Vx q E L nL ret o pc lv st σ := fun H locs ls h1 h2 h3 h4 => lv_iload C.1 C.2.1 hd (lget_at (nL := nL) h1.2.2 hl) (kk H locs ls h1 h2 h3 h4)
theorem v_aload_n (pc : Nat) (C : Cx q E L cc nL own ret d) {k : Fin 4} {i : Nat} {x : Nat} (hd : decode cc pc = .ok (.aload_n k, 1)) (hi : (k : Nat) = i) (hl : lget lv i = some (.ref x)) (kk : Vx q E L nL ret o (pc + 1) lv (.ref x :: st) σ) : Vx q E L nL ret o pc lv st σ := fun H locs ls h1 h2 h3 h4 => lv_aload_n C.1 C.2.1 hd hi (lget_at (nL := nL) h1.2.2 hl) (kk H locs ls h1 h2 h3 h4)
theorem v_aload (pc : Nat) (C : Cx q E L cc nL own ret d) {i : Nat} {x : Nat} (hd : decode cc pc = .ok (.aload i, 2)) (hl : lget lv i = some (.ref x)) (kk : Vx q E L nL ret o (pc + 2) lv (.ref x :: st) σ) : Vx q E L nL ret o pc lv st σ := fun H locs ls h1 h2 h3 h4 => lv_aload C.1 C.2.1 hd (lget_at (nL := nL) h1.2.2 hl) (kk H locs ls h1 h2 h3 h4)
theorem v_lload_n (pc : Nat) (C : Cx q E L cc nL own ret d) {k : Fin 4} {i : Nat} {x : Int64} (hd : decode cc pc = .ok (.lload_n k, 1)) (hi : (k : Nat) = i) (hl : lget lv i = some (.long x)) (kk : Vx q E L nL ret o (pc + 1) lv (.long x :: st) σ) : Vx q E L nL ret o pc lv st σ := fun H locs ls h1 h2 h3 h4 => lv_lload_n C.1 C.2.1 hd hi (lget_at (nL := nL) h1.2.2 hl) (kk H locs ls h1 h2 h3 h4)
theorem v_lload (pc : Nat) (C : Cx q E L cc nL own ret d) {i : Nat} {x : Int64} (hd : decode cc pc = .ok (.lload i, 2)) (hl : lget lv i = some (.long x)) (kk : Vx q E L nL ret o (pc + 2) lv (.long x :: st) σ) : Vx q E L nL ret o pc lv st σ := fun H locs ls h1 h2 h3 h4 => lv_lload C.1 C.2.1 hd (lget_at (nL := nL) h1.2.2 hl) (kk H locs ls h1 h2 h3 h4)
theorem v_istore_n (pc : Nat) (C : Cx q E L cc nL own ret d) {k : Fin 4} {i : Nat} {x : Int32} {lv' : List (Nat × Value)} (hd : decode cc pc = .ok (.istore_n k, 1)) (hi : (k : Nat) = i) (hn : i < nL) (hg : (lgood lv i && lnd lv) = true) (hs : lset lv i (.int x) = lv') (kk : Vx q E L nL ret o (pc + 1) lv' st σ) : Vx q E L nL ret o pc lv (.int x :: st) σ := fun H locs ls h1 h2 h3 h4 => lv_istore_n C.1 C.2.1 hd hi h1 hn rfl (fun ls2 hl2 => kk H locs ls2 (by rw [← hs]; exact lset_has (Bool.and_eq_true_iff.mp hg).1 (Bool.and_eq_true_iff.mp hg).2 hl2) h2 h3 h4)
theorem v_istore (pc : Nat) (C : Cx q E L cc nL own ret d) {i : Nat} {x : Int32} {lv' : List (Nat × Value)} (hd : decode cc pc = .ok (.istore i, 2)) (hn : i < nL) (hg : (lgood lv i && lnd lv) = true) (hs : lset lv i (.int x) = lv') (kk : Vx q E L nL ret o (pc + 2) lv' st σ) : Vx q E L nL ret o pc lv (.int x :: st) σ := fun H locs ls h1 h2 h3 h4 => lv_istore C.1 C.2.1 hd h1 hn rfl (fun ls2 hl2 => kk H locs ls2 (by rw [← hs]; exact lset_has (Bool.and_eq_true_iff.mp hg).1 (Bool.and_eq_true_iff.mp hg).2 hl2) h2 h3 h4)
theorem v_astore_n (pc : Nat) (C : Cx q E L cc nL own ret d) {k : Fin 4} {i : Nat} {x : Nat} {lv' : List (Nat × Value)} (hd : decode cc pc = .ok (.astore_n k, 1)) (hi : (k : Nat) = i) (hn : i < nL) (hg : (lgood lv i && lnd lv) = true) (hs : lset lv i (.ref x) = lv') (kk : Vx q E L nL ret o (pc + 1) lv' st σ) : Vx q E L nL ret o pc lv (.ref x :: st) σ := fun H locs ls h1 h2 h3 h4 => lv_astore_n C.1 C.2.1 hd hi h1 hn rfl (fun ls2 hl2 => kk H locs ls2 (by rw [← hs]; exact lset_has (Bool.and_eq_true_iff.mp hg).1 (Bool.and_eq_true_iff.mp hg).2 hl2) h2 h3 h4)
theorem v_astore (pc : Nat) (C : Cx q E L cc nL own ret d) {i : Nat} {x : Nat} {lv' : List (Nat × Value)} (hd : decode cc pc = .ok (.astore i, 2)) (hn : i < nL) (hg : (lgood lv i && lnd lv) = true) (hs : lset lv i (.ref x) = lv') (kk : Vx q E L nL ret o (pc + 2) lv' st σ) : Vx q E L nL ret o pc lv (.ref x :: st) σ := fun H locs ls h1 h2 h3 h4 => lv_astore C.1 C.2.1 hd h1 hn rfl (fun ls2 hl2 => kk H locs ls2 (by rw [← hs]; exact lset_has (Bool.and_eq_true_iff.mp hg).1 (Bool.and_eq_true_iff.mp hg).2 hl2) h2 h3 h4)
theorem lget_pl {l : List (Nat × Value)} : ∀ {i : Nat} {v : Value}, lget l i = some v → ∃ k : Nat, l[k]? = some (i, v) := by
  induction l with
  | nil => intro i v h; cases h
  | cons y r ih =>
    intro i v h
    obtain ⟨j, w⟩ := y
    unfold lget at h
    split at h
    · next e => cases h; exact ⟨0, by rw [e]; rfl⟩
    · obtain ⟨k, hk⟩ := ih h
      exact ⟨k + 1, by rw [List.getElem?_cons_succ]; exact hk⟩
theorem v_iinc (pc : Nat) (C : Cx q E L cc nL own ret d) {i : Nat} {n : Int} {x v : Int32} {lv' : List (Nat × Value)} (hd : decode cc pc = .ok (.iinc i n, 3)) (hl : lget lv i = some (.int x)) (hv : x + Int32.ofInt n = v) (hn : i < nL) (hg : (lgood lv i && lnd lv) = true) (hs : lset lv i (.int v) = lv') (kk : Vx q E L nL ret o (pc + 3) lv' st σ) : Vx q E L nL ret o pc lv st σ := by
  obtain ⟨k, hk⟩ := lget_pl hl
  exact fun H locs ls h1 h2 h3 h4 => lv_iinc C.1 C.2.1 hd h1 hk hv hn rfl (fun ls2 hl2 => kk H locs ls2 (by rw [← hs]; exact lset_has (Bool.and_eq_true_iff.mp hg).1 (Bool.and_eq_true_iff.mp hg).2 hl2) h2 h3 h4)
theorem v_iadd (pc : Nat) (C : Cx q E L cc nL own ret d) {x y : Int32} (hd : decode cc pc = .ok (.iadd, 1)) (kk : Vx q E L nL ret o (pc + 1) lv (.int (x + y) :: st) σ) : Vx q E L nL ret o pc lv (.int y :: .int x :: st) σ := fun H locs ls h1 h2 h3 h4 => lv_iadd C.1 C.2.1 hd (kk H locs ls h1 h2 h3 h4)
theorem v_isub (pc : Nat) (C : Cx q E L cc nL own ret d) {x y : Int32} (hd : decode cc pc = .ok (.isub, 1)) (kk : Vx q E L nL ret o (pc + 1) lv (.int (x - y) :: st) σ) : Vx q E L nL ret o pc lv (.int y :: .int x :: st) σ := fun H locs ls h1 h2 h3 h4 => lv_isub C.1 C.2.1 hd (kk H locs ls h1 h2 h3 h4)
theorem v_imul (pc : Nat) (C : Cx q E L cc nL own ret d) {x y : Int32} (hd : decode cc pc = .ok (.imul, 1)) (kk : Vx q E L nL ret o (pc + 1) lv (.int (x * y) :: st) σ) : Vx q E L nL ret o pc lv (.int y :: .int x :: st) σ := fun H locs ls h1 h2 h3 h4 => lv_imul C.1 C.2.1 hd (kk H locs ls h1 h2 h3 h4)
theorem v_iand (pc : Nat) (C : Cx q E L cc nL own ret d) {x y : Int32} (hd : decode cc pc = .ok (.iand, 1)) (kk : Vx q E L nL ret o (pc + 1) lv (.int (x &&& y) :: st) σ) : Vx q E L nL ret o pc lv (.int y :: .int x :: st) σ := fun H locs ls h1 h2 h3 h4 => lv_iand C.1 C.2.1 hd (kk H locs ls h1 h2 h3 h4)
theorem v_ior (pc : Nat) (C : Cx q E L cc nL own ret d) {x y : Int32} (hd : decode cc pc = .ok (.ior, 1)) (kk : Vx q E L nL ret o (pc + 1) lv (.int (x ||| y) :: st) σ) : Vx q E L nL ret o pc lv (.int y :: .int x :: st) σ := fun H locs ls h1 h2 h3 h4 => lv_ior C.1 C.2.1 hd (kk H locs ls h1 h2 h3 h4)
theorem v_ixor (pc : Nat) (C : Cx q E L cc nL own ret d) {x y : Int32} (hd : decode cc pc = .ok (.ixor, 1)) (kk : Vx q E L nL ret o (pc + 1) lv (.int (x ^^^ y) :: st) σ) : Vx q E L nL ret o pc lv (.int y :: .int x :: st) σ := fun H locs ls h1 h2 h3 h4 => lv_ixor C.1 C.2.1 hd (kk H locs ls h1 h2 h3 h4)
theorem v_ishl (pc : Nat) (C : Cx q E L cc nL own ret d) {x y : Int32} (hd : decode cc pc = .ok (.ishl, 1)) (kk : Vx q E L nL ret o (pc + 1) lv (.int (x <<< (y &&& 31)) :: st) σ) : Vx q E L nL ret o pc lv (.int y :: .int x :: st) σ := fun H locs ls h1 h2 h3 h4 => lv_ishl C.1 C.2.1 hd (kk H locs ls h1 h2 h3 h4)
theorem v_ishr (pc : Nat) (C : Cx q E L cc nL own ret d) {x y : Int32} (hd : decode cc pc = .ok (.ishr, 1)) (kk : Vx q E L nL ret o (pc + 1) lv (.int (x >>> (y &&& 31)) :: st) σ) : Vx q E L nL ret o pc lv (.int y :: .int x :: st) σ := fun H locs ls h1 h2 h3 h4 => lv_ishr C.1 C.2.1 hd (kk H locs ls h1 h2 h3 h4)
theorem v_idiv (pc : Nat) (C : Cx q E L cc nL own ret d) {x y : Int32} {K : Rs} (hd : decode cc pc = .ok (.idiv, 1)) (hf : p_nz y K = some o) (kk : K = some o → Vx q E L nL ret o (pc + 1) lv (.int (x / y) :: st) σ) : Vx q E L nL ret o pc lv (.int y :: .int x :: st) σ := fun H locs ls h1 h2 h3 h4 => lv_idiv C.1 C.2.1 hd (p_nz_of hf).1 (kk (p_nz_of hf).2 H locs ls h1 h2 h3 h4)
theorem v_idiv_c (pc : Nat) (C : Cx q E L cc nL own ret d) {x y : Int32} (hd : decode cc pc = .ok (.idiv, 1)) (hf : ¬ y = 0) (kk : Vx q E L nL ret o (pc + 1) lv (.int (x / y) :: st) σ) : Vx q E L nL ret o pc lv (.int y :: .int x :: st) σ := fun H locs ls h1 h2 h3 h4 => lv_idiv C.1 C.2.1 hd hf (kk H locs ls h1 h2 h3 h4)
theorem v_irem (pc : Nat) (C : Cx q E L cc nL own ret d) {x y : Int32} {K : Rs} (hd : decode cc pc = .ok (.irem, 1)) (hf : p_nz y K = some o) (kk : K = some o → Vx q E L nL ret o (pc + 1) lv (.int (x - x / y * y) :: st) σ) : Vx q E L nL ret o pc lv (.int y :: .int x :: st) σ := fun H locs ls h1 h2 h3 h4 => lv_irem C.1 C.2.1 hd (p_nz_of hf).1 (kk (p_nz_of hf).2 H locs ls h1 h2 h3 h4)
theorem v_irem_c (pc : Nat) (C : Cx q E L cc nL own ret d) {x y : Int32} (hd : decode cc pc = .ok (.irem, 1)) (hf : ¬ y = 0) (kk : Vx q E L nL ret o (pc + 1) lv (.int (x - x / y * y) :: st) σ) : Vx q E L nL ret o pc lv (.int y :: .int x :: st) σ := fun H locs ls h1 h2 h3 h4 => lv_irem C.1 C.2.1 hd hf (kk H locs ls h1 h2 h3 h4)
theorem v_ineg (pc : Nat) (C : Cx q E L cc nL own ret d) {x : Int32} (hd : decode cc pc = .ok (.ineg, 1)) (kk : Vx q E L nL ret o (pc + 1) lv (.int (-x) :: st) σ) : Vx q E L nL ret o pc lv (.int x :: st) σ := fun H locs ls h1 h2 h3 h4 => lv_ineg C.1 C.2.1 hd (kk H locs ls h1 h2 h3 h4)
theorem v_land (pc : Nat) (C : Cx q E L cc nL own ret d) {x y : Int64} (hd : decode cc pc = .ok (.land, 1)) (kk : Vx q E L nL ret o (pc + 1) lv (.long (x &&& y) :: st) σ) : Vx q E L nL ret o pc lv (.long y :: .long x :: st) σ := fun H locs ls h1 h2 h3 h4 => lv_land C.1 C.2.1 hd (kk H locs ls h1 h2 h3 h4)
theorem v_lor (pc : Nat) (C : Cx q E L cc nL own ret d) {x y : Int64} (hd : decode cc pc = .ok (.lor, 1)) (kk : Vx q E L nL ret o (pc + 1) lv (.long (x ||| y) :: st) σ) : Vx q E L nL ret o pc lv (.long y :: .long x :: st) σ := fun H locs ls h1 h2 h3 h4 => lv_lor C.1 C.2.1 hd (kk H locs ls h1 h2 h3 h4)
theorem v_lushr (pc : Nat) (C : Cx q E L cc nL own ret d) {x : Int64} {y : Int32} (hd : decode cc pc = .ok (.lushr, 1)) (kk : Vx q E L nL ret o (pc + 1) lv (.long ((x.toUInt64 >>> (y.toInt64.toUInt64 &&& Int64.toUInt64 63)).toInt64) :: st) σ) : Vx q E L nL ret o pc lv (.int y :: .long x :: st) σ := fun H locs ls h1 h2 h3 h4 => lv_lushr C.1 C.2.1 hd rfl (kk H locs ls h1 h2 h3 h4)
theorem v_lshr (pc : Nat) (C : Cx q E L cc nL own ret d) {x : Int64} {y : Int32} (hd : decode cc pc = .ok (.lshr, 1)) (kk : Vx q E L nL ret o (pc + 1) lv (.long (x >>> (y.toInt64 &&& 63)) :: st) σ) : Vx q E L nL ret o pc lv (.int y :: .long x :: st) σ := fun H locs ls h1 h2 h3 h4 => lv_lshr C.1 C.2.1 hd rfl (kk H locs ls h1 h2 h3 h4)
theorem v_lshl (pc : Nat) (C : Cx q E L cc nL own ret d) {x : Int64} {y : Int32} (hd : decode cc pc = .ok (.lshl, 1)) (kk : Vx q E L nL ret o (pc + 1) lv (.long (x <<< (y.toInt64 &&& 63)) :: st) σ) : Vx q E L nL ret o pc lv (.int y :: .long x :: st) σ := fun H locs ls h1 h2 h3 h4 => lv_lshl C.1 C.2.1 hd rfl (kk H locs ls h1 h2 h3 h4)
theorem v_i2l (pc : Nat) (C : Cx q E L cc nL own ret d) {x : Int32} (hd : decode cc pc = .ok (.i2l, 1)) (kk : Vx q E L nL ret o (pc + 1) lv (.long x.toInt64 :: st) σ) : Vx q E L nL ret o pc lv (.int x :: st) σ := fun H locs ls h1 h2 h3 h4 => lv_i2l C.1 C.2.1 hd rfl (kk H locs ls h1 h2 h3 h4)
theorem v_l2i (pc : Nat) (C : Cx q E L cc nL own ret d) {x : Int64} (hd : decode cc pc = .ok (.l2i, 1)) (kk : Vx q E L nL ret o (pc + 1) lv (.int x.toInt32 :: st) σ) : Vx q E L nL ret o pc lv (.long x :: st) σ := fun H locs ls h1 h2 h3 h4 => lv_l2i C.1 C.2.1 hd rfl (kk H locs ls h1 h2 h3 h4)
theorem v_i2c (pc : Nat) (C : Cx q E L cc nL own ret d) {x : Int32} (hd : decode cc pc = .ok (.i2c, 1)) (kk : Vx q E L nL ret o (pc + 1) lv (.int (x.toUInt32 % 65536).toInt32 :: st) σ) : Vx q E L nL ret o pc lv (.int x :: st) σ := fun H locs ls h1 h2 h3 h4 => lv_i2c C.1 C.2.1 hd rfl (kk H locs ls h1 h2 h3 h4)
theorem v_dup (pc : Nat) (C : Cx q E L cc nL own ret d) {w : Value} (hd : decode cc pc = .ok (.dup, 1)) (hw : w.category = 1) (kk : Vx q E L nL ret o (pc + 1) lv (w :: w :: st) σ) : Vx q E L nL ret o pc lv (w :: st) σ := fun H locs ls h1 h2 h3 h4 => lv_dup C.1 C.2.1 hd hw (kk H locs ls h1 h2 h3 h4)
theorem v_pop (pc : Nat) (C : Cx q E L cc nL own ret d) {w : Value} (hd : decode cc pc = .ok (.pop, 1)) (hw : w.category = 1) (kk : Vx q E L nL ret o (pc + 1) lv st σ) : Vx q E L nL ret o pc lv (w :: st) σ := fun H locs ls h1 h2 h3 h4 => lv_pop C.1 C.2.1 hd hw (kk H locs ls h1 h2 h3 h4)
theorem v_dup2 (pc : Nat) (C : Cx q E L cc nL own ret d) {w u : Value} (hd : decode cc pc = .ok (.dup2, 1)) (hw : w.category = 1) (hu : u.category = 1) (kk : Vx q E L nL ret o (pc + 1) lv (w :: u :: w :: u :: st) σ) : Vx q E L nL ret o pc lv (w :: u :: st) σ := fun H locs ls h1 h2 h3 h4 => lv_dup2_11 C.1 C.2.1 hd hw hu (kk H locs ls h1 h2 h3 h4)
theorem v_if_eq (pc : Nat) (C : Cx q E L cc nL own ret d) {x : Int32} {off : Int} {tgt : Nat} {A B : Rs} (hd : decode cc pc = .ok (.ifCond .eq off, 3)) (ht : (pc : Int) + off = (tgt : Int)) (hf : (if x = 0 then A else B) = some o) (kt : A = some o → Vx q E L nL ret o tgt lv st σ) (kf : B = some o → Vx q E L nL ret o (pc + 3) lv st σ) : Vx q E L nL ret o pc lv (.int x :: st) σ := fun H locs ls h1 h2 h3 h4 => lv_if_eq C.1 C.2.1 hd ht (fun hc => kt ((p_ite hf).1 hc) H locs ls h1 h2 h3 h4) (fun hc => kf ((p_ite hf).2 hc) H locs ls h1 h2 h3 h4)
theorem v_if_lt (pc : Nat) (C : Cx q E L cc nL own ret d) {x : Int32} {off : Int} {tgt : Nat} {A B : Rs} (hd : decode cc pc = .ok (.ifCond .lt off, 3)) (ht : (pc : Int) + off = (tgt : Int)) (hf : (if x < 0 then A else B) = some o) (kt : A = some o → Vx q E L nL ret o tgt lv st σ) (kf : B = some o → Vx q E L nL ret o (pc + 3) lv st σ) : Vx q E L nL ret o pc lv (.int x :: st) σ := fun H locs ls h1 h2 h3 h4 => lv_if_lt C.1 C.2.1 hd ht (fun hc => kt ((p_ite hf).1 hc) H locs ls h1 h2 h3 h4) (fun hc => kf ((p_ite hf).2 hc) H locs ls h1 h2 h3 h4)
theorem v_if_ge (pc : Nat) (C : Cx q E L cc nL own ret d) {x : Int32} {off : Int} {tgt : Nat} {A B : Rs} (hd : decode cc pc = .ok (.ifCond .ge off, 3)) (ht : (pc : Int) + off = (tgt : Int)) (hf : (if 0 ≤ x then A else B) = some o) (kt : A = some o → Vx q E L nL ret o tgt lv st σ) (kf : B = some o → Vx q E L nL ret o (pc + 3) lv st σ) : Vx q E L nL ret o pc lv (.int x :: st) σ := fun H locs ls h1 h2 h3 h4 => lv_if_ge C.1 C.2.1 hd ht (fun hc => kt ((p_ite hf).1 hc) H locs ls h1 h2 h3 h4) (fun hc => kf ((p_ite hf).2 hc) H locs ls h1 h2 h3 h4)
theorem v_if_gt (pc : Nat) (C : Cx q E L cc nL own ret d) {x : Int32} {off : Int} {tgt : Nat} {A B : Rs} (hd : decode cc pc = .ok (.ifCond .gt off, 3)) (ht : (pc : Int) + off = (tgt : Int)) (hf : (if 0 < x then A else B) = some o) (kt : A = some o → Vx q E L nL ret o tgt lv st σ) (kf : B = some o → Vx q E L nL ret o (pc + 3) lv st σ) : Vx q E L nL ret o pc lv (.int x :: st) σ := fun H locs ls h1 h2 h3 h4 => lv_if_gt C.1 C.2.1 hd ht (fun hc => kt ((p_ite hf).1 hc) H locs ls h1 h2 h3 h4) (fun hc => kf ((p_ite hf).2 hc) H locs ls h1 h2 h3 h4)
theorem v_if_le (pc : Nat) (C : Cx q E L cc nL own ret d) {x : Int32} {off : Int} {tgt : Nat} {A B : Rs} (hd : decode cc pc = .ok (.ifCond .le off, 3)) (ht : (pc : Int) + off = (tgt : Int)) (hf : (if x ≤ 0 then A else B) = some o) (kt : A = some o → Vx q E L nL ret o tgt lv st σ) (kf : B = some o → Vx q E L nL ret o (pc + 3) lv st σ) : Vx q E L nL ret o pc lv (.int x :: st) σ := fun H locs ls h1 h2 h3 h4 => lv_if_le C.1 C.2.1 hd ht (fun hc => kt ((p_ite hf).1 hc) H locs ls h1 h2 h3 h4) (fun hc => kf ((p_ite hf).2 hc) H locs ls h1 h2 h3 h4)
theorem v_if_ne (pc : Nat) (C : Cx q E L cc nL own ret d) {x : Int32} {off : Int} {tgt : Nat} {A B : Rs} (hd : decode cc pc = .ok (.ifCond .ne off, 3)) (ht : (pc : Int) + off = (tgt : Int)) (hf : (if x = 0 then B else A) = some o) (kt : A = some o → Vx q E L nL ret o tgt lv st σ) (kf : B = some o → Vx q E L nL ret o (pc + 3) lv st σ) : Vx q E L nL ret o pc lv (.int x :: st) σ := fun H locs ls h1 h2 h3 h4 => lv_if_ne C.1 C.2.1 hd ht (fun hc => kt ((p_ite hf).2 hc) H locs ls h1 h2 h3 h4) (fun hc => kf ((p_ite hf).1 hc) H locs ls h1 h2 h3 h4)
theorem v_icmp_eq (pc : Nat) (C : Cx q E L cc nL own ret d) {x y : Int32} {off : Int} {tgt : Nat} {A B : Rs} (hd : decode cc pc = .ok (.if_icmp .eq off, 3)) (ht : (pc : Int) + off = (tgt : Int)) (hf : (if x = y then A else B) = some o) (kt : A = some o → Vx q E L nL ret o tgt lv st σ) (kf : B = some o → Vx q E L nL ret o (pc + 3) lv st σ) : Vx q E L nL ret o pc lv (.int y :: .int x :: st) σ := fun H locs ls h1 h2 h3 h4 => lv_icmp_eq C.1 C.2.1 hd ht (fun hc => kt ((p_ite hf).1 hc) H locs ls h1 h2 h3 h4) (fun hc => kf ((p_ite hf).2 hc) H locs ls h1 h2 h3 h4)
theorem v_icmp_lt (pc : Nat) (C : Cx q E L cc nL own ret d) {x y : Int32} {off : Int} {tgt : Nat} {A B : Rs} (hd : decode cc pc = .ok (.if_icmp .lt off, 3)) (ht : (pc : Int) + off = (tgt : Int)) (hf : (if x < y then A else B) = some o) (kt : A = some o → Vx q E L nL ret o tgt lv st σ) (kf : B = some o → Vx q E L nL ret o (pc + 3) lv st σ) : Vx q E L nL ret o pc lv (.int y :: .int x :: st) σ := fun H locs ls h1 h2 h3 h4 => lv_icmp_lt C.1 C.2.1 hd ht (fun hc => kt ((p_ite hf).1 hc) H locs ls h1 h2 h3 h4) (fun hc => kf ((p_ite hf).2 hc) H locs ls h1 h2 h3 h4)
theorem v_icmp_ge (pc : Nat) (C : Cx q E L cc nL own ret d) {x y : Int32} {off : Int} {tgt : Nat} {A B : Rs} (hd : decode cc pc = .ok (.if_icmp .ge off, 3)) (ht : (pc : Int) + off = (tgt : Int)) (hf : (if y ≤ x then A else B) = some o) (kt : A = some o → Vx q E L nL ret o tgt lv st σ) (kf : B = some o → Vx q E L nL ret o (pc + 3) lv st σ) : Vx q E L nL ret o pc lv (.int y :: .int x :: st) σ := fun H locs ls h1 h2 h3 h4 => lv_icmp_ge C.1 C.2.1 hd ht (fun hc => kt ((p_ite hf).1 hc) H locs ls h1 h2 h3 h4) (fun hc => kf ((p_ite hf).2 hc) H locs ls h1 h2 h3 h4)
theorem v_icmp_gt (pc : Nat) (C : Cx q E L cc nL own ret d) {x y : Int32} {off : Int} {tgt : Nat} {A B : Rs} (hd : decode cc pc = .ok (.if_icmp .gt off, 3)) (ht : (pc : Int) + off = (tgt : Int)) (hf : (if y < x then A else B) = some o) (kt : A = some o → Vx q E L nL ret o tgt lv st σ) (kf : B = some o → Vx q E L nL ret o (pc + 3) lv st σ) : Vx q E L nL ret o pc lv (.int y :: .int x :: st) σ := fun H locs ls h1 h2 h3 h4 => lv_icmp_gt C.1 C.2.1 hd ht (fun hc => kt ((p_ite hf).1 hc) H locs ls h1 h2 h3 h4) (fun hc => kf ((p_ite hf).2 hc) H locs ls h1 h2 h3 h4)
theorem v_icmp_le (pc : Nat) (C : Cx q E L cc nL own ret d) {x y : Int32} {off : Int} {tgt : Nat} {A B : Rs} (hd : decode cc pc = .ok (.if_icmp .le off, 3)) (ht : (pc : Int) + off = (tgt : Int)) (hf : (if x ≤ y then A else B) = some o) (kt : A = some o → Vx q E L nL ret o tgt lv st σ) (kf : B = some o → Vx q E L nL ret o (pc + 3) lv st σ) : Vx q E L nL ret o pc lv (.int y :: .int x :: st) σ := fun H locs ls h1 h2 h3 h4 => lv_icmp_le C.1 C.2.1 hd ht (fun hc => kt ((p_ite hf).1 hc) H locs ls h1 h2 h3 h4) (fun hc => kf ((p_ite hf).2 hc) H locs ls h1 h2 h3 h4)
theorem v_icmp_ne (pc : Nat) (C : Cx q E L cc nL own ret d) {x y : Int32} {off : Int} {tgt : Nat} {A B : Rs} (hd : decode cc pc = .ok (.if_icmp .ne off, 3)) (ht : (pc : Int) + off = (tgt : Int)) (hf : (if x = y then B else A) = some o) (kt : A = some o → Vx q E L nL ret o tgt lv st σ) (kf : B = some o → Vx q E L nL ret o (pc + 3) lv st σ) : Vx q E L nL ret o pc lv (.int y :: .int x :: st) σ := fun H locs ls h1 h2 h3 h4 => lv_icmp_ne C.1 C.2.1 hd ht (fun hc => kt ((p_ite hf).2 hc) H locs ls h1 h2 h3 h4) (fun hc => kf ((p_ite hf).1 hc) H locs ls h1 h2 h3 h4)
theorem v_goto (pc : Nat) (C : Cx q E L cc nL own ret d) {off : Int} {tgt : Nat} (hd : decode cc pc = .ok (.goto off, 3)) (ht : (pc : Int) + off = (tgt : Int)) (kk : Vx q E L nL ret o tgt lv st σ) : Vx q E L nL ret o pc lv st σ := fun H locs ls h1 h2 h3 h4 => lv_goto C.1 C.2.1 hd ht (kk H locs ls h1 h2 h3 h4)
theorem v_case {x v : Int32} {A B : Rs} {pc : Nat} (hf : (if x = v then A else B) = some o) (kt : x = v → A = some o → Vx q E L nL ret o pc lv (.int x :: st) σ) (kf : ¬ x = v → B = some o → Vx q E L nL ret o pc lv (.int x :: st) σ) : Vx q E L nL ret o pc lv (.int x :: st) σ := by
  by_cases h : x = v
  · exact kt h ((p_ite hf).1 h)
  · exact kf h ((p_ite hf).2 h)
theorem v_tabIn (pc : Nat) (C : Cx q E L cc nL own ret d) {x v : Int32} {dflt lo hi : Int} {offs : Array Int} {len tgt : Nat} {off : Int} (hx : x = v) (hd : decode cc pc = .ok (.tableswitch dflt lo hi offs, len)) (h : (decide (¬ v.toInt < lo) && decide (¬ hi < v.toInt)) = true) (ho : offs[(v.toInt - lo).toNat]? = some off) (ht : (pc : Int) + off = (tgt : Int)) (kk : Vx q E L nL ret o tgt lv st σ) : Vx q E L nL ret o pc lv (.int x :: st) σ := by
  subst hx
  simp only [Bool.and_eq_true, decide_eq_true_eq] at h
  exact fun H locs ls h1 h2 h3 h4 => lv_tableIn C.1 C.2.1 hd h.1 h.2 ho ht (kk H locs ls h1 h2 h3 h4)
theorem v_tabOut (pc : Nat) (C : Cx q E L cc nL own ret d) {x : Int32} {dflt lo hi : Int} {offs : Array Int} {len tgt : Nat} (hd : decode cc pc = .ok (.tableswitch dflt lo hi offs, len)) (h : x.toInt < lo ∨ hi < x.toInt) (ht : (pc : Int) + dflt = (tgt : Int)) (kk : Vx q E L nL ret o tgt lv st σ) : Vx q E L nL ret o pc lv (.int x :: st) σ := fun H locs ls h1 h2 h3 h4 => lv_tableOut C.1 C.2.1 hd h ht (kk H locs ls h1 h2 h3 h4)
theorem v_look (pc : Nat) (C : Cx q E L cc nL own ret d) {x : Int32} {dflt : Int} {ps : Array (Int × Int)} {len tgt : Nat} {off : Int} (hd : decode cc pc = .ok (.lookupswitch dflt ps, len)) (hp : (ps.toList.zip (ps.toList.drop 1)).all (fun (a, next) => a.1 < next.1) = true) (ho : Op.lookupswitch.offset ps.toList dflt x.toInt = off) (ht : (pc : Int) + off = (tgt : Int)) (kk : Vx q E L nL ret o tgt lv st σ) : Vx q E L nL ret o pc lv (.int x :: st) σ := fun H locs ls h1 h2 h3 h4 => lv_lookup C.1 C.2.1 hd hp ho ht (kk H locs ls h1 h2 h3 h4)
/-- the field link idx of the class own is slot j of the class ci -/
def Lk (own : String) (idx ci j : Nat) : Prop := ∃ (Cn : String) (T : u_T) (N : Nat), vwCl[ci]? = some (Cn, T, N) ∧ j < N ∧ (∀ w ∈ u_ws Cn T N, w ∈ lw_tbl) ∧ (Cond.fieldLink own idx (T j).1 (T j).2.1 (T j).2.2.1 ∈ lw_tbl ∨ ∃ host, Cond.fieldLinkNest own idx (T j).1 (T j).2.1 (T j).2.2.1 host ∈ lw_tbl)
/-- and may be written: its type is ty -/
def Lp (own : String) (idx ci j : Nat) (ty : FieldType) : Prop := ∃ (Cn : String) (T : u_T) (N : Nat) (t0 : Nat → FieldType), vwCl[ci]? = some (Cn, T, N) ∧ j < N ∧ (∀ w ∈ u_ws Cn T N, w ∈ lw_tbl) ∧ (Cond.fieldLink own idx (T j).1 (T j).2.1 (T j).2.2.1 ∈ lw_tbl ∨ ∃ host, Cond.fieldLinkNest own idx (T j).1 (T j).2.1 (T j).2.2.1 host ∈ lw_tbl) ∧ (∀ k, k < N → parseFieldDescriptor (T k).2.2.1 = some (t0 k)) ∧ (∀ a, a < N → ∀ b, b < N → a ≠ b → (T a).2.1 ≠ (T b).2.1) ∧ (T j).2.2.2 = false ∧ t0 j = ty
theorem Cx.tb (C : Cx q E L cc nL own ret d) {w : Cond} (h : w ∈ lw_tbl) (ho : wd_ok w = true) (a : Array Value) : w.before a (mS q) = true := C.2.2.2.2.2.2.2.1 w h ho a
theorem Cx.ts (C : Cx q E L cc nL own ret d) : ∀ w ∈ lw_tbl.filter wd_ok, w.before (mA q) (mS q) = true := fun w h => C.tb (List.mem_filter.mp h).1 (List.mem_filter.mp h).2 _
theorem Cx.K (C : Cx q E L cc nL own ret d) : va_K E.1 vwCl (tysE E) (mS q) := C.2.2.2.2.2.2.2.2.1
theorem u_ws_ok {Cn : String} {T : u_T} {N : Nat} (h : ∀ w ∈ u_ws Cn T N, w ∈ lw_tbl) : ∀ w ∈ u_ws Cn T N, w ∈ lw_tbl.filter wd_ok := fun w hw => List.mem_filter.mpr ⟨h w hw, by
  obtain ⟨k, -, rfl⟩ := List.mem_map.mp hw
  unfold u_lay
  split <;> rfl⟩
theorem v_getR (pc : Nat) (C : Cx q E L cc nL own ret d) {idx ci n j k off : Nat} (hl : Lk own idx ci j) (hk : Lc L k (ci, n)) (hc : ci < nCls) (hj : (fo ci)[j]? = some (some off)) (hd : decode cc pc = .ok (.getfield idx, 3)) (kk : Vx q E L nL ret o (pc + 3) lv (.ref (E.2.1 (k + off)) :: st) σ) : Vx q E L nL ret o pc lv (.ref (E.2.1 k) :: st) σ := by
  intro H locs ls h1 h2 h3 h4
  obtain ⟨Cn, T, N, hcl, hjN, hin, hlk⟩ := hl
  obtain ⟨q0, -, hq⟩ := wo_get E σ hk.1
  rw [ent_obj E σ hk.2 hc] at hq
  rcases hlk with hlk | ⟨host, hlk⟩
  · exact va_get C.1 C.2.1 (Ts := lw_tbl.filter wd_ok) C.ts (u_ws_ok hin) C.2.2.2.1 C.K h2 q0 hq hcl j hjN (C.tb hlk rfl _) (fun _ h => h) (fl_ref E.2.1 σ k off (fo ci) 0 j hj) hd (kk H locs ls h1 h2 h3 h4)
  · exact va_getN C.1 C.2.1 (Ts := lw_tbl.filter wd_ok) C.ts (u_ws_ok hin) C.2.2.2.1 C.K h2 q0 hq hcl j hjN (C.tb hlk rfl _) (fun _ h => h) (fl_ref E.2.1 σ k off (fo ci) 0 j hj) hd (kk H locs ls h1 h2 h3 h4)
theorem v_getI (pc : Nat) (C : Cx q E L cc nL own ret d) {idx ci n j k dum : Nat} (hl : Lk own idx ci j) (hk : Lc L k (ci, n)) (hc : ci < nCls) (hj : (fo ci)[j]? = some none) (hd : decode cc pc = .ok (.getfield idx, 3)) (kk : Vx q E L nL ret o (pc + 3) lv (.int (σ k j) :: st) σ) : Vx q E L nL ret o pc lv (.ref (E.2.1 k) :: st) σ := by
  intro H locs ls h1 h2 h3 h4
  obtain ⟨Cn, T, N, hcl, hjN, hin, hlk⟩ := hl
  obtain ⟨q0, -, hq⟩ := wo_get E σ hk.1
  rw [ent_obj E σ hk.2 hc] at hq
  rcases hlk with hlk | ⟨host, hlk⟩
  · exact va_get C.1 C.2.1 (Ts := lw_tbl.filter wd_ok) C.ts (u_ws_ok hin) C.2.2.2.1 C.K h2 q0 hq hcl j hjN (C.tb hlk rfl _) (fun _ h => h) ((by have := fl_int E.2.1 σ k (fo ci) 0 j hj; rwa [Nat.zero_add] at this)) hd (kk H locs ls h1 h2 h3 h4)
  · exact va_getN C.1 C.2.1 (Ts := lw_tbl.filter wd_ok) C.ts (u_ws_ok hin) C.2.2.2.1 C.K h2 q0 hq hcl j hjN (C.tb hlk rfl _) (fun _ h => h) ((by have := fl_int E.2.1 σ k (fo ci) 0 j hj; rwa [Nat.zero_add] at this)) hd (kk H locs ls h1 h2 h3 h4)
theorem v_putT (pc : Nat) (C : Cx q E L cc nL own ret d) {idx ci n j k : Nat} {ty : FieldType} {v : Int32} (hl : Lp own idx ci j ty) (hk : Lc L k (ci, n)) (hc : ci < nCls) (hj : (fo ci)[j]? = some none) (hnr : narrow ty (.int v) = .int v) (hft : fits ty (.int v) = true) (hd : decode cc pc = .ok (.putfield idx, 3)) (kk : Vx q E L nL ret o (pc + 3) lv st (sg_up σ k j v)) : Vx q E L nL ret o pc lv (.int v :: .ref (E.2.1 k) :: st) σ := by
  intro H locs ls h1 h2 h3 h4
  obtain ⟨Cn, T, N, t0, hcl, hjN, hin, hlk, hty, hnm, hfin, htj⟩ := hl
  obtain ⟨q0, hL, hq⟩ := wo_get E σ hk.1
  rw [ent_obj E σ hk.2 hc] at hq
  have hset : (wo E L σ).set q0 (E.2.1 k, .inr (ci, (fl_vs E.2.1 σ k (fo ci) 0).set j (.int v))) = wo E L (sg_up σ k j v) := by
    have h9 := fl_set E.2.1 σ k v (fo ci) 0 j hj
    rw [Nat.zero_add] at h9
    rw [h9, ← ent_obj E (sg_up σ k j v) hk.2 hc]
    exact wo_set h3 hL (fun i hi => sg_up_off i hi)
  have hlen : j < (fl_vs E.2.1 σ k (fo ci) 0).length := by
    rw [fl_len]
    exact (List.getElem?_eq_some_iff.mp hj).1
  have hdt : parseFieldDescriptor (T j).2.2.1 = some ty := by rw [hty j hjN, htj]
  rcases hlk with hlk | ⟨host, hlk⟩
  · exact va_put C.1 C.2.1 (Ts := lw_tbl.filter wd_ok) C.ts (u_ws_ok hin) t0 hty hnm C.2.2.2.1 C.K h2 h3 h4 q0 hq hcl j hjN (C.tb hlk rfl _) (fun _ h => h) hfin hdt hnr hft hlen hd (fun H1 locs1 g2 g3 g4 => by rw [hset] at g2 g3; exact kk H1 locs1 ls h1 g2 g3 g4)
  · exact va_putN C.1 C.2.1 (Ts := lw_tbl.filter wd_ok) C.ts (u_ws_ok hin) t0 hty hnm C.2.2.2.1 C.K h2 h3 h4 q0 hq hcl j hjN (C.tb hlk rfl _) (fun _ h => h) hfin hdt hnr hft hlen hd (fun H1 locs1 g2 g3 g4 => by rw [hset] at g2 g3; exact kk H1 locs1 ls h1 g2 g3 g4)
theorem v_putI (pc : Nat) (C : Cx q E L cc nL own ret d) {idx ci n j k : Nat} {v : Int32} (hl : Lp own idx ci j .int) (hk : Lc L k (ci, n)) (hc : ci < nCls) (hj : (fo ci)[j]? = some none) (hd : decode cc pc = .ok (.putfield idx, 3)) (kk : Vx q E L nL ret o (pc + 3) lv st (sg_up σ k j v)) : Vx q E L nL ret o pc lv (.int v :: .ref (E.2.1 k) :: st) σ := v_putT pc C hl hk hc hj rfl rfl hd kk
theorem v_putZ (pc : Nat) (C : Cx q E L cc nL own ret d) {idx ci n j k : Nat} {v : Int32} {K : Rs} (hl : Lp own idx ci j .boolean) (hk : Lc L k (ci, n)) (hc : ci < nCls) (hj : (fo ci)[j]? = some none) (hd : decode cc pc = .ok (.putfield idx, 3)) (hf : p_bo v K = some o) (kk : K = some o → Vx q E L nL ret o (pc + 3) lv st (sg_up σ k j v)) : Vx q E L nL ret o pc lv (.int v :: .ref (E.2.1 k) :: st) σ := v_putT pc C hl hk hc hj (p_bo_of hf).1 (p_bo_of hf).2.1 hd (kk (p_bo_of hf).2.2)
theorem v_iald (pc : Nat) (C : Cx q E L cc nL own ret d) {k n : Nat} {i : Int32} {K : Int32 → Rs} (hk : Lc L k (nCls + 0, n)) (hd : decode cc pc = .ok (.iaload, 1)) (hf : p_rd σ k n i K = some o) (kk : K (σ k i.toNatClampNeg) = some o → Vx q E L nL ret o (pc + 1) lv (.int (σ k i.toNatClampNeg) :: st) σ) : Vx q E L nL ret o pc lv (.int i :: .ref (E.2.1 k) :: st) σ := by
  intro H locs ls h1 h2 h3 h4
  obtain ⟨q0, -, hq⟩ := wo_get E σ hk.1
  rw [ent_arr E σ hk.2 (by decide)] at hq
  exact va_iald C.1 C.2.1 C.K h2 q0 0 hq rfl (p_rd_of hf).1 hd (kk (p_rd_of hf).2 H locs ls h1 h2 h3 h4)
theorem v_zald (pc : Nat) (C : Cx q E L cc nL own ret d) {k n : Nat} {i : Int32} {K : Int32 → Rs} (hk : Lc L k (nCls + 1, n)) (hd : decode cc pc = .ok (.baload, 1)) (hf : p_rd σ k n i K = some o) (kk : K (σ k i.toNatClampNeg) = some o → Vx q E L nL ret o (pc + 1) lv (.int (σ k i.toNatClampNeg) :: st) σ) : Vx q E L nL ret o pc lv (.int i :: .ref (E.2.1 k) :: st) σ := by
  intro H locs ls h1 h2 h3 h4
  obtain ⟨q0, -, hq⟩ := wo_get E σ hk.1
  rw [ent_arr E σ hk.2 (by decide)] at hq
  exact va_zald C.1 C.2.1 C.K h2 q0 1 hq rfl (p_rd_of hf).1 hd (kk (p_rd_of hf).2 H locs ls h1 h2 h3 h4)
theorem v_cald (pc : Nat) (C : Cx q E L cc nL own ret d) {k n : Nat} {i : Int32} {K : Int32 → Rs} (hk : Lc L k (nCls + 2, n)) (hd : decode cc pc = .ok (.caload, 1)) (hf : p_rd σ k n i K = some o) (kk : K (σ k i.toNatClampNeg) = some o → Vx q E L nL ret o (pc + 1) lv (.int (σ k i.toNatClampNeg) :: st) σ) : Vx q E L nL ret o pc lv (.int i :: .ref (E.2.1 k) :: st) σ := by
  intro H locs ls h1 h2 h3 h4
  obtain ⟨q0, -, hq⟩ := wo_get E σ hk.1
  rw [ent_arr E σ hk.2 (by decide)] at hq
  exact va_cald C.1 C.2.1 C.K h2 q0 2 hq rfl (p_rd_of hf).1 hd (kk (p_rd_of hf).2 H locs ls h1 h2 h3 h4)
theorem v_iast (pc : Nat) (C : Cx q E L cc nL own ret d) {k n : Nat} {i v : Int32} {K : Sg → Rs} (hk : Lc L k (nCls + 0, n)) (hd : decode cc pc = .ok (.iastore, 1)) (hf : p_wr σ k n i (v) K = some o) (kk : K (sg_up σ k i.toNatClampNeg (v)) = some o → Vx q E L nL ret o (pc + 1) lv st (sg_up σ k i.toNatClampNeg (v))) : Vx q E L nL ret o pc lv (.int v :: .int i :: .ref (E.2.1 k) :: st) σ := by
  intro H locs ls h1 h2 h3 h4
  obtain ⟨q0, hL, hq⟩ := wo_get E σ hk.1
  have hset : (wo E L σ).set q0 (E.2.1 k, .inl (E.2.2.1 (nCls + 0), n, .inl (upd (σ k) i.toNatClampNeg (v)))) = wo E L (sg_up σ k i.toNatClampNeg (v)) := by
    rw [← sg_up_row, ← ent_arr E (sg_up σ k i.toNatClampNeg (v)) hk.2 (by decide)]
    exact wo_set h3 hL (fun i hi => sg_up_off i hi)
  rw [ent_arr E σ hk.2 (by decide)] at hq
  exact va_iast C.1 C.2.1 C.K h2 h3 h4 q0 0 hq rfl (p_wr_of hf).1 hd (fun H1 locs1 g2 g3 g4 => by rw [hset] at g2 g3; exact kk (p_wr_of hf).2 H1 locs1 ls h1 g2 g3 g4)
theorem v_zast (pc : Nat) (C : Cx q E L cc nL own ret d) {k n : Nat} {i v : Int32} {K : Sg → Rs} (hk : Lc L k (nCls + 1, n)) (hd : decode cc pc = .ok (.bastore, 1)) (hf : p_wr σ k n i (vp_nar .boolean v) K = some o) (kk : K (sg_up σ k i.toNatClampNeg (vp_nar .boolean v)) = some o → Vx q E L nL ret o (pc + 1) lv st (sg_up σ k i.toNatClampNeg (vp_nar .boolean v))) : Vx q E L nL ret o pc lv (.int v :: .int i :: .ref (E.2.1 k) :: st) σ := by
  intro H locs ls h1 h2 h3 h4
  obtain ⟨q0, hL, hq⟩ := wo_get E σ hk.1
  have hset : (wo E L σ).set q0 (E.2.1 k, .inl (E.2.2.1 (nCls + 1), n, .inl (upd (σ k) i.toNatClampNeg (vp_nar .boolean v)))) = wo E L (sg_up σ k i.toNatClampNeg (vp_nar .boolean v)) := by
    rw [← sg_up_row, ← ent_arr E (sg_up σ k i.toNatClampNeg (vp_nar .boolean v)) hk.2 (by decide)]
    exact wo_set h3 hL (fun i hi => sg_up_off i hi)
  rw [ent_arr E σ hk.2 (by decide)] at hq
  exact va_zast C.1 C.2.1 C.K h2 h3 h4 q0 1 hq rfl (p_wr_of hf).1 hd (fun H1 locs1 g2 g3 g4 => by rw [hset] at g2 g3; exact kk (p_wr_of hf).2 H1 locs1 ls h1 g2 g3 g4)
theorem v_cast (pc : Nat) (C : Cx q E L cc nL own ret d) {k n : Nat} {i v : Int32} {K : Sg → Rs} (hk : Lc L k (nCls + 2, n)) (hd : decode cc pc = .ok (.castore, 1)) (hf : p_wr σ k n i (vp_nar .char v) K = some o) (kk : K (sg_up σ k i.toNatClampNeg (vp_nar .char v)) = some o → Vx q E L nL ret o (pc + 1) lv st (sg_up σ k i.toNatClampNeg (vp_nar .char v))) : Vx q E L nL ret o pc lv (.int v :: .int i :: .ref (E.2.1 k) :: st) σ := by
  intro H locs ls h1 h2 h3 h4
  obtain ⟨q0, hL, hq⟩ := wo_get E σ hk.1
  have hset : (wo E L σ).set q0 (E.2.1 k, .inl (E.2.2.1 (nCls + 2), n, .inl (upd (σ k) i.toNatClampNeg (vp_nar .char v)))) = wo E L (sg_up σ k i.toNatClampNeg (vp_nar .char v)) := by
    rw [← sg_up_row, ← ent_arr E (sg_up σ k i.toNatClampNeg (vp_nar .char v)) hk.2 (by decide)]
    exact wo_set h3 hL (fun i hi => sg_up_off i hi)
  rw [ent_arr E σ hk.2 (by decide)] at hq
  exact va_cast C.1 C.2.1 C.K h2 h3 h4 q0 2 hq rfl (p_wr_of hf).1 hd (fun H1 locs1 g2 g3 g4 => by rw [hset] at g2 g3; exact kk (p_wr_of hf).2 H1 locs1 ls h1 g2 g3 g4)
theorem v_alen (pc : Nat) (C : Cx q E L cc nL own ret d) {k n t : Nat} {v : Int32} (hk : Lc L k (t, n)) (ht : t = nCls ∨ t = nCls + 1 ∨ t = nCls + 2) (hv : Int32.ofNat n = v) (hd : decode cc pc = .ok (.arraylength, 1)) (kk : Vx q E L nL ret o (pc + 1) lv (.int v :: st) σ) : Vx q E L nL ret o pc lv (.ref (E.2.1 k) :: st) σ := by
  intro H locs ls h1 h2 h3 h4
  obtain ⟨q0, -, hq⟩ := wo_get E σ hk.1
  rcases ht with rfl | rfl | rfl
  · rw [ent_arr E σ hk.2 (by decide)] at hq
    exact va_alen C.1 C.2.1 C.K h2 q0 0 hq rfl hv hd (kk H locs ls h1 h2 h3 h4)
  · rw [ent_arr E σ hk.2 (by decide)] at hq
    exact va_alen C.1 C.2.1 C.K h2 q0 1 hq rfl hv hd (kk H locs ls h1 h2 h3 h4)
  · rw [ent_arr E σ hk.2 (by decide)] at hq
    exact va_alen C.1 C.2.1 C.K h2 q0 2 hq rfl hv hd (kk H locs ls h1 h2 h3 h4)
theorem v_ret (pc : Nat) (C : Cx q E L cc nL own ret d) (hr : ret = none) (hd : decode cc pc = .ok (.return_, 1)) {r : Int32} (hf : some (r, σ) = some o) : Vx q E L nL ret o pc lv [] σ := by
  intro H locs ls h1 h2 h3 h4
  cases hf
  subst hr
  exact W.vret C.1 C.2.1 C.2.2.2.2.1 (fun t ht hW => ⟨rfl, ⟨by rw [ht]; exact h2, h3, by rw [ht]; exact (C.2.2.2.2.2.2.2.warm hW).kept h4.2.1⟩, h4.F ht⟩) h4.2.2 hd (hlocks := C.2.2.2.2.2.1)
theorem v_iret (pc : Nat) (C : Cx q E L cc nL own ret d) (hr : ret = some .int) (hd : decode cc pc = .ok (.ireturn, 1)) {r : Int32} (hf : some (r, σ) = some o) : Vx q E L nL ret o pc lv [.int r] σ := by
  intro H locs ls h1 h2 h3 h4
  cases hf
  subst hr
  exact W.iret C.1 C.2.1 C.2.2.2.2.1 (fun t ht hW => ⟨rfl, ⟨by rw [ht]; exact h2, h3, by rw [ht]; exact (C.2.2.2.2.2.2.2.warm hW).kept h4.2.1⟩, h4.F ht⟩) h4.2.2 hd (hlocks := C.2.2.2.2.2.1)
theorem v_zretN (pc : Nat) (C : Cx q E L cc nL own ret d) (hr : ret = some .boolean) (hd : decode cc pc = .ok (.ireturn, 1)) {r : Int32} (hn : narrow .boolean (.int r) = .int r) (hf : some (r, σ) = some o) : Vx q E L nL ret o pc lv [.int r] σ := by
  intro H locs ls h1 h2 h3 h4
  cases hf
  subst hr
  exact W.zret C.1 C.2.1 C.2.2.2.2.1 hn (fun t ht hW => ⟨rfl, ⟨by rw [ht]; exact h2, h3, by rw [ht]; exact (C.2.2.2.2.2.2.2.warm hW).kept h4.2.1⟩, h4.F ht⟩) h4.2.2 hd (hlocks := C.2.2.2.2.2.1)
theorem v_zret (pc : Nat) (C : Cx q E L cc nL own ret d) (hr : ret = some .boolean) (hd : decode cc pc = .ok (.ireturn, 1)) {r : Int32} (hf : p_bo r (some (r, σ)) = some o) : Vx q E L nL ret o pc lv [.int r] σ := v_zretN pc C hr hd (p_bo_of hf).1 (p_bo_of hf).2.2
/-- the method link idx of the class own is y -/
def Lm (own : String) (idx : Nat) (y : MethodName) : Prop := Cond.methodLink own idx y ∈ lw_tbl ∨ ∃ host, Cond.methodLinkNest own idx y host ∈ lw_tbl
/-- y is a method of instances of the class ci, with n parameters -/
def Ly (y : MethodName) (ci : Nat) (cb : ByteArray) (maxL : Nat) (rt : Option FieldType) (n : Nat) : Prop := (∃ (T : u_T) (N : Nat), vwCl[ci]? = some (y.cls, T, N)) ∧ Cond.code y cb maxL rt ∈ lw_tbl ∧ Cond.instanceMethod y ∈ lw_tbl ∧ Cond.selects y.cls y y ∈ lw_tbl ∧ Cond.initialized y.cls ∈ lw_tbl ∧ y.cls ≠ "java/lang/invoke/MethodHandle" ∧ y.cls ≠ "java/lang/invoke/VarHandle" ∧ (parseMethodDescriptor y.desc).map (fun d => d.parameters.length) = some n
/-- y is a static method, with n parameters -/
def Lz (y : MethodName) (cb : ByteArray) (maxL : Nat) (rt : Option FieldType) (n : Nat) : Prop := Cond.code y cb maxL rt ∈ lw_tbl ∧ Cond.static y ∈ lw_tbl ∧ Cond.initialized y.cls ∈ lw_tbl ∧ y.cls ≠ "java/lang/invoke/MethodHandle" ∧ y.cls ≠ "java/lang/invoke/VarHandle" ∧ (parseMethodDescriptor y.desc).map (fun d => d.parameters.length) = some n
def rvl (rt : Option FieldType) (r : Int32) : List Value := (rv rt r).toList
theorem vr_go {rest : List Value} {rt : Option FieldType} {o1 : Int32 × Sg} {pc : Nat} {stk : List Value} {a : Array Value} (C : Cx q E L cc nL own ret d) {H : Heap} {locs : List Loc} {ls : Array Slot} (h1 : lv_has ls nL lv) (h4 : va_S (inL E L) (mS q).heap H locs)
    (hr : va_Run (mP q) (mL q) (mE q) (mR q) (mS q) (mM q) (mA q) (mB q) (mH q) (mC q) H locs 0 0 0 0 (F0 (mM q) pc ls stk) rest (Qo E L rt o1 a) (inL E L)) (kk : Vx q E L nL ret o (pc + 3) lv (rvl rt o1.1 ++ rest) o1.2) :
    W (mP q) (mL q) (mE q) (mR q) (mS q) (mM q) (mA q) (mB q) (mH q) (mC q) H locs 0 0 (MQ (mB q) (Qo E L ret o) (mA q) (mS q) 0 0 (inL E L)) (F0 (mM q) pc ls stk) := by
  intro T hT X
  obtain ⟨v, st₀, t, T', L', h0, X', hL, e1, e2, ⟨hv, ⟨w1, w2, -⟩, hz, hk⟩, stp⟩ := hr T hT X
  cases hv
  rw [h0] at hz hk
  obtain ⟨t2, a1, b1⟩ := kk T'.heap (locs ++ L') ls h1 (by rw [e1]; exact w1) w2
    ⟨Nat.le_trans h4.1 (by rw [e1]; exact hz), fun x g1 g2 => by rw [e1, hk x (Nat.lt_of_lt_of_le g1 h4.1) g2]; exact h4.2.1 x g1 g2, fun x hx => by
      rcases List.mem_append.mp hx with h | h
      · exact h4.2.2 x h
      · exact hL x h⟩ T' rfl X'
  exact ⟨t2, stp t2 a1, b1⟩
theorem good_code {y : MethodName} {cb : ByteArray} {maxL : Nat} {rt : Option FieldType} (h : Cond.code y cb maxL rt ∈ lw_tbl) : GoodIn (lw_tbl.filter wd_ok) [Cond.code y cb maxL rt] := fun w hw => by
  rw [List.mem_singleton.mp hw]
  exact ⟨List.mem_filter.mpr ⟨h, rfl⟩, Or.inl rfl⟩
theorem World.blind {vs : List Value} : FrameBlind (va_Pc vs (World E L σ)) := fun a U g mk h => ⟨h.1, h.2.same rfl rfl⟩
theorem Cx.enter (C : Cx q E L cc nL own ret d) {H : Heap} {locs : List Loc} (h2 : va_P E.1 vwCl (wo E L σ) H) (h3 : va_D (inL E L) (wo E L σ)) (h4 : va_S (inL E L) (mS q).heap H locs) (vs : List Value) : ∀ U : State, U.heap = H → (mS q).WarmedH U.vm → va_Pc vs (World E L σ) vs.toArray U := fun U hU hW => ⟨rfl, by rw [hU]; exact h2, h3, by rw [hU]; exact (C.2.2.2.2.2.2.2.warm hW).kept h4.2.1⟩
theorem v_callV (pc : Nat) (C : Cx q E L cc nL own ret d) {idx : Nat} {y : MethodName} {ci n k x maxL d' : Nat} {cb : ByteArray} {rt : Option FieldType} {f : Rs} {K : Int32 → Sg → Rs} {stk : List Value} (As : List Value) (hm : Lm own idx y) (hy : Ly y ci cb maxL rt n) (hk : Lc L k (ci, x)) (hc : ci < nCls) (hd : decode cc pc = .ok (.invokevirtual idx, 3)) (hn : As.length = n) (hr : d' + 1 ≤ d ∧ maxL ≤ 40) (hs : stk = As.reverse ++ .ref (E.2.1 k) :: st) (hst : (st.map fun v => v.category).sum ≤ 8)
    (hM : ∀ o1 : Int32 × Sg, f = some o1 → Mi (mL q) y cb maxL rt d' E L (.ref (E.2.1 k) :: As) σ o1) (hf : p_call f K = some o) (kk : ∀ (r : Int32) (τ : Sg), K r τ = some o → Vx q E L nL ret o (pc + 3) lv (rvl rt r ++ st) τ) : Vx q E L nL ret o pc lv stk σ := by
  obtain ⟨r, τ, e1, e2⟩ := p_call_of hf
  obtain ⟨⟨T, N, hcl⟩, w1, w2, w3, w4, n1, n2, n3⟩ := hy
  intro H locs ls h1 h2 h3 h4
  obtain ⟨q0, -, hq⟩ := wo_get E σ hk.1
  rw [ent_obj E σ hk.2 hc] at hq
  have hR : (rmd d').frames + 1 ≤ (mR q).frames ∧ 8 + (maxL + 11) + (rmd d').locals ≤ (mR q).locals := by
    rw [C.2.2.2.2.2.2.1]
    show d' + 1 ≤ d ∧ 8 + (maxL + 11) + 60 * d' ≤ 60 * d
    omega
  have hg : Cond.code y cb maxL rt ∈ lw_tbl.filter wd_ok := List.mem_filter.mpr ⟨w1, rfl⟩
  have hp : PreV (mS q) H y.cls (E.2.1 k) (va_Pc (.ref (E.2.1 k) :: As) (World E L σ)) As := ⟨World.blind, va_recv C.K h2 hcl hq, C.enter h2 h3 h4 _⟩
  rcases hm with hm | ⟨host, hm⟩
  · exact vr_go C h1 h4 (va_runV (As := As) (rest := st) (nL := nL) (n := n) ⟨C.1, C.2.1, C.2.2.1, C.2.2.2.1, C.ts⟩ (hM (r, τ) e1) ⟨callB_of (Ts := lw_tbl.filter wd_ok) n C.ts (good_code w1) rfl rfl rfl (C.tb w4 rfl _) (C.tb hm rfl _) ⟨n1, n2, n3⟩ hR, C.tb w2 rfl _, C.tb w3 rfl _⟩ hp rfl hn h1.1 hs (lv_room hst) hd ⟨Nat.zero_le _, Nat.zero_le _⟩) (kk r τ e2)
  · exact vr_go C h1 h4 (va_runVN (As := As) (rest := st) (nL := nL) (n := n) ⟨C.1, C.2.1, C.2.2.1, C.2.2.2.1, C.ts⟩ (hM (r, τ) e1) ⟨va_cnB (Ts := lw_tbl.filter wd_ok) n C.ts (good_code w1) rfl rfl rfl (va_Nw.of rfl (C.tb hm rfl (mA q))) (C.tb w4 rfl _) ⟨n1, n2, n3⟩ hR, C.tb w2 rfl _, C.tb w3 rfl _⟩ hp rfl hn h1.1 hs (lv_room hst) hd ⟨Nat.zero_le _, Nat.zero_le _⟩) (kk r τ e2)
theorem v_callS (pc : Nat) (C : Cx q E L cc nL own ret d) {idx : Nat} {y : MethodName} {n maxL d' : Nat} {cb : ByteArray} {rt : Option FieldType} {f : Rs} {K : Int32 → Sg → Rs} {stk : List Value} (As : List Value) (hm : Lm own idx y) (hy : Lz y cb maxL rt n) (hd : decode cc pc = .ok (.invokestatic idx, 3)) (hn : As.length = n) (hr : d' + 1 ≤ d ∧ maxL ≤ 40) (hs : stk = As.reverse ++ st) (hst : (st.map fun v => v.category).sum ≤ 8)
    (hM : ∀ o1 : Int32 × Sg, f = some o1 → Mi (mL q) y cb maxL rt d' E L As σ o1) (hf : p_call f K = some o) (kk : ∀ (r : Int32) (τ : Sg), K r τ = some o → Vx q E L nL ret o (pc + 3) lv (rvl rt r ++ st) τ) : Vx q E L nL ret o pc lv stk σ := by
  obtain ⟨r, τ, e1, e2⟩ := p_call_of hf
  obtain ⟨w1, w2, w4, n1, n2, n3⟩ := hy
  intro H locs ls h1 h2 h3 h4
  have hR : (rmd d').frames + 1 ≤ (mR q).frames ∧ 8 + (maxL + 11) + (rmd d').locals ≤ (mR q).locals := by
    rw [C.2.2.2.2.2.2.1]
    show d' + 1 ≤ d ∧ 8 + (maxL + 11) + 60 * d' ≤ 60 * d
    omega
  have hp : PreS (mS q) H (va_Pc As (World E L σ)) As := ⟨World.blind, C.enter h2 h3 h4 _⟩
  rcases hm with hm | ⟨host, hm⟩
  · exact vr_go C h1 h4 (va_runS (As := As) (rest := st) (nL := nL) (n := n) ⟨C.1, C.2.1, C.2.2.1, C.2.2.2.1, C.ts⟩ (hM (r, τ) e1) ⟨callB_of (Ts := lw_tbl.filter wd_ok) n C.ts (good_code w1) rfl rfl rfl (C.tb w4 rfl _) (C.tb hm rfl _) ⟨n1, n2, n3⟩ hR, C.tb w2 rfl _⟩ hp rfl hn h1.1 hs (lv_room hst) hd ⟨Nat.zero_le _, Nat.zero_le _⟩) (kk r τ e2)
  · exact vr_go C h1 h4 (va_runSN (As := As) (rest := st) (nL := nL) (n := n) ⟨C.1, C.2.1, C.2.2.1, C.2.2.2.1, C.ts⟩ (hM (r, τ) e1) ⟨va_cnB (Ts := lw_tbl.filter wd_ok) n C.ts (good_code w1) rfl rfl rfl (va_Nw.of rfl (C.tb hm rfl (mA q))) (C.tb w4 rfl _) ⟨n1, n2, n3⟩ hR, C.tb w2 rfl _, trivial⟩ hp rfl hn h1.1 hs (lv_room hst) hd ⟨Nat.zero_le _, Nat.zero_le _⟩) (kk r τ e2)
end VR
end
section
/-! more rows of Vx: Math, System.arraycopy; membership of words -/
theorem tbi (i : Nat) {w : Cond} (h : tables_1[i]? = some w) : w ∈ lw_tbl := List.mem_append_right _ (List.mem_of_getElem? h)
theorem tbp (i : Nat) {w : Cond} (h : (k2_sels lw_privs)[i]? = some w) : w ∈ lw_tbl := List.mem_append_left _ (List.mem_of_getElem? h)
def jmax (x y : Int32) : Int32 := if x < y then y else x
def jmin (x y : Int32) : Int32 := if y < x then y else x
def jabs (x : Int32) : Int32 := if 0 ≤ x then x else 0 - x
def sg_row (σ : Sg) (k : Nat) (f : Nat → Int32) : Sg := fun a => if a = k then f else σ a
def p_cpy (σ : Sg) (k0 n0 k1 n1 : Nat) (sp dp n : Int32) (K : Sg → Rs) : Rs := if (0 ≤ sp ∧ 0 ≤ dp ∧ 0 ≤ n) ∧ sp.toNatClampNeg + n.toNatClampNeg ≤ n0 ∧ dp.toNatClampNeg + n.toNatClampNeg ≤ n1 then K (sg_row σ k1 (va_cpy (σ k0) (σ k1) sp.toNatClampNeg dp.toNatClampNeg n.toNatClampNeg)) else none
section VR2
variable {q : Mc} {E : En} {L : List Nat} {cc : ByteArray} {nL : Nat} {own : String} {ret : Option FieldType} {d : Nat} {o : Int32 × Sg} {lv : List (Nat × Value)} {st : List Value} {σ : Sg}
def Lmath (y : MethodName) (cb : ByteArray) (n : Nat) : Prop := Cond.static y ∈ lw_tbl ∧ Cond.initialized "java/lang/Math" ∈ lw_tbl ∧ Cond.code y cb n (some .int) ∈ lw_tbl
theorem Cx.rm (C : Cx q E L cc nL own ret d) (hd : 1 ≤ d) {w : Nat} (hw : w ≤ 60) : 1 ≤ (mR q).frames ∧ w ≤ (mR q).locals := by
  rw [C.2.2.2.2.2.2.1]
  show 1 ≤ d ∧ w ≤ 60 * d
  omega
theorem v_mmax (pc : Nat) (C : Cx q E L cc nL own ret d) {idx : Nat} {x y : Int32} (hl : Cond.methodLink own idx Lib.Math.max.name ∈ lw_tbl) (hw : Lmath Lib.Math.max.name Lib.Math.max.code 2) (hr : 1 ≤ d) (hst : (st.map fun v => v.category).sum ≤ 8) (hd : decode cc pc = .ok (.invokestatic idx, 3)) (kk : Vx q E L nL ret o (pc + 3) lv (.int (jmax x y) :: st) σ) : Vx q E L nL ret o pc lv (.int y :: .int x :: st) σ := fun H locs ls h1 h2 h3 h4 =>
  va_mmax C.1 C.2.1 (C.2.2.1.trans h1.1.symm) C.2.2.2.1 (C.tb hl rfl _) (C.tb hw.1 rfl _) (C.tb hw.2.1 rfl _) (C.tb hw.2.2 rfl _) (C.rm hr (Nat.zero_le 60)).1 (Nat.le_trans (by omega) (C.rm hr (w := 21) (by omega)).2) (Nat.zero_le _) (Nat.zero_le _) hd (kk H locs ls h1 h2 h3 h4)
theorem v_mmin (pc : Nat) (C : Cx q E L cc nL own ret d) {idx : Nat} {x y : Int32} (hl : Cond.methodLink own idx Lib.Math.min.name ∈ lw_tbl) (hw : Lmath Lib.Math.min.name Lib.Math.min.code 2) (hr : 1 ≤ d) (hst : (st.map fun v => v.category).sum ≤ 8) (hd : decode cc pc = .ok (.invokestatic idx, 3)) (kk : Vx q E L nL ret o (pc + 3) lv (.int (jmin x y) :: st) σ) : Vx q E L nL ret o pc lv (.int y :: .int x :: st) σ := fun H locs ls h1 h2 h3 h4 =>
  va_mmin C.1 C.2.1 (C.2.2.1.trans h1.1.symm) C.2.2.2.1 (C.tb hl rfl _) (C.tb hw.1 rfl _) (C.tb hw.2.1 rfl _) (C.tb hw.2.2 rfl _) (C.rm hr (Nat.zero_le 60)).1 (Nat.le_trans (by omega) (C.rm hr (w := 21) (by omega)).2) (Nat.zero_le _) (Nat.zero_le _) hd (kk H locs ls h1 h2 h3 h4)
theorem v_mabs (pc : Nat) (C : Cx q E L cc nL own ret d) {idx : Nat} {x : Int32} (hl : Cond.methodLink own idx Lib.Math.abs.name ∈ lw_tbl) (hw : Lmath Lib.Math.abs.name Lib.Math.abs.code 1) (hr : 1 ≤ d) (hst : (st.map fun v => v.category).sum ≤ 8) (hd : decode cc pc = .ok (.invokestatic idx, 3)) (kk : Vx q E L nL ret o (pc + 3) lv (.int (jabs x) :: st) σ) : Vx q E L nL ret o pc lv (.int x :: st) σ := fun H locs ls h1 h2 h3 h4 =>
  va_mabs C.1 C.2.1 (C.2.2.1.trans h1.1.symm) C.2.2.2.1 (C.tb hl rfl _) (C.tb hw.1 rfl _) (C.tb hw.2.1 rfl _) (C.tb hw.2.2 rfl _) (C.rm hr (Nat.zero_le 60)).1 (Nat.le_trans (by omega) (C.rm hr (w := 21) (by omega)).2) (Nat.zero_le _) (Nat.zero_le _) hd (kk H locs ls h1 h2 h3 h4)
def Lcp : Prop := Cond.native arraycopyName ∈ lw_tbl ∧ Cond.static arraycopyName ∈ lw_tbl ∧ Cond.initialized "java/lang/System" ∈ lw_tbl
theorem v_copyi (pc : Nat) (C : Cx q E L cc nL own ret d) {idx k0 n0 k1 n1 : Nat} {sp dp n : Int32} {K : Sg → Rs} (hl : Cond.methodLink own idx arraycopyName ∈ lw_tbl) (hw : Lcp) (hr : 1 ≤ d) (hst : (st.map fun v => v.category).sum ≤ 8) (hk0 : Lc L k0 (nCls, n0)) (hk1 : Lc L k1 (nCls, n1)) (hd : decode cc pc = .ok (.invokestatic idx, 3)) (hf : p_cpy σ k0 n0 k1 n1 sp dp n K = some o) (kk : ∀ τ : Sg, K τ = some o → Vx q E L nL ret o (pc + 3) lv st τ) : Vx q E L nL ret o pc lv (.int n :: .int dp :: .ref (E.2.1 k1) :: .int sp :: .ref (E.2.1 k0) :: st) σ := by
  intro H locs ls h1 h2 h3 h4
  unfold p_cpy at hf
  split at hf
  · next hc =>
    obtain ⟨⟨g1, g2, g3⟩, g4, g5⟩ := hc
    obtain ⟨q0, -, hq0⟩ := wo_get E σ hk0.1
    obtain ⟨q1, hL1, hq1⟩ := wo_get E σ hk1.1
    have hset : (wo E L σ).set q1 (E.2.1 k1, .inl (E.2.2.1 nCls, n1, .inl (va_cpy (σ k0) (σ k1) sp.toNatClampNeg dp.toNatClampNeg n.toNatClampNeg))) = wo E L (sg_row σ k1 (va_cpy (σ k0) (σ k1) sp.toNatClampNeg dp.toNatClampNeg n.toNatClampNeg)) := by
      have e : sg_row σ k1 (va_cpy (σ k0) (σ k1) sp.toNatClampNeg dp.toNatClampNeg n.toNatClampNeg) k1 = va_cpy (σ k0) (σ k1) sp.toNatClampNeg dp.toNatClampNeg n.toNatClampNeg := if_pos rfl
      have e2 := ent_arr E (sg_row σ k1 (va_cpy (σ k0) (σ k1) sp.toNatClampNeg dp.toNatClampNeg n.toNatClampNeg)) hk1.2 (by decide)
      rw [e] at e2
      rw [← e2]
      exact wo_set h3 hL1 (fun i hi => if_neg hi)
    rw [ent_arr E σ hk0.2 (by decide)] at hq0
    rw [ent_arr E σ hk1.2 (by decide)] at hq1
    exact va_copyi C.1 C.2.1 (C.2.2.1.trans h1.1.symm) C.2.2.2.1 (C.tb hl rfl _) (C.tb hw.1 rfl _) (C.tb hw.2.1 rfl _) (C.tb hw.2.2 rfl _) C.K h2 h3 h4 q0 q1 0 0 hq0 hq1 rfl rfl rfl (Int32.not_lt.mpr g1) (Int32.not_lt.mpr g2) (Int32.not_lt.mpr g3) g4 g5 (fun i _ => rfl) (C.rm hr (Nat.zero_le 60)).1 (Nat.le_trans (Nat.add_le_add_right hst _) (C.rm hr (w := 8 + (nativeFrameWords "java/lang/System" "arraycopy" 5 + 11)) (by decide)).2) hd (fun H1 locs1 w2 w3 w4 => by rw [hset] at w2 w3; exact kk _ hf H1 locs1 ls h1 w2 w3 w4)
  · cases hf
end VR2
end
section
/-! printed by wip/whole/gen/links.py -/
theorem lk_X10_10 : Lk RX10 10 10 0 := ⟨RX10, TX10, 12, rfl, by decide, inX10, Or.inl (tbi 296 (by decide +kernel))⟩
theorem lk_X10_16 : Lk RX10 16 10 1 := ⟨RX10, TX10, 12, rfl, by decide, inX10, Or.inl (tbi 297 (by decide +kernel))⟩
theorem lk_X10_19 : Lk RX10 19 10 2 := ⟨RX10, TX10, 12, rfl, by decide, inX10, Or.inl (tbi 298 (by decide +kernel))⟩
theorem lk_X10_25 : Lk RX10 25 10 3 := ⟨RX10, TX10, 12, rfl, by decide, inX10, Or.inl (tbi 299 (by decide +kernel))⟩
theorem lk_X10_32 : Lk RX10 32 10 4 := ⟨RX10, TX10, 12, rfl, by decide, inX10, Or.inl (tbi 300 (by decide +kernel))⟩
theorem lk_X10_39 : Lk RX10 39 10 5 := ⟨RX10, TX10, 12, rfl, by decide, inX10, Or.inl (tbi 301 (by decide +kernel))⟩
theorem lk_X10_46 : Lk RX10 46 10 6 := ⟨RX10, TX10, 12, rfl, by decide, inX10, Or.inl (tbi 302 (by decide +kernel))⟩
theorem lk_X10_53 : Lk RX10 53 10 7 := ⟨RX10, TX10, 12, rfl, by decide, inX10, Or.inl (tbi 303 (by decide +kernel))⟩
theorem lk_X10_60 : Lk RX10 60 10 8 := ⟨RX10, TX10, 12, rfl, by decide, inX10, Or.inl (tbi 304 (by decide +kernel))⟩
theorem lk_X10_64 : Lk RX10 64 10 9 := ⟨RX10, TX10, 12, rfl, by decide, inX10, Or.inl (tbi 305 (by decide +kernel))⟩
theorem lk_X10_68 : Lk RX10 68 10 10 := ⟨RX10, TX10, 12, rfl, by decide, inX10, Or.inl (tbi 306 (by decide +kernel))⟩
theorem lp_X10_68 : Lp RX10 68 10 10 .boolean := ⟨RX10, TX10, 12, tyX10, rfl, by decide, inX10, Or.inl (tbi 306 (by decide +kernel)), tyX10_ok, nmX10, rfl, rfl⟩
theorem lk_X10_72 : Lk RX10 72 10 11 := ⟨RX10, TX10, 12, rfl, by decide, inX10, Or.inl (tbi 307 (by decide +kernel))⟩
theorem lp_X10_72 : Lp RX10 72 10 11 .int := ⟨RX10, TX10, 12, tyX10, rfl, by decide, inX10, Or.inl (tbi 307 (by decide +kernel)), tyX10_ok, nmX10, rfl, rfl⟩
theorem lk_X10_80 : Lk RX10 80 7 1 := ⟨RX7, TX7, 4, rfl, by decide, inX7, Or.inr ⟨"AuntsPuzzle", tbi 182 (by decide +kernel)⟩⟩
theorem lp_X10_80 : Lp RX10 80 7 1 .int := ⟨RX7, TX7, 4, tyX7, rfl, by decide, inX7, Or.inr ⟨"AuntsPuzzle", tbi 182 (by decide +kernel)⟩, tyX7_ok, nmX7, rfl, rfl⟩
theorem lk_X10_95 : Lk RX10 95 6 2 := ⟨RX6, TX6, 5, rfl, by decide, inX6, Or.inr ⟨"AuntsPuzzle", tbi 221 (by decide +kernel)⟩⟩
theorem lp_X10_95 : Lp RX10 95 6 2 .boolean := ⟨RX6, TX6, 5, tyX6, rfl, by decide, inX6, Or.inr ⟨"AuntsPuzzle", tbi 221 (by decide +kernel)⟩, tyX6_ok, nmX6, rfl, rfl⟩
theorem lk_X10_106 : Lk RX10 106 3 0 := ⟨RX3, TX3, 3, rfl, by decide, inX3, Or.inr ⟨"AuntsPuzzle", tbi 153 (by decide +kernel)⟩⟩
theorem lk_X10_116 : Lk RX10 116 1 6 := ⟨RX1, TX1, 7, rfl, by decide, inX1, Or.inr ⟨"AuntsPuzzle", tbi 60 (by decide +kernel)⟩⟩
theorem lk_X10_122 : Lk RX10 122 3 2 := ⟨RX3, TX3, 3, rfl, by decide, inX3, Or.inr ⟨"AuntsPuzzle", tbi 165 (by decide +kernel)⟩⟩
theorem lk_X10_126 : Lk RX10 126 4 1 := ⟨RX4, TX4, 4, rfl, by decide, inX4, Or.inr ⟨"AuntsPuzzle", tbi 122 (by decide +kernel)⟩⟩
theorem lk_X10_131 : Lk RX10 131 4 2 := ⟨RX4, TX4, 4, rfl, by decide, inX4, Or.inr ⟨"AuntsPuzzle", tbi 125 (by decide +kernel)⟩⟩
theorem lk_X10_134 : Lk RX10 134 3 1 := ⟨RX3, TX3, 3, rfl, by decide, inX3, Or.inr ⟨"AuntsPuzzle", tbi 161 (by decide +kernel)⟩⟩
theorem lk_X10_143 : Lk RX10 143 4 3 := ⟨RX4, TX4, 4, rfl, by decide, inX4, Or.inr ⟨"AuntsPuzzle", tbi 127 (by decide +kernel)⟩⟩
theorem lk_X10_149 : Lk RX10 149 0 0 := ⟨RX0, TX0, 5, rfl, by decide, inX0, Or.inr ⟨"AuntsPuzzle", tbi 88 (by decide +kernel)⟩⟩
theorem lk_X10_152 : Lk RX10 152 0 1 := ⟨RX0, TX0, 5, rfl, by decide, inX0, Or.inr ⟨"AuntsPuzzle", tbi 91 (by decide +kernel)⟩⟩
theorem lk_X10_155 : Lk RX10 155 0 2 := ⟨RX0, TX0, 5, rfl, by decide, inX0, Or.inr ⟨"AuntsPuzzle", tbi 94 (by decide +kernel)⟩⟩
theorem lk_X10_183 : Lk RX10 183 0 4 := ⟨RX0, TX0, 5, rfl, by decide, inX0, Or.inr ⟨"AuntsPuzzle", tbi 98 (by decide +kernel)⟩⟩
theorem lk_X10_195 : Lk RX10 195 6 4 := ⟨RX6, TX6, 5, rfl, by decide, inX6, Or.inr ⟨"AuntsPuzzle", tbi 225 (by decide +kernel)⟩⟩
theorem lp_X10_195 : Lp RX10 195 6 4 .int := ⟨RX6, TX6, 5, tyX6, rfl, by decide, inX6, Or.inr ⟨"AuntsPuzzle", tbi 225 (by decide +kernel)⟩, tyX6_ok, nmX6, rfl, rfl⟩
theorem lk_X10_198 : Lk RX10 198 6 3 := ⟨RX6, TX6, 5, rfl, by decide, inX6, Or.inr ⟨"AuntsPuzzle", tbi 223 (by decide +kernel)⟩⟩
theorem lp_X10_198 : Lp RX10 198 6 3 .int := ⟨RX6, TX6, 5, tyX6, rfl, by decide, inX6, Or.inr ⟨"AuntsPuzzle", tbi 223 (by decide +kernel)⟩, tyX6_ok, nmX6, rfl, rfl⟩
theorem lk_X10_201 : Lk RX10 201 6 1 := ⟨RX6, TX6, 5, rfl, by decide, inX6, Or.inr ⟨"AuntsPuzzle", tbi 219 (by decide +kernel)⟩⟩
theorem lk_X10_218 : Lk RX10 218 4 0 := ⟨RX4, TX4, 4, rfl, by decide, inX4, Or.inr ⟨"AuntsPuzzle", tbi 119 (by decide +kernel)⟩⟩
theorem lp_X10_218 : Lp RX10 218 4 0 .int := ⟨RX4, TX4, 4, tyX4, rfl, by decide, inX4, Or.inr ⟨"AuntsPuzzle", tbi 119 (by decide +kernel)⟩, tyX4_ok, nmX4, rfl, rfl⟩
theorem lk_X10_228 : Lk RX10 228 1 2 := ⟨RX1, TX1, 7, rfl, by decide, inX1, Or.inr ⟨"AuntsPuzzle", tbi 52 (by decide +kernel)⟩⟩
theorem lp_X10_228 : Lp RX10 228 1 2 .int := ⟨RX1, TX1, 7, tyX1, rfl, by decide, inX1, Or.inr ⟨"AuntsPuzzle", tbi 52 (by decide +kernel)⟩, tyX1_ok, nmX1, rfl, rfl⟩
theorem lk_X10_240 : Lk RX10 240 5 1 := ⟨RX5, TX5, 3, rfl, by decide, inX5, Or.inr ⟨"AuntsPuzzle", tbi 272 (by decide +kernel)⟩⟩
theorem lk_X10_267 : Lk RX10 267 8 1 := ⟨RX8, TX8, 2, rfl, by decide, inX8, Or.inr ⟨"AuntsPuzzle", tbi 203 (by decide +kernel)⟩⟩
theorem lp_X10_267 : Lp RX10 267 8 1 .int := ⟨RX8, TX8, 2, tyX8, rfl, by decide, inX8, Or.inr ⟨"AuntsPuzzle", tbi 203 (by decide +kernel)⟩, tyX8_ok, nmX8, rfl, rfl⟩
theorem lk_X10_277 : Lk RX10 277 1 0 := ⟨RX1, TX1, 7, rfl, by decide, inX1, Or.inr ⟨"AuntsPuzzle", tbi 41 (by decide +kernel)⟩⟩
theorem lp_X10_277 : Lp RX10 277 1 0 .int := ⟨RX1, TX1, 7, tyX1, rfl, by decide, inX1, Or.inr ⟨"AuntsPuzzle", tbi 41 (by decide +kernel)⟩, tyX1_ok, nmX1, rfl, rfl⟩
theorem lk_X10_280 : Lk RX10 280 1 1 := ⟨RX1, TX1, 7, rfl, by decide, inX1, Or.inr ⟨"AuntsPuzzle", tbi 43 (by decide +kernel)⟩⟩
theorem lp_X10_280 : Lp RX10 280 1 1 .int := ⟨RX1, TX1, 7, tyX1, rfl, by decide, inX1, Or.inr ⟨"AuntsPuzzle", tbi 43 (by decide +kernel)⟩, tyX1_ok, nmX1, rfl, rfl⟩
theorem lk_X0_9 : Lk RX0 9 0 0 := ⟨RX0, TX0, 5, rfl, by decide, inX0, Or.inl (tbi 86 (by decide +kernel))⟩
theorem lk_X0_15 : Lk RX0 15 0 1 := ⟨RX0, TX0, 5, rfl, by decide, inX0, Or.inl (tbi 90 (by decide +kernel))⟩
theorem lk_X0_18 : Lk RX0 18 0 2 := ⟨RX0, TX0, 5, rfl, by decide, inX0, Or.inl (tbi 93 (by decide +kernel))⟩
theorem lk_X0_21 : Lk RX0 21 0 3 := ⟨RX0, TX0, 5, rfl, by decide, inX0, Or.inl (tbi 95 (by decide +kernel))⟩
theorem lk_X0_25 : Lk RX0 25 0 4 := ⟨RX0, TX0, 5, rfl, by decide, inX0, Or.inl (tbi 96 (by decide +kernel))⟩
theorem lk_X1_9 : Lk RX1 9 1 3 := ⟨RX1, TX1, 7, rfl, by decide, inX1, Or.inl (tbi 53 (by decide +kernel))⟩
theorem lk_X1_15 : Lk RX1 15 1 4 := ⟨RX1, TX1, 7, rfl, by decide, inX1, Or.inl (tbi 54 (by decide +kernel))⟩
theorem lk_X1_18 : Lk RX1 18 1 5 := ⟨RX1, TX1, 7, rfl, by decide, inX1, Or.inl (tbi 55 (by decide +kernel))⟩
theorem lk_X1_22 : Lk RX1 22 1 6 := ⟨RX1, TX1, 7, rfl, by decide, inX1, Or.inl (tbi 58 (by decide +kernel))⟩
theorem lk_X1_25 : Lk RX1 25 1 0 := ⟨RX1, TX1, 7, rfl, by decide, inX1, Or.inl (tbi 40 (by decide +kernel))⟩
theorem lp_X1_25 : Lp RX1 25 1 0 .int := ⟨RX1, TX1, 7, tyX1, rfl, by decide, inX1, Or.inl (tbi 40 (by decide +kernel)), tyX1_ok, nmX1, rfl, rfl⟩
theorem lk_X1_29 : Lk RX1 29 1 1 := ⟨RX1, TX1, 7, rfl, by decide, inX1, Or.inl (tbi 42 (by decide +kernel))⟩
theorem lp_X1_29 : Lp RX1 29 1 1 .int := ⟨RX1, TX1, 7, tyX1, rfl, by decide, inX1, Or.inl (tbi 42 (by decide +kernel)), tyX1_ok, nmX1, rfl, rfl⟩
theorem lk_X1_32 : Lk RX1 32 1 2 := ⟨RX1, TX1, 7, rfl, by decide, inX1, Or.inl (tbi 44 (by decide +kernel))⟩
theorem lp_X1_32 : Lp RX1 32 1 2 .int := ⟨RX1, TX1, 7, tyX1, rfl, by decide, inX1, Or.inl (tbi 44 (by decide +kernel)), tyX1_ok, nmX1, rfl, rfl⟩
theorem lk_X1_52 : Lk RX1 52 0 0 := ⟨RX0, TX0, 5, rfl, by decide, inX0, Or.inr ⟨"AuntsPuzzle", tbi 89 (by decide +kernel)⟩⟩
theorem lk_X1_55 : Lk RX1 55 0 1 := ⟨RX0, TX0, 5, rfl, by decide, inX0, Or.inr ⟨"AuntsPuzzle", tbi 92 (by decide +kernel)⟩⟩
theorem lk_X2_12 : Lk RX2 12 2 0 := ⟨RX2, TX2, 2, rfl, by decide, inX2, Or.inl (tbi 289 (by decide +kernel))⟩
theorem lk_X2_18 : Lk RX2 18 2 1 := ⟨RX2, TX2, 2, rfl, by decide, inX2, Or.inl (tbi 290 (by decide +kernel))⟩
theorem lp_X2_18 : Lp RX2 18 2 1 .int := ⟨RX2, TX2, 2, tyX2, rfl, by decide, inX2, Or.inl (tbi 290 (by decide +kernel)), tyX2_ok, nmX2, rfl, rfl⟩
theorem lk_X2_22 : Lk RX2 22 3 1 := ⟨RX3, TX3, 3, rfl, by decide, inX3, Or.inr ⟨"AuntsPuzzle", tbi 158 (by decide +kernel)⟩⟩
theorem lk_X2_31 : Lk RX2 31 3 2 := ⟨RX3, TX3, 3, rfl, by decide, inX3, Or.inr ⟨"AuntsPuzzle", tbi 164 (by decide +kernel)⟩⟩
theorem lk_X2_35 : Lk RX2 35 4 0 := ⟨RX4, TX4, 4, rfl, by decide, inX4, Or.inr ⟨"AuntsPuzzle", tbi 117 (by decide +kernel)⟩⟩
theorem lp_X2_35 : Lp RX2 35 4 0 .int := ⟨RX4, TX4, 4, tyX4, rfl, by decide, inX4, Or.inr ⟨"AuntsPuzzle", tbi 117 (by decide +kernel)⟩, tyX4_ok, nmX4, rfl, rfl⟩
theorem lk_X2_44 : Lk RX2 44 3 0 := ⟨RX3, TX3, 3, rfl, by decide, inX3, Or.inr ⟨"AuntsPuzzle", tbi 151 (by decide +kernel)⟩⟩
theorem lk_X2_48 : Lk RX2 48 1 2 := ⟨RX1, TX1, 7, rfl, by decide, inX1, Or.inr ⟨"AuntsPuzzle", tbi 46 (by decide +kernel)⟩⟩
theorem lp_X2_48 : Lp RX2 48 1 2 .int := ⟨RX1, TX1, 7, tyX1, rfl, by decide, inX1, Or.inr ⟨"AuntsPuzzle", tbi 46 (by decide +kernel)⟩, tyX1_ok, nmX1, rfl, rfl⟩
theorem lk_X3_12 : Lk RX3 12 3 0 := ⟨RX3, TX3, 3, rfl, by decide, inX3, Or.inl (tbi 149 (by decide +kernel))⟩
theorem lk_X3_21 : Lk RX3 21 3 1 := ⟨RX3, TX3, 3, rfl, by decide, inX3, Or.inl (tbi 156 (by decide +kernel))⟩
theorem lk_X3_28 : Lk RX3 28 3 2 := ⟨RX3, TX3, 3, rfl, by decide, inX3, Or.inl (tbi 163 (by decide +kernel))⟩
theorem lk_X3_43 : Lk RX3 43 4 2 := ⟨RX4, TX4, 4, rfl, by decide, inX4, Or.inr ⟨"AuntsPuzzle", tbi 124 (by decide +kernel)⟩⟩
theorem lk_X3_47 : Lk RX3 47 4 1 := ⟨RX4, TX4, 4, rfl, by decide, inX4, Or.inr ⟨"AuntsPuzzle", tbi 121 (by decide +kernel)⟩⟩
theorem lk_X3_53 : Lk RX3 53 1 5 := ⟨RX1, TX1, 7, rfl, by decide, inX1, Or.inr ⟨"AuntsPuzzle", tbi 56 (by decide +kernel)⟩⟩
theorem lk_X3_57 : Lk RX3 57 1 6 := ⟨RX1, TX1, 7, rfl, by decide, inX1, Or.inr ⟨"AuntsPuzzle", tbi 59 (by decide +kernel)⟩⟩
theorem lk_X3_60 : Lk RX3 60 1 2 := ⟨RX1, TX1, 7, rfl, by decide, inX1, Or.inr ⟨"AuntsPuzzle", tbi 49 (by decide +kernel)⟩⟩
theorem lp_X3_60 : Lp RX3 60 1 2 .int := ⟨RX1, TX1, 7, tyX1, rfl, by decide, inX1, Or.inr ⟨"AuntsPuzzle", tbi 49 (by decide +kernel)⟩, tyX1_ok, nmX1, rfl, rfl⟩
theorem lk_X4_9 : Lk RX4 9 4 1 := ⟨RX4, TX4, 4, rfl, by decide, inX4, Or.inl (tbi 120 (by decide +kernel))⟩
theorem lk_X4_15 : Lk RX4 15 4 2 := ⟨RX4, TX4, 4, rfl, by decide, inX4, Or.inl (tbi 123 (by decide +kernel))⟩
theorem lk_X4_18 : Lk RX4 18 4 3 := ⟨RX4, TX4, 4, rfl, by decide, inX4, Or.inl (tbi 126 (by decide +kernel))⟩
theorem lk_X4_21 : Lk RX4 21 4 0 := ⟨RX4, TX4, 4, rfl, by decide, inX4, Or.inl (tbi 116 (by decide +kernel))⟩
theorem lp_X4_21 : Lp RX4 21 4 0 .int := ⟨RX4, TX4, 4, tyX4, rfl, by decide, inX4, Or.inl (tbi 116 (by decide +kernel)), tyX4_ok, nmX4, rfl, rfl⟩
theorem lk_X5_9 : Lk RX5 9 5 0 := ⟨RX5, TX5, 3, rfl, by decide, inX5, Or.inl (tbi 270 (by decide +kernel))⟩
theorem lk_X5_15 : Lk RX5 15 5 1 := ⟨RX5, TX5, 3, rfl, by decide, inX5, Or.inl (tbi 271 (by decide +kernel))⟩
theorem lk_X5_18 : Lk RX5 18 5 2 := ⟨RX5, TX5, 3, rfl, by decide, inX5, Or.inl (tbi 273 (by decide +kernel))⟩
theorem lk_X5_25 : Lk RX5 25 3 0 := ⟨RX3, TX3, 3, rfl, by decide, inX3, Or.inr ⟨"AuntsPuzzle", tbi 150 (by decide +kernel)⟩⟩
theorem lk_X5_31 : Lk RX5 31 1 2 := ⟨RX1, TX1, 7, rfl, by decide, inX1, Or.inr ⟨"AuntsPuzzle", tbi 45 (by decide +kernel)⟩⟩
theorem lp_X5_31 : Lp RX5 31 1 2 .int := ⟨RX1, TX1, 7, tyX1, rfl, by decide, inX1, Or.inr ⟨"AuntsPuzzle", tbi 45 (by decide +kernel)⟩, tyX1_ok, nmX1, rfl, rfl⟩
theorem lk_X5_41 : Lk RX5 41 3 1 := ⟨RX3, TX3, 3, rfl, by decide, inX3, Or.inr ⟨"AuntsPuzzle", tbi 159 (by decide +kernel)⟩⟩
theorem lk_X5_45 : Lk RX5 45 0 4 := ⟨RX0, TX0, 5, rfl, by decide, inX0, Or.inr ⟨"AuntsPuzzle", tbi 97 (by decide +kernel)⟩⟩
theorem lk_X6_12 : Lk RX6 12 6 0 := ⟨RX6, TX6, 5, rfl, by decide, inX6, Or.inl (tbi 217 (by decide +kernel))⟩
theorem lk_X6_18 : Lk RX6 18 6 1 := ⟨RX6, TX6, 5, rfl, by decide, inX6, Or.inl (tbi 218 (by decide +kernel))⟩
theorem lk_X6_21 : Lk RX6 21 6 2 := ⟨RX6, TX6, 5, rfl, by decide, inX6, Or.inl (tbi 220 (by decide +kernel))⟩
theorem lp_X6_21 : Lp RX6 21 6 2 .boolean := ⟨RX6, TX6, 5, tyX6, rfl, by decide, inX6, Or.inl (tbi 220 (by decide +kernel)), tyX6_ok, nmX6, rfl, rfl⟩
theorem lk_X6_25 : Lk RX6 25 6 3 := ⟨RX6, TX6, 5, rfl, by decide, inX6, Or.inl (tbi 222 (by decide +kernel))⟩
theorem lp_X6_25 : Lp RX6 25 6 3 .int := ⟨RX6, TX6, 5, tyX6, rfl, by decide, inX6, Or.inl (tbi 222 (by decide +kernel)), tyX6_ok, nmX6, rfl, rfl⟩
theorem lk_X6_29 : Lk RX6 29 6 4 := ⟨RX6, TX6, 5, rfl, by decide, inX6, Or.inl (tbi 224 (by decide +kernel))⟩
theorem lp_X6_29 : Lp RX6 29 6 4 .int := ⟨RX6, TX6, 5, tyX6, rfl, by decide, inX6, Or.inl (tbi 224 (by decide +kernel)), tyX6_ok, nmX6, rfl, rfl⟩
theorem lk_X6_39 : Lk RX6 39 1 2 := ⟨RX1, TX1, 7, rfl, by decide, inX1, Or.inr ⟨"AuntsPuzzle", tbi 47 (by decide +kernel)⟩⟩
theorem lp_X6_39 : Lp RX6 39 1 2 .int := ⟨RX1, TX1, 7, tyX1, rfl, by decide, inX1, Or.inr ⟨"AuntsPuzzle", tbi 47 (by decide +kernel)⟩, tyX1_ok, nmX1, rfl, rfl⟩
theorem lk_X7_9 : Lk RX7 9 7 0 := ⟨RX7, TX7, 4, rfl, by decide, inX7, Or.inl (tbi 180 (by decide +kernel))⟩
theorem lk_X7_15 : Lk RX7 15 7 1 := ⟨RX7, TX7, 4, rfl, by decide, inX7, Or.inl (tbi 181 (by decide +kernel))⟩
theorem lp_X7_15 : Lp RX7 15 7 1 .int := ⟨RX7, TX7, 4, tyX7, rfl, by decide, inX7, Or.inl (tbi 181 (by decide +kernel)), tyX7_ok, nmX7, rfl, rfl⟩
theorem lk_X7_21 : Lk RX7 21 7 2 := ⟨RX7, TX7, 4, rfl, by decide, inX7, Or.inl (tbi 183 (by decide +kernel))⟩
theorem lp_X7_21 : Lp RX7 21 7 2 .int := ⟨RX7, TX7, 4, tyX7, rfl, by decide, inX7, Or.inl (tbi 183 (by decide +kernel)), tyX7_ok, nmX7, rfl, rfl⟩
theorem lk_X7_24 : Lk RX7 24 7 3 := ⟨RX7, TX7, 4, rfl, by decide, inX7, Or.inl (tbi 184 (by decide +kernel))⟩
theorem lp_X7_24 : Lp RX7 24 7 3 .boolean := ⟨RX7, TX7, 4, tyX7, rfl, by decide, inX7, Or.inl (tbi 184 (by decide +kernel)), tyX7_ok, nmX7, rfl, rfl⟩
theorem lk_X7_91 : Lk RX7 91 3 0 := ⟨RX3, TX3, 3, rfl, by decide, inX3, Or.inr ⟨"AuntsPuzzle", tbi 155 (by decide +kernel)⟩⟩
theorem lk_X7_103 : Lk RX7 103 3 1 := ⟨RX3, TX3, 3, rfl, by decide, inX3, Or.inr ⟨"AuntsPuzzle", tbi 162 (by decide +kernel)⟩⟩
theorem lk_X7_112 : Lk RX7 112 1 2 := ⟨RX1, TX1, 7, rfl, by decide, inX1, Or.inr ⟨"AuntsPuzzle", tbi 51 (by decide +kernel)⟩⟩
theorem lp_X7_112 : Lp RX7 112 1 2 .int := ⟨RX1, TX1, 7, tyX1, rfl, by decide, inX1, Or.inr ⟨"AuntsPuzzle", tbi 51 (by decide +kernel)⟩, tyX1_ok, nmX1, rfl, rfl⟩
theorem lk_X7_122 : Lk RX7 122 1 6 := ⟨RX1, TX1, 7, rfl, by decide, inX1, Or.inr ⟨"AuntsPuzzle", tbi 62 (by decide +kernel)⟩⟩
theorem lk_X7_126 : Lk RX7 126 3 2 := ⟨RX3, TX3, 3, rfl, by decide, inX3, Or.inr ⟨"AuntsPuzzle", tbi 166 (by decide +kernel)⟩⟩
theorem lk_X7_130 : Lk RX7 130 4 0 := ⟨RX4, TX4, 4, rfl, by decide, inX4, Or.inr ⟨"AuntsPuzzle", tbi 118 (by decide +kernel)⟩⟩
theorem lp_X7_130 : Lp RX7 130 4 0 .int := ⟨RX4, TX4, 4, tyX4, rfl, by decide, inX4, Or.inr ⟨"AuntsPuzzle", tbi 118 (by decide +kernel)⟩, tyX4_ok, nmX4, rfl, rfl⟩
theorem lk_X8_9 : Lk RX8 9 8 0 := ⟨RX8, TX8, 2, rfl, by decide, inX8, Or.inl (tbi 201 (by decide +kernel))⟩
theorem lk_X8_15 : Lk RX8 15 8 1 := ⟨RX8, TX8, 2, rfl, by decide, inX8, Or.inl (tbi 202 (by decide +kernel))⟩
theorem lp_X8_15 : Lp RX8 15 8 1 .int := ⟨RX8, TX8, 2, tyX8, rfl, by decide, inX8, Or.inl (tbi 202 (by decide +kernel)), tyX8_ok, nmX8, rfl, rfl⟩
theorem lk_X8_19 : Lk RX8 19 3 0 := ⟨RX3, TX3, 3, rfl, by decide, inX3, Or.inr ⟨"AuntsPuzzle", tbi 152 (by decide +kernel)⟩⟩
theorem lk_X8_25 : Lk RX8 25 1 2 := ⟨RX1, TX1, 7, rfl, by decide, inX1, Or.inr ⟨"AuntsPuzzle", tbi 48 (by decide +kernel)⟩⟩
theorem lp_X8_25 : Lp RX8 25 1 2 .int := ⟨RX1, TX1, 7, tyX1, rfl, by decide, inX1, Or.inr ⟨"AuntsPuzzle", tbi 48 (by decide +kernel)⟩, tyX1_ok, nmX1, rfl, rfl⟩
theorem lk_X8_36 : Lk RX8 36 3 1 := ⟨RX3, TX3, 3, rfl, by decide, inX3, Or.inr ⟨"AuntsPuzzle", tbi 160 (by decide +kernel)⟩⟩
theorem lk_X8_46 : Lk RX8 46 0 0 := ⟨RX0, TX0, 5, rfl, by decide, inX0, Or.inr ⟨"AuntsPuzzle", tbi 87 (by decide +kernel)⟩⟩
theorem lk_X9_12 : Lk RX9 12 9 0 := ⟨RX9, TX9, 6, rfl, by decide, inX9, Or.inl (tbi 245 (by decide +kernel))⟩
theorem lk_X9_18 : Lk RX9 18 9 1 := ⟨RX9, TX9, 6, rfl, by decide, inX9, Or.inl (tbi 246 (by decide +kernel))⟩
theorem lk_X9_22 : Lk RX9 22 9 2 := ⟨RX9, TX9, 6, rfl, by decide, inX9, Or.inl (tbi 247 (by decide +kernel))⟩
theorem lk_X9_29 : Lk RX9 29 3 1 := ⟨RX3, TX3, 3, rfl, by decide, inX3, Or.inr ⟨"AuntsPuzzle", tbi 157 (by decide +kernel)⟩⟩
theorem lk_X9_37 : Lk RX9 37 9 4 := ⟨RX9, TX9, 6, rfl, by decide, inX9, Or.inl (tbi 249 (by decide +kernel))⟩
theorem lp_X9_37 : Lp RX9 37 9 4 .int := ⟨RX9, TX9, 6, tyX9, rfl, by decide, inX9, Or.inl (tbi 249 (by decide +kernel)), tyX9_ok, nmX9, rfl, rfl⟩
theorem lk_X9_58 : Lk RX9 58 9 3 := ⟨RX9, TX9, 6, rfl, by decide, inX9, Or.inl (tbi 248 (by decide +kernel))⟩
theorem lp_X9_58 : Lp RX9 58 9 3 .int := ⟨RX9, TX9, 6, tyX9, rfl, by decide, inX9, Or.inl (tbi 248 (by decide +kernel)), tyX9_ok, nmX9, rfl, rfl⟩
theorem lk_X9_65 : Lk RX9 65 3 0 := ⟨RX3, TX3, 3, rfl, by decide, inX3, Or.inr ⟨"AuntsPuzzle", tbi 154 (by decide +kernel)⟩⟩
theorem lk_X9_69 : Lk RX9 69 1 2 := ⟨RX1, TX1, 7, rfl, by decide, inX1, Or.inr ⟨"AuntsPuzzle", tbi 50 (by decide +kernel)⟩⟩
theorem lp_X9_69 : Lp RX9 69 1 2 .int := ⟨RX1, TX1, 7, tyX1, rfl, by decide, inX1, Or.inr ⟨"AuntsPuzzle", tbi 50 (by decide +kernel)⟩, tyX1_ok, nmX1, rfl, rfl⟩
theorem lk_X9_74 : Lk RX9 74 1 5 := ⟨RX1, TX1, 7, rfl, by decide, inX1, Or.inr ⟨"AuntsPuzzle", tbi 57 (by decide +kernel)⟩⟩
theorem lk_X9_93 : Lk RX9 93 9 5 := ⟨RX9, TX9, 6, rfl, by decide, inX9, Or.inl (tbi 250 (by decide +kernel))⟩
theorem lp_X9_93 : Lp RX9 93 9 5 .int := ⟨RX9, TX9, 6, tyX9, rfl, by decide, inX9, Or.inl (tbi 250 (by decide +kernel)), tyX9_ok, nmX9, rfl, rfl⟩
theorem lk_X9_119 : Lk RX9 119 1 6 := ⟨RX1, TX1, 7, rfl, by decide, inX1, Or.inr ⟨"AuntsPuzzle", tbi 61 (by decide +kernel)⟩⟩
theorem lk_X11_7 : Lk RX11 7 11 0 := ⟨RX11, TX11, 40, rfl, by decide, inX11, Or.inl (tbi 932 (by decide +kernel))⟩
theorem lk_X11_13 : Lk RX11 13 11 1 := ⟨RX11, TX11, 40, rfl, by decide, inX11, Or.inl (tbi 933 (by decide +kernel))⟩
theorem lk_X11_16 : Lk RX11 16 11 2 := ⟨RX11, TX11, 40, rfl, by decide, inX11, Or.inl (tbi 934 (by decide +kernel))⟩
theorem lk_X11_19 : Lk RX11 19 11 3 := ⟨RX11, TX11, 40, rfl, by decide, inX11, Or.inl (tbi 935 (by decide +kernel))⟩
theorem lk_X11_22 : Lk RX11 22 11 4 := ⟨RX11, TX11, 40, rfl, by decide, inX11, Or.inl (tbi 936 (by decide +kernel))⟩
theorem lk_X11_25 : Lk RX11 25 11 5 := ⟨RX11, TX11, 40, rfl, by decide, inX11, Or.inl (tbi 937 (by decide +kernel))⟩
theorem lk_X11_28 : Lk RX11 28 11 6 := ⟨RX11, TX11, 40, rfl, by decide, inX11, Or.inl (tbi 938 (by decide +kernel))⟩
theorem lk_X11_31 : Lk RX11 31 11 7 := ⟨RX11, TX11, 40, rfl, by decide, inX11, Or.inl (tbi 939 (by decide +kernel))⟩
theorem lk_X11_34 : Lk RX11 34 11 8 := ⟨RX11, TX11, 40, rfl, by decide, inX11, Or.inl (tbi 940 (by decide +kernel))⟩
theorem lk_X11_37 : Lk RX11 37 11 9 := ⟨RX11, TX11, 40, rfl, by decide, inX11, Or.inl (tbi 941 (by decide +kernel))⟩
theorem lk_X11_40 : Lk RX11 40 11 10 := ⟨RX11, TX11, 40, rfl, by decide, inX11, Or.inl (tbi 942 (by decide +kernel))⟩
theorem lk_X11_43 : Lk RX11 43 11 15 := ⟨RX11, TX11, 40, rfl, by decide, inX11, Or.inl (tbi 947 (by decide +kernel))⟩
theorem lk_X11_46 : Lk RX11 46 11 16 := ⟨RX11, TX11, 40, rfl, by decide, inX11, Or.inl (tbi 948 (by decide +kernel))⟩
theorem lk_X11_49 : Lk RX11 49 11 17 := ⟨RX11, TX11, 40, rfl, by decide, inX11, Or.inl (tbi 949 (by decide +kernel))⟩
theorem lk_X11_52 : Lk RX11 52 11 18 := ⟨RX11, TX11, 40, rfl, by decide, inX11, Or.inl (tbi 950 (by decide +kernel))⟩
theorem lk_X11_55 : Lk RX11 55 11 19 := ⟨RX11, TX11, 40, rfl, by decide, inX11, Or.inl (tbi 951 (by decide +kernel))⟩
theorem lk_X11_58 : Lk RX11 58 11 20 := ⟨RX11, TX11, 40, rfl, by decide, inX11, Or.inl (tbi 952 (by decide +kernel))⟩
theorem lk_X11_61 : Lk RX11 61 11 24 := ⟨RX11, TX11, 40, rfl, by decide, inX11, Or.inl (tbi 956 (by decide +kernel))⟩
theorem lk_X11_64 : Lk RX11 64 11 28 := ⟨RX11, TX11, 40, rfl, by decide, inX11, Or.inl (tbi 960 (by decide +kernel))⟩
theorem lk_X11_67 : Lk RX11 67 11 29 := ⟨RX11, TX11, 40, rfl, by decide, inX11, Or.inl (tbi 961 (by decide +kernel))⟩
theorem lk_X11_70 : Lk RX11 70 11 33 := ⟨RX11, TX11, 40, rfl, by decide, inX11, Or.inl (tbi 965 (by decide +kernel))⟩
theorem lk_X11_73 : Lk RX11 73 11 34 := ⟨RX11, TX11, 40, rfl, by decide, inX11, Or.inl (tbi 966 (by decide +kernel))⟩
theorem lk_X11_76 : Lk RX11 76 11 38 := ⟨RX11, TX11, 40, rfl, by decide, inX11, Or.inl (tbi 970 (by decide +kernel))⟩
theorem lk_X11_84 : Lk RX11 84 11 11 := ⟨RX11, TX11, 40, rfl, by decide, inX11, Or.inl (tbi 943 (by decide +kernel))⟩
theorem lp_X11_84 : Lp RX11 84 11 11 .int := ⟨RX11, TX11, 40, tyX11, rfl, by decide, inX11, Or.inl (tbi 943 (by decide +kernel)), tyX11_ok, nmX11, rfl, rfl⟩
theorem lk_X11_88 : Lk RX11 88 11 12 := ⟨RX11, TX11, 40, rfl, by decide, inX11, Or.inl (tbi 944 (by decide +kernel))⟩
theorem lp_X11_88 : Lp RX11 88 11 12 .int := ⟨RX11, TX11, 40, tyX11, rfl, by decide, inX11, Or.inl (tbi 944 (by decide +kernel)), tyX11_ok, nmX11, rfl, rfl⟩
theorem lk_X11_95 : Lk RX11 95 11 13 := ⟨RX11, TX11, 40, rfl, by decide, inX11, Or.inl (tbi 945 (by decide +kernel))⟩
theorem lp_X11_95 : Lp RX11 95 11 13 .int := ⟨RX11, TX11, 40, tyX11, rfl, by decide, inX11, Or.inl (tbi 945 (by decide +kernel)), tyX11_ok, nmX11, rfl, rfl⟩
theorem lk_X11_109 : Lk RX11 109 11 21 := ⟨RX11, TX11, 40, rfl, by decide, inX11, Or.inl (tbi 953 (by decide +kernel))⟩
theorem lp_X11_109 : Lp RX11 109 11 21 .int := ⟨RX11, TX11, 40, tyX11, rfl, by decide, inX11, Or.inl (tbi 953 (by decide +kernel)), tyX11_ok, nmX11, rfl, rfl⟩
theorem lk_X11_118 : Lk RX11 118 11 22 := ⟨RX11, TX11, 40, rfl, by decide, inX11, Or.inl (tbi 954 (by decide +kernel))⟩
theorem lp_X11_118 : Lp RX11 118 11 22 .int := ⟨RX11, TX11, 40, tyX11, rfl, by decide, inX11, Or.inl (tbi 954 (by decide +kernel)), tyX11_ok, nmX11, rfl, rfl⟩
theorem lk_X11_135 : Lk RX11 135 11 23 := ⟨RX11, TX11, 40, rfl, by decide, inX11, Or.inl (tbi 955 (by decide +kernel))⟩
theorem lp_X11_135 : Lp RX11 135 11 23 .int := ⟨RX11, TX11, 40, tyX11, rfl, by decide, inX11, Or.inl (tbi 955 (by decide +kernel)), tyX11_ok, nmX11, rfl, rfl⟩
theorem lk_X11_158 : Lk RX11 158 11 26 := ⟨RX11, TX11, 40, rfl, by decide, inX11, Or.inl (tbi 958 (by decide +kernel))⟩
theorem lp_X11_158 : Lp RX11 158 11 26 .boolean := ⟨RX11, TX11, 40, tyX11, rfl, by decide, inX11, Or.inl (tbi 958 (by decide +kernel)), tyX11_ok, nmX11, rfl, rfl⟩
theorem lk_X11_162 : Lk RX11 162 11 27 := ⟨RX11, TX11, 40, rfl, by decide, inX11, Or.inl (tbi 959 (by decide +kernel))⟩
theorem lp_X11_162 : Lp RX11 162 11 27 .int := ⟨RX11, TX11, 40, tyX11, rfl, by decide, inX11, Or.inl (tbi 959 (by decide +kernel)), tyX11_ok, nmX11, rfl, rfl⟩
theorem lk_X11_172 : Lk RX11 172 11 14 := ⟨RX11, TX11, 40, rfl, by decide, inX11, Or.inl (tbi 946 (by decide +kernel))⟩
theorem lp_X11_172 : Lp RX11 172 11 14 .int := ⟨RX11, TX11, 40, tyX11, rfl, by decide, inX11, Or.inl (tbi 946 (by decide +kernel)), tyX11_ok, nmX11, rfl, rfl⟩
theorem lk_X11_211 : Lk RX11 211 11 30 := ⟨RX11, TX11, 40, rfl, by decide, inX11, Or.inl (tbi 962 (by decide +kernel))⟩
theorem lp_X11_211 : Lp RX11 211 11 30 .int := ⟨RX11, TX11, 40, tyX11, rfl, by decide, inX11, Or.inl (tbi 962 (by decide +kernel)), tyX11_ok, nmX11, rfl, rfl⟩
theorem lk_X11_214 : Lk RX11 214 11 31 := ⟨RX11, TX11, 40, rfl, by decide, inX11, Or.inl (tbi 963 (by decide +kernel))⟩
theorem lp_X11_214 : Lp RX11 214 11 31 .int := ⟨RX11, TX11, 40, tyX11, rfl, by decide, inX11, Or.inl (tbi 963 (by decide +kernel)), tyX11_ok, nmX11, rfl, rfl⟩
theorem lk_X11_217 : Lk RX11 217 11 32 := ⟨RX11, TX11, 40, rfl, by decide, inX11, Or.inl (tbi 964 (by decide +kernel))⟩
theorem lp_X11_217 : Lp RX11 217 11 32 .boolean := ⟨RX11, TX11, 40, tyX11, rfl, by decide, inX11, Or.inl (tbi 964 (by decide +kernel)), tyX11_ok, nmX11, rfl, rfl⟩
theorem lk_X11_223 : Lk RX11 223 11 35 := ⟨RX11, TX11, 40, rfl, by decide, inX11, Or.inl (tbi 967 (by decide +kernel))⟩
theorem lp_X11_223 : Lp RX11 223 11 35 .int := ⟨RX11, TX11, 40, tyX11, rfl, by decide, inX11, Or.inl (tbi 967 (by decide +kernel)), tyX11_ok, nmX11, rfl, rfl⟩
theorem lk_X11_232 : Lk RX11 232 11 36 := ⟨RX11, TX11, 40, rfl, by decide, inX11, Or.inl (tbi 968 (by decide +kernel))⟩
theorem lp_X11_232 : Lp RX11 232 11 36 .int := ⟨RX11, TX11, 40, tyX11, rfl, by decide, inX11, Or.inl (tbi 968 (by decide +kernel)), tyX11_ok, nmX11, rfl, rfl⟩
theorem lk_X11_288 : Lk RX11 288 11 37 := ⟨RX11, TX11, 40, rfl, by decide, inX11, Or.inl (tbi 969 (by decide +kernel))⟩
theorem lp_X11_288 : Lp RX11 288 11 37 .int := ⟨RX11, TX11, 40, tyX11, rfl, by decide, inX11, Or.inl (tbi 969 (by decide +kernel)), tyX11_ok, nmX11, rfl, rfl⟩
theorem lk_X11_300 : Lk RX11 300 11 39 := ⟨RX11, TX11, 40, rfl, by decide, inX11, Or.inl (tbi 971 (by decide +kernel))⟩
theorem lp_X11_300 : Lp RX11 300 11 39 .int := ⟨RX11, TX11, 40, tyX11, rfl, by decide, inX11, Or.inl (tbi 971 (by decide +kernel)), tyX11_ok, nmX11, rfl, rfl⟩
theorem lk_X11_303 : Lk RX11 303 11 25 := ⟨RX11, TX11, 40, rfl, by decide, inX11, Or.inl (tbi 957 (by decide +kernel))⟩
theorem lp_X11_303 : Lp RX11 303 11 25 .boolean := ⟨RX11, TX11, 40, tyX11, rfl, by decide, inX11, Or.inl (tbi 957 (by decide +kernel)), tyX11_ok, nmX11, rfl, rfl⟩
theorem lm_X10_9 : Lm RX10 9 yX3_init := Or.inr ⟨"AuntsPuzzle", tbi 30 (by decide +kernel)⟩
theorem lm_X10_24 : Lm RX10 24 yX7_init := Or.inr ⟨"AuntsPuzzle", tbi 176 (by decide +kernel)⟩
theorem lm_X10_31 : Lm RX10 31 yX8_init := Or.inr ⟨"AuntsPuzzle", tbi 197 (by decide +kernel)⟩
theorem lm_X10_38 : Lm RX10 38 yX6_init := Or.inr ⟨"AuntsPuzzle", tbi 211 (by decide +kernel)⟩
theorem lm_X10_45 : Lm RX10 45 yX9_init := Or.inr ⟨"AuntsPuzzle", tbi 239 (by decide +kernel)⟩
theorem lm_X10_52 : Lm RX10 52 yX5_init := Or.inr ⟨"AuntsPuzzle", tbi 266 (by decide +kernel)⟩
theorem lm_X10_59 : Lm RX10 59 yX2_init := Or.inr ⟨"AuntsPuzzle", tbi 283 (by decide +kernel)⟩
theorem lm_X10_76 : Lm RX10 76 yX10_refuse := Or.inl (tbi 337 (by decide +kernel))
theorem lm_X10_83 : Lm RX10 83 yX7_take := Or.inr ⟨"AuntsPuzzle", tbi 341 (by decide +kernel)⟩
theorem lm_X10_87 : Lm RX10 87 yX3_copyFrom := Or.inr ⟨"AuntsPuzzle", tbi 350 (by decide +kernel)⟩
theorem lm_X10_91 : Lm RX10 91 yX7_readInto := Or.inr ⟨"AuntsPuzzle", tbi 370 (by decide +kernel)⟩
theorem lm_X10_98 : Lm RX10 98 yX10_isCell := Or.inl (tbi 535 (by decide +kernel))
theorem lm_X10_103 : Lm RX10 103 yX10_isTurn := Or.inl (tbi 540 (by decide +kernel))
theorem lm_X10_110 : Lm RX10 110 yX1_sideOf := Or.inr ⟨"AuntsPuzzle", tbi 544 (by decide +kernel)⟩
theorem lm_X10_119 : Lm RX10 119 yX10_isPerson := Or.inl (tbi 556 (by decide +kernel))
theorem lm_X10_138 : Lm RX10 138 yX0_laidBy := Or.inr ⟨"AuntsPuzzle", tbi 560 (by decide +kernel)⟩
theorem lm_X10_146 : Lm RX10 146 yX0_isFilled := Or.inr ⟨"AuntsPuzzle", tbi 572 (by decide +kernel)⟩
theorem lm_X10_158 : Lm RX10 158 yX1_isFit := Or.inr ⟨"AuntsPuzzle", tbi 577 (by decide +kernel)⟩
theorem lm_X10_162 : Lm RX10 162 yX10_refusalOfTry := Or.inl (tbi 595 (by decide +kernel))
theorem lm_X10_166 : Lm RX10 166 yX1_kindOf := Or.inr ⟨"AuntsPuzzle", tbi 599 (by decide +kernel)⟩
theorem lm_X10_170 : Lm RX10 170 yX3_costOf := Or.inr ⟨"AuntsPuzzle", tbi 603 (by decide +kernel)⟩
theorem lm_X10_173 : Lm RX10 173 yX0_isAway := Or.inr ⟨"AuntsPuzzle", tbi 619 (by decide +kernel)⟩
theorem lm_X10_176 : Lm RX10 176 yX0_put := Or.inr ⟨"AuntsPuzzle", tbi 623 (by decide +kernel)⟩
theorem lm_X10_180 : Lm RX10 180 yX0_takeUp := Or.inr ⟨"AuntsPuzzle", tbi 631 (by decide +kernel)⟩
theorem lm_X10_187 : Lm RX10 187 yX0_howManyLost := Or.inr ⟨"AuntsPuzzle", tbi 639 (by decide +kernel)⟩
theorem lm_X10_191 : Lm RX10 191 yX6_goThrough := Or.inr ⟨"AuntsPuzzle", tbi 651 (by decide +kernel)⟩
theorem lm_X10_204 : Lm RX10 204 yX10_refusalOfPlan := Or.inl (tbi 677 (by decide +kernel))
theorem lm_X10_208 : Lm RX10 208 yX9_wholeBy := Or.inr ⟨"AuntsPuzzle", tbi 685 (by decide +kernel)⟩
theorem lm_X10_212 : Lm RX10 212 yX9_halfBy := Or.inr ⟨"AuntsPuzzle", tbi 740 (by decide +kernel)⟩
theorem lm_X10_215 : Lm RX10 215 yX10_isRule := Or.inl (tbi 681 (by decide +kernel))
theorem lm_X10_221 : Lm RX10 221 yX9_together := Or.inr ⟨"AuntsPuzzle", tbi 754 (by decide +kernel)⟩
theorem lm_X10_224 : Lm RX10 224 yX5_seemingPairs := Or.inr ⟨"AuntsPuzzle", tbi 766 (by decide +kernel)⟩
theorem lm_X10_231 : Lm RX10 231 yX0_isRight := Or.inr ⟨"AuntsPuzzle", tbi 779 (by decide +kernel)⟩
theorem lm_X10_234 : Lm RX10 234 yX3_hasPlaceFor := Or.inr ⟨"AuntsPuzzle", tbi 791 (by decide +kernel)⟩
theorem lm_X10_237 : Lm RX10 237 yX5_weigh := Or.inr ⟨"AuntsPuzzle", tbi 805 (by decide +kernel)⟩
theorem lm_X10_243 : Lm RX10 243 yX5_isShort := Or.inr ⟨"AuntsPuzzle", tbi 822 (by decide +kernel)⟩
theorem lm_X10_247 : Lm RX10 247 yX5_suspects := Or.inr ⟨"AuntsPuzzle", tbi 830 (by decide +kernel)⟩
theorem lm_X10_251 : Lm RX10 251 yX4_spentByAll := Or.inr ⟨"AuntsPuzzle", tbi 843 (by decide +kernel)⟩
theorem lm_X10_254 : Lm RX10 254 yX4_commonDivisor := Or.inr ⟨"AuntsPuzzle", tbi 847 (by decide +kernel)⟩
theorem lm_X10_257 : Lm RX10 257 yX0_clear := Or.inr ⟨"AuntsPuzzle", tbi 854 (by decide +kernel)⟩
theorem lm_X10_260 : Lm RX10 260 yX1_reclass := Or.inr ⟨"AuntsPuzzle", tbi 855 (by decide +kernel)⟩
theorem lm_X10_264 : Lm RX10 264 yX2_spend := Or.inr ⟨"AuntsPuzzle", tbi 868 (by decide +kernel)⟩
theorem lm_X10_268 : Lm RX10 268 yX8_add := Or.inr ⟨"AuntsPuzzle", tbi 888 (by decide +kernel)⟩
theorem lm_X10_271 : Lm RX10 271 yX8_compareWith := Or.inr ⟨"AuntsPuzzle", tbi 896 (by decide +kernel)⟩
theorem lm_X10_274 : Lm RX10 274 yX0_howManyFilled := Or.inr ⟨"AuntsPuzzle", tbi 906 (by decide +kernel)⟩
theorem lm_X10_283 : Lm RX10 283 yX1_innerEdges := Or.inr ⟨"AuntsPuzzle", tbi 918 (by decide +kernel)⟩
theorem lm_X0_28 : Lm RX0 28 yX0_isFilled := Or.inl (tbi 564 (by decide +kernel))
theorem lm_X1_35 : Lm RX1 35 yX1_neighbourAcross := Or.inl (tbi 141 (by decide +kernel))
theorem lm_X1_39 : Lm RX1 39 yX1_beside := Or.inl (tbi 517 (by decide +kernel))
theorem lm_X1_42 : Lm RX1 42 yX1_sideOf := Or.inl (tbi 585 (by decide +kernel))
theorem lm_X1_46 : Lm RX1 46 yX0_isFilled := Or.inr ⟨"AuntsPuzzle", tbi 590 (by decide +kernel)⟩
theorem lm_X1_58 : Lm RX1 58 yX1_suitsRim := Or.inl (tbi 581 (by decide +kernel))
theorem lm_X1_62 : Lm RX1 62 yX1_suitsNeighbours := Or.inl (tbi 586 (by decide +kernel))
theorem lm_X1_66 : Lm RX1 66 yX1_setEdge := Or.inl (tbi 859 (by decide +kernel))
theorem lm_X2_11 : Lm RX2 11 yX0_init := Or.inr ⟨"AuntsPuzzle", tbi 288 (by decide +kernel)⟩
theorem lm_X2_27 : Lm RX2 27 yX0_copyFrom := Or.inr ⟨"AuntsPuzzle", tbi 872 (by decide +kernel)⟩
theorem lm_X2_40 : Lm RX2 40 yX2_draw := Or.inl (tbi 873 (by decide +kernel))
theorem lm_X2_53 : Lm RX2 53 yX0_isFilled := Or.inr ⟨"AuntsPuzzle", tbi 880 (by decide +kernel)⟩
theorem lm_X2_57 : Lm RX2 57 yX0_isAway := Or.inr ⟨"AuntsPuzzle", tbi 881 (by decide +kernel)⟩
theorem lm_X2_60 : Lm RX2 60 yX1_isFit := Or.inr ⟨"AuntsPuzzle", tbi 882 (by decide +kernel)⟩
theorem lm_X2_64 : Lm RX2 64 yX0_put := Or.inr ⟨"AuntsPuzzle", tbi 883 (by decide +kernel)⟩
theorem lm_X3_11 : Lm RX3 11 yX1_init := Or.inr ⟨"AuntsPuzzle", tbi 36 (by decide +kernel)⟩
theorem lm_X3_20 : Lm RX3 20 yX0_init := Or.inr ⟨"AuntsPuzzle", tbi 82 (by decide +kernel)⟩
theorem lm_X3_27 : Lm RX3 27 yX4_init := Or.inr ⟨"AuntsPuzzle", tbi 112 (by decide +kernel)⟩
theorem lm_X3_32 : Lm RX3 32 yX1_cutAnew := Or.inr ⟨"AuntsPuzzle", tbi 137 (by decide +kernel)⟩
theorem lm_X3_36 : Lm RX3 36 yX0_clear := Or.inr ⟨"AuntsPuzzle", tbi 145 (by decide +kernel)⟩
theorem lm_X3_39 : Lm RX3 39 yX3_plainCost := Or.inl (tbi 607 (by decide +kernel))
theorem lm_X3_50 : Lm RX3 50 yX3_costByColour := Or.inl (tbi 611 (by decide +kernel))
theorem lm_X3_64 : Lm RX3 64 yX0_isFilled := Or.inr ⟨"AuntsPuzzle", tbi 795 (by decide +kernel)⟩
theorem lm_X3_68 : Lm RX3 68 yX3_fitsSomehow := Or.inl (tbi 796 (by decide +kernel))
theorem lm_X3_72 : Lm RX3 72 yX1_isFit := Or.inr ⟨"AuntsPuzzle", tbi 800 (by decide +kernel)⟩
theorem lm_X3_76 : Lm RX3 76 yX1_copyFrom := Or.inr ⟨"AuntsPuzzle", tbi 354 (by decide +kernel)⟩
theorem lm_X3_80 : Lm RX3 80 yX0_copyFrom := Or.inr ⟨"AuntsPuzzle", tbi 361 (by decide +kernel)⟩
theorem lm_X3_83 : Lm RX3 83 yX4_copyFrom := Or.inr ⟨"AuntsPuzzle", tbi 365 (by decide +kernel)⟩
theorem lm_X5_21 : Lm RX5 21 yX5_clear := Or.inl (tbi 809 (by decide +kernel))
theorem lm_X5_37 : Lm RX5 37 yX5_add := Or.inl (tbi 812 (by decide +kernel))
theorem lm_X5_57 : Lm RX5 57 yX5_isAsHere := Or.inl (tbi 835 (by decide +kernel))
theorem lm_X5_61 : Lm RX5 61 yX1_sideOf := Or.inr ⟨"AuntsPuzzle", tbi 773 (by decide +kernel)⟩
theorem lm_X5_71 : Lm RX5 71 yX5_seemingSides := Or.inl (tbi 770 (by decide +kernel))
theorem lm_X5_75 : Lm RX5 75 yX1_beside := Or.inr ⟨"AuntsPuzzle", tbi 774 (by decide +kernel)⟩
theorem lm_X6_11 : Lm RX6 11 yX0_init := Or.inr ⟨"AuntsPuzzle", tbi 216 (by decide +kernel)⟩
theorem lm_X6_32 : Lm RX6 32 yX0_clear := Or.inr ⟨"AuntsPuzzle", tbi 655 (by decide +kernel)⟩
theorem lm_X6_35 : Lm RX6 35 yX6_layFrom := Or.inl (tbi 656 (by decide +kernel))
theorem lm_X6_44 : Lm RX6 44 yX0_copyFrom := Or.inr ⟨"AuntsPuzzle", tbi 660 (by decide +kernel)⟩
theorem lm_X6_48 : Lm RX6 48 yX0_isAway := Or.inr ⟨"AuntsPuzzle", tbi 661 (by decide +kernel)⟩
theorem lm_X6_52 : Lm RX6 52 yX6_layTurned := Or.inl (tbi 662 (by decide +kernel))
theorem lm_X6_56 : Lm RX6 56 yX1_isFit := Or.inr ⟨"AuntsPuzzle", tbi 666 (by decide +kernel)⟩
theorem lm_X6_60 : Lm RX6 60 yX0_put := Or.inr ⟨"AuntsPuzzle", tbi 667 (by decide +kernel)⟩
theorem lm_X6_64 : Lm RX6 64 yX0_takeUp := Or.inr ⟨"AuntsPuzzle", tbi 668 (by decide +kernel)⟩
theorem lm_X7_28 : Lm RX7 28 yX7_passStatement := Or.inl (tbi 374 (by decide +kernel))
theorem lm_X7_31 : Lm RX7 31 yX7_obeyAll := Or.inl (tbi 483 (by decide +kernel))
theorem lm_X7_37 : Lm RX7 37 yX7_passOneOf := Or.inl (tbi 379 (by decide +kernel))
theorem lm_X7_43 : Lm RX7 43 yX7_passCell := Or.inl (tbi 474 (by decide +kernel))
theorem lm_X7_58 : Lm RX7 58 yX7_isNext := Or.inl (tbi 383 (by decide +kernel))
theorem lm_X7_68 : Lm RX7 68 yX7_obey := Or.inl (tbi 487 (by decide +kernel))
theorem lm_X7_72 : Lm RX7 72 yX7_digitAt := Or.inl (tbi 491 (by decide +kernel))
theorem lm_X7_75 : Lm RX7 75 yX7_obeySize := Or.inl (tbi 495 (by decide +kernel))
theorem lm_X7_78 : Lm RX7 78 yX7_numberBetween := Or.inl (tbi 501 (by decide +kernel))
theorem lm_X7_82 : Lm RX7 82 yX7_obeyEdge := Or.inl (tbi 505 (by decide +kernel))
theorem lm_X7_85 : Lm RX7 85 yX7_obeyColour := Or.inl (tbi 518 (by decide +kernel))
theorem lm_X7_88 : Lm RX7 88 yX7_obeyPerson := Or.inl (tbi 522 (by decide +kernel))
theorem lm_X7_97 : Lm RX7 97 yX1_cutAnew := Or.inr ⟨"AuntsPuzzle", tbi 499 (by decide +kernel)⟩
theorem lm_X7_107 : Lm RX7 107 yX0_clear := Or.inr ⟨"AuntsPuzzle", tbi 500 (by decide +kernel)⟩
theorem lm_X7_115 : Lm RX7 115 yX1_beside := Or.inr ⟨"AuntsPuzzle", tbi 509 (by decide +kernel)⟩
theorem lm_X7_118 : Lm RX7 118 yX1_setEdge := Or.inr ⟨"AuntsPuzzle", tbi 513 (by decide +kernel)⟩
theorem lm_X7_133 : Lm RX7 133 yX4_add := Or.inr ⟨"AuntsPuzzle", tbi 526 (by decide +kernel)⟩
theorem lm_X8_40 : Lm RX8 40 yX0_isFilled := Or.inr ⟨"AuntsPuzzle", tbi 901 (by decide +kernel)⟩
theorem lm_X9_11 : Lm RX9 11 yX3_init := Or.inr ⟨"AuntsPuzzle", tbi 244 (by decide +kernel)⟩
theorem lm_X9_25 : Lm RX9 25 yX9_begin := Or.inl (tbi 689 (by decide +kernel))
theorem lm_X9_33 : Lm RX9 33 yX9_sortingCost := Or.inl (tbi 699 (by decide +kernel))
theorem lm_X9_41 : Lm RX9 41 yX9_share := Or.inl (tbi 704 (by decide +kernel))
theorem lm_X9_54 : Lm RX9 54 yX3_copyFrom := Or.inr ⟨"AuntsPuzzle", tbi 693 (by decide +kernel)⟩
theorem lm_X9_61 : Lm RX9 61 yX9_addCells := Or.inl (tbi 694 (by decide +kernel))
theorem lm_X9_78 : Lm RX9 78 yX0_isFilled := Or.inr ⟨"AuntsPuzzle", tbi 698 (by decide +kernel)⟩
theorem lm_X9_84 : Lm RX9 84 yX0_isAway := Or.inr ⟨"AuntsPuzzle", tbi 703 (by decide +kernel)⟩
theorem lm_X9_87 : Lm RX9 87 yX0_copyFrom := Or.inr ⟨"AuntsPuzzle", tbi 708 (by decide +kernel)⟩
theorem lm_X9_90 : Lm RX9 90 yX9_fillCell := Or.inl (tbi 709 (by decide +kernel))
theorem lm_X9_96 : Lm RX9 96 yX9_isChosen := Or.inl (tbi 713 (by decide +kernel))
theorem lm_X9_100 : Lm RX9 100 yX9_isMarked := Or.inl (tbi 721 (by decide +kernel))
theorem lm_X9_103 : Lm RX9 103 yX1_kindOf := Or.inr ⟨"AuntsPuzzle", tbi 729 (by decide +kernel)⟩
theorem lm_X9_107 : Lm RX9 107 yX3_costOf := Or.inr ⟨"AuntsPuzzle", tbi 730 (by decide +kernel)⟩
theorem lm_X9_111 : Lm RX9 111 yX0_put := Or.inr ⟨"AuntsPuzzle", tbi 731 (by decide +kernel)⟩
theorem lm_X9_115 : Lm RX9 115 yX9_mark := Or.inl (tbi 732 (by decide +kernel))
theorem lm_X9_122 : Lm RX9 122 yX1_nubsOf := Or.inr ⟨"AuntsPuzzle", tbi 717 (by decide +kernel)⟩
theorem lm_X9_126 : Lm RX9 126 yX1_codeOf := Or.inr ⟨"AuntsPuzzle", tbi 725 (by decide +kernel)⟩
theorem lm_L_9 : Lm RL 9 yX10_init := Or.inl (tbi 22 (by decide +kernel))
theorem lm_L_12 : Lm RL 12 yX11_init := Or.inl (tbi 924 (by decide +kernel))
theorem lm_L_15 : Lm RL 15 yX10_feed := Or.inl (tbi 333 (by decide +kernel))
theorem lm_L_19 : Lm RL 19 yX11_feed := Or.inl (tbi 1053 (by decide +kernel))
theorem lm_L_20 : Lm RL 20 yX10_puzzle := Or.inl (tbi 346 (by decide +kernel))
theorem lm_L_24 : Lm RL 24 yX11_puzzle := Or.inl (tbi 1065 (by decide +kernel))
theorem lm_L_25 : Lm RL 25 yX10_side := Or.inl (tbi 531 (by decide +kernel))
theorem lm_L_29 : Lm RL 29 yX11_side := Or.inl (tbi 1123 (by decide +kernel))
theorem lm_L_30 : Lm RL 30 yX10_colour := Or.inl (tbi 548 (by decide +kernel))
theorem lm_L_34 : Lm RL 34 yX11_colour := Or.inl (tbi 1140 (by decide +kernel))
theorem lm_L_35 : Lm RL 35 yX10_person := Or.inl (tbi 552 (by decide +kernel))
theorem lm_L_39 : Lm RL 39 yX11_person := Or.inl (tbi 1144 (by decide +kernel))
theorem lm_L_40 : Lm RL 40 yX10_laid := Or.inl (tbi 568 (by decide +kernel))
theorem lm_L_43 : Lm RL 43 yX11_laid := Or.inl (tbi 1152 (by decide +kernel))
theorem lm_L_44 : Lm RL 44 yX10_fits := Or.inl (tbi 573 (by decide +kernel))
theorem lm_L_47 : Lm RL 47 yX11_fits := Or.inl (tbi 1156 (by decide +kernel))
theorem lm_L_48 : Lm RL 48 yX10_seconds := Or.inl (tbi 591 (by decide +kernel))
theorem lm_L_52 : Lm RL 52 yX11_seconds := Or.inl (tbi 1168 (by decide +kernel))
theorem lm_L_53 : Lm RL 53 yX10_tryIt := Or.inl (tbi 615 (by decide +kernel))
theorem lm_L_56 : Lm RL 56 yX11_tryIt := Or.inl (tbi 1187 (by decide +kernel))
theorem lm_L_57 : Lm RL 57 yX10_lift := Or.inl (tbi 627 (by decide +kernel))
theorem lm_L_60 : Lm RL 60 yX11_lift := Or.inl (tbi 1199 (by decide +kernel))
theorem lm_L_61 : Lm RL 61 yX10_pocket := Or.inl (tbi 635 (by decide +kernel))
theorem lm_L_64 : Lm RL 64 yX11_pocket := Or.inl (tbi 1203 (by decide +kernel))
theorem lm_L_65 : Lm RL 65 yX10_find := Or.inl (tbi 643 (by decide +kernel))
theorem lm_L_68 : Lm RL 68 yX11_find := Or.inl (tbi 1211 (by decide +kernel))
theorem lm_L_69 : Lm RL 69 yX10_ways := Or.inl (tbi 647 (by decide +kernel))
theorem lm_L_72 : Lm RL 72 yX11_ways := Or.inl (tbi 1215 (by decide +kernel))
theorem lm_L_73 : Lm RL 73 yX10_first := Or.inl (tbi 669 (by decide +kernel))
theorem lm_L_76 : Lm RL 76 yX11_first := Or.inl (tbi 1223 (by decide +kernel))
theorem lm_L_77 : Lm RL 77 yX10_done := Or.inl (tbi 673 (by decide +kernel))
theorem lm_L_80 : Lm RL 80 yX11_done := Or.inl (tbi 1227 (by decide +kernel))
theorem lm_L_81 : Lm RL 81 yX10_half := Or.inl (tbi 736 (by decide +kernel))
theorem lm_L_84 : Lm RL 84 yX11_half := Or.inl (tbi 1271 (by decide +kernel))
theorem lm_L_85 : Lm RL 85 yX10_bestRule := Or.inl (tbi 746 (by decide +kernel))
theorem lm_L_88 : Lm RL 88 yX11_bestRule := Or.inl (tbi 1275 (by decide +kernel))
theorem lm_L_89 : Lm RL 89 yX10_table := Or.inl (tbi 750 (by decide +kernel))
theorem lm_L_92 : Lm RL 92 yX11_table := Or.inl (tbi 1279 (by decide +kernel))
theorem lm_L_93 : Lm RL 93 yX10_line := Or.inl (tbi 758 (by decide +kernel))
theorem lm_L_96 : Lm RL 96 yX11_line := Or.inl (tbi 1287 (by decide +kernel))
theorem lm_L_97 : Lm RL 97 yX10_seems := Or.inl (tbi 762 (by decide +kernel))
theorem lm_L_100 : Lm RL 100 yX11_seems := Or.inl (tbi 1291 (by decide +kernel))
theorem lm_L_101 : Lm RL 101 yX10_wrong := Or.inl (tbi 775 (by decide +kernel))
theorem lm_L_104 : Lm RL 104 yX11_wrong := Or.inl (tbi 1299 (by decide +kernel))
theorem lm_L_105 : Lm RL 105 yX10_falseOne := Or.inl (tbi 783 (by decide +kernel))
theorem lm_L_108 : Lm RL 108 yX11_falseOne := Or.inl (tbi 1307 (by decide +kernel))
theorem lm_L_109 : Lm RL 109 yX10_over := Or.inl (tbi 787 (by decide +kernel))
theorem lm_L_112 : Lm RL 112 yX11_over := Or.inl (tbi 1311 (by decide +kernel))
theorem lm_L_113 : Lm RL 113 yX10_balance := Or.inl (tbi 801 (by decide +kernel))
theorem lm_L_116 : Lm RL 116 yX11_balance := Or.inl (tbi 1319 (by decide +kernel))
theorem lm_L_117 : Lm RL 117 yX10_lacks := Or.inl (tbi 818 (by decide +kernel))
theorem lm_L_120 : Lm RL 120 yX11_lacks := Or.inl (tbi 1331 (by decide +kernel))
theorem lm_L_121 : Lm RL 121 yX10_which := Or.inl (tbi 826 (by decide +kernel))
theorem lm_L_124 : Lm RL 124 yX11_which := Or.inl (tbi 1339 (by decide +kernel))
theorem lm_L_125 : Lm RL 125 yX10_mine := Or.inl (tbi 839 (by decide +kernel))
theorem lm_L_128 : Lm RL 128 yX11_mine := Or.inl (tbi 1343 (by decide +kernel))
theorem lm_L_129 : Lm RL 129 yX10_hardest := Or.inl (tbi 850 (by decide +kernel))
theorem lm_L_132 : Lm RL 132 yX11_hardest := Or.inl (tbi 1350 (by decide +kernel))
theorem lm_L_133 : Lm RL 133 yX10_keeper := Or.inl (tbi 860 (by decide +kernel))
theorem lm_L_136 : Lm RL 136 yX11_keeper := Or.inl (tbi 1358 (by decide +kernel))
theorem lm_L_137 : Lm RL 137 yX10_evening := Or.inl (tbi 864 (by decide +kernel))
theorem lm_L_140 : Lm RL 140 yX11_evening := Or.inl (tbi 1362 (by decide +kernel))
theorem lm_L_141 : Lm RL 141 yX10_row := Or.inl (tbi 884 (by decide +kernel))
theorem lm_L_144 : Lm RL 144 yX11_row := Or.inl (tbi 1377 (by decide +kernel))
theorem lm_L_145 : Lm RL 145 yX10_judge := Or.inl (tbi 892 (by decide +kernel))
theorem lm_L_148 : Lm RL 148 yX11_judge := Or.inl (tbi 1381 (by decide +kernel))
theorem lm_L_149 : Lm RL 149 yX10_image := Or.inl (tbi 902 (by decide +kernel))
theorem lm_L_152 : Lm RL 152 yX11_image := Or.inl (tbi 1385 (by decide +kernel))
theorem lm_L_153 : Lm RL 153 yX10_on := Or.inl (tbi 910 (by decide +kernel))
theorem lm_L_156 : Lm RL 156 yX11_on := Or.inl (tbi 1389 (by decide +kernel))
theorem lm_L_157 : Lm RL 157 yX10_count := Or.inl (tbi 914 (by decide +kernel))
theorem lm_L_160 : Lm RL 160 yX11_count := Or.inl (tbi 1393 (by decide +kernel))
theorem lm_X11_79 : Lm RX11 79 yX11_anew := Or.inl (tbi 928 (by decide +kernel))
theorem lm_X11_91 : Lm RX11 91 yX11_cells := Or.inl (tbi 1115 (by decide +kernel))
theorem lm_X11_98 : Lm RX11 98 yX11_beside := Or.inl (tbi 1119 (by decide +kernel))
theorem lm_X11_102 : Lm RX11 102 yX11_sideOf := Or.inl (tbi 1136 (by decide +kernel))
theorem lm_X11_105 : Lm RX11 105 yX11_bound := Or.inl (tbi 1057 (by decide +kernel))
theorem lm_X11_112 : Lm RX11 112 yX11_no := Or.inl (tbi 1060 (by decide +kernel))
theorem lm_X11_121 : Lm RX11 121 yX11_nextByte := Or.inl (tbi 1073 (by decide +kernel))
theorem lm_X11_124 : Lm RX11 124 yX11_isIn := Or.inl (tbi 1085 (by decide +kernel))
theorem lm_X11_128 : Lm RX11 128 yX11_number := Or.inl (tbi 1081 (by decide +kernel))
theorem lm_X11_131 : Lm RX11 131 yX11_isNext := Or.inl (tbi 1088 (by decide +kernel))
theorem lm_X11_138 : Lm RX11 138 yX11_readsEdge := Or.inl (tbi 1077 (by decide +kernel))
theorem lm_X11_141 : Lm RX11 141 yX11_kindOf := Or.inl (tbi 1092 (by decide +kernel))
theorem lm_X11_144 : Lm RX11 144 yX11_isCell := Or.inl (tbi 1111 (by decide +kernel))
theorem lm_X11_147 : Lm RX11 147 yX11_statement := Or.inl (tbi 1069 (by decide +kernel))
theorem lm_X11_151 : Lm RX11 151 yX11_passesAll := Or.inl (tbi 1095 (by decide +kernel))
theorem lm_X11_155 : Lm RX11 155 yX11_comes := Or.inl (tbi 1107 (by decide +kernel))
theorem lm_X11_165 : Lm RX11 165 yX11_passes := Or.inl (tbi 1099 (by decide +kernel))
theorem lm_X11_169 : Lm RX11 169 yX11_passOne := Or.inl (tbi 1103 (by decide +kernel))
theorem lm_X11_175 : Lm RX11 175 yX11_turned := Or.inl (tbi 1132 (by decide +kernel))
theorem lm_X11_178 : Lm RX11 178 yX11_isAtRim := Or.inl (tbi 1164 (by decide +kernel))
theorem lm_X11_181 : Lm RX11 181 yX11_doesFit := Or.inl (tbi 1160 (by decide +kernel))
theorem lm_X11_184 : Lm RX11 184 yX11_halfUp := Or.inl (tbi 1176 (by decide +kernel))
theorem lm_X11_187 : Lm RX11 187 yX11_isRim := Or.inl (tbi 1179 (by decide +kernel))
theorem lm_X11_190 : Lm RX11 190 yX11_kindAt := Or.inl (tbi 1183 (by decide +kernel))
theorem lm_X11_193 : Lm RX11 193 yX11_lower := Or.inl (tbi 1127 (by decide +kernel))
theorem lm_X11_196 : Lm RX11 196 yX11_isPerson := Or.inl (tbi 1148 (by decide +kernel))
theorem lm_X11_199 : Lm RX11 199 yX11_secondsOf := Or.inl (tbi 1172 (by decide +kernel))
theorem lm_X11_203 : Lm RX11 203 yX11_isLaid := Or.inl (tbi 1191 (by decide +kernel))
theorem lm_X11_206 : Lm RX11 206 yX11_tries := Or.inl (tbi 1195 (by decide +kernel))
theorem lm_X11_208 : Lm RX11 208 yX11_lostMany := Or.inl (tbi 1207 (by decide +kernel))
theorem lm_X11_220 : Lm RX11 220 yX11_findWays := Or.inl (tbi 1219 (by decide +kernel))
theorem lm_X11_226 : Lm RX11 226 yX11_hasFlat := Or.inl (tbi 1255 (by decide +kernel))
theorem lm_X11_229 : Lm RX11 229 yX11_nubs := Or.inl (tbi 1259 (by decide +kernel))
theorem lm_X11_235 : Lm RX11 235 yX11_isAsked := Or.inl (tbi 1251 (by decide +kernel))
theorem lm_X11_238 : Lm RX11 238 yX11_formOf := Or.inl (tbi 1263 (by decide +kernel))
theorem lm_X11_241 : Lm RX11 241 yX11_hasFailed := Or.inl (tbi 1267 (by decide +kernel))
theorem lm_X11_244 : Lm RX11 244 yX11_findOrder := Or.inl (tbi 1243 (by decide +kernel))
theorem lm_X11_248 : Lm RX11 248 yX11_goesThrough := Or.inl (tbi 1247 (by decide +kernel))
theorem lm_X11_251 : Lm RX11 251 yX11_sortsFor := Or.inl (tbi 1235 (by decide +kernel))
theorem lm_X11_254 : Lm RX11 254 yX11_doneBy := Or.inl (tbi 1239 (by decide +kernel))
theorem lm_X11_258 : Lm RX11 258 yX11_doneOf := Or.inl (tbi 1231 (by decide +kernel))
theorem lm_X11_261 : Lm RX11 261 yX11_tableOf := Or.inl (tbi 1283 (by decide +kernel))
theorem lm_X11_264 : Lm RX11 264 yX11_seemsOf := Or.inl (tbi 1295 (by decide +kernel))
theorem lm_X11_267 : Lm RX11 267 yX11_isOwn := Or.inl (tbi 1303 (by decide +kernel))
theorem lm_X11_270 : Lm RX11 270 yX11_fitsSomewhere := Or.inl (tbi 1315 (by decide +kernel))
theorem lm_X11_273 : Lm RX11 273 yX11_balanceOn := Or.inl (tbi 1327 (by decide +kernel))
theorem lm_X11_276 : Lm RX11 276 yX11_balanceOf := Or.inl (tbi 1323 (by decide +kernel))
theorem lm_X11_279 : Lm RX11 279 yX11_doesLack := Or.inl (tbi 1335 (by decide +kernel))
theorem lm_X11_282 : Lm RX11 282 yX11_divisor := Or.inl (tbi 1347 (by decide +kernel))
theorem lm_X11_285 : Lm RX11 285 yX11_classed := Or.inl (tbi 1354 (by decide +kernel))
theorem lm_X11_294 : Lm RX11 294 yX11_laidMany := Or.inl (tbi 1366 (by decide +kernel))
theorem lm_X11_297 : Lm RX11 297 yX11_draw := Or.inl (tbi 1370 (by decide +kernel))
theorem ly_X10_balance : Ly yX10_balance 10 cX10_balance 2 (some .int) 1 := ⟨⟨TX10, 12, rfl⟩, tbi 804 (by decide +kernel), tbi 802 (by decide +kernel), tbi 803 (by decide +kernel), tbi 1 (by decide +kernel), by decide, by decide, by decide +kernel⟩
theorem ly_X10_bestRule : Ly yX10_bestRule 10 cX10_bestRule 6 (some .int) 1 := ⟨⟨TX10, 12, rfl⟩, tbi 749 (by decide +kernel), tbi 747 (by decide +kernel), tbi 748 (by decide +kernel), tbi 1 (by decide +kernel), by decide, by decide, by decide +kernel⟩
theorem ly_X10_colour : Ly yX10_colour 10 cX10_colour 2 (some .int) 1 := ⟨⟨TX10, 12, rfl⟩, tbi 551 (by decide +kernel), tbi 549 (by decide +kernel), tbi 550 (by decide +kernel), tbi 1 (by decide +kernel), by decide, by decide, by decide +kernel⟩
theorem ly_X10_count : Ly yX10_count 10 cX10_count 2 (some .int) 1 := ⟨⟨TX10, 12, rfl⟩, tbi 917 (by decide +kernel), tbi 915 (by decide +kernel), tbi 916 (by decide +kernel), tbi 1 (by decide +kernel), by decide, by decide, by decide +kernel⟩
theorem ly_X10_done : Ly yX10_done 10 cX10_done 4 (some .int) 2 := ⟨⟨TX10, 12, rfl⟩, tbi 676 (by decide +kernel), tbi 674 (by decide +kernel), tbi 675 (by decide +kernel), tbi 1 (by decide +kernel), by decide, by decide, by decide +kernel⟩
theorem ly_X10_evening : Ly yX10_evening 10 cX10_evening 3 (some .int) 2 := ⟨⟨TX10, 12, rfl⟩, tbi 867 (by decide +kernel), tbi 865 (by decide +kernel), tbi 866 (by decide +kernel), tbi 1 (by decide +kernel), by decide, by decide, by decide +kernel⟩
theorem ly_X10_falseOne : Ly yX10_falseOne 10 cX10_falseOne 2 (some .int) 0 := ⟨⟨TX10, 12, rfl⟩, tbi 786 (by decide +kernel), tbi 784 (by decide +kernel), tbi 785 (by decide +kernel), tbi 1 (by decide +kernel), by decide, by decide, by decide +kernel⟩
theorem ly_X10_feed : Ly yX10_feed 10 cX10_feed 4 (some .int) 2 := ⟨⟨TX10, 12, rfl⟩, tbi 336 (by decide +kernel), tbi 334 (by decide +kernel), tbi 335 (by decide +kernel), tbi 1 (by decide +kernel), by decide, by decide, by decide +kernel⟩
theorem ly_X10_find : Ly yX10_find 10 cX10_find 2 (some .int) 1 := ⟨⟨TX10, 12, rfl⟩, tbi 646 (by decide +kernel), tbi 644 (by decide +kernel), tbi 645 (by decide +kernel), tbi 1 (by decide +kernel), by decide, by decide, by decide +kernel⟩
theorem ly_X10_first : Ly yX10_first 10 cX10_first 3 (some .int) 2 := ⟨⟨TX10, 12, rfl⟩, tbi 672 (by decide +kernel), tbi 670 (by decide +kernel), tbi 671 (by decide +kernel), tbi 1 (by decide +kernel), by decide, by decide, by decide +kernel⟩
theorem ly_X10_fits : Ly yX10_fits 10 cX10_fits 4 (some .int) 3 := ⟨⟨TX10, 12, rfl⟩, tbi 576 (by decide +kernel), tbi 574 (by decide +kernel), tbi 575 (by decide +kernel), tbi 1 (by decide +kernel), by decide, by decide, by decide +kernel⟩
theorem ly_X10_half : Ly yX10_half 10 cX10_half 4 (some .int) 2 := ⟨⟨TX10, 12, rfl⟩, tbi 739 (by decide +kernel), tbi 737 (by decide +kernel), tbi 738 (by decide +kernel), tbi 1 (by decide +kernel), by decide, by decide, by decide +kernel⟩
theorem ly_X10_hardest : Ly yX10_hardest 10 cX10_hardest 5 (some .int) 0 := ⟨⟨TX10, 12, rfl⟩, tbi 853 (by decide +kernel), tbi 851 (by decide +kernel), tbi 852 (by decide +kernel), tbi 1 (by decide +kernel), by decide, by decide, by decide +kernel⟩
theorem ly_X10_image : Ly yX10_image 10 cX10_image 1 (some .int) 0 := ⟨⟨TX10, 12, rfl⟩, tbi 905 (by decide +kernel), tbi 903 (by decide +kernel), tbi 904 (by decide +kernel), tbi 1 (by decide +kernel), by decide, by decide, by decide +kernel⟩
theorem ly_X10_isCell : Ly yX10_isCell 10 cX10_isCell 2 (some .boolean) 1 := ⟨⟨TX10, 12, rfl⟩, tbi 538 (by decide +kernel), tbi 537 (by decide +kernel), tbp 25 (by decide +kernel), tbi 1 (by decide +kernel), by decide, by decide, by decide +kernel⟩
theorem ly_X10_isPerson : Ly yX10_isPerson 10 cX10_isPerson 2 (some .boolean) 1 := ⟨⟨TX10, 12, rfl⟩, tbi 559 (by decide +kernel), tbi 558 (by decide +kernel), tbp 28 (by decide +kernel), tbi 1 (by decide +kernel), by decide, by decide, by decide +kernel⟩
theorem ly_X10_isRule : Ly yX10_isRule 10 cX10_isRule 2 (some .boolean) 1 := ⟨⟨TX10, 12, rfl⟩, tbi 684 (by decide +kernel), tbi 683 (by decide +kernel), tbp 47 (by decide +kernel), tbi 1 (by decide +kernel), by decide, by decide, by decide +kernel⟩
theorem ly_X10_isTurn : Ly yX10_isTurn 10 cX10_isTurn 2 (some .boolean) 1 := ⟨⟨TX10, 12, rfl⟩, tbi 543 (by decide +kernel), tbi 542 (by decide +kernel), tbp 26 (by decide +kernel), tbi 1 (by decide +kernel), by decide, by decide, by decide +kernel⟩
theorem ly_X10_judge : Ly yX10_judge 10 cX10_judge 2 (some .int) 0 := ⟨⟨TX10, 12, rfl⟩, tbi 895 (by decide +kernel), tbi 893 (by decide +kernel), tbi 894 (by decide +kernel), tbi 1 (by decide +kernel), by decide, by decide, by decide +kernel⟩
theorem ly_X10_keeper : Ly yX10_keeper 10 cX10_keeper 3 (some .int) 2 := ⟨⟨TX10, 12, rfl⟩, tbi 863 (by decide +kernel), tbi 861 (by decide +kernel), tbi 862 (by decide +kernel), tbi 1 (by decide +kernel), by decide, by decide, by decide +kernel⟩
theorem ly_X10_lacks : Ly yX10_lacks 10 cX10_lacks 1 (some .int) 0 := ⟨⟨TX10, 12, rfl⟩, tbi 821 (by decide +kernel), tbi 819 (by decide +kernel), tbi 820 (by decide +kernel), tbi 1 (by decide +kernel), by decide, by decide, by decide +kernel⟩
theorem ly_X10_laid : Ly yX10_laid 10 cX10_laid 3 (some .int) 2 := ⟨⟨TX10, 12, rfl⟩, tbi 571 (by decide +kernel), tbi 569 (by decide +kernel), tbi 570 (by decide +kernel), tbi 1 (by decide +kernel), by decide, by decide, by decide +kernel⟩
theorem ly_X10_lift : Ly yX10_lift 10 cX10_lift 2 (some .int) 1 := ⟨⟨TX10, 12, rfl⟩, tbi 630 (by decide +kernel), tbi 628 (by decide +kernel), tbi 629 (by decide +kernel), tbi 1 (by decide +kernel), by decide, by decide, by decide +kernel⟩
theorem ly_X10_line : Ly yX10_line 10 cX10_line 6 (some .int) 1 := ⟨⟨TX10, 12, rfl⟩, tbi 761 (by decide +kernel), tbi 759 (by decide +kernel), tbi 760 (by decide +kernel), tbi 1 (by decide +kernel), by decide, by decide, by decide +kernel⟩
theorem ly_X10_mine : Ly yX10_mine 10 cX10_mine 6 (some .int) 2 := ⟨⟨TX10, 12, rfl⟩, tbi 842 (by decide +kernel), tbi 840 (by decide +kernel), tbi 841 (by decide +kernel), tbi 1 (by decide +kernel), by decide, by decide, by decide +kernel⟩
theorem ly_X10_on : Ly yX10_on 10 cX10_on 1 (some .int) 0 := ⟨⟨TX10, 12, rfl⟩, tbi 913 (by decide +kernel), tbi 911 (by decide +kernel), tbi 912 (by decide +kernel), tbi 1 (by decide +kernel), by decide, by decide, by decide +kernel⟩
theorem ly_X10_over : Ly yX10_over 10 cX10_over 2 (some .int) 0 := ⟨⟨TX10, 12, rfl⟩, tbi 790 (by decide +kernel), tbi 788 (by decide +kernel), tbi 789 (by decide +kernel), tbi 1 (by decide +kernel), by decide, by decide, by decide +kernel⟩
theorem ly_X10_person : Ly yX10_person 10 cX10_person 3 (some .int) 2 := ⟨⟨TX10, 12, rfl⟩, tbi 555 (by decide +kernel), tbi 553 (by decide +kernel), tbi 554 (by decide +kernel), tbi 1 (by decide +kernel), by decide, by decide, by decide +kernel⟩
theorem ly_X10_pocket : Ly yX10_pocket 10 cX10_pocket 2 (some .int) 1 := ⟨⟨TX10, 12, rfl⟩, tbi 638 (by decide +kernel), tbi 636 (by decide +kernel), tbi 637 (by decide +kernel), tbi 1 (by decide +kernel), by decide, by decide, by decide +kernel⟩
theorem ly_X10_puzzle : Ly yX10_puzzle 10 cX10_puzzle 2 (some .int) 0 := ⟨⟨TX10, 12, rfl⟩, tbi 349 (by decide +kernel), tbi 347 (by decide +kernel), tbi 348 (by decide +kernel), tbi 1 (by decide +kernel), by decide, by decide, by decide +kernel⟩
theorem ly_X10_refusalOfPlan : Ly yX10_refusalOfPlan 10 cX10_refusalOfPlan 3 (some .int) 2 := ⟨⟨TX10, 12, rfl⟩, tbi 680 (by decide +kernel), tbi 679 (by decide +kernel), tbp 46 (by decide +kernel), tbi 1 (by decide +kernel), by decide, by decide, by decide +kernel⟩
theorem ly_X10_refusalOfTry : Ly yX10_refusalOfTry 10 cX10_refusalOfTry 5 (some .int) 4 := ⟨⟨TX10, 12, rfl⟩, tbi 598 (by decide +kernel), tbi 597 (by decide +kernel), tbp 34 (by decide +kernel), tbi 1 (by decide +kernel), by decide, by decide, by decide +kernel⟩
theorem ly_X10_refuse : Ly yX10_refuse 10 cX10_refuse 2 (some .int) 1 := ⟨⟨TX10, 12, rfl⟩, tbi 340 (by decide +kernel), tbi 339 (by decide +kernel), tbp 3 (by decide +kernel), tbi 1 (by decide +kernel), by decide, by decide, by decide +kernel⟩
theorem ly_X10_row : Ly yX10_row 10 cX10_row 2 (some .int) 1 := ⟨⟨TX10, 12, rfl⟩, tbi 887 (by decide +kernel), tbi 885 (by decide +kernel), tbi 886 (by decide +kernel), tbi 1 (by decide +kernel), by decide, by decide, by decide +kernel⟩
theorem ly_X10_seconds : Ly yX10_seconds 10 cX10_seconds 6 (some .int) 4 := ⟨⟨TX10, 12, rfl⟩, tbi 594 (by decide +kernel), tbi 592 (by decide +kernel), tbi 593 (by decide +kernel), tbi 1 (by decide +kernel), by decide, by decide, by decide +kernel⟩
theorem ly_X10_seems : Ly yX10_seems 10 cX10_seems 1 (some .int) 0 := ⟨⟨TX10, 12, rfl⟩, tbi 765 (by decide +kernel), tbi 763 (by decide +kernel), tbi 764 (by decide +kernel), tbi 1 (by decide +kernel), by decide, by decide, by decide +kernel⟩
theorem ly_X10_side : Ly yX10_side 10 cX10_side 4 (some .int) 3 := ⟨⟨TX10, 12, rfl⟩, tbi 534 (by decide +kernel), tbi 532 (by decide +kernel), tbi 533 (by decide +kernel), tbi 1 (by decide +kernel), by decide, by decide, by decide +kernel⟩
theorem ly_X10_table : Ly yX10_table 10 cX10_table 3 (some .int) 2 := ⟨⟨TX10, 12, rfl⟩, tbi 753 (by decide +kernel), tbi 751 (by decide +kernel), tbi 752 (by decide +kernel), tbi 1 (by decide +kernel), by decide, by decide, by decide +kernel⟩
theorem ly_X10_tryIt : Ly yX10_tryIt 10 cX10_tryIt 7 (some .int) 4 := ⟨⟨TX10, 12, rfl⟩, tbi 618 (by decide +kernel), tbi 616 (by decide +kernel), tbi 617 (by decide +kernel), tbi 1 (by decide +kernel), by decide, by decide, by decide +kernel⟩
theorem ly_X10_ways : Ly yX10_ways 10 cX10_ways 2 (some .int) 1 := ⟨⟨TX10, 12, rfl⟩, tbi 650 (by decide +kernel), tbi 648 (by decide +kernel), tbi 649 (by decide +kernel), tbi 1 (by decide +kernel), by decide, by decide, by decide +kernel⟩
theorem ly_X10_which : Ly yX10_which 10 cX10_which 1 (some .int) 0 := ⟨⟨TX10, 12, rfl⟩, tbi 829 (by decide +kernel), tbi 827 (by decide +kernel), tbi 828 (by decide +kernel), tbi 1 (by decide +kernel), by decide, by decide, by decide +kernel⟩
theorem ly_X10_wrong : Ly yX10_wrong 10 cX10_wrong 3 (some .int) 0 := ⟨⟨TX10, 12, rfl⟩, tbi 778 (by decide +kernel), tbi 776 (by decide +kernel), tbi 777 (by decide +kernel), tbi 1 (by decide +kernel), by decide, by decide, by decide +kernel⟩
theorem ly_X0_clear : Ly yX0_clear 0 cX0_clear 2 none 0 := ⟨⟨TX0, 5, rfl⟩, tbi 148 (by decide +kernel), tbi 147 (by decide +kernel), tbp 2 (by decide +kernel), tbi 4 (by decide +kernel), by decide, by decide, by decide +kernel⟩
theorem ly_X0_copyFrom : Ly yX0_copyFrom 0 cX0_copyFrom 3 none 1 := ⟨⟨TX0, 5, rfl⟩, tbi 364 (by decide +kernel), tbi 363 (by decide +kernel), tbp 7 (by decide +kernel), tbi 4 (by decide +kernel), by decide, by decide, by decide +kernel⟩
theorem ly_X0_howManyFilled : Ly yX0_howManyFilled 0 cX0_howManyFilled 3 (some .int) 0 := ⟨⟨TX0, 5, rfl⟩, tbi 909 (by decide +kernel), tbi 908 (by decide +kernel), tbp 75 (by decide +kernel), tbi 4 (by decide +kernel), by decide, by decide, by decide +kernel⟩
theorem ly_X0_howManyLost : Ly yX0_howManyLost 0 cX0_howManyLost 3 (some .int) 0 := ⟨⟨TX0, 5, rfl⟩, tbi 642 (by decide +kernel), tbi 641 (by decide +kernel), tbp 42 (by decide +kernel), tbi 4 (by decide +kernel), by decide, by decide, by decide +kernel⟩
theorem ly_X0_isAway : Ly yX0_isAway 0 cX0_isAway 2 (some .boolean) 1 := ⟨⟨TX0, 5, rfl⟩, tbi 622 (by decide +kernel), tbi 621 (by decide +kernel), tbp 39 (by decide +kernel), tbi 4 (by decide +kernel), by decide, by decide, by decide +kernel⟩
theorem ly_X0_isFilled : Ly yX0_isFilled 0 cX0_isFilled 2 (some .boolean) 1 := ⟨⟨TX0, 5, rfl⟩, tbi 567 (by decide +kernel), tbi 566 (by decide +kernel), tbp 30 (by decide +kernel), tbi 4 (by decide +kernel), by decide, by decide, by decide +kernel⟩
theorem ly_X0_isRight : Ly yX0_isRight 0 cX0_isRight 2 (some .boolean) 1 := ⟨⟨TX0, 5, rfl⟩, tbi 782 (by decide +kernel), tbi 781 (by decide +kernel), tbp 62 (by decide +kernel), tbi 4 (by decide +kernel), by decide, by decide, by decide +kernel⟩
theorem ly_X0_laidBy : Ly yX0_laidBy 0 cX0_laidBy 4 (some .int) 1 := ⟨⟨TX0, 5, rfl⟩, tbi 563 (by decide +kernel), tbi 562 (by decide +kernel), tbp 29 (by decide +kernel), tbi 4 (by decide +kernel), by decide, by decide, by decide +kernel⟩
theorem ly_X0_put : Ly yX0_put 0 cX0_put 5 none 4 := ⟨⟨TX0, 5, rfl⟩, tbi 626 (by decide +kernel), tbi 625 (by decide +kernel), tbp 40 (by decide +kernel), tbi 4 (by decide +kernel), by decide, by decide, by decide +kernel⟩
theorem ly_X0_takeUp : Ly yX0_takeUp 0 cX0_takeUp 3 (some .int) 1 := ⟨⟨TX0, 5, rfl⟩, tbi 634 (by decide +kernel), tbi 633 (by decide +kernel), tbp 41 (by decide +kernel), tbi 4 (by decide +kernel), by decide, by decide, by decide +kernel⟩
theorem ly_X1_beside : Ly yX1_beside 1 cX1_beside 3 (some .int) 2 := ⟨⟨TX1, 7, rfl⟩, tbi 512 (by decide +kernel), tbi 511 (by decide +kernel), tbp 20 (by decide +kernel), tbi 3 (by decide +kernel), by decide, by decide, by decide +kernel⟩
theorem ly_X1_codeOf : Ly yX1_codeOf 1 cX1_codeOf 5 (some .int) 2 := ⟨⟨TX1, 7, rfl⟩, tbi 728 (by decide +kernel), tbi 727 (by decide +kernel), tbp 57 (by decide +kernel), tbi 3 (by decide +kernel), by decide, by decide, by decide +kernel⟩
theorem ly_X1_copyFrom : Ly yX1_copyFrom 1 cX1_copyFrom 3 none 1 := ⟨⟨TX1, 7, rfl⟩, tbi 357 (by decide +kernel), tbi 356 (by decide +kernel), tbp 6 (by decide +kernel), tbi 3 (by decide +kernel), by decide, by decide, by decide +kernel⟩
theorem ly_X1_cutAnew : Ly yX1_cutAnew 1 cX1_cutAnew 7 none 2 := ⟨⟨TX1, 7, rfl⟩, tbi 140 (by decide +kernel), tbi 139 (by decide +kernel), tbp 0 (by decide +kernel), tbi 3 (by decide +kernel), by decide, by decide, by decide +kernel⟩
theorem ly_X1_innerEdges : Ly yX1_innerEdges 1 cX1_innerEdges 1 (some .int) 0 := ⟨⟨TX1, 7, rfl⟩, tbi 921 (by decide +kernel), tbi 920 (by decide +kernel), tbp 76 (by decide +kernel), tbi 3 (by decide +kernel), by decide, by decide, by decide +kernel⟩
theorem ly_X1_isFit : Ly yX1_isFit 1 cX1_isFit 5 (some .boolean) 4 := ⟨⟨TX1, 7, rfl⟩, tbi 580 (by decide +kernel), tbi 579 (by decide +kernel), tbp 31 (by decide +kernel), tbi 3 (by decide +kernel), by decide, by decide, by decide +kernel⟩
theorem ly_X1_kindOf : Ly yX1_kindOf 1 cX1_kindOf 5 (some .int) 4 := ⟨⟨TX1, 7, rfl⟩, tbi 602 (by decide +kernel), tbi 601 (by decide +kernel), tbp 35 (by decide +kernel), tbi 3 (by decide +kernel), by decide, by decide, by decide +kernel⟩
theorem ly_X1_neighbourAcross : Ly yX1_neighbourAcross 1 cX1_neighbourAcross 5 (some .int) 2 := ⟨⟨TX1, 7, rfl⟩, tbi 144 (by decide +kernel), tbi 143 (by decide +kernel), tbp 1 (by decide +kernel), tbi 3 (by decide +kernel), by decide, by decide, by decide +kernel⟩
theorem ly_X1_nubsOf : Ly yX1_nubsOf 1 cX1_nubsOf 4 (some .int) 1 := ⟨⟨TX1, 7, rfl⟩, tbi 720 (by decide +kernel), tbi 719 (by decide +kernel), tbp 55 (by decide +kernel), tbi 3 (by decide +kernel), by decide, by decide, by decide +kernel⟩
theorem ly_X1_reclass : Ly yX1_reclass 1 cX1_reclass 6 none 1 := ⟨⟨TX1, 7, rfl⟩, tbi 858 (by decide +kernel), tbi 857 (by decide +kernel), tbp 70 (by decide +kernel), tbi 3 (by decide +kernel), by decide, by decide, by decide +kernel⟩
theorem ly_X1_setEdge : Ly yX1_setEdge 1 cX1_setEdge 4 none 3 := ⟨⟨TX1, 7, rfl⟩, tbi 516 (by decide +kernel), tbi 515 (by decide +kernel), tbp 21 (by decide +kernel), tbi 3 (by decide +kernel), by decide, by decide, by decide +kernel⟩
theorem ly_X1_sideOf : Ly yX1_sideOf 1 cX1_sideOf 4 (some .int) 3 := ⟨⟨TX1, 7, rfl⟩, tbi 547 (by decide +kernel), tbi 546 (by decide +kernel), tbp 27 (by decide +kernel), tbi 3 (by decide +kernel), by decide, by decide, by decide +kernel⟩
theorem ly_X1_suitsNeighbours : Ly yX1_suitsNeighbours 1 cX1_suitsNeighbours 8 (some .boolean) 4 := ⟨⟨TX1, 7, rfl⟩, tbi 589 (by decide +kernel), tbi 588 (by decide +kernel), tbp 33 (by decide +kernel), tbi 3 (by decide +kernel), by decide, by decide, by decide +kernel⟩
theorem ly_X1_suitsRim : Ly yX1_suitsRim 1 cX1_suitsRim 5 (some .boolean) 3 := ⟨⟨TX1, 7, rfl⟩, tbi 584 (by decide +kernel), tbi 583 (by decide +kernel), tbp 32 (by decide +kernel), tbi 3 (by decide +kernel), by decide, by decide, by decide +kernel⟩
theorem ly_X2_draw : Ly yX2_draw 2 cX2_draw 2 (some .int) 1 := ⟨⟨TX2, 2, rfl⟩, tbi 876 (by decide +kernel), tbi 875 (by decide +kernel), tbp 72 (by decide +kernel), tbi 11 (by decide +kernel), by decide, by decide, by decide +kernel⟩
theorem ly_X2_spend : Ly yX2_spend 2 cX2_spend 11 (some .int) 3 := ⟨⟨TX2, 2, rfl⟩, tbi 871 (by decide +kernel), tbi 870 (by decide +kernel), tbp 71 (by decide +kernel), tbi 11 (by decide +kernel), by decide, by decide, by decide +kernel⟩
theorem ly_X3_copyFrom : Ly yX3_copyFrom 3 cX3_copyFrom 2 none 1 := ⟨⟨TX3, 3, rfl⟩, tbi 353 (by decide +kernel), tbi 352 (by decide +kernel), tbp 5 (by decide +kernel), tbi 2 (by decide +kernel), by decide, by decide, by decide +kernel⟩
theorem ly_X3_costByColour : Ly yX3_costByColour 3 cX3_costByColour 4 (some .int) 3 := ⟨⟨TX3, 3, rfl⟩, tbi 614 (by decide +kernel), tbi 613 (by decide +kernel), tbp 38 (by decide +kernel), tbi 2 (by decide +kernel), by decide, by decide, by decide +kernel⟩
theorem ly_X3_costOf : Ly yX3_costOf 3 cX3_costOf 6 (some .int) 4 := ⟨⟨TX3, 3, rfl⟩, tbi 606 (by decide +kernel), tbi 605 (by decide +kernel), tbp 36 (by decide +kernel), tbi 2 (by decide +kernel), by decide, by decide, by decide +kernel⟩
theorem ly_X3_fitsSomehow : Ly yX3_fitsSomehow 3 cX3_fitsSomehow 4 (some .boolean) 2 := ⟨⟨TX3, 3, rfl⟩, tbi 799 (by decide +kernel), tbi 798 (by decide +kernel), tbp 64 (by decide +kernel), tbi 2 (by decide +kernel), by decide, by decide, by decide +kernel⟩
theorem ly_X3_hasPlaceFor : Ly yX3_hasPlaceFor 3 cX3_hasPlaceFor 3 (some .boolean) 1 := ⟨⟨TX3, 3, rfl⟩, tbi 794 (by decide +kernel), tbi 793 (by decide +kernel), tbp 63 (by decide +kernel), tbi 2 (by decide +kernel), by decide, by decide, by decide +kernel⟩
theorem ly_X3_plainCost : Ly yX3_plainCost 3 cX3_plainCost 5 (some .int) 3 := ⟨⟨TX3, 3, rfl⟩, tbi 610 (by decide +kernel), tbi 609 (by decide +kernel), tbp 37 (by decide +kernel), tbi 2 (by decide +kernel), by decide, by decide, by decide +kernel⟩
theorem ly_X4_add : Ly yX4_add 4 cX4_add 3 none 2 := ⟨⟨TX4, 4, rfl⟩, tbi 529 (by decide +kernel), tbi 528 (by decide +kernel), tbp 24 (by decide +kernel), tbi 5 (by decide +kernel), by decide, by decide, by decide +kernel⟩
theorem lz_X4_commonDivisor : Lz yX4_commonDivisor cX4_commonDivisor 6 (some .int) 2 := ⟨tbi 849 (by decide +kernel), tbi 848 (by decide +kernel), tbi 5 (by decide +kernel), by decide, by decide, by decide +kernel⟩
theorem ly_X4_copyFrom : Ly yX4_copyFrom 4 cX4_copyFrom 2 none 1 := ⟨⟨TX4, 4, rfl⟩, tbi 368 (by decide +kernel), tbi 367 (by decide +kernel), tbp 8 (by decide +kernel), tbi 5 (by decide +kernel), by decide, by decide, by decide +kernel⟩
theorem ly_X4_spentByAll : Ly yX4_spentByAll 4 cX4_spentByAll 3 (some .int) 0 := ⟨⟨TX4, 4, rfl⟩, tbi 846 (by decide +kernel), tbi 845 (by decide +kernel), tbp 69 (by decide +kernel), tbi 5 (by decide +kernel), by decide, by decide, by decide +kernel⟩
theorem lz_X5_add : Lz yX5_add cX5_add 6 none 4 := ⟨tbi 814 (by decide +kernel), tbi 813 (by decide +kernel), tbi 10 (by decide +kernel), by decide, by decide, by decide +kernel⟩
theorem lz_X5_clear : Lz yX5_clear cX5_clear 2 none 1 := ⟨tbi 811 (by decide +kernel), tbi 810 (by decide +kernel), tbi 10 (by decide +kernel), by decide, by decide, by decide +kernel⟩
theorem ly_X5_isAsHere : Ly yX5_isAsHere 5 cX5_isAsHere 2 (some .boolean) 0 := ⟨⟨TX5, 3, rfl⟩, tbi 838 (by decide +kernel), tbi 837 (by decide +kernel), tbp 68 (by decide +kernel), tbi 10 (by decide +kernel), by decide, by decide, by decide +kernel⟩
theorem ly_X5_isShort : Ly yX5_isShort 5 cX5_isShort 2 (some .boolean) 0 := ⟨⟨TX5, 3, rfl⟩, tbi 825 (by decide +kernel), tbi 824 (by decide +kernel), tbp 66 (by decide +kernel), tbi 10 (by decide +kernel), by decide, by decide, by decide +kernel⟩
theorem ly_X5_seemingPairs : Ly yX5_seemingPairs 5 cX5_seemingPairs 6 (some .int) 2 := ⟨⟨TX5, 3, rfl⟩, tbi 769 (by decide +kernel), tbi 768 (by decide +kernel), tbp 61 (by decide +kernel), tbi 10 (by decide +kernel), by decide, by decide, by decide +kernel⟩
theorem lz_X5_seemingSides : Lz yX5_seemingSides cX5_seemingSides 8 (some .int) 3 := ⟨tbi 772 (by decide +kernel), tbi 771 (by decide +kernel), tbi 10 (by decide +kernel), by decide, by decide, by decide +kernel⟩
theorem ly_X5_suspects : Ly yX5_suspects 5 cX5_suspects 4 (some .int) 1 := ⟨⟨TX5, 3, rfl⟩, tbi 833 (by decide +kernel), tbi 832 (by decide +kernel), tbp 67 (by decide +kernel), tbi 10 (by decide +kernel), by decide, by decide, by decide +kernel⟩
theorem ly_X5_weigh : Ly yX5_weigh 5 cX5_weigh 3 none 1 := ⟨⟨TX5, 3, rfl⟩, tbi 808 (by decide +kernel), tbi 807 (by decide +kernel), tbp 65 (by decide +kernel), tbi 10 (by decide +kernel), by decide, by decide, by decide +kernel⟩
theorem ly_X6_goThrough : Ly yX6_goThrough 6 cX6_goThrough 2 none 1 := ⟨⟨TX6, 5, rfl⟩, tbi 654 (by decide +kernel), tbi 653 (by decide +kernel), tbp 43 (by decide +kernel), tbi 8 (by decide +kernel), by decide, by decide, by decide +kernel⟩
theorem ly_X6_layFrom : Ly yX6_layFrom 6 cX6_layFrom 4 none 2 := ⟨⟨TX6, 5, rfl⟩, tbi 659 (by decide +kernel), tbi 658 (by decide +kernel), tbp 44 (by decide +kernel), tbi 8 (by decide +kernel), by decide, by decide, by decide +kernel⟩
theorem ly_X6_layTurned : Ly yX6_layTurned 6 cX6_layTurned 5 none 3 := ⟨⟨TX6, 5, rfl⟩, tbi 665 (by decide +kernel), tbi 664 (by decide +kernel), tbp 45 (by decide +kernel), tbi 8 (by decide +kernel), by decide, by decide, by decide +kernel⟩
theorem ly_X7_digitAt : Ly yX7_digitAt 7 cX7_digitAt 2 (some .int) 1 := ⟨⟨TX7, 4, rfl⟩, tbi 494 (by decide +kernel), tbi 493 (by decide +kernel), tbp 16 (by decide +kernel), tbi 6 (by decide +kernel), by decide, by decide, by decide +kernel⟩
theorem ly_X7_isNext : Ly yX7_isNext 7 cX7_isNext 2 (some .boolean) 1 := ⟨⟨TX7, 4, rfl⟩, tbi 386 (by decide +kernel), tbi 385 (by decide +kernel), tbp 12 (by decide +kernel), tbi 6 (by decide +kernel), by decide, by decide, by decide +kernel⟩
theorem ly_X7_numberBetween : Ly yX7_numberBetween 7 cX7_numberBetween 5 (some .int) 2 := ⟨⟨TX7, 4, rfl⟩, tbi 504 (by decide +kernel), tbi 503 (by decide +kernel), tbp 18 (by decide +kernel), tbi 6 (by decide +kernel), by decide, by decide, by decide +kernel⟩
theorem ly_X7_obey : Ly yX7_obey 7 cX7_obey 5 (some .boolean) 3 := ⟨⟨TX7, 4, rfl⟩, tbi 490 (by decide +kernel), tbi 489 (by decide +kernel), tbp 15 (by decide +kernel), tbi 6 (by decide +kernel), by decide, by decide, by decide +kernel⟩
theorem ly_X7_obeyAll : Ly yX7_obeyAll 7 cX7_obeyAll 5 (some .int) 1 := ⟨⟨TX7, 4, rfl⟩, tbi 486 (by decide +kernel), tbi 485 (by decide +kernel), tbp 14 (by decide +kernel), tbi 6 (by decide +kernel), by decide, by decide, by decide +kernel⟩
theorem ly_X7_obeyColour : Ly yX7_obeyColour 7 cX7_obeyColour 4 (some .boolean) 3 := ⟨⟨TX7, 4, rfl⟩, tbi 521 (by decide +kernel), tbi 520 (by decide +kernel), tbp 22 (by decide +kernel), tbi 6 (by decide +kernel), by decide, by decide, by decide +kernel⟩
theorem ly_X7_obeyEdge : Ly yX7_obeyEdge 7 cX7_obeyEdge 6 (some .boolean) 3 := ⟨⟨TX7, 4, rfl⟩, tbi 508 (by decide +kernel), tbi 507 (by decide +kernel), tbp 19 (by decide +kernel), tbi 6 (by decide +kernel), by decide, by decide, by decide +kernel⟩
theorem ly_X7_obeyPerson : Ly yX7_obeyPerson 7 cX7_obeyPerson 4 (some .boolean) 3 := ⟨⟨TX7, 4, rfl⟩, tbi 525 (by decide +kernel), tbi 524 (by decide +kernel), tbp 23 (by decide +kernel), tbi 6 (by decide +kernel), by decide, by decide, by decide +kernel⟩
theorem ly_X7_obeySize : Ly yX7_obeySize 7 cX7_obeySize 4 (some .boolean) 3 := ⟨⟨TX7, 4, rfl⟩, tbi 498 (by decide +kernel), tbi 497 (by decide +kernel), tbp 17 (by decide +kernel), tbi 6 (by decide +kernel), by decide, by decide, by decide +kernel⟩
theorem ly_X7_passCell : Ly yX7_passCell 7 cX7_passCell 1 none 0 := ⟨⟨TX7, 4, rfl⟩, tbi 477 (by decide +kernel), tbi 476 (by decide +kernel), tbp 13 (by decide +kernel), tbi 6 (by decide +kernel), by decide, by decide, by decide +kernel⟩
theorem ly_X7_passOneOf : Ly yX7_passOneOf 7 cX7_passOneOf 2 none 1 := ⟨⟨TX7, 4, rfl⟩, tbi 382 (by decide +kernel), tbi 381 (by decide +kernel), tbp 11 (by decide +kernel), tbi 6 (by decide +kernel), by decide, by decide, by decide +kernel⟩
theorem ly_X7_passStatement : Ly yX7_passStatement 7 cX7_passStatement 2 none 0 := ⟨⟨TX7, 4, rfl⟩, tbi 377 (by decide +kernel), tbi 376 (by decide +kernel), tbp 10 (by decide +kernel), tbi 6 (by decide +kernel), by decide, by decide, by decide +kernel⟩
theorem ly_X7_readInto : Ly yX7_readInto 7 cX7_readInto 3 (some .int) 1 := ⟨⟨TX7, 4, rfl⟩, tbi 373 (by decide +kernel), tbi 372 (by decide +kernel), tbp 9 (by decide +kernel), tbi 6 (by decide +kernel), by decide, by decide, by decide +kernel⟩
theorem ly_X7_take : Ly yX7_take 7 cX7_take 5 none 2 := ⟨⟨TX7, 4, rfl⟩, tbi 344 (by decide +kernel), tbi 343 (by decide +kernel), tbp 4 (by decide +kernel), tbi 6 (by decide +kernel), by decide, by decide, by decide +kernel⟩
theorem ly_X8_add : Ly yX8_add 8 cX8_add 2 (some .int) 1 := ⟨⟨TX8, 2, rfl⟩, tbi 891 (by decide +kernel), tbi 890 (by decide +kernel), tbp 73 (by decide +kernel), tbi 7 (by decide +kernel), by decide, by decide, by decide +kernel⟩
theorem ly_X8_compareWith : Ly yX8_compareWith 8 cX8_compareWith 6 (some .int) 1 := ⟨⟨TX8, 2, rfl⟩, tbi 899 (by decide +kernel), tbi 898 (by decide +kernel), tbp 74 (by decide +kernel), tbi 7 (by decide +kernel), by decide, by decide, by decide +kernel⟩
theorem ly_X9_addCells : Ly yX9_addCells 9 cX9_addCells 5 none 2 := ⟨⟨TX9, 6, rfl⟩, tbi 697 (by decide +kernel), tbi 696 (by decide +kernel), tbp 50 (by decide +kernel), tbi 9 (by decide +kernel), by decide, by decide, by decide +kernel⟩
theorem ly_X9_begin : Ly yX9_begin 9 cX9_begin 3 none 2 := ⟨⟨TX9, 6, rfl⟩, tbi 692 (by decide +kernel), tbi 691 (by decide +kernel), tbp 49 (by decide +kernel), tbi 9 (by decide +kernel), by decide, by decide, by decide +kernel⟩
theorem ly_X9_fillCell : Ly yX9_fillCell 9 cX9_fillCell 7 (some .int) 2 := ⟨⟨TX9, 6, rfl⟩, tbi 712 (by decide +kernel), tbi 711 (by decide +kernel), tbp 53 (by decide +kernel), tbi 9 (by decide +kernel), by decide, by decide, by decide +kernel⟩
theorem ly_X9_halfBy : Ly yX9_halfBy 9 cX9_halfBy 5 (some .int) 3 := ⟨⟨TX9, 6, rfl⟩, tbi 743 (by decide +kernel), tbi 742 (by decide +kernel), tbp 59 (by decide +kernel), tbi 9 (by decide +kernel), by decide, by decide, by decide +kernel⟩
theorem ly_X9_isChosen : Ly yX9_isChosen 9 cX9_isChosen 4 (some .boolean) 2 := ⟨⟨TX9, 6, rfl⟩, tbi 716 (by decide +kernel), tbi 715 (by decide +kernel), tbp 54 (by decide +kernel), tbi 9 (by decide +kernel), by decide, by decide, by decide +kernel⟩
theorem ly_X9_isMarked : Ly yX9_isMarked 9 cX9_isMarked 5 (some .boolean) 2 := ⟨⟨TX9, 6, rfl⟩, tbi 724 (by decide +kernel), tbi 723 (by decide +kernel), tbp 56 (by decide +kernel), tbi 9 (by decide +kernel), by decide, by decide, by decide +kernel⟩
theorem ly_X9_mark : Ly yX9_mark 9 cX9_mark 3 none 2 := ⟨⟨TX9, 6, rfl⟩, tbi 735 (by decide +kernel), tbi 734 (by decide +kernel), tbp 58 (by decide +kernel), tbi 9 (by decide +kernel), by decide, by decide, by decide +kernel⟩
theorem ly_X9_share : Ly yX9_share 9 cX9_share 8 (some .int) 5 := ⟨⟨TX9, 6, rfl⟩, tbi 707 (by decide +kernel), tbi 706 (by decide +kernel), tbp 52 (by decide +kernel), tbi 9 (by decide +kernel), by decide, by decide, by decide +kernel⟩
theorem ly_X9_sortingCost : Ly yX9_sortingCost 9 cX9_sortingCost 5 (some .int) 1 := ⟨⟨TX9, 6, rfl⟩, tbi 702 (by decide +kernel), tbi 701 (by decide +kernel), tbp 51 (by decide +kernel), tbi 9 (by decide +kernel), by decide, by decide, by decide +kernel⟩
theorem ly_X9_together : Ly yX9_together 9 cX9_together 6 (some .int) 3 := ⟨⟨TX9, 6, rfl⟩, tbi 757 (by decide +kernel), tbi 756 (by decide +kernel), tbp 60 (by decide +kernel), tbi 9 (by decide +kernel), by decide, by decide, by decide +kernel⟩
theorem ly_X9_wholeBy : Ly yX9_wholeBy 9 cX9_wholeBy 4 (some .int) 3 := ⟨⟨TX9, 6, rfl⟩, tbi 688 (by decide +kernel), tbi 687 (by decide +kernel), tbp 48 (by decide +kernel), tbi 9 (by decide +kernel), by decide, by decide, by decide +kernel⟩
theorem ly_X11_anew : Ly yX11_anew 11 cX11_anew 4 none 2 := ⟨⟨TX11, 40, rfl⟩, tbi 931 (by decide +kernel), tbi 930 (by decide +kernel), tbp 77 (by decide +kernel), tbi 12 (by decide +kernel), by decide, by decide, by decide +kernel⟩
theorem ly_X11_balance : Ly yX11_balance 11 cX11_balance 2 (some .int) 1 := ⟨⟨TX11, 40, rfl⟩, tbi 1322 (by decide +kernel), tbi 1320 (by decide +kernel), tbi 1321 (by decide +kernel), tbi 12 (by decide +kernel), by decide, by decide, by decide +kernel⟩
theorem ly_X11_balanceOf : Ly yX11_balanceOf 11 cX11_balanceOf 4 (some .int) 1 := ⟨⟨TX11, 40, rfl⟩, tbi 1326 (by decide +kernel), tbi 1325 (by decide +kernel), tbp 118 (by decide +kernel), tbi 12 (by decide +kernel), by decide, by decide, by decide +kernel⟩
theorem ly_X11_balanceOn : Ly yX11_balanceOn 11 cX11_balanceOn 6 (some .int) 2 := ⟨⟨TX11, 40, rfl⟩, tbi 1330 (by decide +kernel), tbi 1329 (by decide +kernel), tbp 119 (by decide +kernel), tbi 12 (by decide +kernel), by decide, by decide, by decide +kernel⟩
theorem ly_X11_beside : Ly yX11_beside 11 cX11_beside 3 (some .int) 2 := ⟨⟨TX11, 40, rfl⟩, tbi 1122 (by decide +kernel), tbi 1121 (by decide +kernel), tbp 90 (by decide +kernel), tbi 12 (by decide +kernel), by decide, by decide, by decide +kernel⟩
theorem ly_X11_bestRule : Ly yX11_bestRule 11 cX11_bestRule 4 (some .int) 1 := ⟨⟨TX11, 40, rfl⟩, tbi 1278 (by decide +kernel), tbi 1276 (by decide +kernel), tbi 1277 (by decide +kernel), tbi 12 (by decide +kernel), by decide, by decide, by decide +kernel⟩
theorem lz_X11_bound : Lz yX11_bound cX11_bound 3 (some .int) 3 := ⟨tbi 1059 (by decide +kernel), tbi 1058 (by decide +kernel), tbi 12 (by decide +kernel), by decide, by decide, by decide +kernel⟩
theorem ly_X11_cells : Ly yX11_cells 11 cX11_cells 1 (some .int) 0 := ⟨⟨TX11, 40, rfl⟩, tbi 1118 (by decide +kernel), tbi 1117 (by decide +kernel), tbp 89 (by decide +kernel), tbi 12 (by decide +kernel), by decide, by decide, by decide +kernel⟩
theorem ly_X11_classed : Ly yX11_classed 11 cX11_classed 3 (some .int) 2 := ⟨⟨TX11, 40, rfl⟩, tbi 1357 (by decide +kernel), tbi 1356 (by decide +kernel), tbp 121 (by decide +kernel), tbi 12 (by decide +kernel), by decide, by decide, by decide +kernel⟩
theorem ly_X11_colour : Ly yX11_colour 11 cX11_colour 2 (some .int) 1 := ⟨⟨TX11, 40, rfl⟩, tbi 1143 (by decide +kernel), tbi 1141 (by decide +kernel), tbi 1142 (by decide +kernel), tbi 12 (by decide +kernel), by decide, by decide, by decide +kernel⟩
theorem ly_X11_comes : Ly yX11_comes 11 cX11_comes 4 (some .boolean) 1 := ⟨⟨TX11, 40, rfl⟩, tbi 1110 (by decide +kernel), tbi 1109 (by decide +kernel), tbp 87 (by decide +kernel), tbi 12 (by decide +kernel), by decide, by decide, by decide +kernel⟩
theorem ly_X11_count : Ly yX11_count 11 cX11_count 2 (some .int) 1 := ⟨⟨TX11, 40, rfl⟩, tbi 1396 (by decide +kernel), tbi 1394 (by decide +kernel), tbi 1395 (by decide +kernel), tbi 12 (by decide +kernel), by decide, by decide, by decide +kernel⟩
theorem lz_X11_divisor : Lz yX11_divisor cX11_divisor 5 (some .int) 2 := ⟨tbi 1349 (by decide +kernel), tbi 1348 (by decide +kernel), tbi 12 (by decide +kernel), by decide, by decide, by decide +kernel⟩
theorem ly_X11_doesFit : Ly yX11_doesFit 11 cX11_doesFit 6 (some .boolean) 3 := ⟨⟨TX11, 40, rfl⟩, tbi 1163 (by decide +kernel), tbi 1162 (by decide +kernel), tbp 95 (by decide +kernel), tbi 12 (by decide +kernel), by decide, by decide, by decide +kernel⟩
theorem ly_X11_doesLack : Ly yX11_doesLack 11 cX11_doesLack 4 (some .boolean) 0 := ⟨⟨TX11, 40, rfl⟩, tbi 1338 (by decide +kernel), tbi 1337 (by decide +kernel), tbp 120 (by decide +kernel), tbi 12 (by decide +kernel), by decide, by decide, by decide +kernel⟩
theorem ly_X11_done : Ly yX11_done 11 cX11_done 3 (some .int) 2 := ⟨⟨TX11, 40, rfl⟩, tbi 1230 (by decide +kernel), tbi 1228 (by decide +kernel), tbi 1229 (by decide +kernel), tbi 12 (by decide +kernel), by decide, by decide, by decide +kernel⟩
theorem ly_X11_doneBy : Ly yX11_doneBy 11 cX11_doneBy 8 (some .int) 5 := ⟨⟨TX11, 40, rfl⟩, tbi 1242 (by decide +kernel), tbi 1241 (by decide +kernel), tbp 106 (by decide +kernel), tbi 12 (by decide +kernel), by decide, by decide, by decide +kernel⟩
theorem ly_X11_doneOf : Ly yX11_doneOf 11 cX11_doneOf 3 (some .int) 2 := ⟨⟨TX11, 40, rfl⟩, tbi 1234 (by decide +kernel), tbi 1233 (by decide +kernel), tbp 104 (by decide +kernel), tbi 12 (by decide +kernel), by decide, by decide, by decide +kernel⟩
theorem ly_X11_draw : Ly yX11_draw 11 cX11_draw 2 (some .int) 1 := ⟨⟨TX11, 40, rfl⟩, tbi 1373 (by decide +kernel), tbi 1372 (by decide +kernel), tbp 123 (by decide +kernel), tbi 12 (by decide +kernel), by decide, by decide, by decide +kernel⟩
theorem ly_X11_evening : Ly yX11_evening 11 cX11_evening 10 (some .int) 2 := ⟨⟨TX11, 40, rfl⟩, tbi 1365 (by decide +kernel), tbi 1363 (by decide +kernel), tbi 1364 (by decide +kernel), tbi 12 (by decide +kernel), by decide, by decide, by decide +kernel⟩
theorem ly_X11_falseOne : Ly yX11_falseOne 11 cX11_falseOne 2 (some .int) 0 := ⟨⟨TX11, 40, rfl⟩, tbi 1310 (by decide +kernel), tbi 1308 (by decide +kernel), tbi 1309 (by decide +kernel), tbi 12 (by decide +kernel), by decide, by decide, by decide +kernel⟩
theorem ly_X11_feed : Ly yX11_feed 11 cX11_feed 6 (some .int) 2 := ⟨⟨TX11, 40, rfl⟩, tbi 1056 (by decide +kernel), tbi 1054 (by decide +kernel), tbi 1055 (by decide +kernel), tbi 12 (by decide +kernel), by decide, by decide, by decide +kernel⟩
theorem ly_X11_find : Ly yX11_find 11 cX11_find 2 (some .int) 1 := ⟨⟨TX11, 40, rfl⟩, tbi 1214 (by decide +kernel), tbi 1212 (by decide +kernel), tbi 1213 (by decide +kernel), tbi 12 (by decide +kernel), by decide, by decide, by decide +kernel⟩
theorem ly_X11_findOrder : Ly yX11_findOrder 11 cX11_findOrder 5 none 1 := ⟨⟨TX11, 40, rfl⟩, tbi 1246 (by decide +kernel), tbi 1245 (by decide +kernel), tbp 107 (by decide +kernel), tbi 12 (by decide +kernel), by decide, by decide, by decide +kernel⟩
theorem ly_X11_findWays : Ly yX11_findWays 11 cX11_findWays 6 none 0 := ⟨⟨TX11, 40, rfl⟩, tbi 1222 (by decide +kernel), tbi 1221 (by decide +kernel), tbp 103 (by decide +kernel), tbi 12 (by decide +kernel), by decide, by decide, by decide +kernel⟩
theorem ly_X11_first : Ly yX11_first 11 cX11_first 3 (some .int) 2 := ⟨⟨TX11, 40, rfl⟩, tbi 1226 (by decide +kernel), tbi 1224 (by decide +kernel), tbi 1225 (by decide +kernel), tbi 12 (by decide +kernel), by decide, by decide, by decide +kernel⟩
theorem ly_X11_fits : Ly yX11_fits 11 cX11_fits 4 (some .int) 3 := ⟨⟨TX11, 40, rfl⟩, tbi 1159 (by decide +kernel), tbi 1157 (by decide +kernel), tbi 1158 (by decide +kernel), tbi 12 (by decide +kernel), by decide, by decide, by decide +kernel⟩
theorem ly_X11_fitsSomewhere : Ly yX11_fitsSomewhere 11 cX11_fitsSomewhere 4 (some .boolean) 1 := ⟨⟨TX11, 40, rfl⟩, tbi 1318 (by decide +kernel), tbi 1317 (by decide +kernel), tbp 117 (by decide +kernel), tbi 12 (by decide +kernel), by decide, by decide, by decide +kernel⟩
theorem ly_X11_formOf : Ly yX11_formOf 11 cX11_formOf 5 (some .int) 2 := ⟨⟨TX11, 40, rfl⟩, tbi 1266 (by decide +kernel), tbi 1265 (by decide +kernel), tbp 112 (by decide +kernel), tbi 12 (by decide +kernel), by decide, by decide, by decide +kernel⟩
theorem ly_X11_goesThrough : Ly yX11_goesThrough 11 cX11_goesThrough 7 (some .int) 3 := ⟨⟨TX11, 40, rfl⟩, tbi 1250 (by decide +kernel), tbi 1249 (by decide +kernel), tbp 108 (by decide +kernel), tbi 12 (by decide +kernel), by decide, by decide, by decide +kernel⟩
theorem ly_X11_half : Ly yX11_half 11 cX11_half 3 (some .int) 2 := ⟨⟨TX11, 40, rfl⟩, tbi 1274 (by decide +kernel), tbi 1272 (by decide +kernel), tbi 1273 (by decide +kernel), tbi 12 (by decide +kernel), by decide, by decide, by decide +kernel⟩
theorem lz_X11_halfUp : Lz yX11_halfUp cX11_halfUp 1 (some .int) 1 := ⟨tbi 1178 (by decide +kernel), tbi 1177 (by decide +kernel), tbi 12 (by decide +kernel), by decide, by decide, by decide +kernel⟩
theorem ly_X11_hardest : Ly yX11_hardest 11 cX11_hardest 6 (some .int) 0 := ⟨⟨TX11, 40, rfl⟩, tbi 1353 (by decide +kernel), tbi 1351 (by decide +kernel), tbi 1352 (by decide +kernel), tbi 12 (by decide +kernel), by decide, by decide, by decide +kernel⟩
theorem ly_X11_hasFailed : Ly yX11_hasFailed 11 cX11_hasFailed 3 (some .boolean) 1 := ⟨⟨TX11, 40, rfl⟩, tbi 1270 (by decide +kernel), tbi 1269 (by decide +kernel), tbp 113 (by decide +kernel), tbi 12 (by decide +kernel), by decide, by decide, by decide +kernel⟩
theorem ly_X11_hasFlat : Ly yX11_hasFlat 11 cX11_hasFlat 3 (some .boolean) 1 := ⟨⟨TX11, 40, rfl⟩, tbi 1258 (by decide +kernel), tbi 1257 (by decide +kernel), tbp 110 (by decide +kernel), tbi 12 (by decide +kernel), by decide, by decide, by decide +kernel⟩
theorem ly_X11_image : Ly yX11_image 11 cX11_image 1 (some .int) 0 := ⟨⟨TX11, 40, rfl⟩, tbi 1388 (by decide +kernel), tbi 1386 (by decide +kernel), tbi 1387 (by decide +kernel), tbi 12 (by decide +kernel), by decide, by decide, by decide +kernel⟩
theorem ly_X11_isAsked : Ly yX11_isAsked 11 cX11_isAsked 4 (some .boolean) 3 := ⟨⟨TX11, 40, rfl⟩, tbi 1254 (by decide +kernel), tbi 1253 (by decide +kernel), tbp 109 (by decide +kernel), tbi 12 (by decide +kernel), by decide, by decide, by decide +kernel⟩
theorem ly_X11_isAtRim : Ly yX11_isAtRim 11 cX11_isAtRim 5 (some .boolean) 3 := ⟨⟨TX11, 40, rfl⟩, tbi 1167 (by decide +kernel), tbi 1166 (by decide +kernel), tbp 96 (by decide +kernel), tbi 12 (by decide +kernel), by decide, by decide, by decide +kernel⟩
theorem ly_X11_isCell : Ly yX11_isCell 11 cX11_isCell 2 (some .boolean) 1 := ⟨⟨TX11, 40, rfl⟩, tbi 1114 (by decide +kernel), tbi 1113 (by decide +kernel), tbp 88 (by decide +kernel), tbi 12 (by decide +kernel), by decide, by decide, by decide +kernel⟩
theorem lz_X11_isIn : Lz yX11_isIn cX11_isIn 3 (some .boolean) 3 := ⟨tbi 1087 (by decide +kernel), tbi 1086 (by decide +kernel), tbi 12 (by decide +kernel), by decide, by decide, by decide +kernel⟩
theorem ly_X11_isLaid : Ly yX11_isLaid 11 cX11_isLaid 3 (some .boolean) 1 := ⟨⟨TX11, 40, rfl⟩, tbi 1194 (by decide +kernel), tbi 1193 (by decide +kernel), tbp 100 (by decide +kernel), tbi 12 (by decide +kernel), by decide, by decide, by decide +kernel⟩
theorem ly_X11_isNext : Ly yX11_isNext 11 cX11_isNext 2 (some .boolean) 1 := ⟨⟨TX11, 40, rfl⟩, tbi 1091 (by decide +kernel), tbi 1090 (by decide +kernel), tbp 83 (by decide +kernel), tbi 12 (by decide +kernel), by decide, by decide, by decide +kernel⟩
theorem ly_X11_isOwn : Ly yX11_isOwn 11 cX11_isOwn 2 (some .boolean) 1 := ⟨⟨TX11, 40, rfl⟩, tbi 1306 (by decide +kernel), tbi 1305 (by decide +kernel), tbp 116 (by decide +kernel), tbi 12 (by decide +kernel), by decide, by decide, by decide +kernel⟩
theorem ly_X11_isPerson : Ly yX11_isPerson 11 cX11_isPerson 2 (some .boolean) 1 := ⟨⟨TX11, 40, rfl⟩, tbi 1151 (by decide +kernel), tbi 1150 (by decide +kernel), tbp 94 (by decide +kernel), tbi 12 (by decide +kernel), by decide, by decide, by decide +kernel⟩
theorem ly_X11_isRim : Ly yX11_isRim 11 cX11_isRim 3 (some .boolean) 1 := ⟨⟨TX11, 40, rfl⟩, tbi 1182 (by decide +kernel), tbi 1181 (by decide +kernel), tbp 98 (by decide +kernel), tbi 12 (by decide +kernel), by decide, by decide, by decide +kernel⟩
theorem ly_X11_judge : Ly yX11_judge 11 cX11_judge 3 (some .int) 0 := ⟨⟨TX11, 40, rfl⟩, tbi 1384 (by decide +kernel), tbi 1382 (by decide +kernel), tbi 1383 (by decide +kernel), tbi 12 (by decide +kernel), by decide, by decide, by decide +kernel⟩
theorem ly_X11_keeper : Ly yX11_keeper 11 cX11_keeper 4 (some .int) 2 := ⟨⟨TX11, 40, rfl⟩, tbi 1361 (by decide +kernel), tbi 1359 (by decide +kernel), tbi 1360 (by decide +kernel), tbi 12 (by decide +kernel), by decide, by decide, by decide +kernel⟩
theorem ly_X11_kindAt : Ly yX11_kindAt 11 cX11_kindAt 4 (some .int) 3 := ⟨⟨TX11, 40, rfl⟩, tbi 1186 (by decide +kernel), tbi 1185 (by decide +kernel), tbp 99 (by decide +kernel), tbi 12 (by decide +kernel), by decide, by decide, by decide +kernel⟩
theorem lz_X11_kindOf : Lz yX11_kindOf cX11_kindOf 1 (some .int) 1 := ⟨tbi 1094 (by decide +kernel), tbi 1093 (by decide +kernel), tbi 12 (by decide +kernel), by decide, by decide, by decide +kernel⟩
theorem ly_X11_lacks : Ly yX11_lacks 11 cX11_lacks 1 (some .int) 0 := ⟨⟨TX11, 40, rfl⟩, tbi 1334 (by decide +kernel), tbi 1332 (by decide +kernel), tbi 1333 (by decide +kernel), tbi 12 (by decide +kernel), by decide, by decide, by decide +kernel⟩
theorem ly_X11_laid : Ly yX11_laid 11 cX11_laid 3 (some .int) 2 := ⟨⟨TX11, 40, rfl⟩, tbi 1155 (by decide +kernel), tbi 1153 (by decide +kernel), tbi 1154 (by decide +kernel), tbi 12 (by decide +kernel), by decide, by decide, by decide +kernel⟩
theorem ly_X11_laidMany : Ly yX11_laidMany 11 cX11_laidMany 3 (some .int) 0 := ⟨⟨TX11, 40, rfl⟩, tbi 1369 (by decide +kernel), tbi 1368 (by decide +kernel), tbp 122 (by decide +kernel), tbi 12 (by decide +kernel), by decide, by decide, by decide +kernel⟩
theorem ly_X11_lift : Ly yX11_lift 11 cX11_lift 3 (some .int) 1 := ⟨⟨TX11, 40, rfl⟩, tbi 1202 (by decide +kernel), tbi 1200 (by decide +kernel), tbi 1201 (by decide +kernel), tbi 12 (by decide +kernel), by decide, by decide, by decide +kernel⟩
theorem ly_X11_line : Ly yX11_line 11 cX11_line 4 (some .int) 1 := ⟨⟨TX11, 40, rfl⟩, tbi 1290 (by decide +kernel), tbi 1288 (by decide +kernel), tbi 1289 (by decide +kernel), tbi 12 (by decide +kernel), by decide, by decide, by decide +kernel⟩
theorem ly_X11_lostMany : Ly yX11_lostMany 11 cX11_lostMany 3 (some .int) 0 := ⟨⟨TX11, 40, rfl⟩, tbi 1210 (by decide +kernel), tbi 1209 (by decide +kernel), tbp 102 (by decide +kernel), tbi 12 (by decide +kernel), by decide, by decide, by decide +kernel⟩
theorem ly_X11_lower : Ly yX11_lower 11 cX11_lower 2 (some .int) 1 := ⟨⟨TX11, 40, rfl⟩, tbi 1130 (by decide +kernel), tbi 1129 (by decide +kernel), tbp 91 (by decide +kernel), tbi 12 (by decide +kernel), by decide, by decide, by decide +kernel⟩
theorem ly_X11_mine : Ly yX11_mine 11 cX11_mine 5 (some .int) 2 := ⟨⟨TX11, 40, rfl⟩, tbi 1346 (by decide +kernel), tbi 1344 (by decide +kernel), tbi 1345 (by decide +kernel), tbi 12 (by decide +kernel), by decide, by decide, by decide +kernel⟩
theorem ly_X11_nextByte : Ly yX11_nextByte 11 cX11_nextByte 1 (some .int) 0 := ⟨⟨TX11, 40, rfl⟩, tbi 1076 (by decide +kernel), tbi 1075 (by decide +kernel), tbp 80 (by decide +kernel), tbi 12 (by decide +kernel), by decide, by decide, by decide +kernel⟩
theorem ly_X11_no : Ly yX11_no 11 cX11_no 2 (some .int) 1 := ⟨⟨TX11, 40, rfl⟩, tbi 1063 (by decide +kernel), tbi 1062 (by decide +kernel), tbp 78 (by decide +kernel), tbi 12 (by decide +kernel), by decide, by decide, by decide +kernel⟩
theorem ly_X11_nubs : Ly yX11_nubs 11 cX11_nubs 4 (some .int) 1 := ⟨⟨TX11, 40, rfl⟩, tbi 1262 (by decide +kernel), tbi 1261 (by decide +kernel), tbp 111 (by decide +kernel), tbi 12 (by decide +kernel), by decide, by decide, by decide +kernel⟩
theorem ly_X11_number : Ly yX11_number 11 cX11_number 4 (some .int) 1 := ⟨⟨TX11, 40, rfl⟩, tbi 1084 (by decide +kernel), tbi 1083 (by decide +kernel), tbp 82 (by decide +kernel), tbi 12 (by decide +kernel), by decide, by decide, by decide +kernel⟩
theorem ly_X11_on : Ly yX11_on 11 cX11_on 1 (some .int) 0 := ⟨⟨TX11, 40, rfl⟩, tbi 1392 (by decide +kernel), tbi 1390 (by decide +kernel), tbi 1391 (by decide +kernel), tbi 12 (by decide +kernel), by decide, by decide, by decide +kernel⟩
theorem ly_X11_over : Ly yX11_over 11 cX11_over 2 (some .int) 0 := ⟨⟨TX11, 40, rfl⟩, tbi 1314 (by decide +kernel), tbi 1312 (by decide +kernel), tbi 1313 (by decide +kernel), tbi 12 (by decide +kernel), by decide, by decide, by decide +kernel⟩
theorem ly_X11_passOne : Ly yX11_passOne 11 cX11_passOne 3 (some .int) 1 := ⟨⟨TX11, 40, rfl⟩, tbi 1106 (by decide +kernel), tbi 1105 (by decide +kernel), tbp 86 (by decide +kernel), tbi 12 (by decide +kernel), by decide, by decide, by decide +kernel⟩
theorem ly_X11_passes : Ly yX11_passes 11 cX11_passes 3 none 1 := ⟨⟨TX11, 40, rfl⟩, tbi 1102 (by decide +kernel), tbi 1101 (by decide +kernel), tbp 85 (by decide +kernel), tbi 12 (by decide +kernel), by decide, by decide, by decide +kernel⟩
theorem ly_X11_passesAll : Ly yX11_passesAll 11 cX11_passesAll 3 none 2 := ⟨⟨TX11, 40, rfl⟩, tbi 1098 (by decide +kernel), tbi 1097 (by decide +kernel), tbp 84 (by decide +kernel), tbi 12 (by decide +kernel), by decide, by decide, by decide +kernel⟩
theorem ly_X11_person : Ly yX11_person 11 cX11_person 5 (some .int) 2 := ⟨⟨TX11, 40, rfl⟩, tbi 1147 (by decide +kernel), tbi 1145 (by decide +kernel), tbi 1146 (by decide +kernel), tbi 12 (by decide +kernel), by decide, by decide, by decide +kernel⟩
theorem ly_X11_pocket : Ly yX11_pocket 11 cX11_pocket 2 (some .int) 1 := ⟨⟨TX11, 40, rfl⟩, tbi 1206 (by decide +kernel), tbi 1204 (by decide +kernel), tbi 1205 (by decide +kernel), tbi 12 (by decide +kernel), by decide, by decide, by decide +kernel⟩
theorem ly_X11_puzzle : Ly yX11_puzzle 11 cX11_puzzle 3 (some .int) 0 := ⟨⟨TX11, 40, rfl⟩, tbi 1068 (by decide +kernel), tbi 1066 (by decide +kernel), tbi 1067 (by decide +kernel), tbi 12 (by decide +kernel), by decide, by decide, by decide +kernel⟩
theorem ly_X11_readsEdge : Ly yX11_readsEdge 11 cX11_readsEdge 4 (some .boolean) 1 := ⟨⟨TX11, 40, rfl⟩, tbi 1080 (by decide +kernel), tbi 1079 (by decide +kernel), tbp 81 (by decide +kernel), tbi 12 (by decide +kernel), by decide, by decide, by decide +kernel⟩
theorem ly_X11_row : Ly yX11_row 11 cX11_row 3 (some .int) 1 := ⟨⟨TX11, 40, rfl⟩, tbi 1380 (by decide +kernel), tbi 1378 (by decide +kernel), tbi 1379 (by decide +kernel), tbi 12 (by decide +kernel), by decide, by decide, by decide +kernel⟩
theorem ly_X11_seconds : Ly yX11_seconds 11 cX11_seconds 5 (some .int) 4 := ⟨⟨TX11, 40, rfl⟩, tbi 1171 (by decide +kernel), tbi 1169 (by decide +kernel), tbi 1170 (by decide +kernel), tbi 12 (by decide +kernel), by decide, by decide, by decide +kernel⟩
theorem ly_X11_secondsOf : Ly yX11_secondsOf 11 cX11_secondsOf 6 (some .int) 4 := ⟨⟨TX11, 40, rfl⟩, tbi 1175 (by decide +kernel), tbi 1174 (by decide +kernel), tbp 97 (by decide +kernel), tbi 12 (by decide +kernel), by decide, by decide, by decide +kernel⟩
theorem ly_X11_seems : Ly yX11_seems 11 cX11_seems 1 (some .int) 0 := ⟨⟨TX11, 40, rfl⟩, tbi 1294 (by decide +kernel), tbi 1292 (by decide +kernel), tbi 1293 (by decide +kernel), tbi 12 (by decide +kernel), by decide, by decide, by decide +kernel⟩
theorem ly_X11_seemsOf : Ly yX11_seemsOf 11 cX11_seemsOf 7 (some .int) 0 := ⟨⟨TX11, 40, rfl⟩, tbi 1298 (by decide +kernel), tbi 1297 (by decide +kernel), tbp 115 (by decide +kernel), tbi 12 (by decide +kernel), by decide, by decide, by decide +kernel⟩
theorem ly_X11_side : Ly yX11_side 11 cX11_side 4 (some .int) 3 := ⟨⟨TX11, 40, rfl⟩, tbi 1126 (by decide +kernel), tbi 1124 (by decide +kernel), tbi 1125 (by decide +kernel), tbi 12 (by decide +kernel), by decide, by decide, by decide +kernel⟩
theorem ly_X11_sideOf : Ly yX11_sideOf 11 cX11_sideOf 4 (some .int) 2 := ⟨⟨TX11, 40, rfl⟩, tbi 1139 (by decide +kernel), tbi 1138 (by decide +kernel), tbp 93 (by decide +kernel), tbi 12 (by decide +kernel), by decide, by decide, by decide +kernel⟩
theorem ly_X11_sortsFor : Ly yX11_sortsFor 11 cX11_sortsFor 4 (some .int) 1 := ⟨⟨TX11, 40, rfl⟩, tbi 1238 (by decide +kernel), tbi 1237 (by decide +kernel), tbp 105 (by decide +kernel), tbi 12 (by decide +kernel), by decide, by decide, by decide +kernel⟩
theorem ly_X11_statement : Ly yX11_statement 11 cX11_statement 3 (some .boolean) 0 := ⟨⟨TX11, 40, rfl⟩, tbi 1072 (by decide +kernel), tbi 1071 (by decide +kernel), tbp 79 (by decide +kernel), tbi 12 (by decide +kernel), by decide, by decide, by decide +kernel⟩
theorem ly_X11_table : Ly yX11_table 11 cX11_table 4 (some .int) 2 := ⟨⟨TX11, 40, rfl⟩, tbi 1282 (by decide +kernel), tbi 1280 (by decide +kernel), tbi 1281 (by decide +kernel), tbi 12 (by decide +kernel), by decide, by decide, by decide +kernel⟩
theorem ly_X11_tableOf : Ly yX11_tableOf 11 cX11_tableOf 6 (some .int) 2 := ⟨⟨TX11, 40, rfl⟩, tbi 1286 (by decide +kernel), tbi 1285 (by decide +kernel), tbp 114 (by decide +kernel), tbi 12 (by decide +kernel), by decide, by decide, by decide +kernel⟩
theorem ly_X11_tries : Ly yX11_tries 11 cX11_tries 6 (some .int) 4 := ⟨⟨TX11, 40, rfl⟩, tbi 1198 (by decide +kernel), tbi 1197 (by decide +kernel), tbp 101 (by decide +kernel), tbi 12 (by decide +kernel), by decide, by decide, by decide +kernel⟩
theorem ly_X11_tryIt : Ly yX11_tryIt 11 cX11_tryIt 5 (some .int) 4 := ⟨⟨TX11, 40, rfl⟩, tbi 1190 (by decide +kernel), tbi 1188 (by decide +kernel), tbi 1189 (by decide +kernel), tbi 12 (by decide +kernel), by decide, by decide, by decide +kernel⟩
theorem ly_X11_turned : Ly yX11_turned 11 cX11_turned 4 (some .int) 3 := ⟨⟨TX11, 40, rfl⟩, tbi 1135 (by decide +kernel), tbi 1134 (by decide +kernel), tbp 92 (by decide +kernel), tbi 12 (by decide +kernel), by decide, by decide, by decide +kernel⟩
theorem ly_X11_ways : Ly yX11_ways 11 cX11_ways 2 (some .int) 1 := ⟨⟨TX11, 40, rfl⟩, tbi 1218 (by decide +kernel), tbi 1216 (by decide +kernel), tbi 1217 (by decide +kernel), tbi 12 (by decide +kernel), by decide, by decide, by decide +kernel⟩
theorem ly_X11_which : Ly yX11_which 11 cX11_which 7 (some .int) 0 := ⟨⟨TX11, 40, rfl⟩, tbi 1342 (by decide +kernel), tbi 1340 (by decide +kernel), tbi 1341 (by decide +kernel), tbi 12 (by decide +kernel), by decide, by decide, by decide +kernel⟩
theorem ly_X11_wrong : Ly yX11_wrong 11 cX11_wrong 3 (some .int) 0 := ⟨⟨TX11, 40, rfl⟩, tbi 1302 (by decide +kernel), tbi 1300 (by decide +kernel), tbi 1301 (by decide +kernel), tbi 12 (by decide +kernel), by decide, by decide, by decide +kernel⟩
theorem co_X10_102 : Cond.constant RX10 102 (1000000000) ∈ lw_tbl := tbi 539 (by decide +kernel)
theorem co_X2_68 : Cond.constant RX2 68 (1664525) ∈ lw_tbl := tbi 877 (by decide +kernel)
theorem co_X2_69 : Cond.constant RX2 69 (1013904223) ∈ lw_tbl := tbi 878 (by decide +kernel)
theorem co_X2_70 : Cond.constant RX2 70 (2147483647) ∈ lw_tbl := tbi 879 (by decide +kernel)
theorem co_X7_19 : Cond.constantLong RX7 19 (255) ∈ lw_tbl := tbi 345 (by decide +kernel)
theorem co_L_13 : Cond.constantLong RL 13 (4294967295) ∈ lw_tbl := tbi 1397 (by decide +kernel)
theorem co_X11_83 : Cond.constant RX11 83 (1000000000) ∈ lw_tbl := tbi 1131 (by decide +kernel)
theorem co_X11_116 : Cond.constantLong RX11 116 (255) ∈ lw_tbl := tbi 1064 (by decide +kernel)
theorem co_X11_291 : Cond.constant RX11 291 (1664525) ∈ lw_tbl := tbi 1374 (by decide +kernel)
theorem co_X11_292 : Cond.constant RX11 292 (1013904223) ∈ lw_tbl := tbi 1375 (by decide +kernel)
theorem co_X11_293 : Cond.constant RX11 293 (2147483647) ∈ lw_tbl := tbi 1376 (by decide +kernel)
theorem lma_max : Lmath Lib.Math.max.name Lib.Math.max.code 2 := ⟨tbi 416 (by decide +kernel), tbi 16 (by decide +kernel), tbi 417 (by decide +kernel)⟩
theorem lma_min : Lmath Lib.Math.min.name Lib.Math.min.code 2 := ⟨tbi 419 (by decide +kernel), tbi 16 (by decide +kernel), tbi 420 (by decide +kernel)⟩
theorem lma_abs : Lmath Lib.Math.abs.name Lib.Math.abs.code 1 := ⟨tbi 816 (by decide +kernel), tbi 16 (by decide +kernel), tbi 817 (by decide +kernel)⟩
theorem lmc_X1_70 : Cond.methodLink RX1 70 arraycopyName ∈ lw_tbl := tbi 358 (by decide +kernel)
theorem lmc_X4_25 : Cond.methodLink RX4 25 arraycopyName ∈ lw_tbl := tbi 369 (by decide +kernel)
theorem lmc_X5_51 : Cond.methodLink RX5 51 arraycopyName ∈ lw_tbl := tbi 834 (by decide +kernel)
theorem lmm_X5_65 : Cond.methodLink RX5 65 Lib.Math.abs.name ∈ lw_tbl := tbi 815 (by decide +kernel)
theorem lmm_X8_30 : Cond.methodLink RX8 30 Lib.Math.min.name ∈ lw_tbl := tbi 900 (by decide +kernel)
theorem lmm_X9_45 : Cond.methodLink RX9 45 Lib.Math.max.name ∈ lw_tbl := tbi 744 (by decide +kernel)
theorem lmm_X9_51 : Cond.methodLink RX9 51 Lib.Math.min.name ∈ lw_tbl := tbi 745 (by decide +kernel)
theorem lcp : Lcp := ⟨tbi 360 (by decide +kernel), tbi 359 (by decide +kernel), tbi 13 (by decide +kernel)⟩
end
