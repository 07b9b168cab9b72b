-- ===== PART A: goes FIRST, ahead of the names: the tables' words, and 'selects' of the private methods out of them =====
/-- a private method of a class that the tables say can be made, by its rows of tables_1 -/
def lw_okq (q : MethodName × Nat) : Prop := (q.1.cls ≠ "java/lang/invoke/MethodHandle" ∧ q.1.cls ≠ "java/lang/invoke/VarHandle") ∧ Cond.instantiable q.1.cls q.2 ∈ tables_1 ∧ Cond.privateMethod q.1 ∈ tables_1 ∧ Cond.instanceMethod q.1 ∈ tables_1
theorem lw_p0 : lw_okq (⟨"FortyStems$Hand", "hasFlower", "(I)Z"⟩, 11) := ⟨⟨by decide +kernel, by decide +kernel⟩, List.mem_of_getElem? (i := 27) (by decide +kernel), List.mem_of_getElem? (i := 296) (by decide +kernel), List.mem_of_getElem? (i := 297) (by decide +kernel)⟩
theorem lw_p1 : lw_okq (⟨"FortyStems$Hand", "settingOf", "(II)I"⟩, 11) := ⟨⟨by decide +kernel, by decide +kernel⟩, List.mem_of_getElem? (i := 27) (by decide +kernel), List.mem_of_getElem? (i := 300) (by decide +kernel), List.mem_of_getElem? (i := 301) (by decide +kernel)⟩
theorem lw_p2 : lw_okq (⟨"FortyStems$Hand", "change", "(III)V"⟩, 11) := ⟨⟨by decide +kernel, by decide +kernel⟩, List.mem_of_getElem? (i := 27) (by decide +kernel), List.mem_of_getElem? (i := 305) (by decide +kernel), List.mem_of_getElem? (i := 306) (by decide +kernel)⟩
theorem lw_p3 : lw_okq (⟨"FortyStems$Hand", "addFlower", "(II)I"⟩, 11) := ⟨⟨by decide +kernel, by decide +kernel⟩, List.mem_of_getElem? (i := 27) (by decide +kernel), List.mem_of_getElem? (i := 313) (by decide +kernel), List.mem_of_getElem? (i := 314) (by decide +kernel)⟩
theorem lw_p4 : lw_okq (⟨"FortyStems$Moment", "asNow", "(LFortyStems$Hand;I)V"⟩, 4) := ⟨⟨by decide +kernel, by decide +kernel⟩, List.mem_of_getElem? (i := 161) (by decide +kernel), List.mem_of_getElem? (i := 324) (by decide +kernel), List.mem_of_getElem? (i := 325) (by decide +kernel)⟩
theorem lw_p5 : lw_okq (⟨"FortyStems$Moment", "inEmptyHand", "(LFortyStems$Hand;I)V"⟩, 4) := ⟨⟨by decide +kernel, by decide +kernel⟩, List.mem_of_getElem? (i := 161) (by decide +kernel), List.mem_of_getElem? (i := 328) (by decide +kernel), List.mem_of_getElem? (i := 329) (by decide +kernel)⟩
theorem lw_p6 : lw_okq (⟨"FortyStems$Hand", "lastAngle", "()I"⟩, 11) := ⟨⟨by decide +kernel, by decide +kernel⟩, List.mem_of_getElem? (i := 27) (by decide +kernel), List.mem_of_getElem? (i := 333) (by decide +kernel), List.mem_of_getElem? (i := 334) (by decide +kernel)⟩
theorem lw_p7 : lw_okq (⟨"FortyStems$Hand", "roomLeft", "()I"⟩, 11) := ⟨⟨by decide +kernel, by decide +kernel⟩, List.mem_of_getElem? (i := 27) (by decide +kernel), List.mem_of_getElem? (i := 337) (by decide +kernel), List.mem_of_getElem? (i := 338) (by decide +kernel)⟩
theorem lw_p8 : lw_okq (⟨"FortyStems$Hand", "thickOf", "(I)I"⟩, 11) := ⟨⟨by decide +kernel, by decide +kernel⟩, List.mem_of_getElem? (i := 27) (by decide +kernel), List.mem_of_getElem? (i := 341) (by decide +kernel), List.mem_of_getElem? (i := 342) (by decide +kernel)⟩
theorem lw_p9 : lw_okq (⟨"FortyStems$Moment", "thick", "()I"⟩, 4) := ⟨⟨by decide +kernel, by decide +kernel⟩, List.mem_of_getElem? (i := 161) (by decide +kernel), List.mem_of_getElem? (i := 348) (by decide +kernel), List.mem_of_getElem? (i := 349) (by decide +kernel)⟩
theorem lw_p10 : lw_okq (⟨"FortyStems$Moment", "turns", "()I"⟩, 4) := ⟨⟨by decide +kernel, by decide +kernel⟩, List.mem_of_getElem? (i := 161) (by decide +kernel), List.mem_of_getElem? (i := 353) (by decide +kernel), List.mem_of_getElem? (i := 354) (by decide +kernel)⟩
theorem lw_p11 : lw_okq (⟨"FortyStems$Texts", "valueOf", "(II[I)I"⟩, 4) := ⟨⟨by decide +kernel, by decide +kernel⟩, List.mem_of_getElem? (i := 103) (by decide +kernel), List.mem_of_getElem? (i := 357) (by decide +kernel), List.mem_of_getElem? (i := 358) (by decide +kernel)⟩
theorem lw_p12 : lw_okq (⟨"FortyStems$Texts", "has", "(I)Z"⟩, 4) := ⟨⟨by decide +kernel, by decide +kernel⟩, List.mem_of_getElem? (i := 103) (by decide +kernel), List.mem_of_getElem? (i := 361) (by decide +kernel), List.mem_of_getElem? (i := 362) (by decide +kernel)⟩
theorem lw_p13 : lw_okq (⟨"FortyStems$Moment", "costs", "()I"⟩, 4) := ⟨⟨by decide +kernel, by decide +kernel⟩, List.mem_of_getElem? (i := 161) (by decide +kernel), List.mem_of_getElem? (i := 388) (by decide +kernel), List.mem_of_getElem? (i := 389) (by decide +kernel)⟩
theorem lw_p14 : lw_okq (⟨"FortyStems$Moment", "lasts", "()I"⟩, 4) := ⟨⟨by decide +kernel, by decide +kernel⟩, List.mem_of_getElem? (i := 161) (by decide +kernel), List.mem_of_getElem? (i := 396) (by decide +kernel), List.mem_of_getElem? (i := 397) (by decide +kernel)⟩
theorem lw_p15 : lw_okq (⟨"FortyStems$Tape", "add", "(I)Z"⟩, 2) := ⟨⟨by decide +kernel, by decide +kernel⟩, List.mem_of_getElem? (i := 89) (by decide +kernel), List.mem_of_getElem? (i := 407) (by decide +kernel), List.mem_of_getElem? (i := 408) (by decide +kernel)⟩
def lw_privs_1 : List (MethodName × Nat) := [(⟨"FortyStems$Hand", "hasFlower", "(I)Z"⟩, 11), (⟨"FortyStems$Hand", "settingOf", "(II)I"⟩, 11), (⟨"FortyStems$Hand", "change", "(III)V"⟩, 11), (⟨"FortyStems$Hand", "addFlower", "(II)I"⟩, 11), (⟨"FortyStems$Moment", "asNow", "(LFortyStems$Hand;I)V"⟩, 4), (⟨"FortyStems$Moment", "inEmptyHand", "(LFortyStems$Hand;I)V"⟩, 4), (⟨"FortyStems$Hand", "lastAngle", "()I"⟩, 11), (⟨"FortyStems$Hand", "roomLeft", "()I"⟩, 11), (⟨"FortyStems$Hand", "thickOf", "(I)I"⟩, 11), (⟨"FortyStems$Moment", "thick", "()I"⟩, 4), (⟨"FortyStems$Moment", "turns", "()I"⟩, 4), (⟨"FortyStems$Texts", "valueOf", "(II[I)I"⟩, 4), (⟨"FortyStems$Texts", "has", "(I)Z"⟩, 4), (⟨"FortyStems$Moment", "costs", "()I"⟩, 4), (⟨"FortyStems$Moment", "lasts", "()I"⟩, 4), (⟨"FortyStems$Tape", "add", "(I)Z"⟩, 2)]
theorem lw_r1 : ∀ q ∈ lw_privs_1, lw_okq q := List.forall_mem_cons.mpr ⟨lw_p0, List.forall_mem_cons.mpr ⟨lw_p1, List.forall_mem_cons.mpr ⟨lw_p2, List.forall_mem_cons.mpr ⟨lw_p3, List.forall_mem_cons.mpr ⟨lw_p4, List.forall_mem_cons.mpr ⟨lw_p5, List.forall_mem_cons.mpr ⟨lw_p6, List.forall_mem_cons.mpr ⟨lw_p7, List.forall_mem_cons.mpr ⟨lw_p8, List.forall_mem_cons.mpr ⟨lw_p9, List.forall_mem_cons.mpr ⟨lw_p10, List.forall_mem_cons.mpr ⟨lw_p11, List.forall_mem_cons.mpr ⟨lw_p12, List.forall_mem_cons.mpr ⟨lw_p13, List.forall_mem_cons.mpr ⟨lw_p14, List.forall_mem_cons.mpr ⟨lw_p15, fun _ h => absurd h List.not_mem_nil⟩⟩⟩⟩⟩⟩⟩⟩⟩⟩⟩⟩⟩⟩⟩⟩
theorem lw_p16 : lw_okq (⟨"FortyStems$Texts", "isFull", "()Z"⟩, 4) := ⟨⟨by decide +kernel, by decide +kernel⟩, List.mem_of_getElem? (i := 103) (by decide +kernel), List.mem_of_getElem? (i := 415) (by decide +kernel), List.mem_of_getElem? (i := 416) (by decide +kernel)⟩
theorem lw_p17 : lw_okq (⟨"FortyStems$Reader", "readTape", "()I"⟩, 9) := ⟨⟨by decide +kernel, by decide +kernel⟩, List.mem_of_getElem? (i := 125) (by decide +kernel), List.mem_of_getElem? (i := 419) (by decide +kernel), List.mem_of_getElem? (i := 420) (by decide +kernel)⟩
theorem lw_p18 : lw_okq (⟨"FortyStems$Reader", "advance", "()V"⟩, 9) := ⟨⟨by decide +kernel, by decide +kernel⟩, List.mem_of_getElem? (i := 125) (by decide +kernel), List.mem_of_getElem? (i := 423) (by decide +kernel), List.mem_of_getElem? (i := 424) (by decide +kernel)⟩
theorem lw_p19 : lw_okq (⟨"FortyStems$Tape", "byteAt", "(I)I"⟩, 2) := ⟨⟨by decide +kernel, by decide +kernel⟩, List.mem_of_getElem? (i := 89) (by decide +kernel), List.mem_of_getElem? (i := 427) (by decide +kernel), List.mem_of_getElem? (i := 428) (by decide +kernel)⟩
theorem lw_p20 : lw_okq (⟨"FortyStems$Reader", "takeWord", "()V"⟩, 9) := ⟨⟨by decide +kernel, by decide +kernel⟩, List.mem_of_getElem? (i := 125) (by decide +kernel), List.mem_of_getElem? (i := 437) (by decide +kernel), List.mem_of_getElem? (i := 438) (by decide +kernel)⟩
theorem lw_p21 : lw_okq (⟨"FortyStems$Reader", "standsAtStart", "(II)Z"⟩, 9) := ⟨⟨by decide +kernel, by decide +kernel⟩, List.mem_of_getElem? (i := 125) (by decide +kernel), List.mem_of_getElem? (i := 490) (by decide +kernel), List.mem_of_getElem? (i := 491) (by decide +kernel)⟩
theorem lw_p22 : lw_okq (⟨"FortyStems$Reader", "fail", "()V"⟩, 9) := ⟨⟨by decide +kernel, by decide +kernel⟩, List.mem_of_getElem? (i := 125) (by decide +kernel), List.mem_of_getElem? (i := 494) (by decide +kernel), List.mem_of_getElem? (i := 495) (by decide +kernel)⟩
theorem lw_p23 : lw_okq (⟨"FortyStems$Reader", "takeNumber", "()V"⟩, 9) := ⟨⟨by decide +kernel, by decide +kernel⟩, List.mem_of_getElem? (i := 125) (by decide +kernel), List.mem_of_getElem? (i := 501) (by decide +kernel), List.mem_of_getElem? (i := 502) (by decide +kernel)⟩
theorem lw_p24 : lw_okq (⟨"FortyStems$Reader", "expect", "(I)V"⟩, 9) := ⟨⟨by decide +kernel, by decide +kernel⟩, List.mem_of_getElem? (i := 125) (by decide +kernel), List.mem_of_getElem? (i := 508) (by decide +kernel), List.mem_of_getElem? (i := 509) (by decide +kernel)⟩
theorem lw_p25 : lw_okq (⟨"FortyStems$Reader", "readOr", "(I)V"⟩, 9) := ⟨⟨by decide +kernel, by decide +kernel⟩, List.mem_of_getElem? (i := 125) (by decide +kernel), List.mem_of_getElem? (i := 512) (by decide +kernel), List.mem_of_getElem? (i := 513) (by decide +kernel)⟩
theorem lw_p26 : lw_okq (⟨"FortyStems$Reader", "readAnd", "(I)V"⟩, 9) := ⟨⟨by decide +kernel, by decide +kernel⟩, List.mem_of_getElem? (i := 125) (by decide +kernel), List.mem_of_getElem? (i := 516) (by decide +kernel), List.mem_of_getElem? (i := 517) (by decide +kernel)⟩
theorem lw_p27 : lw_okq (⟨"FortyStems$Reader", "readNot", "(I)V"⟩, 9) := ⟨⟨by decide +kernel, by decide +kernel⟩, List.mem_of_getElem? (i := 125) (by decide +kernel), List.mem_of_getElem? (i := 520) (by decide +kernel), List.mem_of_getElem? (i := 521) (by decide +kernel)⟩
theorem lw_p28 : lw_okq (⟨"FortyStems$Reader", "make", "(I)V"⟩, 9) := ⟨⟨by decide +kernel, by decide +kernel⟩, List.mem_of_getElem? (i := 125) (by decide +kernel), List.mem_of_getElem? (i := 524) (by decide +kernel), List.mem_of_getElem? (i := 525) (by decide +kernel)⟩
theorem lw_p29 : lw_okq (⟨"FortyStems$Reader", "readSum", "(I)V"⟩, 9) := ⟨⟨by decide +kernel, by decide +kernel⟩, List.mem_of_getElem? (i := 125) (by decide +kernel), List.mem_of_getElem? (i := 528) (by decide +kernel), List.mem_of_getElem? (i := 529) (by decide +kernel)⟩
theorem lw_p30 : lw_okq (⟨"FortyStems$Reader", "readTerm", "(I)V"⟩, 9) := ⟨⟨by decide +kernel, by decide +kernel⟩, List.mem_of_getElem? (i := 125) (by decide +kernel), List.mem_of_getElem? (i := 532) (by decide +kernel), List.mem_of_getElem? (i := 533) (by decide +kernel)⟩
theorem lw_p31 : lw_okq (⟨"FortyStems$Reader", "readOne", "(I)V"⟩, 9) := ⟨⟨by decide +kernel, by decide +kernel⟩, List.mem_of_getElem? (i := 125) (by decide +kernel), List.mem_of_getElem? (i := 536) (by decide +kernel), List.mem_of_getElem? (i := 537) (by decide +kernel)⟩
def lw_privs_2 : List (MethodName × Nat) := [(⟨"FortyStems$Texts", "isFull", "()Z"⟩, 4), (⟨"FortyStems$Reader", "readTape", "()I"⟩, 9), (⟨"FortyStems$Reader", "advance", "()V"⟩, 9), (⟨"FortyStems$Tape", "byteAt", "(I)I"⟩, 2), (⟨"FortyStems$Reader", "takeWord", "()V"⟩, 9), (⟨"FortyStems$Reader", "standsAtStart", "(II)Z"⟩, 9), (⟨"FortyStems$Reader", "fail", "()V"⟩, 9), (⟨"FortyStems$Reader", "takeNumber", "()V"⟩, 9), (⟨"FortyStems$Reader", "expect", "(I)V"⟩, 9), (⟨"FortyStems$Reader", "readOr", "(I)V"⟩, 9), (⟨"FortyStems$Reader", "readAnd", "(I)V"⟩, 9), (⟨"FortyStems$Reader", "readNot", "(I)V"⟩, 9), (⟨"FortyStems$Reader", "make", "(I)V"⟩, 9), (⟨"FortyStems$Reader", "readSum", "(I)V"⟩, 9), (⟨"FortyStems$Reader", "readTerm", "(I)V"⟩, 9), (⟨"FortyStems$Reader", "readOne", "(I)V"⟩, 9)]
theorem lw_r2 : ∀ q ∈ lw_privs_2, lw_okq q := List.forall_mem_cons.mpr ⟨lw_p16, List.forall_mem_cons.mpr ⟨lw_p17, List.forall_mem_cons.mpr ⟨lw_p18, List.forall_mem_cons.mpr ⟨lw_p19, List.forall_mem_cons.mpr ⟨lw_p20, List.forall_mem_cons.mpr ⟨lw_p21, List.forall_mem_cons.mpr ⟨lw_p22, List.forall_mem_cons.mpr ⟨lw_p23, List.forall_mem_cons.mpr ⟨lw_p24, List.forall_mem_cons.mpr ⟨lw_p25, List.forall_mem_cons.mpr ⟨lw_p26, List.forall_mem_cons.mpr ⟨lw_p27, List.forall_mem_cons.mpr ⟨lw_p28, List.forall_mem_cons.mpr ⟨lw_p29, List.forall_mem_cons.mpr ⟨lw_p30, List.forall_mem_cons.mpr ⟨lw_p31, fun _ h => absurd h List.not_mem_nil⟩⟩⟩⟩⟩⟩⟩⟩⟩⟩⟩⟩⟩⟩⟩⟩
theorem lw_p32 : lw_okq (⟨"FortyStems$Tape", "clear", "()V"⟩, 2) := ⟨⟨by decide +kernel, by decide +kernel⟩, List.mem_of_getElem? (i := 89) (by decide +kernel), List.mem_of_getElem? (i := 540) (by decide +kernel), List.mem_of_getElem? (i := 541) (by decide +kernel)⟩
theorem lw_p33 : lw_okq (⟨"FortyStems$Texts", "add", "(LFortyStems$Reader;)I"⟩, 4) := ⟨⟨by decide +kernel, by decide +kernel⟩, List.mem_of_getElem? (i := 103) (by decide +kernel), List.mem_of_getElem? (i := 544) (by decide +kernel), List.mem_of_getElem? (i := 545) (by decide +kernel)⟩
theorem lw_p34 : lw_okq (⟨"FortyStems$Trial", "start", "()V"⟩, 8) := ⟨⟨by decide +kernel, by decide +kernel⟩, List.mem_of_getElem? (i := 180) (by decide +kernel), List.mem_of_getElem? (i := 562) (by decide +kernel), List.mem_of_getElem? (i := 563) (by decide +kernel)⟩
theorem lw_p35 : lw_okq (⟨"FortyStems$Hand", "colourOf", "(I)I"⟩, 11) := ⟨⟨by decide +kernel, by decide +kernel⟩, List.mem_of_getElem? (i := 27) (by decide +kernel), List.mem_of_getElem? (i := 568) (by decide +kernel), List.mem_of_getElem? (i := 569) (by decide +kernel)⟩
theorem lw_p36 : lw_okq (⟨"FortyStems$Trial", "neighbours", "(II)I"⟩, 8) := ⟨⟨by decide +kernel, by decide +kernel⟩, List.mem_of_getElem? (i := 180) (by decide +kernel), List.mem_of_getElem? (i := 572) (by decide +kernel), List.mem_of_getElem? (i := 573) (by decide +kernel)⟩
theorem lw_p37 : lw_okq (⟨"FortyStems$Trial", "lyingAt", "(II)I"⟩, 8) := ⟨⟨by decide +kernel, by decide +kernel⟩, List.mem_of_getElem? (i := 180) (by decide +kernel), List.mem_of_getElem? (i := 576) (by decide +kernel), List.mem_of_getElem? (i := 577) (by decide +kernel)⟩
theorem lw_p38 : lw_okq (⟨"FortyStems$Trial", "change", "(III)V"⟩, 8) := ⟨⟨by decide +kernel, by decide +kernel⟩, List.mem_of_getElem? (i := 180) (by decide +kernel), List.mem_of_getElem? (i := 583) (by decide +kernel), List.mem_of_getElem? (i := 584) (by decide +kernel)⟩
theorem lw_p39 : lw_okq (⟨"FortyStems$Trial", "canBe", "(I)Z"⟩, 8) := ⟨⟨by decide +kernel, by decide +kernel⟩, List.mem_of_getElem? (i := 180) (by decide +kernel), List.mem_of_getElem? (i := 587) (by decide +kernel), List.mem_of_getElem? (i := 588) (by decide +kernel)⟩
theorem lw_p40 : lw_okq (⟨"FortyStems$Trial", "angleOf", "(I)I"⟩, 8) := ⟨⟨by decide +kernel, by decide +kernel⟩, List.mem_of_getElem? (i := 180) (by decide +kernel), List.mem_of_getElem? (i := 593) (by decide +kernel), List.mem_of_getElem? (i := 594) (by decide +kernel)⟩
theorem lw_p41 : lw_okq (⟨"FortyStems$Moment", "asThought", "(IIII)V"⟩, 4) := ⟨⟨by decide +kernel, by decide +kernel⟩, List.mem_of_getElem? (i := 161) (by decide +kernel), List.mem_of_getElem? (i := 598) (by decide +kernel), List.mem_of_getElem? (i := 599) (by decide +kernel)⟩
theorem lw_p42 : lw_okq (⟨"FortyStems$Hand", "addStem", "(II)V"⟩, 11) := ⟨⟨by decide +kernel, by decide +kernel⟩, List.mem_of_getElem? (i := 27) (by decide +kernel), List.mem_of_getElem? (i := 607) (by decide +kernel), List.mem_of_getElem? (i := 608) (by decide +kernel)⟩
theorem lw_p43 : lw_okq (⟨"FortyStems$Hand", "hasStem", "(I)Z"⟩, 11) := ⟨⟨by decide +kernel, by decide +kernel⟩, List.mem_of_getElem? (i := 27) (by decide +kernel), List.mem_of_getElem? (i := 615) (by decide +kernel), List.mem_of_getElem? (i := 616) (by decide +kernel)⟩
theorem lw_p44 : lw_okq (⟨"FortyStems$Hand", "removeStem", "(I)I"⟩, 11) := ⟨⟨by decide +kernel, by decide +kernel⟩, List.mem_of_getElem? (i := 27) (by decide +kernel), List.mem_of_getElem? (i := 619) (by decide +kernel), List.mem_of_getElem? (i := 620) (by decide +kernel)⟩
theorem lw_p45 : lw_okq (⟨"FortyStems$Hand", "stemsInQuarter", "(I)I"⟩, 11) := ⟨⟨by decide +kernel, by decide +kernel⟩, List.mem_of_getElem? (i := 27) (by decide +kernel), List.mem_of_getElem? (i := 633) (by decide +kernel), List.mem_of_getElem? (i := 634) (by decide +kernel)⟩
theorem lw_p46 : lw_okq (⟨"FortyStems$Hand", "stemsOfColour", "(I)I"⟩, 11) := ⟨⟨by decide +kernel, by decide +kernel⟩, List.mem_of_getElem? (i := 27) (by decide +kernel), List.mem_of_getElem? (i := 637) (by decide +kernel), List.mem_of_getElem? (i := 638) (by decide +kernel)⟩
theorem lw_p47 : lw_okq (⟨"FortyStems", "touchingNow", "()I"⟩, 10) := ⟨⟨by decide +kernel, by decide +kernel⟩, List.mem_of_getElem? (i := 19) (by decide +kernel), List.mem_of_getElem? (i := 642) (by decide +kernel), List.mem_of_getElem? (i := 643) (by decide +kernel)⟩
def lw_privs_3 : List (MethodName × Nat) := [(⟨"FortyStems$Tape", "clear", "()V"⟩, 2), (⟨"FortyStems$Texts", "add", "(LFortyStems$Reader;)I"⟩, 4), (⟨"FortyStems$Trial", "start", "()V"⟩, 8), (⟨"FortyStems$Hand", "colourOf", "(I)I"⟩, 11), (⟨"FortyStems$Trial", "neighbours", "(II)I"⟩, 8), (⟨"FortyStems$Trial", "lyingAt", "(II)I"⟩, 8), (⟨"FortyStems$Trial", "change", "(III)V"⟩, 8), (⟨"FortyStems$Trial", "canBe", "(I)Z"⟩, 8), (⟨"FortyStems$Trial", "angleOf", "(I)I"⟩, 8), (⟨"FortyStems$Moment", "asThought", "(IIII)V"⟩, 4), (⟨"FortyStems$Hand", "addStem", "(II)V"⟩, 11), (⟨"FortyStems$Hand", "hasStem", "(I)Z"⟩, 11), (⟨"FortyStems$Hand", "removeStem", "(I)I"⟩, 11), (⟨"FortyStems$Hand", "stemsInQuarter", "(I)I"⟩, 11), (⟨"FortyStems$Hand", "stemsOfColour", "(I)I"⟩, 11), (⟨"FortyStems", "touchingNow", "()I"⟩, 10)]
theorem lw_r3 : ∀ q ∈ lw_privs_3, lw_okq q := List.forall_mem_cons.mpr ⟨lw_p32, List.forall_mem_cons.mpr ⟨lw_p33, List.forall_mem_cons.mpr ⟨lw_p34, List.forall_mem_cons.mpr ⟨lw_p35, List.forall_mem_cons.mpr ⟨lw_p36, List.forall_mem_cons.mpr ⟨lw_p37, List.forall_mem_cons.mpr ⟨lw_p38, List.forall_mem_cons.mpr ⟨lw_p39, List.forall_mem_cons.mpr ⟨lw_p40, List.forall_mem_cons.mpr ⟨lw_p41, List.forall_mem_cons.mpr ⟨lw_p42, List.forall_mem_cons.mpr ⟨lw_p43, List.forall_mem_cons.mpr ⟨lw_p44, List.forall_mem_cons.mpr ⟨lw_p45, List.forall_mem_cons.mpr ⟨lw_p46, List.forall_mem_cons.mpr ⟨lw_p47, fun _ h => absurd h List.not_mem_nil⟩⟩⟩⟩⟩⟩⟩⟩⟩⟩⟩⟩⟩⟩⟩⟩
theorem lw_p48 : lw_okq (⟨"FortyStems", "unevenness", "()I"⟩, 10) := ⟨⟨by decide +kernel, by decide +kernel⟩, List.mem_of_getElem? (i := 19) (by decide +kernel), List.mem_of_getElem? (i := 646) (by decide +kernel), List.mem_of_getElem? (i := 647) (by decide +kernel)⟩
theorem lw_p49 : lw_okq (⟨"FortyStems", "costOfAll", "()I"⟩, 10) := ⟨⟨by decide +kernel, by decide +kernel⟩, List.mem_of_getElem? (i := 19) (by decide +kernel), List.mem_of_getElem? (i := 652) (by decide +kernel), List.mem_of_getElem? (i := 653) (by decide +kernel)⟩
theorem lw_p50 : lw_okq (⟨"FortyStems$Hand", "stemsOf", "(I)I"⟩, 11) := ⟨⟨by decide +kernel, by decide +kernel⟩, List.mem_of_getElem? (i := 27) (by decide +kernel), List.mem_of_getElem? (i := 656) (by decide +kernel), List.mem_of_getElem? (i := 657) (by decide +kernel)⟩
theorem lw_p51 : lw_okq (⟨"FortyStems$Trial", "touchingWith", "(I)I"⟩, 8) := ⟨⟨by decide +kernel, by decide +kernel⟩, List.mem_of_getElem? (i := 180) (by decide +kernel), List.mem_of_getElem? (i := 670) (by decide +kernel), List.mem_of_getElem? (i := 671) (by decide +kernel)⟩
theorem lw_p52 : lw_okq (⟨"FortyStems$Trial", "put", "(I)V"⟩, 8) := ⟨⟨by decide +kernel, by decide +kernel⟩, List.mem_of_getElem? (i := 180) (by decide +kernel), List.mem_of_getElem? (i := 679) (by decide +kernel), List.mem_of_getElem? (i := 680) (by decide +kernel)⟩
theorem lw_p53 : lw_okq (⟨"FortyStems$Sheets", "isMissing", "(I)Z"⟩, 3) := ⟨⟨by decide +kernel, by decide +kernel⟩, List.mem_of_getElem? (i := 238) (by decide +kernel), List.mem_of_getElem? (i := 690) (by decide +kernel), List.mem_of_getElem? (i := 691) (by decide +kernel)⟩
theorem lw_p54 : lw_okq (⟨"FortyStems$Sheets", "itemAt", "(II)I"⟩, 3) := ⟨⟨by decide +kernel, by decide +kernel⟩, List.mem_of_getElem? (i := 238) (by decide +kernel), List.mem_of_getElem? (i := 695) (by decide +kernel), List.mem_of_getElem? (i := 696) (by decide +kernel)⟩
theorem lw_p55 : lw_okq (⟨"FortyStems$Sheets", "hasItem", "(II)Z"⟩, 3) := ⟨⟨by decide +kernel, by decide +kernel⟩, List.mem_of_getElem? (i := 238) (by decide +kernel), List.mem_of_getElem? (i := 699) (by decide +kernel), List.mem_of_getElem? (i := 700) (by decide +kernel)⟩
theorem lw_p56 : lw_okq (⟨"FortyStems$Orders", "start", "([II)V"⟩, 5) := ⟨⟨by decide +kernel, by decide +kernel⟩, List.mem_of_getElem? (i := 214) (by decide +kernel), List.mem_of_getElem? (i := 703) (by decide +kernel), List.mem_of_getElem? (i := 704) (by decide +kernel)⟩
theorem lw_p57 : lw_okq (⟨"FortyStems$Orders", "search", "(III)V"⟩, 5) := ⟨⟨by decide +kernel, by decide +kernel⟩, List.mem_of_getElem? (i := 214) (by decide +kernel), List.mem_of_getElem? (i := 708) (by decide +kernel), List.mem_of_getElem? (i := 709) (by decide +kernel)⟩
theorem lw_p58 : lw_okq (⟨"FortyStems$Orders", "isFree", "(II)Z"⟩, 5) := ⟨⟨by decide +kernel, by decide +kernel⟩, List.mem_of_getElem? (i := 214) (by decide +kernel), List.mem_of_getElem? (i := 712) (by decide +kernel), List.mem_of_getElem? (i := 713) (by decide +kernel)⟩
theorem lw_p59 : lw_okq (⟨"FortyStems$Orders", "tryPlace", "(IIII)V"⟩, 5) := ⟨⟨by decide +kernel, by decide +kernel⟩, List.mem_of_getElem? (i := 214) (by decide +kernel), List.mem_of_getElem? (i := 716) (by decide +kernel), List.mem_of_getElem? (i := 717) (by decide +kernel)⟩
theorem lw_p60 : lw_okq (⟨"FortyStems$Trial", "putBack", "(II)V"⟩, 8) := ⟨⟨by decide +kernel, by decide +kernel⟩, List.mem_of_getElem? (i := 180) (by decide +kernel), List.mem_of_getElem? (i := 723) (by decide +kernel), List.mem_of_getElem? (i := 724) (by decide +kernel)⟩
theorem lw_p61 : lw_okq (⟨"FortyStems", "cheapestBut", "(I)I"⟩, 10) := ⟨⟨by decide +kernel, by decide +kernel⟩, List.mem_of_getElem? (i := 19) (by decide +kernel), List.mem_of_getElem? (i := 731) (by decide +kernel), List.mem_of_getElem? (i := 732) (by decide +kernel)⟩
theorem lw_p62 : lw_okq (⟨"FortyStems$Trial", "touchedBy", "(I)I"⟩, 8) := ⟨⟨by decide +kernel, by decide +kernel⟩, List.mem_of_getElem? (i := 180) (by decide +kernel), List.mem_of_getElem? (i := 739) (by decide +kernel), List.mem_of_getElem? (i := 740) (by decide +kernel)⟩
theorem lw_p63 : lw_okq (⟨"FortyStems", "firstOtherwise", "(I)I"⟩, 10) := ⟨⟨by decide +kernel, by decide +kernel⟩, List.mem_of_getElem? (i := 19) (by decide +kernel), List.mem_of_getElem? (i := 749) (by decide +kernel), List.mem_of_getElem? (i := 750) (by decide +kernel)⟩
def lw_privs_4 : List (MethodName × Nat) := [(⟨"FortyStems", "unevenness", "()I"⟩, 10), (⟨"FortyStems", "costOfAll", "()I"⟩, 10), (⟨"FortyStems$Hand", "stemsOf", "(I)I"⟩, 11), (⟨"FortyStems$Trial", "touchingWith", "(I)I"⟩, 8), (⟨"FortyStems$Trial", "put", "(I)V"⟩, 8), (⟨"FortyStems$Sheets", "isMissing", "(I)Z"⟩, 3), (⟨"FortyStems$Sheets", "itemAt", "(II)I"⟩, 3), (⟨"FortyStems$Sheets", "hasItem", "(II)Z"⟩, 3), (⟨"FortyStems$Orders", "start", "([II)V"⟩, 5), (⟨"FortyStems$Orders", "search", "(III)V"⟩, 5), (⟨"FortyStems$Orders", "isFree", "(II)Z"⟩, 5), (⟨"FortyStems$Orders", "tryPlace", "(IIII)V"⟩, 5), (⟨"FortyStems$Trial", "putBack", "(II)V"⟩, 8), (⟨"FortyStems", "cheapestBut", "(I)I"⟩, 10), (⟨"FortyStems$Trial", "touchedBy", "(I)I"⟩, 8), (⟨"FortyStems", "firstOtherwise", "(I)I"⟩, 10)]
theorem lw_r4 : ∀ q ∈ lw_privs_4, lw_okq q := List.forall_mem_cons.mpr ⟨lw_p48, List.forall_mem_cons.mpr ⟨lw_p49, List.forall_mem_cons.mpr ⟨lw_p50, List.forall_mem_cons.mpr ⟨lw_p51, List.forall_mem_cons.mpr ⟨lw_p52, List.forall_mem_cons.mpr ⟨lw_p53, List.forall_mem_cons.mpr ⟨lw_p54, List.forall_mem_cons.mpr ⟨lw_p55, List.forall_mem_cons.mpr ⟨lw_p56, List.forall_mem_cons.mpr ⟨lw_p57, List.forall_mem_cons.mpr ⟨lw_p58, List.forall_mem_cons.mpr ⟨lw_p59, List.forall_mem_cons.mpr ⟨lw_p60, List.forall_mem_cons.mpr ⟨lw_p61, List.forall_mem_cons.mpr ⟨lw_p62, List.forall_mem_cons.mpr ⟨lw_p63, fun _ h => absurd h List.not_mem_nil⟩⟩⟩⟩⟩⟩⟩⟩⟩⟩⟩⟩⟩⟩⟩⟩
theorem lw_p64 : lw_okq (⟨"FortyStems$Moment", "layOne", "()I"⟩, 4) := ⟨⟨by decide +kernel, by decide +kernel⟩, List.mem_of_getElem? (i := 161) (by decide +kernel), List.mem_of_getElem? (i := 753) (by decide +kernel), List.mem_of_getElem? (i := 754) (by decide +kernel)⟩
theorem lw_p65 : lw_okq (⟨"FortyStems", "agreeing", "(III)I"⟩, 10) := ⟨⟨by decide +kernel, by decide +kernel⟩, List.mem_of_getElem? (i := 19) (by decide +kernel), List.mem_of_getElem? (i := 760) (by decide +kernel), List.mem_of_getElem? (i := 761) (by decide +kernel)⟩
theorem lw_p66 : lw_okq (⟨"FortyStems", "choicesOf", "(I)I"⟩, 10) := ⟨⟨by decide +kernel, by decide +kernel⟩, List.mem_of_getElem? (i := 19) (by decide +kernel), List.mem_of_getElem? (i := 764) (by decide +kernel), List.mem_of_getElem? (i := 765) (by decide +kernel)⟩
theorem lw_p67 : lw_okq (⟨"FortyStems$Moment", "suppose", "(II)V"⟩, 4) := ⟨⟨by decide +kernel, by decide +kernel⟩, List.mem_of_getElem? (i := 161) (by decide +kernel), List.mem_of_getElem? (i := 768) (by decide +kernel), List.mem_of_getElem? (i := 769) (by decide +kernel)⟩
theorem lw_p68 : lw_okq (⟨"FortyStems$Sheets", "become", "(III)V"⟩, 3) := ⟨⟨by decide +kernel, by decide +kernel⟩, List.mem_of_getElem? (i := 238) (by decide +kernel), List.mem_of_getElem? (i := 776) (by decide +kernel), List.mem_of_getElem? (i := 777) (by decide +kernel)⟩
theorem lw_p69 : lw_okq (⟨"FortyStems$Sheets", "write", "(III)V"⟩, 3) := ⟨⟨by decide +kernel, by decide +kernel⟩, List.mem_of_getElem? (i := 238) (by decide +kernel), List.mem_of_getElem? (i := 780) (by decide +kernel), List.mem_of_getElem? (i := 781) (by decide +kernel)⟩
theorem lw_p70 : lw_okq (⟨"FortyStems", "touchingDrawn", "(II)I"⟩, 10) := ⟨⟨by decide +kernel, by decide +kernel⟩, List.mem_of_getElem? (i := 19) (by decide +kernel), List.mem_of_getElem? (i := 788) (by decide +kernel), List.mem_of_getElem? (i := 789) (by decide +kernel)⟩
theorem lw_p71 : lw_okq (⟨"FortyStems$Hand", "become", "(LFortyStems$Hand;)V"⟩, 11) := ⟨⟨by decide +kernel, by decide +kernel⟩, List.mem_of_getElem? (i := 27) (by decide +kernel), List.mem_of_getElem? (i := 805) (by decide +kernel), List.mem_of_getElem? (i := 806) (by decide +kernel)⟩
theorem lw_p72 : lw_okq (⟨"FortyStems$Hand", "inAllBuckets", "()I"⟩, 11) := ⟨⟨by decide +kernel, by decide +kernel⟩, List.mem_of_getElem? (i := 27) (by decide +kernel), List.mem_of_getElem? (i := 818) (by decide +kernel), List.mem_of_getElem? (i := 819) (by decide +kernel)⟩
theorem lw_p73 : lw_okq (⟨"FortyStems$Sheets", "hasItems", "(III)Z"⟩, 3) := ⟨⟨by decide +kernel, by decide +kernel⟩, List.mem_of_getElem? (i := 238) (by decide +kernel), List.mem_of_getElem? (i := 838) (by decide +kernel), List.mem_of_getElem? (i := 839) (by decide +kernel)⟩
theorem lw_p74 : lw_okq (⟨"FortyStemsModel", "spell", "(IIIIIIIII)V"⟩, 46) := ⟨⟨by decide +kernel, by decide +kernel⟩, List.mem_of_getElem? (i := 858) (by decide +kernel), List.mem_of_getElem? (i := 864) (by decide +kernel), List.mem_of_getElem? (i := 865) (by decide +kernel)⟩
theorem lw_p75 : lw_okq (⟨"FortyStemsModel", "isFlower", "(I)Z"⟩, 46) := ⟨⟨by decide +kernel, by decide +kernel⟩, List.mem_of_getElem? (i := 858) (by decide +kernel), List.mem_of_getElem? (i := 1015) (by decide +kernel), List.mem_of_getElem? (i := 1016) (by decide +kernel)⟩
theorem lw_p76 : lw_okq (⟨"FortyStemsModel", "thickOf", "(I)I"⟩, 46) := ⟨⟨by decide +kernel, by decide +kernel⟩, List.mem_of_getElem? (i := 858) (by decide +kernel), List.mem_of_getElem? (i := 1027) (by decide +kernel), List.mem_of_getElem? (i := 1028) (by decide +kernel)⟩
theorem lw_p77 : lw_okq (⟨"FortyStemsModel", "looks", "(I)V"⟩, 46) := ⟨⟨by decide +kernel, by decide +kernel⟩, List.mem_of_getElem? (i := 858) (by decide +kernel), List.mem_of_getElem? (i := 1031) (by decide +kernel), List.mem_of_getElem? (i := 1032) (by decide +kernel)⟩
theorem lw_p78 : lw_okq (⟨"FortyStemsModel", "lastAngle", "()I"⟩, 46) := ⟨⟨by decide +kernel, by decide +kernel⟩, List.mem_of_getElem? (i := 858) (by decide +kernel), List.mem_of_getElem? (i := 1035) (by decide +kernel), List.mem_of_getElem? (i := 1036) (by decide +kernel)⟩
theorem lw_p79 : lw_okq (⟨"FortyStemsModel", "roomNow", "()I"⟩, 46) := ⟨⟨by decide +kernel, by decide +kernel⟩, List.mem_of_getElem? (i := 858) (by decide +kernel), List.mem_of_getElem? (i := 1039) (by decide +kernel), List.mem_of_getElem? (i := 1040) (by decide +kernel)⟩
def lw_privs_5 : List (MethodName × Nat) := [(⟨"FortyStems$Moment", "layOne", "()I"⟩, 4), (⟨"FortyStems", "agreeing", "(III)I"⟩, 10), (⟨"FortyStems", "choicesOf", "(I)I"⟩, 10), (⟨"FortyStems$Moment", "suppose", "(II)V"⟩, 4), (⟨"FortyStems$Sheets", "become", "(III)V"⟩, 3), (⟨"FortyStems$Sheets", "write", "(III)V"⟩, 3), (⟨"FortyStems", "touchingDrawn", "(II)I"⟩, 10), (⟨"FortyStems$Hand", "become", "(LFortyStems$Hand;)V"⟩, 11), (⟨"FortyStems$Hand", "inAllBuckets", "()I"⟩, 11), (⟨"FortyStems$Sheets", "hasItems", "(III)Z"⟩, 3), (⟨"FortyStemsModel", "spell", "(IIIIIIIII)V"⟩, 46), (⟨"FortyStemsModel", "isFlower", "(I)Z"⟩, 46), (⟨"FortyStemsModel", "thickOf", "(I)I"⟩, 46), (⟨"FortyStemsModel", "looks", "(I)V"⟩, 46), (⟨"FortyStemsModel", "lastAngle", "()I"⟩, 46), (⟨"FortyStemsModel", "roomNow", "()I"⟩, 46)]
theorem lw_r5 : ∀ q ∈ lw_privs_5, lw_okq q := List.forall_mem_cons.mpr ⟨lw_p64, List.forall_mem_cons.mpr ⟨lw_p65, List.forall_mem_cons.mpr ⟨lw_p66, List.forall_mem_cons.mpr ⟨lw_p67, List.forall_mem_cons.mpr ⟨lw_p68, List.forall_mem_cons.mpr ⟨lw_p69, List.forall_mem_cons.mpr ⟨lw_p70, List.forall_mem_cons.mpr ⟨lw_p71, List.forall_mem_cons.mpr ⟨lw_p72, List.forall_mem_cons.mpr ⟨lw_p73, List.forall_mem_cons.mpr ⟨lw_p74, List.forall_mem_cons.mpr ⟨lw_p75, List.forall_mem_cons.mpr ⟨lw_p76, List.forall_mem_cons.mpr ⟨lw_p77, List.forall_mem_cons.mpr ⟨lw_p78, List.forall_mem_cons.mpr ⟨lw_p79, fun _ h => absurd h List.not_mem_nil⟩⟩⟩⟩⟩⟩⟩⟩⟩⟩⟩⟩⟩⟩⟩⟩
theorem lw_p80 : lw_okq (⟨"FortyStemsModel", "turnsOf", "(I)I"⟩, 46) := ⟨⟨by decide +kernel, by decide +kernel⟩, List.mem_of_getElem? (i := 858) (by decide +kernel), List.mem_of_getElem? (i := 1043) (by decide +kernel), List.mem_of_getElem? (i := 1044) (by decide +kernel)⟩
theorem lw_p81 : lw_okq (⟨"FortyStemsModel", "read", "(II)I"⟩, 46) := ⟨⟨by decide +kernel, by decide +kernel⟩, List.mem_of_getElem? (i := 858) (by decide +kernel), List.mem_of_getElem? (i := 1047) (by decide +kernel), List.mem_of_getElem? (i := 1048) (by decide +kernel)⟩
theorem lw_p82 : lw_okq (⟨"FortyStemsModel", "nextToken", "()V"⟩, 46) := ⟨⟨by decide +kernel, by decide +kernel⟩, List.mem_of_getElem? (i := 858) (by decide +kernel), List.mem_of_getElem? (i := 1051) (by decide +kernel), List.mem_of_getElem? (i := 1052) (by decide +kernel)⟩
theorem lw_p83 : lw_okq (⟨"FortyStemsModel", "byteAt", "(I)I"⟩, 46) := ⟨⟨by decide +kernel, by decide +kernel⟩, List.mem_of_getElem? (i := 858) (by decide +kernel), List.mem_of_getElem? (i := 1055) (by decide +kernel), List.mem_of_getElem? (i := 1056) (by decide +kernel)⟩
theorem lw_p84 : lw_okq (⟨"FortyStemsModel", "isWord", "(IIIIIIII)Z"⟩, 46) := ⟨⟨by decide +kernel, by decide +kernel⟩, List.mem_of_getElem? (i := 858) (by decide +kernel), List.mem_of_getElem? (i := 1064) (by decide +kernel), List.mem_of_getElem? (i := 1065) (by decide +kernel)⟩
theorem lw_p85 : lw_okq (⟨"FortyStemsModel", "isLetter", "(II)Z"⟩, 46) := ⟨⟨by decide +kernel, by decide +kernel⟩, List.mem_of_getElem? (i := 858) (by decide +kernel), List.mem_of_getElem? (i := 1068) (by decide +kernel), List.mem_of_getElem? (i := 1069) (by decide +kernel)⟩
theorem lw_p86 : lw_okq (⟨"FortyStemsModel", "part", "(Z)I"⟩, 46) := ⟨⟨by decide +kernel, by decide +kernel⟩, List.mem_of_getElem? (i := 858) (by decide +kernel), List.mem_of_getElem? (i := 1072) (by decide +kernel), List.mem_of_getElem? (i := 1073) (by decide +kernel)⟩
theorem lw_p87 : lw_okq (⟨"FortyStemsModel", "fail", "()V"⟩, 46) := ⟨⟨by decide +kernel, by decide +kernel⟩, List.mem_of_getElem? (i := 858) (by decide +kernel), List.mem_of_getElem? (i := 1076) (by decide +kernel), List.mem_of_getElem? (i := 1077) (by decide +kernel)⟩
theorem lw_p88 : lw_okq (⟨"FortyStemsModel", "either", "()I"⟩, 46) := ⟨⟨by decide +kernel, by decide +kernel⟩, List.mem_of_getElem? (i := 858) (by decide +kernel), List.mem_of_getElem? (i := 1080) (by decide +kernel), List.mem_of_getElem? (i := 1081) (by decide +kernel)⟩
theorem lw_p89 : lw_okq (⟨"FortyStemsModel", "both", "()I"⟩, 46) := ⟨⟨by decide +kernel, by decide +kernel⟩, List.mem_of_getElem? (i := 858) (by decide +kernel), List.mem_of_getElem? (i := 1084) (by decide +kernel), List.mem_of_getElem? (i := 1085) (by decide +kernel)⟩
theorem lw_p90 : lw_okq (⟨"FortyStemsModel", "not", "()I"⟩, 46) := ⟨⟨by decide +kernel, by decide +kernel⟩, List.mem_of_getElem? (i := 858) (by decide +kernel), List.mem_of_getElem? (i := 1088) (by decide +kernel), List.mem_of_getElem? (i := 1089) (by decide +kernel)⟩
theorem lw_p91 : lw_okq (⟨"FortyStemsModel", "opens", "()Z"⟩, 46) := ⟨⟨by decide +kernel, by decide +kernel⟩, List.mem_of_getElem? (i := 858) (by decide +kernel), List.mem_of_getElem? (i := 1092) (by decide +kernel), List.mem_of_getElem? (i := 1093) (by decide +kernel)⟩
theorem lw_p92 : lw_okq (⟨"FortyStemsModel", "added", "()I"⟩, 46) := ⟨⟨by decide +kernel, by decide +kernel⟩, List.mem_of_getElem? (i := 858) (by decide +kernel), List.mem_of_getElem? (i := 1096) (by decide +kernel), List.mem_of_getElem? (i := 1097) (by decide +kernel)⟩
theorem lw_p93 : lw_okq (⟨"FortyStemsModel", "term", "()I"⟩, 46) := ⟨⟨by decide +kernel, by decide +kernel⟩, List.mem_of_getElem? (i := 858) (by decide +kernel), List.mem_of_getElem? (i := 1100) (by decide +kernel), List.mem_of_getElem? (i := 1101) (by decide +kernel)⟩
theorem lw_p94 : lw_okq (⟨"FortyStemsModel", "atom", "()I"⟩, 46) := ⟨⟨by decide +kernel, by decide +kernel⟩, List.mem_of_getElem? (i := 858) (by decide +kernel), List.mem_of_getElem? (i := 1104) (by decide +kernel), List.mem_of_getElem? (i := 1105) (by decide +kernel)⟩
theorem lw_p95 : lw_okq (⟨"FortyStemsModel", "isSign", "(I)Z"⟩, 46) := ⟨⟨by decide +kernel, by decide +kernel⟩, List.mem_of_getElem? (i := 858) (by decide +kernel), List.mem_of_getElem? (i := 1108) (by decide +kernel), List.mem_of_getElem? (i := 1109) (by decide +kernel)⟩
def lw_privs_6 : List (MethodName × Nat) := [(⟨"FortyStemsModel", "turnsOf", "(I)I"⟩, 46), (⟨"FortyStemsModel", "read", "(II)I"⟩, 46), (⟨"FortyStemsModel", "nextToken", "()V"⟩, 46), (⟨"FortyStemsModel", "byteAt", "(I)I"⟩, 46), (⟨"FortyStemsModel", "isWord", "(IIIIIIII)Z"⟩, 46), (⟨"FortyStemsModel", "isLetter", "(II)Z"⟩, 46), (⟨"FortyStemsModel", "part", "(Z)I"⟩, 46), (⟨"FortyStemsModel", "fail", "()V"⟩, 46), (⟨"FortyStemsModel", "either", "()I"⟩, 46), (⟨"FortyStemsModel", "both", "()I"⟩, 46), (⟨"FortyStemsModel", "not", "()I"⟩, 46), (⟨"FortyStemsModel", "opens", "()Z"⟩, 46), (⟨"FortyStemsModel", "added", "()I"⟩, 46), (⟨"FortyStemsModel", "term", "()I"⟩, 46), (⟨"FortyStemsModel", "atom", "()I"⟩, 46), (⟨"FortyStemsModel", "isSign", "(I)Z"⟩, 46)]
theorem lw_r6 : ∀ q ∈ lw_privs_6, lw_okq q := List.forall_mem_cons.mpr ⟨lw_p80, List.forall_mem_cons.mpr ⟨lw_p81, List.forall_mem_cons.mpr ⟨lw_p82, List.forall_mem_cons.mpr ⟨lw_p83, List.forall_mem_cons.mpr ⟨lw_p84, List.forall_mem_cons.mpr ⟨lw_p85, List.forall_mem_cons.mpr ⟨lw_p86, List.forall_mem_cons.mpr ⟨lw_p87, List.forall_mem_cons.mpr ⟨lw_p88, List.forall_mem_cons.mpr ⟨lw_p89, List.forall_mem_cons.mpr ⟨lw_p90, List.forall_mem_cons.mpr ⟨lw_p91, List.forall_mem_cons.mpr ⟨lw_p92, List.forall_mem_cons.mpr ⟨lw_p93, List.forall_mem_cons.mpr ⟨lw_p94, List.forall_mem_cons.mpr ⟨lw_p95, fun _ h => absurd h List.not_mem_nil⟩⟩⟩⟩⟩⟩⟩⟩⟩⟩⟩⟩⟩⟩⟩⟩
theorem lw_p96 : lw_okq (⟨"FortyStemsModel", "name", "()I"⟩, 46) := ⟨⟨by decide +kernel, by decide +kernel⟩, List.mem_of_getElem? (i := 858) (by decide +kernel), List.mem_of_getElem? (i := 1112) (by decide +kernel), List.mem_of_getElem? (i := 1113) (by decide +kernel)⟩
theorem lw_p97 : lw_okq (⟨"FortyStemsModel", "costsOf", "(I)I"⟩, 46) := ⟨⟨by decide +kernel, by decide +kernel⟩, List.mem_of_getElem? (i := 858) (by decide +kernel), List.mem_of_getElem? (i := 1121) (by decide +kernel), List.mem_of_getElem? (i := 1122) (by decide +kernel)⟩
theorem lw_p98 : lw_okq (⟨"FortyStemsModel", "lastsOf", "(I)I"⟩, 46) := ⟨⟨by decide +kernel, by decide +kernel⟩, List.mem_of_getElem? (i := 858) (by decide +kernel), List.mem_of_getElem? (i := 1125) (by decide +kernel), List.mem_of_getElem? (i := 1126) (by decide +kernel)⟩
theorem lw_p99 : lw_okq (⟨"FortyStemsModel", "lays", "(III)V"⟩, 46) := ⟨⟨by decide +kernel, by decide +kernel⟩, List.mem_of_getElem? (i := 858) (by decide +kernel), List.mem_of_getElem? (i := 1129) (by decide +kernel), List.mem_of_getElem? (i := 1130) (by decide +kernel)⟩
theorem lw_p100 : lw_okq (⟨"FortyStemsModel", "isRoom", "(I)Z"⟩, 46) := ⟨⟨by decide +kernel, by decide +kernel⟩, List.mem_of_getElem? (i := 858) (by decide +kernel), List.mem_of_getElem? (i := 1156) (by decide +kernel), List.mem_of_getElem? (i := 1157) (by decide +kernel)⟩
theorem lw_p101 : lw_okq (⟨"FortyStemsModel", "puts", "(I)V"⟩, 46) := ⟨⟨by decide +kernel, by decide +kernel⟩, List.mem_of_getElem? (i := 858) (by decide +kernel), List.mem_of_getElem? (i := 1160) (by decide +kernel), List.mem_of_getElem? (i := 1161) (by decide +kernel)⟩
theorem lw_p102 : lw_okq (⟨"FortyStemsModel", "touching", "(I)I"⟩, 46) := ⟨⟨by decide +kernel, by decide +kernel⟩, List.mem_of_getElem? (i := 858) (by decide +kernel), List.mem_of_getElem? (i := 1182) (by decide +kernel), List.mem_of_getElem? (i := 1183) (by decide +kernel)⟩
theorem lw_p103 : lw_okq (⟨"FortyStemsModel", "touch", "(II)Z"⟩, 46) := ⟨⟨by decide +kernel, by decide +kernel⟩, List.mem_of_getElem? (i := 858) (by decide +kernel), List.mem_of_getElem? (i := 1186) (by decide +kernel), List.mem_of_getElem? (i := 1187) (by decide +kernel)⟩
theorem lw_p104 : lw_okq (⟨"FortyStemsModel", "even", "()I"⟩, 46) := ⟨⟨by decide +kernel, by decide +kernel⟩, List.mem_of_getElem? (i := 858) (by decide +kernel), List.mem_of_getElem? (i := 1190) (by decide +kernel), List.mem_of_getElem? (i := 1191) (by decide +kernel)⟩
theorem lw_p105 : lw_okq (⟨"FortyStemsModel", "quarter", "(I)I"⟩, 46) := ⟨⟨by decide +kernel, by decide +kernel⟩, List.mem_of_getElem? (i := 858) (by decide +kernel), List.mem_of_getElem? (i := 1194) (by decide +kernel), List.mem_of_getElem? (i := 1195) (by decide +kernel)⟩
theorem lw_p106 : lw_okq (⟨"FortyStemsModel", "cost", "()I"⟩, 46) := ⟨⟨by decide +kernel, by decide +kernel⟩, List.mem_of_getElem? (i := 858) (by decide +kernel), List.mem_of_getElem? (i := 1198) (by decide +kernel), List.mem_of_getElem? (i := 1199) (by decide +kernel)⟩
theorem lw_p107 : lw_okq (⟨"FortyStemsModel", "ofColours", "(I)I"⟩, 46) := ⟨⟨by decide +kernel, by decide +kernel⟩, List.mem_of_getElem? (i := 858) (by decide +kernel), List.mem_of_getElem? (i := 1202) (by decide +kernel), List.mem_of_getElem? (i := 1203) (by decide +kernel)⟩
theorem lw_p108 : lw_okq (⟨"FortyStemsModel", "canLay", "(I)Z"⟩, 46) := ⟨⟨by decide +kernel, by decide +kernel⟩, List.mem_of_getElem? (i := 858) (by decide +kernel), List.mem_of_getElem? (i := 1215) (by decide +kernel), List.mem_of_getElem? (i := 1216) (by decide +kernel)⟩
theorem lw_p109 : lw_okq (⟨"FortyStemsModel", "takesOff", "()V"⟩, 46) := ⟨⟨by decide +kernel, by decide +kernel⟩, List.mem_of_getElem? (i := 858) (by decide +kernel), List.mem_of_getElem? (i := 1219) (by decide +kernel), List.mem_of_getElem? (i := 1220) (by decide +kernel)⟩
theorem lw_p110 : lw_okq (⟨"FortyStemsModel", "isOrder", "(I)Z"⟩, 46) := ⟨⟨by decide +kernel, by decide +kernel⟩, List.mem_of_getElem? (i := 858) (by decide +kernel), List.mem_of_getElem? (i := 1235) (by decide +kernel), List.mem_of_getElem? (i := 1236) (by decide +kernel)⟩
theorem lw_p111 : lw_okq (⟨"FortyStemsModel", "seeks", "(III)V"⟩, 46) := ⟨⟨by decide +kernel, by decide +kernel⟩, List.mem_of_getElem? (i := 858) (by decide +kernel), List.mem_of_getElem? (i := 1240) (by decide +kernel), List.mem_of_getElem? (i := 1241) (by decide +kernel)⟩
def lw_privs_7 : List (MethodName × Nat) := [(⟨"FortyStemsModel", "name", "()I"⟩, 46), (⟨"FortyStemsModel", "costsOf", "(I)I"⟩, 46), (⟨"FortyStemsModel", "lastsOf", "(I)I"⟩, 46), (⟨"FortyStemsModel", "lays", "(III)V"⟩, 46), (⟨"FortyStemsModel", "isRoom", "(I)Z"⟩, 46), (⟨"FortyStemsModel", "puts", "(I)V"⟩, 46), (⟨"FortyStemsModel", "touching", "(I)I"⟩, 46), (⟨"FortyStemsModel", "touch", "(II)Z"⟩, 46), (⟨"FortyStemsModel", "even", "()I"⟩, 46), (⟨"FortyStemsModel", "quarter", "(I)I"⟩, 46), (⟨"FortyStemsModel", "cost", "()I"⟩, 46), (⟨"FortyStemsModel", "ofColours", "(I)I"⟩, 46), (⟨"FortyStemsModel", "canLay", "(I)Z"⟩, 46), (⟨"FortyStemsModel", "takesOff", "()V"⟩, 46), (⟨"FortyStemsModel", "isOrder", "(I)Z"⟩, 46), (⟨"FortyStemsModel", "seeks", "(III)V"⟩, 46)]
theorem lw_r7 : ∀ q ∈ lw_privs_7, lw_okq q := List.forall_mem_cons.mpr ⟨lw_p96, List.forall_mem_cons.mpr ⟨lw_p97, List.forall_mem_cons.mpr ⟨lw_p98, List.forall_mem_cons.mpr ⟨lw_p99, List.forall_mem_cons.mpr ⟨lw_p100, List.forall_mem_cons.mpr ⟨lw_p101, List.forall_mem_cons.mpr ⟨lw_p102, List.forall_mem_cons.mpr ⟨lw_p103, List.forall_mem_cons.mpr ⟨lw_p104, List.forall_mem_cons.mpr ⟨lw_p105, List.forall_mem_cons.mpr ⟨lw_p106, List.forall_mem_cons.mpr ⟨lw_p107, List.forall_mem_cons.mpr ⟨lw_p108, List.forall_mem_cons.mpr ⟨lw_p109, List.forall_mem_cons.mpr ⟨lw_p110, List.forall_mem_cons.mpr ⟨lw_p111, fun _ h => absurd h List.not_mem_nil⟩⟩⟩⟩⟩⟩⟩⟩⟩⟩⟩⟩⟩⟩⟩⟩
theorem lw_p112 : lw_okq (⟨"FortyStemsModel", "firstOther", "(II)I"⟩, 46) := ⟨⟨by decide +kernel, by decide +kernel⟩, List.mem_of_getElem? (i := 858) (by decide +kernel), List.mem_of_getElem? (i := 1257) (by decide +kernel), List.mem_of_getElem? (i := 1258) (by decide +kernel)⟩
theorem lw_p113 : lw_okq (⟨"FortyStemsModel", "turnsFrom", "(II)V"⟩, 46) := ⟨⟨by decide +kernel, by decide +kernel⟩, List.mem_of_getElem? (i := 858) (by decide +kernel), List.mem_of_getElem? (i := 1261) (by decide +kernel), List.mem_of_getElem? (i := 1262) (by decide +kernel)⟩
theorem lw_p114 : lw_okq (⟨"FortyStemsModel", "draws", "(II)I"⟩, 46) := ⟨⟨by decide +kernel, by decide +kernel⟩, List.mem_of_getElem? (i := 858) (by decide +kernel), List.mem_of_getElem? (i := 1281) (by decide +kernel), List.mem_of_getElem? (i := 1282) (by decide +kernel)⟩
def lw_privs_8 : List (MethodName × Nat) := [(⟨"FortyStemsModel", "firstOther", "(II)I"⟩, 46), (⟨"FortyStemsModel", "turnsFrom", "(II)V"⟩, 46), (⟨"FortyStemsModel", "draws", "(II)I"⟩, 46)]
theorem lw_r8 : ∀ q ∈ lw_privs_8, lw_okq q := List.forall_mem_cons.mpr ⟨lw_p112, List.forall_mem_cons.mpr ⟨lw_p113, List.forall_mem_cons.mpr ⟨lw_p114, fun _ h => absurd h List.not_mem_nil⟩⟩⟩
def lw_privs : List (MethodName × Nat) := lw_privs_1 ++ (lw_privs_2 ++ (lw_privs_3 ++ (lw_privs_4 ++ (lw_privs_5 ++ (lw_privs_6 ++ (lw_privs_7 ++ (lw_privs_8)))))))
def lw_tbl : List Cond := k2_sels lw_privs ++ tables_1
theorem lw_privs_ok : ∀ q ∈ lw_privs, lw_okq q := by
  show ∀ q ∈ lw_privs_1 ++ (lw_privs_2 ++ (lw_privs_3 ++ (lw_privs_4 ++ (lw_privs_5 ++ (lw_privs_6 ++ (lw_privs_7 ++ (lw_privs_8))))))), lw_okq q
  exact List.forall_mem_append.mpr ⟨lw_r1, List.forall_mem_append.mpr ⟨lw_r2, List.forall_mem_append.mpr ⟨lw_r3, List.forall_mem_append.mpr ⟨lw_r4, List.forall_mem_append.mpr ⟨lw_r5, List.forall_mem_append.mpr ⟨lw_r6, List.forall_mem_append.mpr ⟨lw_r7, lw_r8⟩⟩⟩⟩⟩⟩⟩
def RX0 : String := "FortyStems$Hand"
def TX0 : u_T := fun k => match k with
  | 0 => ("FortyStems$Hand", "holds", "I", false)
  | 1 => ("FortyStems$Hand", "begin", "I", false)
  | 2 => ("FortyStems$Hand", "rule", "I", false)
  | 3 => ("FortyStems$Hand", "flowers", "I", false)
  | 4 => ("FortyStems$Hand", "kinds", "[I", true)
  | 5 => ("FortyStems$Hand", "numbers", "[I", true)
  | 6 => ("FortyStems$Hand", "colours", "[I", true)
  | 7 => ("FortyStems$Hand", "buckets", "[I", true)
  | 8 => ("FortyStems$Hand", "stems", "I", false)
  | 9 => ("FortyStems$Hand", "stemFlowers", "[I", true)
  | _ => ("FortyStems$Hand", "stemAngles", "[I", true)
def tyX0 : Nat → FieldType := fun k => match k with
  | 0 => .int
  | 1 => .int
  | 2 => .int
  | 3 => .int
  | 4 => .array .int
  | 5 => .array .int
  | 6 => .array .int
  | 7 => .array .int
  | 8 => .int
  | 9 => .array .int
  | _ => .array .int
theorem nmX0 : ∀ a, a < 11 → ∀ b, b < 11 → a ≠ b → (TX0 a).2.1 ≠ (TX0 b).2.1 := by decide +kernel
theorem tyX0_ok : ∀ k, k < 11 → parseFieldDescriptor (TX0 k).2.2.1 = some (tyX0 k) := by decide +kernel
abbrev cX0_init : ByteArray := prog_2_method_1_code
def yX0_init : MethodName := ⟨RX0, "<init>", "()V"⟩
abbrev cX0_hasFlower : ByteArray := prog_2_method_2_code
def yX0_hasFlower : MethodName := ⟨RX0, "hasFlower", "(I)Z"⟩
abbrev cX0_hasStem : ByteArray := prog_2_method_3_code
def yX0_hasStem : MethodName := ⟨RX0, "hasStem", "(I)Z"⟩
abbrev cX0_addFlower : ByteArray := prog_2_method_4_code
def yX0_addFlower : MethodName := ⟨RX0, "addFlower", "(II)I"⟩
abbrev cX0_settingOf : ByteArray := prog_2_method_5_code
def yX0_settingOf : MethodName := ⟨RX0, "settingOf", "(II)I"⟩
abbrev cX0_change : ByteArray := prog_2_method_6_code
def yX0_change : MethodName := ⟨RX0, "change", "(III)V"⟩
abbrev cX0_addStem : ByteArray := prog_2_method_7_code
def yX0_addStem : MethodName := ⟨RX0, "addStem", "(II)V"⟩
abbrev cX0_removeStem : ByteArray := prog_2_method_8_code
def yX0_removeStem : MethodName := ⟨RX0, "removeStem", "(I)I"⟩
abbrev cX0_lastAngle : ByteArray := prog_2_method_9_code
def yX0_lastAngle : MethodName := ⟨RX0, "lastAngle", "()I"⟩
abbrev cX0_roomLeft : ByteArray := prog_2_method_10_code
def yX0_roomLeft : MethodName := ⟨RX0, "roomLeft", "()I"⟩
abbrev cX0_thickOf : ByteArray := prog_2_method_11_code
def yX0_thickOf : MethodName := ⟨RX0, "thickOf", "(I)I"⟩
abbrev cX0_colourOf : ByteArray := prog_2_method_12_code
def yX0_colourOf : MethodName := ⟨RX0, "colourOf", "(I)I"⟩
abbrev cX0_stemsOf : ByteArray := prog_2_method_13_code
def yX0_stemsOf : MethodName := ⟨RX0, "stemsOf", "(I)I"⟩
abbrev cX0_stemsOfColour : ByteArray := prog_2_method_14_code
def yX0_stemsOfColour : MethodName := ⟨RX0, "stemsOfColour", "(I)I"⟩
abbrev cX0_stemsInQuarter : ByteArray := prog_2_method_15_code
def yX0_stemsInQuarter : MethodName := ⟨RX0, "stemsInQuarter", "(I)I"⟩
abbrev cX0_inAllBuckets : ByteArray := prog_2_method_16_code
def yX0_inAllBuckets : MethodName := ⟨RX0, "inAllBuckets", "()I"⟩
abbrev cX0_become : ByteArray := prog_2_method_17_code
def yX0_become : MethodName := ⟨RX0, "become", "(LFortyStems$Hand;)V"⟩
def RX1 : String := "FortyStems$Kind"
def TX1 : u_T := fun k => match k with
  | _ => ("", "", "", false)
def tyX1 : Nat → FieldType := fun k => match k with
  | _ => .int
theorem nmX1 : ∀ a, a < 0 → ∀ b, b < 0 → a ≠ b → (TX1 a).2.1 ≠ (TX1 b).2.1 := by decide +kernel
theorem tyX1_ok : ∀ k, k < 0 → parseFieldDescriptor (TX1 k).2.2.1 = some (tyX1 k) := by decide +kernel
abbrev cX1_isKind : ByteArray := prog_3_method_2_code
def yX1_isKind : MethodName := ⟨RX1, "isKind", "(I)Z"⟩
abbrev cX1_isUnder : ByteArray := prog_3_method_3_code
def yX1_isUnder : MethodName := ⟨RX1, "isUnder", "(II)Z"⟩
abbrev cX1_thick : ByteArray := prog_3_method_4_code
def yX1_thick : MethodName := ⟨RX1, "thick", "(II)I"⟩
abbrev cX1_turns : ByteArray := prog_3_method_5_code
def yX1_turns : MethodName := ⟨RX1, "turns", "(II)I"⟩
abbrev cX1_costs : ByteArray := prog_3_method_6_code
def yX1_costs : MethodName := ⟨RX1, "costs", "(III)I"⟩
abbrev cX1_lasts : ByteArray := prog_3_method_7_code
def yX1_lasts : MethodName := ⟨RX1, "lasts", "(III)I"⟩
def RX2 : String := "FortyStems$Moment"
def TX2 : u_T := fun k => match k with
  | 0 => ("FortyStems$Moment", "texts", "LFortyStems$Texts;", true)
  | 1 => ("FortyStems$Moment", "rule", "I", false)
  | 2 => ("FortyStems$Moment", "kind", "I", false)
  | _ => ("FortyStems$Moment", "names", "[I", true)
def tyX2 : Nat → FieldType := fun k => match k with
  | 0 => .object "FortyStems$Texts"
  | 1 => .int
  | 2 => .int
  | _ => .array .int
theorem nmX2 : ∀ a, a < 4 → ∀ b, b < 4 → a ≠ b → (TX2 a).2.1 ≠ (TX2 b).2.1 := by decide +kernel
theorem tyX2_ok : ∀ k, k < 4 → parseFieldDescriptor (TX2 k).2.2.1 = some (tyX2 k) := by decide +kernel
abbrev cX2_init : ByteArray := prog_4_method_1_code
def yX2_init : MethodName := ⟨RX2, "<init>", "(LFortyStems$Texts;)V"⟩
abbrev cX2_asNow : ByteArray := prog_4_method_2_code
def yX2_asNow : MethodName := ⟨RX2, "asNow", "(LFortyStems$Hand;I)V"⟩
abbrev cX2_inEmptyHand : ByteArray := prog_4_method_3_code
def yX2_inEmptyHand : MethodName := ⟨RX2, "inEmptyHand", "(LFortyStems$Hand;I)V"⟩
abbrev cX2_asThought : ByteArray := prog_4_method_4_code
def yX2_asThought : MethodName := ⟨RX2, "asThought", "(IIII)V"⟩
abbrev cX2_suppose : ByteArray := prog_4_method_5_code
def yX2_suppose : MethodName := ⟨RX2, "suppose", "(II)V"⟩
abbrev cX2_layOne : ByteArray := prog_4_method_6_code
def yX2_layOne : MethodName := ⟨RX2, "layOne", "()I"⟩
abbrev cX2_turned : ByteArray := prog_4_method_7_code
def yX2_turned : MethodName := ⟨RX2, "turned", "(II)I"⟩
abbrev cX2_thick : ByteArray := prog_4_method_8_code
def yX2_thick : MethodName := ⟨RX2, "thick", "()I"⟩
abbrev cX2_turns : ByteArray := prog_4_method_9_code
def yX2_turns : MethodName := ⟨RX2, "turns", "()I"⟩
abbrev cX2_costs : ByteArray := prog_4_method_10_code
def yX2_costs : MethodName := ⟨RX2, "costs", "()I"⟩
abbrev cX2_lasts : ByteArray := prog_4_method_11_code
def yX2_lasts : MethodName := ⟨RX2, "lasts", "()I"⟩
abbrev cX2_within : ByteArray := prog_4_method_12_code
def yX2_within : MethodName := ⟨RX2, "within", "(III)I"⟩
def RX3 : String := "FortyStems$Orders"
def TX3 : u_T := fun k => match k with
  | 0 => ("FortyStems$Orders", "trial", "LFortyStems$Trial;", true)
  | 1 => ("FortyStems$Orders", "flowers", "[I", true)
  | 2 => ("FortyStems$Orders", "size", "I", false)
  | 3 => ("FortyStems$Orders", "fewest", "I", false)
  | _ => ("FortyStems$Orders", "bestDigits", "I", false)
def tyX3 : Nat → FieldType := fun k => match k with
  | 0 => .object "FortyStems$Trial"
  | 1 => .array .int
  | 2 => .int
  | 3 => .int
  | _ => .int
theorem nmX3 : ∀ a, a < 5 → ∀ b, b < 5 → a ≠ b → (TX3 a).2.1 ≠ (TX3 b).2.1 := by decide +kernel
theorem tyX3_ok : ∀ k, k < 5 → parseFieldDescriptor (TX3 k).2.2.1 = some (tyX3 k) := by decide +kernel
abbrev cX3_init : ByteArray := prog_5_method_1_code
def yX3_init : MethodName := ⟨RX3, "<init>", "(LFortyStems$Trial;)V"⟩
abbrev cX3_start : ByteArray := prog_5_method_2_code
def yX3_start : MethodName := ⟨RX3, "start", "([II)V"⟩
abbrev cX3_search : ByteArray := prog_5_method_3_code
def yX3_search : MethodName := ⟨RX3, "search", "(III)V"⟩
abbrev cX3_tryPlace : ByteArray := prog_5_method_4_code
def yX3_tryPlace : MethodName := ⟨RX3, "tryPlace", "(IIII)V"⟩
abbrev cX3_isFree : ByteArray := prog_5_method_5_code
def yX3_isFree : MethodName := ⟨RX3, "isFree", "(II)Z"⟩
def RX4 : String := "FortyStems$Reader"
def TX4 : u_T := fun k => match k with
  | 0 => ("FortyStems$Reader", "tape", "LFortyStems$Tape;", true)
  | 1 => ("FortyStems$Reader", "steps", "[I", true)
  | 2 => ("FortyStems$Reader", "ends", "[I", true)
  | 3 => ("FortyStems$Reader", "made", "I", false)
  | 4 => ("FortyStems$Reader", "place", "I", false)
  | 5 => ("FortyStems$Reader", "fault", "I", false)
  | 6 => ("FortyStems$Reader", "token", "I", false)
  | 7 => ("FortyStems$Reader", "start", "I", false)
  | _ => ("FortyStems$Reader", "value", "I", false)
def tyX4 : Nat → FieldType := fun k => match k with
  | 0 => .object "FortyStems$Tape"
  | 1 => .array .int
  | 2 => .array .int
  | 3 => .int
  | 4 => .int
  | 5 => .int
  | 6 => .int
  | 7 => .int
  | _ => .int
theorem nmX4 : ∀ a, a < 9 → ∀ b, b < 9 → a ≠ b → (TX4 a).2.1 ≠ (TX4 b).2.1 := by decide +kernel
theorem tyX4_ok : ∀ k, k < 9 → parseFieldDescriptor (TX4 k).2.2.1 = some (tyX4 k) := by decide +kernel
abbrev cX4_init : ByteArray := prog_6_method_1_code
def yX4_init : MethodName := ⟨RX4, "<init>", "(LFortyStems$Tape;)V"⟩
abbrev cX4_readTape : ByteArray := prog_6_method_2_code
def yX4_readTape : MethodName := ⟨RX4, "readTape", "()I"⟩
abbrev cX4_expect : ByteArray := prog_6_method_3_code
def yX4_expect : MethodName := ⟨RX4, "expect", "(I)V"⟩
abbrev cX4_fail : ByteArray := prog_6_method_4_code
def yX4_fail : MethodName := ⟨RX4, "fail", "()V"⟩
abbrev cX4_make : ByteArray := prog_6_method_5_code
def yX4_make : MethodName := ⟨RX4, "make", "(I)V"⟩
abbrev cX4_readOr : ByteArray := prog_6_method_6_code
def yX4_readOr : MethodName := ⟨RX4, "readOr", "(I)V"⟩
abbrev cX4_readAnd : ByteArray := prog_6_method_7_code
def yX4_readAnd : MethodName := ⟨RX4, "readAnd", "(I)V"⟩
abbrev cX4_readNot : ByteArray := prog_6_method_8_code
def yX4_readNot : MethodName := ⟨RX4, "readNot", "(I)V"⟩
abbrev cX4_readSum : ByteArray := prog_6_method_9_code
def yX4_readSum : MethodName := ⟨RX4, "readSum", "(I)V"⟩
abbrev cX4_readTerm : ByteArray := prog_6_method_10_code
def yX4_readTerm : MethodName := ⟨RX4, "readTerm", "(I)V"⟩
abbrev cX4_readOne : ByteArray := prog_6_method_11_code
def yX4_readOne : MethodName := ⟨RX4, "readOne", "(I)V"⟩
abbrev cX4_advance : ByteArray := prog_6_method_12_code
def yX4_advance : MethodName := ⟨RX4, "advance", "()V"⟩
abbrev cX4_takeWord : ByteArray := prog_6_method_13_code
def yX4_takeWord : MethodName := ⟨RX4, "takeWord", "()V"⟩
abbrev cX4_takeNumber : ByteArray := prog_6_method_14_code
def yX4_takeNumber : MethodName := ⟨RX4, "takeNumber", "()V"⟩
abbrev cX4_standsAtStart : ByteArray := prog_6_method_15_code
def yX4_standsAtStart : MethodName := ⟨RX4, "standsAtStart", "(II)Z"⟩
abbrev cX4_isBlank : ByteArray := prog_6_method_16_code
def yX4_isBlank : MethodName := ⟨RX4, "isBlank", "(I)Z"⟩
abbrev cX4_isLetter : ByteArray := prog_6_method_17_code
def yX4_isLetter : MethodName := ⟨RX4, "isLetter", "(I)Z"⟩
abbrev cX4_isDigit : ByteArray := prog_6_method_18_code
def yX4_isDigit : MethodName := ⟨RX4, "isDigit", "(I)Z"⟩
abbrev cX4_isSign : ByteArray := prog_6_method_19_code
def yX4_isSign : MethodName := ⟨RX4, "isSign", "(I)Z"⟩
def RX5 : String := "FortyStems$Sheets"
def TX5 : u_T := fun k => match k with
  | 0 => ("FortyStems$Sheets", "sorts", "[I", true)
  | 1 => ("FortyStems$Sheets", "sizes", "[I", true)
  | _ => ("FortyStems$Sheets", "items", "[[I", true)
def tyX5 : Nat → FieldType := fun k => match k with
  | 0 => .array .int
  | 1 => .array .int
  | _ => .array (.array .int)
theorem nmX5 : ∀ a, a < 3 → ∀ b, b < 3 → a ≠ b → (TX5 a).2.1 ≠ (TX5 b).2.1 := by decide +kernel
theorem tyX5_ok : ∀ k, k < 3 → parseFieldDescriptor (TX5 k).2.2.1 = some (tyX5 k) := by decide +kernel
abbrev cX5_init : ByteArray := prog_7_method_1_code
def yX5_init : MethodName := ⟨RX5, "<init>", "()V"⟩
abbrev cX5_isNumber : ByteArray := prog_7_method_2_code
def yX5_isNumber : MethodName := ⟨RX5, "isNumber", "(I)Z"⟩
abbrev cX5_isSort : ByteArray := prog_7_method_3_code
def yX5_isSort : MethodName := ⟨RX5, "isSort", "(I)Z"⟩
abbrev cX5_isMissing : ByteArray := prog_7_method_4_code
def yX5_isMissing : MethodName := ⟨RX5, "isMissing", "(I)Z"⟩
abbrev cX5_hasItem : ByteArray := prog_7_method_5_code
def yX5_hasItem : MethodName := ⟨RX5, "hasItem", "(II)Z"⟩
abbrev cX5_hasItems : ByteArray := prog_7_method_6_code
def yX5_hasItems : MethodName := ⟨RX5, "hasItems", "(III)Z"⟩
abbrev cX5_itemAt : ByteArray := prog_7_method_7_code
def yX5_itemAt : MethodName := ⟨RX5, "itemAt", "(II)I"⟩
abbrev cX5_become : ByteArray := prog_7_method_8_code
def yX5_become : MethodName := ⟨RX5, "become", "(III)V"⟩
abbrev cX5_write : ByteArray := prog_7_method_9_code
def yX5_write : MethodName := ⟨RX5, "write", "(III)V"⟩
def RX6 : String := "FortyStems$Tape"
def TX6 : u_T := fun k => match k with
  | 0 => ("FortyStems$Tape", "bytes", "[I", true)
  | _ => ("FortyStems$Tape", "size", "I", false)
def tyX6 : Nat → FieldType := fun k => match k with
  | 0 => .array .int
  | _ => .int
theorem nmX6 : ∀ a, a < 2 → ∀ b, b < 2 → a ≠ b → (TX6 a).2.1 ≠ (TX6 b).2.1 := by decide +kernel
theorem tyX6_ok : ∀ k, k < 2 → parseFieldDescriptor (TX6 k).2.2.1 = some (tyX6 k) := by decide +kernel
abbrev cX6_init : ByteArray := prog_8_method_1_code
def yX6_init : MethodName := ⟨RX6, "<init>", "()V"⟩
abbrev cX6_add : ByteArray := prog_8_method_2_code
def yX6_add : MethodName := ⟨RX6, "add", "(I)Z"⟩
abbrev cX6_clear : ByteArray := prog_8_method_3_code
def yX6_clear : MethodName := ⟨RX6, "clear", "()V"⟩
abbrev cX6_byteAt : ByteArray := prog_8_method_4_code
def yX6_byteAt : MethodName := ⟨RX6, "byteAt", "(I)I"⟩
def RX7 : String := "FortyStems$Texts"
def TX7 : u_T := fun k => match k with
  | 0 => ("FortyStems$Texts", "size", "I", false)
  | 1 => ("FortyStems$Texts", "steps", "[[I", true)
  | 2 => ("FortyStems$Texts", "ends", "[[I", true)
  | _ => ("FortyStems$Texts", "stack", "[I", true)
def tyX7 : Nat → FieldType := fun k => match k with
  | 0 => .int
  | 1 => .array (.array .int)
  | 2 => .array (.array .int)
  | _ => .array .int
theorem nmX7 : ∀ a, a < 4 → ∀ b, b < 4 → a ≠ b → (TX7 a).2.1 ≠ (TX7 b).2.1 := by decide +kernel
theorem tyX7_ok : ∀ k, k < 4 → parseFieldDescriptor (TX7 k).2.2.1 = some (tyX7 k) := by decide +kernel
abbrev cX7_init : ByteArray := prog_9_method_1_code
def yX7_init : MethodName := ⟨RX7, "<init>", "()V"⟩
abbrev cX7_has : ByteArray := prog_9_method_2_code
def yX7_has : MethodName := ⟨RX7, "has", "(I)Z"⟩
abbrev cX7_isFull : ByteArray := prog_9_method_3_code
def yX7_isFull : MethodName := ⟨RX7, "isFull", "()Z"⟩
abbrev cX7_add : ByteArray := prog_9_method_4_code
def yX7_add : MethodName := ⟨RX7, "add", "(LFortyStems$Reader;)I"⟩
abbrev cX7_valueOf : ByteArray := prog_9_method_5_code
def yX7_valueOf : MethodName := ⟨RX7, "valueOf", "(II[I)I"⟩
abbrev cX7_isOfOne : ByteArray := prog_9_method_6_code
def yX7_isOfOne : MethodName := ⟨RX7, "isOfOne", "(I)Z"⟩
abbrev cX7_ofOne : ByteArray := prog_9_method_7_code
def yX7_ofOne : MethodName := ⟨RX7, "ofOne", "(II)I"⟩
abbrev cX7_ofTwo : ByteArray := prog_9_method_8_code
def yX7_ofTwo : MethodName := ⟨RX7, "ofTwo", "(III)I"⟩
def RX8 : String := "FortyStems$Trial"
def TX8 : u_T := fun k => match k with
  | 0 => ("FortyStems$Trial", "hand", "LFortyStems$Hand;", true)
  | 1 => ("FortyStems$Trial", "moment", "LFortyStems$Moment;", true)
  | 2 => ("FortyStems$Trial", "left", "[I", true)
  | 3 => ("FortyStems$Trial", "lying", "[I", true)
  | 4 => ("FortyStems$Trial", "stems", "I", false)
  | 5 => ("FortyStems$Trial", "angle", "I", false)
  | 6 => ("FortyStems$Trial", "room", "I", false)
  | _ => ("FortyStems$Trial", "touching", "I", false)
def tyX8 : Nat → FieldType := fun k => match k with
  | 0 => .object "FortyStems$Hand"
  | 1 => .object "FortyStems$Moment"
  | 2 => .array .int
  | 3 => .array .int
  | 4 => .int
  | 5 => .int
  | 6 => .int
  | _ => .int
theorem nmX8 : ∀ a, a < 8 → ∀ b, b < 8 → a ≠ b → (TX8 a).2.1 ≠ (TX8 b).2.1 := by decide +kernel
theorem tyX8_ok : ∀ k, k < 8 → parseFieldDescriptor (TX8 k).2.2.1 = some (tyX8 k) := by decide +kernel
abbrev cX8_init : ByteArray := prog_10_method_1_code
def yX8_init : MethodName := ⟨RX8, "<init>", "(LFortyStems$Hand;LFortyStems$Moment;)V"⟩
abbrev cX8_start : ByteArray := prog_10_method_2_code
def yX8_start : MethodName := ⟨RX8, "start", "()V"⟩
abbrev cX8_lyingAt : ByteArray := prog_10_method_3_code
def yX8_lyingAt : MethodName := ⟨RX8, "lyingAt", "(II)I"⟩
abbrev cX8_change : ByteArray := prog_10_method_4_code
def yX8_change : MethodName := ⟨RX8, "change", "(III)V"⟩
abbrev cX8_neighbours : ByteArray := prog_10_method_5_code
def yX8_neighbours : MethodName := ⟨RX8, "neighbours", "(II)I"⟩
abbrev cX8_canBe : ByteArray := prog_10_method_6_code
def yX8_canBe : MethodName := ⟨RX8, "canBe", "(I)Z"⟩
abbrev cX8_angleOf : ByteArray := prog_10_method_7_code
def yX8_angleOf : MethodName := ⟨RX8, "angleOf", "(I)I"⟩
abbrev cX8_touchingWith : ByteArray := prog_10_method_8_code
def yX8_touchingWith : MethodName := ⟨RX8, "touchingWith", "(I)I"⟩
abbrev cX8_touchedBy : ByteArray := prog_10_method_9_code
def yX8_touchedBy : MethodName := ⟨RX8, "touchedBy", "(I)I"⟩
abbrev cX8_put : ByteArray := prog_10_method_10_code
def yX8_put : MethodName := ⟨RX8, "put", "(I)V"⟩
abbrev cX8_putBack : ByteArray := prog_10_method_11_code
def yX8_putBack : MethodName := ⟨RX8, "putBack", "(II)V"⟩
def RX9 : String := "FortyStems"
def TX9 : u_T := fun k => match k with
  | 0 => ("FortyStems", "now", "LFortyStems$Hand;", true)
  | 1 => ("FortyStems", "kept", "LFortyStems$Hand;", true)
  | 2 => ("FortyStems", "isKept", "Z", false)
  | 3 => ("FortyStems", "tape", "LFortyStems$Tape;", true)
  | 4 => ("FortyStems", "texts", "LFortyStems$Texts;", true)
  | 5 => ("FortyStems", "reader", "LFortyStems$Reader;", true)
  | 6 => ("FortyStems", "moment", "LFortyStems$Moment;", true)
  | 7 => ("FortyStems", "trial", "LFortyStems$Trial;", true)
  | 8 => ("FortyStems", "orders", "LFortyStems$Orders;", true)
  | _ => ("FortyStems", "sheets", "LFortyStems$Sheets;", true)
def tyX9 : Nat → FieldType := fun k => match k with
  | 0 => .object "FortyStems$Hand"
  | 1 => .object "FortyStems$Hand"
  | 2 => .boolean
  | 3 => .object "FortyStems$Tape"
  | 4 => .object "FortyStems$Texts"
  | 5 => .object "FortyStems$Reader"
  | 6 => .object "FortyStems$Moment"
  | 7 => .object "FortyStems$Trial"
  | 8 => .object "FortyStems$Orders"
  | _ => .object "FortyStems$Sheets"
theorem nmX9 : ∀ a, a < 10 → ∀ b, b < 10 → a ≠ b → (TX9 a).2.1 ≠ (TX9 b).2.1 := by decide +kernel
theorem tyX9_ok : ∀ k, k < 10 → parseFieldDescriptor (TX9 k).2.2.1 = some (tyX9 k) := by decide +kernel
abbrev cX9_init : ByteArray := prog_1_method_1_code
def yX9_init : MethodName := ⟨RX9, "<init>", "()V"⟩
abbrev cX9_set : ByteArray := prog_1_method_2_code
def yX9_set : MethodName := ⟨RX9, "set", "(III)I"⟩
abbrev cX9_mostOf : ByteArray := prog_1_method_3_code
def yX9_mostOf : MethodName := ⟨RX9, "mostOf", "(I)I"⟩
abbrev cX9_flower : ByteArray := prog_1_method_4_code
def yX9_flower : MethodName := ⟨RX9, "flower", "(II)I"⟩
abbrev cX9_told : ByteArray := prog_1_method_5_code
def yX9_told : MethodName := ⟨RX9, "told", "(II)I"⟩
abbrev cX9_feed : ByteArray := prog_1_method_6_code
def yX9_feed : MethodName := ⟨RX9, "feed", "(I)I"⟩
abbrev cX9_text : ByteArray := prog_1_method_7_code
def yX9_text : MethodName := ⟨RX9, "text", "()I"⟩
abbrev cX9_force : ByteArray := prog_1_method_8_code
def yX9_force : MethodName := ⟨RX9, "force", "(I)I"⟩
abbrev cX9_lay : ByteArray := prog_1_method_9_code
def yX9_lay : MethodName := ⟨RX9, "lay", "(I)I"⟩
abbrev cX9_draw : ByteArray := prog_1_method_10_code
def yX9_draw : MethodName := ⟨RX9, "draw", "(I)I"⟩
abbrev cX9_stem : ByteArray := prog_1_method_11_code
def yX9_stem : MethodName := ⟨RX9, "stem", "(II)I"⟩
abbrev cX9_bunch : ByteArray := prog_1_method_12_code
def yX9_bunch : MethodName := ⟨RX9, "bunch", "(I)I"⟩
abbrev cX9_touchingNow : ByteArray := prog_1_method_13_code
def yX9_touchingNow : MethodName := ⟨RX9, "touchingNow", "()I"⟩
abbrev cX9_unevenness : ByteArray := prog_1_method_14_code
def yX9_unevenness : MethodName := ⟨RX9, "unevenness", "()I"⟩
abbrev cX9_costOfAll : ByteArray := prog_1_method_15_code
def yX9_costOfAll : MethodName := ⟨RX9, "costOfAll", "()I"⟩
abbrev cX9_good : ByteArray := prog_1_method_16_code
def yX9_good : MethodName := ⟨RX9, "good", "(I)I"⟩
abbrev cX9_next : ByteArray := prog_1_method_17_code
def yX9_next : MethodName := ⟨RX9, "next", "(I)I"⟩
abbrev cX9_howMany : ByteArray := prog_1_method_18_code
def yX9_howMany : MethodName := ⟨RX9, "howMany", "(I)I"⟩
abbrev cX9_order : ByteArray := prog_1_method_19_code
def yX9_order : MethodName := ⟨RX9, "order", "(II)I"⟩
abbrev cX9_forMoney : ByteArray := prog_1_method_20_code
def yX9_forMoney : MethodName := ⟨RX9, "forMoney", "(I)I"⟩
abbrev cX9_cheapestBut : ByteArray := prog_1_method_21_code
def yX9_cheapestBut : MethodName := ⟨RX9, "cheapestBut", "(I)I"⟩
abbrev cX9_worst : ByteArray := prog_1_method_22_code
def yX9_worst : MethodName := ⟨RX9, "worst", "(I)I"⟩
abbrev cX9_tells : ByteArray := prog_1_method_23_code
def yX9_tells : MethodName := ⟨RX9, "tells", "(III)I"⟩
abbrev cX9_agreeing : ByteArray := prog_1_method_24_code
def yX9_agreeing : MethodName := ⟨RX9, "agreeing", "(III)I"⟩
abbrev cX9_choicesOf : ByteArray := prog_1_method_25_code
def yX9_choicesOf : MethodName := ⟨RX9, "choicesOf", "(I)I"⟩
abbrev cX9_firstOtherwise : ByteArray := prog_1_method_26_code
def yX9_firstOtherwise : MethodName := ⟨RX9, "firstOtherwise", "(I)I"⟩
abbrev cX9_film : ByteArray := prog_1_method_27_code
def yX9_film : MethodName := ⟨RX9, "film", "(III)I"⟩
abbrev cX9_drawn : ByteArray := prog_1_method_28_code
def yX9_drawn : MethodName := ⟨RX9, "drawn", "(II)I"⟩
abbrev cX9_touchingDrawn : ByteArray := prog_1_method_29_code
def yX9_touchingDrawn : MethodName := ⟨RX9, "touchingDrawn", "(II)I"⟩
abbrev cX9_chance : ByteArray := prog_1_method_30_code
def yX9_chance : MethodName := ⟨RX9, "chance", "(IIII)J"⟩
abbrev cX9_commonDivisor : ByteArray := prog_1_method_31_code
def yX9_commonDivisor : MethodName := ⟨RX9, "commonDivisor", "(II)I"⟩
abbrev cX9_image : ByteArray := prog_1_method_32_code
def yX9_image : MethodName := ⟨RX9, "image", "()I"⟩
abbrev cX9_back : ByteArray := prog_1_method_33_code
def yX9_back : MethodName := ⟨RX9, "back", "()I"⟩
abbrev cX9_count : ByteArray := prog_1_method_34_code
def yX9_count : MethodName := ⟨RX9, "count", "(I)I"⟩
abbrev cX9_sheet : ByteArray := prog_1_method_35_code
def yX9_sheet : MethodName := ⟨RX9, "sheet", "(III)I"⟩
abbrev cX9_cell : ByteArray := prog_1_method_36_code
def yX9_cell : MethodName := ⟨RX9, "cell", "(III)I"⟩
abbrev cX9_copy : ByteArray := prog_1_method_37_code
def yX9_copy : MethodName := ⟨RX9, "copy", "(IIIII)I"⟩
abbrev cX9_flowers : ByteArray := prog_1_method_38_code
def yX9_flowers : MethodName := ⟨RX9, "flowers", "(IIII)I"⟩
abbrev cX9_taken : ByteArray := prog_1_method_39_code
def yX9_taken : MethodName := ⟨RX9, "taken", "(II)I"⟩
def RX10 : String := "FortyStemsModel"
def TX10 : u_T := fun k => match k with
  | 0 => ("FortyStemsModel", "thrown", "I", false)
  | 1 => ("FortyStemsModel", "texts", "[I", true)
  | 2 => ("FortyStemsModel", "textSize", "[I", true)
  | 3 => ("FortyStemsModel", "textCount", "I", false)
  | 4 => ("FortyStemsModel", "rule", "I", false)
  | 5 => ("FortyStemsModel", "tape", "[I", true)
  | 6 => ("FortyStemsModel", "taped", "I", false)
  | 7 => ("FortyStemsModel", "hand", "I", false)
  | 8 => ("FortyStemsModel", "beginAt", "I", false)
  | 9 => ("FortyStemsModel", "kinds", "[I", true)
  | 10 => ("FortyStemsModel", "rows", "[I", true)
  | 11 => ("FortyStemsModel", "many", "I", false)
  | 12 => ("FortyStemsModel", "flowerOf", "[I", true)
  | 13 => ("FortyStemsModel", "angleOf", "[I", true)
  | 14 => ("FortyStemsModel", "stemMany", "I", false)
  | 15 => ("FortyStemsModel", "ofStem", "I", false)
  | 16 => ("FortyStemsModel", "ofColour", "I", false)
  | 17 => ("FortyStemsModel", "ofNumber", "I", false)
  | 18 => ("FortyStemsModel", "ofAngle", "I", false)
  | 19 => ("FortyStemsModel", "ofLeft", "I", false)
  | 20 => ("FortyStemsModel", "ofRoom", "I", false)
  | 21 => ("FortyStemsModel", "from", "I", false)
  | 22 => ("FortyStemsModel", "size", "I", false)
  | 23 => ("FortyStemsModel", "here", "I", false)
  | 24 => ("FortyStemsModel", "token", "I", false)
  | 25 => ("FortyStemsModel", "tokenAt", "I", false)
  | 26 => ("FortyStemsModel", "tokenWorth", "J", false)
  | 27 => ("FortyStemsModel", "open", "I", false)
  | 28 => ("FortyStemsModel", "bad", "Z", false)
  | 29 => ("FortyStemsModel", "fault", "I", false)
  | 30 => ("FortyStemsModel", "bestTouching", "I", false)
  | 31 => ("FortyStemsModel", "bestDigits", "I", false)
  | 32 => ("FortyStemsModel", "prices", "[I", true)
  | 33 => ("FortyStemsModel", "anglesThen", "[I", true)
  | 34 => ("FortyStemsModel", "rowsKept", "[I", true)
  | 35 => ("FortyStemsModel", "flowersKept", "[I", true)
  | 36 => ("FortyStemsModel", "anglesKept", "[I", true)
  | 37 => ("FortyStemsModel", "manyKept", "I", false)
  | 38 => ("FortyStemsModel", "handKept", "I", false)
  | 39 => ("FortyStemsModel", "beginKept", "I", false)
  | 40 => ("FortyStemsModel", "stemsKept", "I", false)
  | 41 => ("FortyStemsModel", "ruleKept", "I", false)
  | 42 => ("FortyStemsModel", "isThere", "[Z", true)
  | 43 => ("FortyStemsModel", "sorts", "[I", true)
  | 44 => ("FortyStemsModel", "sheetSize", "[I", true)
  | _ => ("FortyStemsModel", "items", "[I", true)
def tyX10 : Nat → FieldType := fun k => match k with
  | 0 => .int
  | 1 => .array .int
  | 2 => .array .int
  | 3 => .int
  | 4 => .int
  | 5 => .array .int
  | 6 => .int
  | 7 => .int
  | 8 => .int
  | 9 => .array .int
  | 10 => .array .int
  | 11 => .int
  | 12 => .array .int
  | 13 => .array .int
  | 14 => .int
  | 15 => .int
  | 16 => .int
  | 17 => .int
  | 18 => .int
  | 19 => .int
  | 20 => .int
  | 21 => .int
  | 22 => .int
  | 23 => .int
  | 24 => .int
  | 25 => .int
  | 26 => .long
  | 27 => .int
  | 28 => .boolean
  | 29 => .int
  | 30 => .int
  | 31 => .int
  | 32 => .array .int
  | 33 => .array .int
  | 34 => .array .int
  | 35 => .array .int
  | 36 => .array .int
  | 37 => .int
  | 38 => .int
  | 39 => .int
  | 40 => .int
  | 41 => .int
  | 42 => .array .boolean
  | 43 => .array .int
  | 44 => .array .int
  | _ => .array .int
theorem nmX10 : ∀ a, a < 46 → ∀ b, b < 46 → a ≠ b → (TX10 a).2.1 ≠ (TX10 b).2.1 := by decide +kernel
theorem tyX10_ok : ∀ k, k < 46 → parseFieldDescriptor (TX10 k).2.2.1 = some (tyX10 k) := by decide +kernel
abbrev cX10_in : ByteArray := prog_12_method_2_code
def yX10_in : MethodName := ⟨RX10, "in", "(JJJ)Z"⟩
abbrev cX10_within : ByteArray := prog_12_method_3_code
def yX10_within : MethodName := ⟨RX10, "within", "(III)I"⟩
abbrev cX10_init : ByteArray := prog_12_method_4_code
def yX10_init : MethodName := ⟨RX10, "<init>", "()V"⟩
abbrev cX10_spell : ByteArray := prog_12_method_5_code
def yX10_spell : MethodName := ⟨RX10, "spell", "(IIIIIIIII)V"⟩
abbrev cX10_isFlower : ByteArray := prog_12_method_6_code
def yX10_isFlower : MethodName := ⟨RX10, "isFlower", "(I)Z"⟩
abbrev cX10_mostOf : ByteArray := prog_12_method_7_code
def yX10_mostOf : MethodName := ⟨RX10, "mostOf", "(I)I"⟩
abbrev cX10_set : ByteArray := prog_12_method_8_code
def yX10_set : MethodName := ⟨RX10, "set", "(III)I"⟩
abbrev cX10_lays : ByteArray := prog_12_method_9_code
def yX10_lays : MethodName := ⟨RX10, "lays", "(III)V"⟩
abbrev cX10_flower : ByteArray := prog_12_method_10_code
def yX10_flower : MethodName := ⟨RX10, "flower", "(II)I"⟩
abbrev cX10_told : ByteArray := prog_12_method_11_code
def yX10_told : MethodName := ⟨RX10, "told", "(II)I"⟩
abbrev cX10_thickOf : ByteArray := prog_12_method_12_code
def yX10_thickOf : MethodName := ⟨RX10, "thickOf", "(I)I"⟩
abbrev cX10_feed : ByteArray := prog_12_method_13_code
def yX10_feed : MethodName := ⟨RX10, "feed", "(I)I"⟩
abbrev cX10_byteAt : ByteArray := prog_12_method_14_code
def yX10_byteAt : MethodName := ⟨RX10, "byteAt", "(I)I"⟩
abbrev cX10_nextToken : ByteArray := prog_12_method_15_code
def yX10_nextToken : MethodName := ⟨RX10, "nextToken", "()V"⟩
abbrev cX10_fail : ByteArray := prog_12_method_16_code
def yX10_fail : MethodName := ⟨RX10, "fail", "()V"⟩
abbrev cX10_isLetter : ByteArray := prog_12_method_17_code
def yX10_isLetter : MethodName := ⟨RX10, "isLetter", "(II)Z"⟩
abbrev cX10_isWord : ByteArray := prog_12_method_18_code
def yX10_isWord : MethodName := ⟨RX10, "isWord", "(IIIIIIII)Z"⟩
abbrev cX10_isSign : ByteArray := prog_12_method_19_code
def yX10_isSign : MethodName := ⟨RX10, "isSign", "(I)Z"⟩
abbrev cX10_opens : ByteArray := prog_12_method_20_code
def yX10_opens : MethodName := ⟨RX10, "opens", "()Z"⟩
abbrev cX10_name : ByteArray := prog_12_method_21_code
def yX10_name : MethodName := ⟨RX10, "name", "()I"⟩
abbrev cX10_atom : ByteArray := prog_12_method_22_code
def yX10_atom : MethodName := ⟨RX10, "atom", "()I"⟩
abbrev cX10_term : ByteArray := prog_12_method_23_code
def yX10_term : MethodName := ⟨RX10, "term", "()I"⟩
abbrev cX10_added : ByteArray := prog_12_method_24_code
def yX10_added : MethodName := ⟨RX10, "added", "()I"⟩
abbrev cX10_not : ByteArray := prog_12_method_25_code
def yX10_not : MethodName := ⟨RX10, "not", "()I"⟩
abbrev cX10_both : ByteArray := prog_12_method_26_code
def yX10_both : MethodName := ⟨RX10, "both", "()I"⟩
abbrev cX10_either : ByteArray := prog_12_method_27_code
def yX10_either : MethodName := ⟨RX10, "either", "()I"⟩
abbrev cX10_part : ByteArray := prog_12_method_28_code
def yX10_part : MethodName := ⟨RX10, "part", "(Z)I"⟩
abbrev cX10_read : ByteArray := prog_12_method_29_code
def yX10_read : MethodName := ⟨RX10, "read", "(II)I"⟩
abbrev cX10_text : ByteArray := prog_12_method_30_code
def yX10_text : MethodName := ⟨RX10, "text", "()I"⟩
abbrev cX10_force : ByteArray := prog_12_method_31_code
def yX10_force : MethodName := ⟨RX10, "force", "(I)I"⟩
abbrev cX10_roomNow : ByteArray := prog_12_method_32_code
def yX10_roomNow : MethodName := ⟨RX10, "roomNow", "()I"⟩
abbrev cX10_lastAngle : ByteArray := prog_12_method_33_code
def yX10_lastAngle : MethodName := ⟨RX10, "lastAngle", "()I"⟩
abbrev cX10_looks : ByteArray := prog_12_method_34_code
def yX10_looks : MethodName := ⟨RX10, "looks", "(I)V"⟩
abbrev cX10_turnsOf : ByteArray := prog_12_method_35_code
def yX10_turnsOf : MethodName := ⟨RX10, "turnsOf", "(I)I"⟩
abbrev cX10_costsOf : ByteArray := prog_12_method_36_code
def yX10_costsOf : MethodName := ⟨RX10, "costsOf", "(I)I"⟩
abbrev cX10_lastsOf : ByteArray := prog_12_method_37_code
def yX10_lastsOf : MethodName := ⟨RX10, "lastsOf", "(I)I"⟩
abbrev cX10_round : ByteArray := prog_12_method_38_code
def yX10_round : MethodName := ⟨RX10, "round", "(I)I"⟩
abbrev cX10_isRoom : ByteArray := prog_12_method_39_code
def yX10_isRoom : MethodName := ⟨RX10, "isRoom", "(I)Z"⟩
abbrev cX10_canLay : ByteArray := prog_12_method_40_code
def yX10_canLay : MethodName := ⟨RX10, "canLay", "(I)Z"⟩
abbrev cX10_puts : ByteArray := prog_12_method_41_code
def yX10_puts : MethodName := ⟨RX10, "puts", "(I)V"⟩
abbrev cX10_takesOff : ByteArray := prog_12_method_42_code
def yX10_takesOff : MethodName := ⟨RX10, "takesOff", "()V"⟩
abbrev cX10_lay : ByteArray := prog_12_method_43_code
def yX10_lay : MethodName := ⟨RX10, "lay", "(I)I"⟩
abbrev cX10_draw : ByteArray := prog_12_method_44_code
def yX10_draw : MethodName := ⟨RX10, "draw", "(I)I"⟩
abbrev cX10_stem : ByteArray := prog_12_method_45_code
def yX10_stem : MethodName := ⟨RX10, "stem", "(II)I"⟩
abbrev cX10_touch : ByteArray := prog_12_method_46_code
def yX10_touch : MethodName := ⟨RX10, "touch", "(II)Z"⟩
abbrev cX10_touching : ByteArray := prog_12_method_47_code
def yX10_touching : MethodName := ⟨RX10, "touching", "(I)I"⟩
abbrev cX10_quarter : ByteArray := prog_12_method_48_code
def yX10_quarter : MethodName := ⟨RX10, "quarter", "(I)I"⟩
abbrev cX10_even : ByteArray := prog_12_method_49_code
def yX10_even : MethodName := ⟨RX10, "even", "()I"⟩
abbrev cX10_cost : ByteArray := prog_12_method_50_code
def yX10_cost : MethodName := ⟨RX10, "cost", "()I"⟩
abbrev cX10_ofColours : ByteArray := prog_12_method_51_code
def yX10_ofColours : MethodName := ⟨RX10, "ofColours", "(I)I"⟩
abbrev cX10_bunch : ByteArray := prog_12_method_52_code
def yX10_bunch : MethodName := ⟨RX10, "bunch", "(I)I"⟩
abbrev cX10_good : ByteArray := prog_12_method_53_code
def yX10_good : MethodName := ⟨RX10, "good", "(I)I"⟩
abbrev cX10_next : ByteArray := prog_12_method_54_code
def yX10_next : MethodName := ⟨RX10, "next", "(I)I"⟩
abbrev cX10_howMany : ByteArray := prog_12_method_55_code
def yX10_howMany : MethodName := ⟨RX10, "howMany", "(I)I"⟩
abbrev cX10_seeks : ByteArray := prog_12_method_56_code
def yX10_seeks : MethodName := ⟨RX10, "seeks", "(III)V"⟩
abbrev cX10_isOrder : ByteArray := prog_12_method_57_code
def yX10_isOrder : MethodName := ⟨RX10, "isOrder", "(I)Z"⟩
abbrev cX10_order : ByteArray := prog_12_method_58_code
def yX10_order : MethodName := ⟨RX10, "order", "(II)I"⟩
abbrev cX10_forMoney : ByteArray := prog_12_method_59_code
def yX10_forMoney : MethodName := ⟨RX10, "forMoney", "(I)I"⟩
abbrev cX10_worst : ByteArray := prog_12_method_60_code
def yX10_worst : MethodName := ⟨RX10, "worst", "(I)I"⟩
abbrev cX10_turnsFrom : ByteArray := prog_12_method_61_code
def yX10_turnsFrom : MethodName := ⟨RX10, "turnsFrom", "(II)V"⟩
abbrev cX10_firstOther : ByteArray := prog_12_method_62_code
def yX10_firstOther : MethodName := ⟨RX10, "firstOther", "(II)I"⟩
abbrev cX10_tells : ByteArray := prog_12_method_63_code
def yX10_tells : MethodName := ⟨RX10, "tells", "(III)I"⟩
abbrev cX10_film : ByteArray := prog_12_method_64_code
def yX10_film : MethodName := ⟨RX10, "film", "(III)I"⟩
abbrev cX10_draws : ByteArray := prog_12_method_65_code
def yX10_draws : MethodName := ⟨RX10, "draws", "(II)I"⟩
abbrev cX10_drawn : ByteArray := prog_12_method_66_code
def yX10_drawn : MethodName := ⟨RX10, "drawn", "(II)I"⟩
abbrev cX10_chance : ByteArray := prog_12_method_67_code
def yX10_chance : MethodName := ⟨RX10, "chance", "(IIII)J"⟩
abbrev cX10_image : ByteArray := prog_12_method_68_code
def yX10_image : MethodName := ⟨RX10, "image", "()I"⟩
abbrev cX10_back : ByteArray := prog_12_method_69_code
def yX10_back : MethodName := ⟨RX10, "back", "()I"⟩
abbrev cX10_count : ByteArray := prog_12_method_70_code
def yX10_count : MethodName := ⟨RX10, "count", "(I)I"⟩
abbrev cX10_isSheet : ByteArray := prog_12_method_71_code
def yX10_isSheet : MethodName := ⟨RX10, "isSheet", "(I)Z"⟩
abbrev cX10_sheet : ByteArray := prog_12_method_72_code
def yX10_sheet : MethodName := ⟨RX10, "sheet", "(III)I"⟩
abbrev cX10_cell : ByteArray := prog_12_method_73_code
def yX10_cell : MethodName := ⟨RX10, "cell", "(III)I"⟩
abbrev cX10_copy : ByteArray := prog_12_method_74_code
def yX10_copy : MethodName := ⟨RX10, "copy", "(IIIII)I"⟩
abbrev cX10_flowers : ByteArray := prog_12_method_75_code
def yX10_flowers : MethodName := ⟨RX10, "flowers", "(IIII)I"⟩
abbrev cX10_over : ByteArray := prog_12_method_76_code
def yX10_over : MethodName := ⟨RX10, "over", "(I)I"⟩
abbrev cX10_taken : ByteArray := prog_12_method_77_code
def yX10_taken : MethodName := ⟨RX10, "taken", "(II)I"⟩
def RJ9 : String := "java/lang/Math"
abbrev cJ9_floorMod_7cf53 : ByteArray := prog_13_method_50_code
def yJ9_floorMod_7cf53 : MethodName := ⟨RJ9, "floorMod", "(II)I"⟩
abbrev cJ9_max_7cf53 : ByteArray := prog_13_method_65_code
def yJ9_max_7cf53 : MethodName := ⟨RJ9, "max", "(II)I"⟩
abbrev cJ9_min_7cf53 : ByteArray := prog_13_method_69_code
def yJ9_min_7cf53 : MethodName := ⟨RJ9, "min", "(II)I"⟩
def RJ0 : String := "java/lang/String"
abbrev cJ0_length_8abf5 : ByteArray := prog_14_method_54_code
def yJ0_length_8abf5 : MethodName := ⟨RJ0, "length", "()I"⟩
abbrev cJ0_charAt_5068e : ByteArray := prog_14_method_56_code
def yJ0_charAt_5068e : MethodName := ⟨RJ0, "charAt", "(I)C"⟩
abbrev cJ0_coder_7d493 : ByteArray := prog_14_method_152_code
def yJ0_coder_7d493 : MethodName := ⟨RJ0, "coder", "()B"⟩
abbrev cJ0_isLatin1_aae02 : ByteArray := prog_14_method_154_code
def yJ0_isLatin1_aae02 : MethodName := ⟨RJ0, "isLatin1", "()Z"⟩
abbrev cJ0_checkIndex_df160 : ByteArray := prog_14_method_155_code
def yJ0_checkIndex_df160 : MethodName := ⟨RJ0, "checkIndex", "(II)V"⟩
def RJ1 : String := "java/lang/StringLatin1"
abbrev cJ1_charAt_3b067 : ByteArray := prog_15_method_2_code
def yJ1_charAt_3b067 : MethodName := ⟨RJ1, "charAt", "([BI)C"⟩
def RJ2 : String := "java/lang/StringUTF16"
abbrev cJ2_getChar_3b067 : ByteArray := prog_16_method_5_code
def yJ2_getChar_3b067 : MethodName := ⟨RJ2, "getChar", "([BI)C"⟩
abbrev cJ2_length_9d52b : ByteArray := prog_16_method_6_code
def yJ2_length_9d52b : MethodName := ⟨RJ2, "length", "([B)I"⟩
abbrev cJ2_charAt_3b067 : ByteArray := prog_16_method_83_code
def yJ2_charAt_3b067 : MethodName := ⟨RJ2, "charAt", "([BI)C"⟩
abbrev cJ2_checkIndex_2214a : ByteArray := prog_16_method_91_code
def yJ2_checkIndex_2214a : MethodName := ⟨RJ2, "checkIndex", "(I[B)V"⟩
def RJ10 : String := "java/lang/System"
def RJ3 : String := "jdk/internal/util/Preconditions"
abbrev cJ3_checkIndex_8e157 : ByteArray := prog_18_method_11_code
def yJ3_checkIndex_8e157 : MethodName := ⟨RJ3, "checkIndex", "(IILjava/util/function/BiFunction;)I"⟩
