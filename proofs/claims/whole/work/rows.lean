section
-- ===== PART A: goes FIRST, ahead of the names: the tables' words, and 'selects' of the private methods out of them =====
/-- a private method of a class that the tables say can be made, by its rows of tables_1 -/
def lw_okq (q : MethodName × Nat) : Prop := (q.1.cls ≠ "java/lang/invoke/MethodHandle" ∧ q.1.cls ≠ "java/lang/invoke/VarHandle") ∧ Cond.instantiable q.1.cls q.2 ∈ tables_1 ∧ Cond.privateMethod q.1 ∈ tables_1 ∧ Cond.instanceMethod q.1 ∈ tables_1
theorem lw_p0 : lw_okq (⟨"FortyStems$Hand", "hasFlower", "(I)Z"⟩, 11) := ⟨⟨by decide +kernel, by decide +kernel⟩, List.mem_of_getElem? (i := 27) (by decide +kernel), List.mem_of_getElem? (i := 296) (by decide +kernel), List.mem_of_getElem? (i := 297) (by decide +kernel)⟩
theorem lw_p1 : lw_okq (⟨"FortyStems$Hand", "settingOf", "(II)I"⟩, 11) := ⟨⟨by decide +kernel, by decide +kernel⟩, List.mem_of_getElem? (i := 27) (by decide +kernel), List.mem_of_getElem? (i := 300) (by decide +kernel), List.mem_of_getElem? (i := 301) (by decide +kernel)⟩
theorem lw_p2 : lw_okq (⟨"FortyStems$Hand", "change", "(III)V"⟩, 11) := ⟨⟨by decide +kernel, by decide +kernel⟩, List.mem_of_getElem? (i := 27) (by decide +kernel), List.mem_of_getElem? (i := 305) (by decide +kernel), List.mem_of_getElem? (i := 306) (by decide +kernel)⟩
theorem lw_p3 : lw_okq (⟨"FortyStems$Hand", "addFlower", "(II)I"⟩, 11) := ⟨⟨by decide +kernel, by decide +kernel⟩, List.mem_of_getElem? (i := 27) (by decide +kernel), List.mem_of_getElem? (i := 313) (by decide +kernel), List.mem_of_getElem? (i := 314) (by decide +kernel)⟩
theorem lw_p4 : lw_okq (⟨"FortyStems$Moment", "asNow", "(LFortyStems$Hand;I)V"⟩, 4) := ⟨⟨by decide +kernel, by decide +kernel⟩, List.mem_of_getElem? (i := 161) (by decide +kernel), List.mem_of_getElem? (i := 324) (by decide +kernel), List.mem_of_getElem? (i := 325) (by decide +kernel)⟩
theorem lw_p5 : lw_okq (⟨"FortyStems$Moment", "inEmptyHand", "(LFortyStems$Hand;I)V"⟩, 4) := ⟨⟨by decide +kernel, by decide +kernel⟩, List.mem_of_getElem? (i := 161) (by decide +kernel), List.mem_of_getElem? (i := 328) (by decide +kernel), List.mem_of_getElem? (i := 329) (by decide +kernel)⟩
theorem lw_p6 : lw_okq (⟨"FortyStems$Hand", "lastAngle", "()I"⟩, 11) := ⟨⟨by decide +kernel, by decide +kernel⟩, List.mem_of_getElem? (i := 27) (by decide +kernel), List.mem_of_getElem? (i := 333) (by decide +kernel), List.mem_of_getElem? (i := 334) (by decide +kernel)⟩
theorem lw_p7 : lw_okq (⟨"FortyStems$Hand", "roomLeft", "()I"⟩, 11) := ⟨⟨by decide +kernel, by decide +kernel⟩, List.mem_of_getElem? (i := 27) (by decide +kernel), List.mem_of_getElem? (i := 337) (by decide +kernel), List.mem_of_getElem? (i := 338) (by decide +kernel)⟩
theorem lw_p8 : lw_okq (⟨"FortyStems$Hand", "thickOf", "(I)I"⟩, 11) := ⟨⟨by decide +kernel, by decide +kernel⟩, List.mem_of_getElem? (i := 27) (by decide +kernel), List.mem_of_getElem? (i := 341) (by decide +kernel), List.mem_of_getElem? (i := 342) (by decide +kernel)⟩
theorem lw_p9 : lw_okq (⟨"FortyStems$Moment", "thick", "()I"⟩, 4) := ⟨⟨by decide +kernel, by decide +kernel⟩, List.mem_of_getElem? (i := 161) (by decide +kernel), List.mem_of_getElem? (i := 348) (by decide +kernel), List.mem_of_getElem? (i := 349) (by decide +kernel)⟩
theorem lw_p10 : lw_okq (⟨"FortyStems$Moment", "turns", "()I"⟩, 4) := ⟨⟨by decide +kernel, by decide +kernel⟩, List.mem_of_getElem? (i := 161) (by decide +kernel), List.mem_of_getElem? (i := 353) (by decide +kernel), List.mem_of_getElem? (i := 354) (by decide +kernel)⟩
theorem lw_p11 : lw_okq (⟨"FortyStems$Texts", "valueOf", "(II[I)I"⟩, 4) := ⟨⟨by decide +kernel, by decide +kernel⟩, List.mem_of_getElem? (i := 103) (by decide +kernel), List.mem_of_getElem? (i := 357) (by decide +kernel), List.mem_of_getElem? (i := 358) (by decide +kernel)⟩
theorem lw_p12 : lw_okq (⟨"FortyStems$Texts", "has", "(I)Z"⟩, 4) := ⟨⟨by decide +kernel, by decide +kernel⟩, List.mem_of_getElem? (i := 103) (by decide +kernel), List.mem_of_getElem? (i := 361) (by decide +kernel), List.mem_of_getElem? (i := 362) (by decide +kernel)⟩
theorem lw_p13 : lw_okq (⟨"FortyStems$Moment", "costs", "()I"⟩, 4) := ⟨⟨by decide +kernel, by decide +kernel⟩, List.mem_of_getElem? (i := 161) (by decide +kernel), List.mem_of_getElem? (i := 388) (by decide +kernel), List.mem_of_getElem? (i := 389) (by decide +kernel)⟩
theorem lw_p14 : lw_okq (⟨"FortyStems$Moment", "lasts", "()I"⟩, 4) := ⟨⟨by decide +kernel, by decide +kernel⟩, List.mem_of_getElem? (i := 161) (by decide +kernel), List.mem_of_getElem? (i := 396) (by decide +kernel), List.mem_of_getElem? (i := 397) (by decide +kernel)⟩
theorem lw_p15 : lw_okq (⟨"FortyStems$Tape", "add", "(I)Z"⟩, 2) := ⟨⟨by decide +kernel, by decide +kernel⟩, List.mem_of_getElem? (i := 89) (by decide +kernel), List.mem_of_getElem? (i := 407) (by decide +kernel), List.mem_of_getElem? (i := 408) (by decide +kernel)⟩
def lw_privs_1 : List (MethodName × Nat) := [(⟨"FortyStems$Hand", "hasFlower", "(I)Z"⟩, 11), (⟨"FortyStems$Hand", "settingOf", "(II)I"⟩, 11), (⟨"FortyStems$Hand", "change", "(III)V"⟩, 11), (⟨"FortyStems$Hand", "addFlower", "(II)I"⟩, 11), (⟨"FortyStems$Moment", "asNow", "(LFortyStems$Hand;I)V"⟩, 4), (⟨"FortyStems$Moment", "inEmptyHand", "(LFortyStems$Hand;I)V"⟩, 4), (⟨"FortyStems$Hand", "lastAngle", "()I"⟩, 11), (⟨"FortyStems$Hand", "roomLeft", "()I"⟩, 11), (⟨"FortyStems$Hand", "thickOf", "(I)I"⟩, 11), (⟨"FortyStems$Moment", "thick", "()I"⟩, 4), (⟨"FortyStems$Moment", "turns", "()I"⟩, 4), (⟨"FortyStems$Texts", "valueOf", "(II[I)I"⟩, 4), (⟨"FortyStems$Texts", "has", "(I)Z"⟩, 4), (⟨"FortyStems$Moment", "costs", "()I"⟩, 4), (⟨"FortyStems$Moment", "lasts", "()I"⟩, 4), (⟨"FortyStems$Tape", "add", "(I)Z"⟩, 2)]
theorem lw_r1 : ∀ q ∈ lw_privs_1, lw_okq q := List.forall_mem_cons.mpr ⟨lw_p0, List.forall_mem_cons.mpr ⟨lw_p1, List.forall_mem_cons.mpr ⟨lw_p2, List.forall_mem_cons.mpr ⟨lw_p3, List.forall_mem_cons.mpr ⟨lw_p4, List.forall_mem_cons.mpr ⟨lw_p5, List.forall_mem_cons.mpr ⟨lw_p6, List.forall_mem_cons.mpr ⟨lw_p7, List.forall_mem_cons.mpr ⟨lw_p8, List.forall_mem_cons.mpr ⟨lw_p9, List.forall_mem_cons.mpr ⟨lw_p10, List.forall_mem_cons.mpr ⟨lw_p11, List.forall_mem_cons.mpr ⟨lw_p12, List.forall_mem_cons.mpr ⟨lw_p13, List.forall_mem_cons.mpr ⟨lw_p14, List.forall_mem_cons.mpr ⟨lw_p15, fun _ h => absurd h List.not_mem_nil⟩⟩⟩⟩⟩⟩⟩⟩⟩⟩⟩⟩⟩⟩⟩⟩
theorem lw_p16 : lw_okq (⟨"FortyStems$Texts", "isFull", "()Z"⟩, 4) := ⟨⟨by decide +kernel, by decide +kernel⟩, List.mem_of_getElem? (i := 103) (by decide +kernel), List.mem_of_getElem? (i := 415) (by decide +kernel), List.mem_of_getElem? (i := 416) (by decide +kernel)⟩
theorem lw_p17 : lw_okq (⟨"FortyStems$Reader", "readTape", "()I"⟩, 9) := ⟨⟨by decide +kernel, by decide +kernel⟩, List.mem_of_getElem? (i := 125) (by decide +kernel), List.mem_of_getElem? (i := 419) (by decide +kernel), List.mem_of_getElem? (i := 420) (by decide +kernel)⟩
theorem lw_p18 : lw_okq (⟨"FortyStems$Reader", "advance", "()V"⟩, 9) := ⟨⟨by decide +kernel, by decide +kernel⟩, List.mem_of_getElem? (i := 125) (by decide +kernel), List.mem_of_getElem? (i := 423) (by decide +kernel), List.mem_of_getElem? (i := 424) (by decide +kernel)⟩
theorem lw_p19 : lw_okq (⟨"FortyStems$Tape", "byteAt", "(I)I"⟩, 2) := ⟨⟨by decide +kernel, by decide +kernel⟩, List.mem_of_getElem? (i := 89) (by decide +kernel), List.mem_of_getElem? (i := 427) (by decide +kernel), List.mem_of_getElem? (i := 428) (by decide +kernel)⟩
theorem lw_p20 : lw_okq (⟨"FortyStems$Reader", "takeWord", "()V"⟩, 9) := ⟨⟨by decide +kernel, by decide +kernel⟩, List.mem_of_getElem? (i := 125) (by decide +kernel), List.mem_of_getElem? (i := 437) (by decide +kernel), List.mem_of_getElem? (i := 438) (by decide +kernel)⟩
theorem lw_p21 : lw_okq (⟨"FortyStems$Reader", "standsAtStart", "(II)Z"⟩, 9) := ⟨⟨by decide +kernel, by decide +kernel⟩, List.mem_of_getElem? (i := 125) (by decide +kernel), List.mem_of_getElem? (i := 490) (by decide +kernel), List.mem_of_getElem? (i := 491) (by decide +kernel)⟩
theorem lw_p22 : lw_okq (⟨"FortyStems$Reader", "fail", "()V"⟩, 9) := ⟨⟨by decide +kernel, by decide +kernel⟩, List.mem_of_getElem? (i := 125) (by decide +kernel), List.mem_of_getElem? (i := 494) (by decide +kernel), List.mem_of_getElem? (i := 495) (by decide +kernel)⟩
theorem lw_p23 : lw_okq (⟨"FortyStems$Reader", "takeNumber", "()V"⟩, 9) := ⟨⟨by decide +kernel, by decide +kernel⟩, List.mem_of_getElem? (i := 125) (by decide +kernel), List.mem_of_getElem? (i := 501) (by decide +kernel), List.mem_of_getElem? (i := 502) (by decide +kernel)⟩
theorem lw_p24 : lw_okq (⟨"FortyStems$Reader", "expect", "(I)V"⟩, 9) := ⟨⟨by decide +kernel, by decide +kernel⟩, List.mem_of_getElem? (i := 125) (by decide +kernel), List.mem_of_getElem? (i := 508) (by decide +kernel), List.mem_of_getElem? (i := 509) (by decide +kernel)⟩
theorem lw_p25 : lw_okq (⟨"FortyStems$Reader", "readOr", "(I)V"⟩, 9) := ⟨⟨by decide +kernel, by decide +kernel⟩, List.mem_of_getElem? (i := 125) (by decide +kernel), List.mem_of_getElem? (i := 512) (by decide +kernel), List.mem_of_getElem? (i := 513) (by decide +kernel)⟩
theorem lw_p26 : lw_okq (⟨"FortyStems$Reader", "readAnd", "(I)V"⟩, 9) := ⟨⟨by decide +kernel, by decide +kernel⟩, List.mem_of_getElem? (i := 125) (by decide +kernel), List.mem_of_getElem? (i := 516) (by decide +kernel), List.mem_of_getElem? (i := 517) (by decide +kernel)⟩
theorem lw_p27 : lw_okq (⟨"FortyStems$Reader", "readNot", "(I)V"⟩, 9) := ⟨⟨by decide +kernel, by decide +kernel⟩, List.mem_of_getElem? (i := 125) (by decide +kernel), List.mem_of_getElem? (i := 520) (by decide +kernel), List.mem_of_getElem? (i := 521) (by decide +kernel)⟩
theorem lw_p28 : lw_okq (⟨"FortyStems$Reader", "make", "(I)V"⟩, 9) := ⟨⟨by decide +kernel, by decide +kernel⟩, List.mem_of_getElem? (i := 125) (by decide +kernel), List.mem_of_getElem? (i := 524) (by decide +kernel), List.mem_of_getElem? (i := 525) (by decide +kernel)⟩
theorem lw_p29 : lw_okq (⟨"FortyStems$Reader", "readSum", "(I)V"⟩, 9) := ⟨⟨by decide +kernel, by decide +kernel⟩, List.mem_of_getElem? (i := 125) (by decide +kernel), List.mem_of_getElem? (i := 528) (by decide +kernel), List.mem_of_getElem? (i := 529) (by decide +kernel)⟩
theorem lw_p30 : lw_okq (⟨"FortyStems$Reader", "readTerm", "(I)V"⟩, 9) := ⟨⟨by decide +kernel, by decide +kernel⟩, List.mem_of_getElem? (i := 125) (by decide +kernel), List.mem_of_getElem? (i := 532) (by decide +kernel), List.mem_of_getElem? (i := 533) (by decide +kernel)⟩
theorem lw_p31 : lw_okq (⟨"FortyStems$Reader", "readOne", "(I)V"⟩, 9) := ⟨⟨by decide +kernel, by decide +kernel⟩, List.mem_of_getElem? (i := 125) (by decide +kernel), List.mem_of_getElem? (i := 536) (by decide +kernel), List.mem_of_getElem? (i := 537) (by decide +kernel)⟩
def lw_privs_2 : List (MethodName × Nat) := [(⟨"FortyStems$Texts", "isFull", "()Z"⟩, 4), (⟨"FortyStems$Reader", "readTape", "()I"⟩, 9), (⟨"FortyStems$Reader", "advance", "()V"⟩, 9), (⟨"FortyStems$Tape", "byteAt", "(I)I"⟩, 2), (⟨"FortyStems$Reader", "takeWord", "()V"⟩, 9), (⟨"FortyStems$Reader", "standsAtStart", "(II)Z"⟩, 9), (⟨"FortyStems$Reader", "fail", "()V"⟩, 9), (⟨"FortyStems$Reader", "takeNumber", "()V"⟩, 9), (⟨"FortyStems$Reader", "expect", "(I)V"⟩, 9), (⟨"FortyStems$Reader", "readOr", "(I)V"⟩, 9), (⟨"FortyStems$Reader", "readAnd", "(I)V"⟩, 9), (⟨"FortyStems$Reader", "readNot", "(I)V"⟩, 9), (⟨"FortyStems$Reader", "make", "(I)V"⟩, 9), (⟨"FortyStems$Reader", "readSum", "(I)V"⟩, 9), (⟨"FortyStems$Reader", "readTerm", "(I)V"⟩, 9), (⟨"FortyStems$Reader", "readOne", "(I)V"⟩, 9)]
theorem lw_r2 : ∀ q ∈ lw_privs_2, lw_okq q := List.forall_mem_cons.mpr ⟨lw_p16, List.forall_mem_cons.mpr ⟨lw_p17, List.forall_mem_cons.mpr ⟨lw_p18, List.forall_mem_cons.mpr ⟨lw_p19, List.forall_mem_cons.mpr ⟨lw_p20, List.forall_mem_cons.mpr ⟨lw_p21, List.forall_mem_cons.mpr ⟨lw_p22, List.forall_mem_cons.mpr ⟨lw_p23, List.forall_mem_cons.mpr ⟨lw_p24, List.forall_mem_cons.mpr ⟨lw_p25, List.forall_mem_cons.mpr ⟨lw_p26, List.forall_mem_cons.mpr ⟨lw_p27, List.forall_mem_cons.mpr ⟨lw_p28, List.forall_mem_cons.mpr ⟨lw_p29, List.forall_mem_cons.mpr ⟨lw_p30, List.forall_mem_cons.mpr ⟨lw_p31, fun _ h => absurd h List.not_mem_nil⟩⟩⟩⟩⟩⟩⟩⟩⟩⟩⟩⟩⟩⟩⟩⟩
theorem lw_p32 : lw_okq (⟨"FortyStems$Tape", "clear", "()V"⟩, 2) := ⟨⟨by decide +kernel, by decide +kernel⟩, List.mem_of_getElem? (i := 89) (by decide +kernel), List.mem_of_getElem? (i := 540) (by decide +kernel), List.mem_of_getElem? (i := 541) (by decide +kernel)⟩
theorem lw_p33 : lw_okq (⟨"FortyStems$Texts", "add", "(LFortyStems$Reader;)I"⟩, 4) := ⟨⟨by decide +kernel, by decide +kernel⟩, List.mem_of_getElem? (i := 103) (by decide +kernel), List.mem_of_getElem? (i := 544) (by decide +kernel), List.mem_of_getElem? (i := 545) (by decide +kernel)⟩
theorem lw_p34 : lw_okq (⟨"FortyStems$Trial", "start", "()V"⟩, 8) := ⟨⟨by decide +kernel, by decide +kernel⟩, List.mem_of_getElem? (i := 180) (by decide +kernel), List.mem_of_getElem? (i := 562) (by decide +kernel), List.mem_of_getElem? (i := 563) (by decide +kernel)⟩
theorem lw_p35 : lw_okq (⟨"FortyStems$Hand", "colourOf", "(I)I"⟩, 11) := ⟨⟨by decide +kernel, by decide +kernel⟩, List.mem_of_getElem? (i := 27) (by decide +kernel), List.mem_of_getElem? (i := 568) (by decide +kernel), List.mem_of_getElem? (i := 569) (by decide +kernel)⟩
theorem lw_p36 : lw_okq (⟨"FortyStems$Trial", "neighbours", "(II)I"⟩, 8) := ⟨⟨by decide +kernel, by decide +kernel⟩, List.mem_of_getElem? (i := 180) (by decide +kernel), List.mem_of_getElem? (i := 572) (by decide +kernel), List.mem_of_getElem? (i := 573) (by decide +kernel)⟩
theorem lw_p37 : lw_okq (⟨"FortyStems$Trial", "lyingAt", "(II)I"⟩, 8) := ⟨⟨by decide +kernel, by decide +kernel⟩, List.mem_of_getElem? (i := 180) (by decide +kernel), List.mem_of_getElem? (i := 576) (by decide +kernel), List.mem_of_getElem? (i := 577) (by decide +kernel)⟩
theorem lw_p38 : lw_okq (⟨"FortyStems$Trial", "change", "(III)V"⟩, 8) := ⟨⟨by decide +kernel, by decide +kernel⟩, List.mem_of_getElem? (i := 180) (by decide +kernel), List.mem_of_getElem? (i := 583) (by decide +kernel), List.mem_of_getElem? (i := 584) (by decide +kernel)⟩
theorem lw_p39 : lw_okq (⟨"FortyStems$Trial", "canBe", "(I)Z"⟩, 8) := ⟨⟨by decide +kernel, by decide +kernel⟩, List.mem_of_getElem? (i := 180) (by decide +kernel), List.mem_of_getElem? (i := 587) (by decide +kernel), List.mem_of_getElem? (i := 588) (by decide +kernel)⟩
theorem lw_p40 : lw_okq (⟨"FortyStems$Trial", "angleOf", "(I)I"⟩, 8) := ⟨⟨by decide +kernel, by decide +kernel⟩, List.mem_of_getElem? (i := 180) (by decide +kernel), List.mem_of_getElem? (i := 593) (by decide +kernel), List.mem_of_getElem? (i := 594) (by decide +kernel)⟩
theorem lw_p41 : lw_okq (⟨"FortyStems$Moment", "asThought", "(IIII)V"⟩, 4) := ⟨⟨by decide +kernel, by decide +kernel⟩, List.mem_of_getElem? (i := 161) (by decide +kernel), List.mem_of_getElem? (i := 598) (by decide +kernel), List.mem_of_getElem? (i := 599) (by decide +kernel)⟩
theorem lw_p42 : lw_okq (⟨"FortyStems$Hand", "addStem", "(II)V"⟩, 11) := ⟨⟨by decide +kernel, by decide +kernel⟩, List.mem_of_getElem? (i := 27) (by decide +kernel), List.mem_of_getElem? (i := 607) (by decide +kernel), List.mem_of_getElem? (i := 608) (by decide +kernel)⟩
theorem lw_p43 : lw_okq (⟨"FortyStems$Hand", "hasStem", "(I)Z"⟩, 11) := ⟨⟨by decide +kernel, by decide +kernel⟩, List.mem_of_getElem? (i := 27) (by decide +kernel), List.mem_of_getElem? (i := 615) (by decide +kernel), List.mem_of_getElem? (i := 616) (by decide +kernel)⟩
theorem lw_p44 : lw_okq (⟨"FortyStems$Hand", "removeStem", "(I)I"⟩, 11) := ⟨⟨by decide +kernel, by decide +kernel⟩, List.mem_of_getElem? (i := 27) (by decide +kernel), List.mem_of_getElem? (i := 619) (by decide +kernel), List.mem_of_getElem? (i := 620) (by decide +kernel)⟩
theorem lw_p45 : lw_okq (⟨"FortyStems$Hand", "stemsInQuarter", "(I)I"⟩, 11) := ⟨⟨by decide +kernel, by decide +kernel⟩, List.mem_of_getElem? (i := 27) (by decide +kernel), List.mem_of_getElem? (i := 633) (by decide +kernel), List.mem_of_getElem? (i := 634) (by decide +kernel)⟩
theorem lw_p46 : lw_okq (⟨"FortyStems$Hand", "stemsOfColour", "(I)I"⟩, 11) := ⟨⟨by decide +kernel, by decide +kernel⟩, List.mem_of_getElem? (i := 27) (by decide +kernel), List.mem_of_getElem? (i := 637) (by decide +kernel), List.mem_of_getElem? (i := 638) (by decide +kernel)⟩
theorem lw_p47 : lw_okq (⟨"FortyStems", "touchingNow", "()I"⟩, 10) := ⟨⟨by decide +kernel, by decide +kernel⟩, List.mem_of_getElem? (i := 19) (by decide +kernel), List.mem_of_getElem? (i := 642) (by decide +kernel), List.mem_of_getElem? (i := 643) (by decide +kernel)⟩
def lw_privs_3 : List (MethodName × Nat) := [(⟨"FortyStems$Tape", "clear", "()V"⟩, 2), (⟨"FortyStems$Texts", "add", "(LFortyStems$Reader;)I"⟩, 4), (⟨"FortyStems$Trial", "start", "()V"⟩, 8), (⟨"FortyStems$Hand", "colourOf", "(I)I"⟩, 11), (⟨"FortyStems$Trial", "neighbours", "(II)I"⟩, 8), (⟨"FortyStems$Trial", "lyingAt", "(II)I"⟩, 8), (⟨"FortyStems$Trial", "change", "(III)V"⟩, 8), (⟨"FortyStems$Trial", "canBe", "(I)Z"⟩, 8), (⟨"FortyStems$Trial", "angleOf", "(I)I"⟩, 8), (⟨"FortyStems$Moment", "asThought", "(IIII)V"⟩, 4), (⟨"FortyStems$Hand", "addStem", "(II)V"⟩, 11), (⟨"FortyStems$Hand", "hasStem", "(I)Z"⟩, 11), (⟨"FortyStems$Hand", "removeStem", "(I)I"⟩, 11), (⟨"FortyStems$Hand", "stemsInQuarter", "(I)I"⟩, 11), (⟨"FortyStems$Hand", "stemsOfColour", "(I)I"⟩, 11), (⟨"FortyStems", "touchingNow", "()I"⟩, 10)]
theorem lw_r3 : ∀ q ∈ lw_privs_3, lw_okq q := List.forall_mem_cons.mpr ⟨lw_p32, List.forall_mem_cons.mpr ⟨lw_p33, List.forall_mem_cons.mpr ⟨lw_p34, List.forall_mem_cons.mpr ⟨lw_p35, List.forall_mem_cons.mpr ⟨lw_p36, List.forall_mem_cons.mpr ⟨lw_p37, List.forall_mem_cons.mpr ⟨lw_p38, List.forall_mem_cons.mpr ⟨lw_p39, List.forall_mem_cons.mpr ⟨lw_p40, List.forall_mem_cons.mpr ⟨lw_p41, List.forall_mem_cons.mpr ⟨lw_p42, List.forall_mem_cons.mpr ⟨lw_p43, List.forall_mem_cons.mpr ⟨lw_p44, List.forall_mem_cons.mpr ⟨lw_p45, List.forall_mem_cons.mpr ⟨lw_p46, List.forall_mem_cons.mpr ⟨lw_p47, fun _ h => absurd h List.not_mem_nil⟩⟩⟩⟩⟩⟩⟩⟩⟩⟩⟩⟩⟩⟩⟩⟩
theorem lw_p48 : lw_okq (⟨"FortyStems", "unevenness", "()I"⟩, 10) := ⟨⟨by decide +kernel, by decide +kernel⟩, List.mem_of_getElem? (i := 19) (by decide +kernel), List.mem_of_getElem? (i := 646) (by decide +kernel), List.mem_of_getElem? (i := 647) (by decide +kernel)⟩
theorem lw_p49 : lw_okq (⟨"FortyStems", "costOfAll", "()I"⟩, 10) := ⟨⟨by decide +kernel, by decide +kernel⟩, List.mem_of_getElem? (i := 19) (by decide +kernel), List.mem_of_getElem? (i := 652) (by decide +kernel), List.mem_of_getElem? (i := 653) (by decide +kernel)⟩
theorem lw_p50 : lw_okq (⟨"FortyStems$Hand", "stemsOf", "(I)I"⟩, 11) := ⟨⟨by decide +kernel, by decide +kernel⟩, List.mem_of_getElem? (i := 27) (by decide +kernel), List.mem_of_getElem? (i := 656) (by decide +kernel), List.mem_of_getElem? (i := 657) (by decide +kernel)⟩
theorem lw_p51 : lw_okq (⟨"FortyStems$Trial", "touchingWith", "(I)I"⟩, 8) := ⟨⟨by decide +kernel, by decide +kernel⟩, List.mem_of_getElem? (i := 180) (by decide +kernel), List.mem_of_getElem? (i := 670) (by decide +kernel), List.mem_of_getElem? (i := 671) (by decide +kernel)⟩
theorem lw_p52 : lw_okq (⟨"FortyStems$Trial", "put", "(I)V"⟩, 8) := ⟨⟨by decide +kernel, by decide +kernel⟩, List.mem_of_getElem? (i := 180) (by decide +kernel), List.mem_of_getElem? (i := 679) (by decide +kernel), List.mem_of_getElem? (i := 680) (by decide +kernel)⟩
theorem lw_p53 : lw_okq (⟨"FortyStems$Sheets", "isMissing", "(I)Z"⟩, 3) := ⟨⟨by decide +kernel, by decide +kernel⟩, List.mem_of_getElem? (i := 238) (by decide +kernel), List.mem_of_getElem? (i := 690) (by decide +kernel), List.mem_of_getElem? (i := 691) (by decide +kernel)⟩
theorem lw_p54 : lw_okq (⟨"FortyStems$Sheets", "itemAt", "(II)I"⟩, 3) := ⟨⟨by decide +kernel, by decide +kernel⟩, List.mem_of_getElem? (i := 238) (by decide +kernel), List.mem_of_getElem? (i := 695) (by decide +kernel), List.mem_of_getElem? (i := 696) (by decide +kernel)⟩
theorem lw_p55 : lw_okq (⟨"FortyStems$Sheets", "hasItem", "(II)Z"⟩, 3) := ⟨⟨by decide +kernel, by decide +kernel⟩, List.mem_of_getElem? (i := 238) (by decide +kernel), List.mem_of_getElem? (i := 699) (by decide +kernel), List.mem_of_getElem? (i := 700) (by decide +kernel)⟩
theorem lw_p56 : lw_okq (⟨"FortyStems$Orders", "start", "([II)V"⟩, 5) := ⟨⟨by decide +kernel, by decide +kernel⟩, List.mem_of_getElem? (i := 214) (by decide +kernel), List.mem_of_getElem? (i := 703) (by decide +kernel), List.mem_of_getElem? (i := 704) (by decide +kernel)⟩
theorem lw_p57 : lw_okq (⟨"FortyStems$Orders", "search", "(III)V"⟩, 5) := ⟨⟨by decide +kernel, by decide +kernel⟩, List.mem_of_getElem? (i := 214) (by decide +kernel), List.mem_of_getElem? (i := 708) (by decide +kernel), List.mem_of_getElem? (i := 709) (by decide +kernel)⟩
theorem lw_p58 : lw_okq (⟨"FortyStems$Orders", "isFree", "(II)Z"⟩, 5) := ⟨⟨by decide +kernel, by decide +kernel⟩, List.mem_of_getElem? (i := 214) (by decide +kernel), List.mem_of_getElem? (i := 712) (by decide +kernel), List.mem_of_getElem? (i := 713) (by decide +kernel)⟩
theorem lw_p59 : lw_okq (⟨"FortyStems$Orders", "tryPlace", "(IIII)V"⟩, 5) := ⟨⟨by decide +kernel, by decide +kernel⟩, List.mem_of_getElem? (i := 214) (by decide +kernel), List.mem_of_getElem? (i := 716) (by decide +kernel), List.mem_of_getElem? (i := 717) (by decide +kernel)⟩
theorem lw_p60 : lw_okq (⟨"FortyStems$Trial", "putBack", "(II)V"⟩, 8) := ⟨⟨by decide +kernel, by decide +kernel⟩, List.mem_of_getElem? (i := 180) (by decide +kernel), List.mem_of_getElem? (i := 723) (by decide +kernel), List.mem_of_getElem? (i := 724) (by decide +kernel)⟩
theorem lw_p61 : lw_okq (⟨"FortyStems", "cheapestBut", "(I)I"⟩, 10) := ⟨⟨by decide +kernel, by decide +kernel⟩, List.mem_of_getElem? (i := 19) (by decide +kernel), List.mem_of_getElem? (i := 731) (by decide +kernel), List.mem_of_getElem? (i := 732) (by decide +kernel)⟩
theorem lw_p62 : lw_okq (⟨"FortyStems$Trial", "touchedBy", "(I)I"⟩, 8) := ⟨⟨by decide +kernel, by decide +kernel⟩, List.mem_of_getElem? (i := 180) (by decide +kernel), List.mem_of_getElem? (i := 739) (by decide +kernel), List.mem_of_getElem? (i := 740) (by decide +kernel)⟩
theorem lw_p63 : lw_okq (⟨"FortyStems", "firstOtherwise", "(I)I"⟩, 10) := ⟨⟨by decide +kernel, by decide +kernel⟩, List.mem_of_getElem? (i := 19) (by decide +kernel), List.mem_of_getElem? (i := 749) (by decide +kernel), List.mem_of_getElem? (i := 750) (by decide +kernel)⟩
def lw_privs_4 : List (MethodName × Nat) := [(⟨"FortyStems", "unevenness", "()I"⟩, 10), (⟨"FortyStems", "costOfAll", "()I"⟩, 10), (⟨"FortyStems$Hand", "stemsOf", "(I)I"⟩, 11), (⟨"FortyStems$Trial", "touchingWith", "(I)I"⟩, 8), (⟨"FortyStems$Trial", "put", "(I)V"⟩, 8), (⟨"FortyStems$Sheets", "isMissing", "(I)Z"⟩, 3), (⟨"FortyStems$Sheets", "itemAt", "(II)I"⟩, 3), (⟨"FortyStems$Sheets", "hasItem", "(II)Z"⟩, 3), (⟨"FortyStems$Orders", "start", "([II)V"⟩, 5), (⟨"FortyStems$Orders", "search", "(III)V"⟩, 5), (⟨"FortyStems$Orders", "isFree", "(II)Z"⟩, 5), (⟨"FortyStems$Orders", "tryPlace", "(IIII)V"⟩, 5), (⟨"FortyStems$Trial", "putBack", "(II)V"⟩, 8), (⟨"FortyStems", "cheapestBut", "(I)I"⟩, 10), (⟨"FortyStems$Trial", "touchedBy", "(I)I"⟩, 8), (⟨"FortyStems", "firstOtherwise", "(I)I"⟩, 10)]
theorem lw_r4 : ∀ q ∈ lw_privs_4, lw_okq q := List.forall_mem_cons.mpr ⟨lw_p48, List.forall_mem_cons.mpr ⟨lw_p49, List.forall_mem_cons.mpr ⟨lw_p50, List.forall_mem_cons.mpr ⟨lw_p51, List.forall_mem_cons.mpr ⟨lw_p52, List.forall_mem_cons.mpr ⟨lw_p53, List.forall_mem_cons.mpr ⟨lw_p54, List.forall_mem_cons.mpr ⟨lw_p55, List.forall_mem_cons.mpr ⟨lw_p56, List.forall_mem_cons.mpr ⟨lw_p57, List.forall_mem_cons.mpr ⟨lw_p58, List.forall_mem_cons.mpr ⟨lw_p59, List.forall_mem_cons.mpr ⟨lw_p60, List.forall_mem_cons.mpr ⟨lw_p61, List.forall_mem_cons.mpr ⟨lw_p62, List.forall_mem_cons.mpr ⟨lw_p63, fun _ h => absurd h List.not_mem_nil⟩⟩⟩⟩⟩⟩⟩⟩⟩⟩⟩⟩⟩⟩⟩⟩
theorem lw_p64 : lw_okq (⟨"FortyStems$Moment", "layOne", "()I"⟩, 4) := ⟨⟨by decide +kernel, by decide +kernel⟩, List.mem_of_getElem? (i := 161) (by decide +kernel), List.mem_of_getElem? (i := 753) (by decide +kernel), List.mem_of_getElem? (i := 754) (by decide +kernel)⟩
theorem lw_p65 : lw_okq (⟨"FortyStems", "agreeing", "(III)I"⟩, 10) := ⟨⟨by decide +kernel, by decide +kernel⟩, List.mem_of_getElem? (i := 19) (by decide +kernel), List.mem_of_getElem? (i := 760) (by decide +kernel), List.mem_of_getElem? (i := 761) (by decide +kernel)⟩
theorem lw_p66 : lw_okq (⟨"FortyStems", "choicesOf", "(I)I"⟩, 10) := ⟨⟨by decide +kernel, by decide +kernel⟩, List.mem_of_getElem? (i := 19) (by decide +kernel), List.mem_of_getElem? (i := 764) (by decide +kernel), List.mem_of_getElem? (i := 765) (by decide +kernel)⟩
theorem lw_p67 : lw_okq (⟨"FortyStems$Moment", "suppose", "(II)V"⟩, 4) := ⟨⟨by decide +kernel, by decide +kernel⟩, List.mem_of_getElem? (i := 161) (by decide +kernel), List.mem_of_getElem? (i := 768) (by decide +kernel), List.mem_of_getElem? (i := 769) (by decide +kernel)⟩
theorem lw_p68 : lw_okq (⟨"FortyStems$Sheets", "become", "(III)V"⟩, 3) := ⟨⟨by decide +kernel, by decide +kernel⟩, List.mem_of_getElem? (i := 238) (by decide +kernel), List.mem_of_getElem? (i := 776) (by decide +kernel), List.mem_of_getElem? (i := 777) (by decide +kernel)⟩
theorem lw_p69 : lw_okq (⟨"FortyStems$Sheets", "write", "(III)V"⟩, 3) := ⟨⟨by decide +kernel, by decide +kernel⟩, List.mem_of_getElem? (i := 238) (by decide +kernel), List.mem_of_getElem? (i := 780) (by decide +kernel), List.mem_of_getElem? (i := 781) (by decide +kernel)⟩
theorem lw_p70 : lw_okq (⟨"FortyStems", "touchingDrawn", "(II)I"⟩, 10) := ⟨⟨by decide +kernel, by decide +kernel⟩, List.mem_of_getElem? (i := 19) (by decide +kernel), List.mem_of_getElem? (i := 788) (by decide +kernel), List.mem_of_getElem? (i := 789) (by decide +kernel)⟩
theorem lw_p71 : lw_okq (⟨"FortyStems$Hand", "become", "(LFortyStems$Hand;)V"⟩, 11) := ⟨⟨by decide +kernel, by decide +kernel⟩, List.mem_of_getElem? (i := 27) (by decide +kernel), List.mem_of_getElem? (i := 805) (by decide +kernel), List.mem_of_getElem? (i := 806) (by decide +kernel)⟩
theorem lw_p72 : lw_okq (⟨"FortyStems$Hand", "inAllBuckets", "()I"⟩, 11) := ⟨⟨by decide +kernel, by decide +kernel⟩, List.mem_of_getElem? (i := 27) (by decide +kernel), List.mem_of_getElem? (i := 818) (by decide +kernel), List.mem_of_getElem? (i := 819) (by decide +kernel)⟩
theorem lw_p73 : lw_okq (⟨"FortyStems$Sheets", "hasItems", "(III)Z"⟩, 3) := ⟨⟨by decide +kernel, by decide +kernel⟩, List.mem_of_getElem? (i := 238) (by decide +kernel), List.mem_of_getElem? (i := 838) (by decide +kernel), List.mem_of_getElem? (i := 839) (by decide +kernel)⟩
theorem lw_p74 : lw_okq (⟨"FortyStemsModel", "spell", "(IIIIIIIII)V"⟩, 46) := ⟨⟨by decide +kernel, by decide +kernel⟩, List.mem_of_getElem? (i := 858) (by decide +kernel), List.mem_of_getElem? (i := 864) (by decide +kernel), List.mem_of_getElem? (i := 865) (by decide +kernel)⟩
theorem lw_p75 : lw_okq (⟨"FortyStemsModel", "isFlower", "(I)Z"⟩, 46) := ⟨⟨by decide +kernel, by decide +kernel⟩, List.mem_of_getElem? (i := 858) (by decide +kernel), List.mem_of_getElem? (i := 1015) (by decide +kernel), List.mem_of_getElem? (i := 1016) (by decide +kernel)⟩
theorem lw_p76 : lw_okq (⟨"FortyStemsModel", "thickOf", "(I)I"⟩, 46) := ⟨⟨by decide +kernel, by decide +kernel⟩, List.mem_of_getElem? (i := 858) (by decide +kernel), List.mem_of_getElem? (i := 1027) (by decide +kernel), List.mem_of_getElem? (i := 1028) (by decide +kernel)⟩
theorem lw_p77 : lw_okq (⟨"FortyStemsModel", "looks", "(I)V"⟩, 46) := ⟨⟨by decide +kernel, by decide +kernel⟩, List.mem_of_getElem? (i := 858) (by decide +kernel), List.mem_of_getElem? (i := 1031) (by decide +kernel), List.mem_of_getElem? (i := 1032) (by decide +kernel)⟩
theorem lw_p78 : lw_okq (⟨"FortyStemsModel", "lastAngle", "()I"⟩, 46) := ⟨⟨by decide +kernel, by decide +kernel⟩, List.mem_of_getElem? (i := 858) (by decide +kernel), List.mem_of_getElem? (i := 1035) (by decide +kernel), List.mem_of_getElem? (i := 1036) (by decide +kernel)⟩
theorem lw_p79 : lw_okq (⟨"FortyStemsModel", "roomNow", "()I"⟩, 46) := ⟨⟨by decide +kernel, by decide +kernel⟩, List.mem_of_getElem? (i := 858) (by decide +kernel), List.mem_of_getElem? (i := 1039) (by decide +kernel), List.mem_of_getElem? (i := 1040) (by decide +kernel)⟩
def lw_privs_5 : List (MethodName × Nat) := [(⟨"FortyStems$Moment", "layOne", "()I"⟩, 4), (⟨"FortyStems", "agreeing", "(III)I"⟩, 10), (⟨"FortyStems", "choicesOf", "(I)I"⟩, 10), (⟨"FortyStems$Moment", "suppose", "(II)V"⟩, 4), (⟨"FortyStems$Sheets", "become", "(III)V"⟩, 3), (⟨"FortyStems$Sheets", "write", "(III)V"⟩, 3), (⟨"FortyStems", "touchingDrawn", "(II)I"⟩, 10), (⟨"FortyStems$Hand", "become", "(LFortyStems$Hand;)V"⟩, 11), (⟨"FortyStems$Hand", "inAllBuckets", "()I"⟩, 11), (⟨"FortyStems$Sheets", "hasItems", "(III)Z"⟩, 3), (⟨"FortyStemsModel", "spell", "(IIIIIIIII)V"⟩, 46), (⟨"FortyStemsModel", "isFlower", "(I)Z"⟩, 46), (⟨"FortyStemsModel", "thickOf", "(I)I"⟩, 46), (⟨"FortyStemsModel", "looks", "(I)V"⟩, 46), (⟨"FortyStemsModel", "lastAngle", "()I"⟩, 46), (⟨"FortyStemsModel", "roomNow", "()I"⟩, 46)]
theorem lw_r5 : ∀ q ∈ lw_privs_5, lw_okq q := List.forall_mem_cons.mpr ⟨lw_p64, List.forall_mem_cons.mpr ⟨lw_p65, List.forall_mem_cons.mpr ⟨lw_p66, List.forall_mem_cons.mpr ⟨lw_p67, List.forall_mem_cons.mpr ⟨lw_p68, List.forall_mem_cons.mpr ⟨lw_p69, List.forall_mem_cons.mpr ⟨lw_p70, List.forall_mem_cons.mpr ⟨lw_p71, List.forall_mem_cons.mpr ⟨lw_p72, List.forall_mem_cons.mpr ⟨lw_p73, List.forall_mem_cons.mpr ⟨lw_p74, List.forall_mem_cons.mpr ⟨lw_p75, List.forall_mem_cons.mpr ⟨lw_p76, List.forall_mem_cons.mpr ⟨lw_p77, List.forall_mem_cons.mpr ⟨lw_p78, List.forall_mem_cons.mpr ⟨lw_p79, fun _ h => absurd h List.not_mem_nil⟩⟩⟩⟩⟩⟩⟩⟩⟩⟩⟩⟩⟩⟩⟩⟩
theorem lw_p80 : lw_okq (⟨"FortyStemsModel", "turnsOf", "(I)I"⟩, 46) := ⟨⟨by decide +kernel, by decide +kernel⟩, List.mem_of_getElem? (i := 858) (by decide +kernel), List.mem_of_getElem? (i := 1043) (by decide +kernel), List.mem_of_getElem? (i := 1044) (by decide +kernel)⟩
theorem lw_p81 : lw_okq (⟨"FortyStemsModel", "read", "(II)I"⟩, 46) := ⟨⟨by decide +kernel, by decide +kernel⟩, List.mem_of_getElem? (i := 858) (by decide +kernel), List.mem_of_getElem? (i := 1047) (by decide +kernel), List.mem_of_getElem? (i := 1048) (by decide +kernel)⟩
theorem lw_p82 : lw_okq (⟨"FortyStemsModel", "nextToken", "()V"⟩, 46) := ⟨⟨by decide +kernel, by decide +kernel⟩, List.mem_of_getElem? (i := 858) (by decide +kernel), List.mem_of_getElem? (i := 1051) (by decide +kernel), List.mem_of_getElem? (i := 1052) (by decide +kernel)⟩
theorem lw_p83 : lw_okq (⟨"FortyStemsModel", "byteAt", "(I)I"⟩, 46) := ⟨⟨by decide +kernel, by decide +kernel⟩, List.mem_of_getElem? (i := 858) (by decide +kernel), List.mem_of_getElem? (i := 1055) (by decide +kernel), List.mem_of_getElem? (i := 1056) (by decide +kernel)⟩
theorem lw_p84 : lw_okq (⟨"FortyStemsModel", "isWord", "(IIIIIIII)Z"⟩, 46) := ⟨⟨by decide +kernel, by decide +kernel⟩, List.mem_of_getElem? (i := 858) (by decide +kernel), List.mem_of_getElem? (i := 1064) (by decide +kernel), List.mem_of_getElem? (i := 1065) (by decide +kernel)⟩
theorem lw_p85 : lw_okq (⟨"FortyStemsModel", "isLetter", "(II)Z"⟩, 46) := ⟨⟨by decide +kernel, by decide +kernel⟩, List.mem_of_getElem? (i := 858) (by decide +kernel), List.mem_of_getElem? (i := 1068) (by decide +kernel), List.mem_of_getElem? (i := 1069) (by decide +kernel)⟩
theorem lw_p86 : lw_okq (⟨"FortyStemsModel", "part", "(Z)I"⟩, 46) := ⟨⟨by decide +kernel, by decide +kernel⟩, List.mem_of_getElem? (i := 858) (by decide +kernel), List.mem_of_getElem? (i := 1072) (by decide +kernel), List.mem_of_getElem? (i := 1073) (by decide +kernel)⟩
theorem lw_p87 : lw_okq (⟨"FortyStemsModel", "fail", "()V"⟩, 46) := ⟨⟨by decide +kernel, by decide +kernel⟩, List.mem_of_getElem? (i := 858) (by decide +kernel), List.mem_of_getElem? (i := 1076) (by decide +kernel), List.mem_of_getElem? (i := 1077) (by decide +kernel)⟩
theorem lw_p88 : lw_okq (⟨"FortyStemsModel", "either", "()I"⟩, 46) := ⟨⟨by decide +kernel, by decide +kernel⟩, List.mem_of_getElem? (i := 858) (by decide +kernel), List.mem_of_getElem? (i := 1080) (by decide +kernel), List.mem_of_getElem? (i := 1081) (by decide +kernel)⟩
theorem lw_p89 : lw_okq (⟨"FortyStemsModel", "both", "()I"⟩, 46) := ⟨⟨by decide +kernel, by decide +kernel⟩, List.mem_of_getElem? (i := 858) (by decide +kernel), List.mem_of_getElem? (i := 1084) (by decide +kernel), List.mem_of_getElem? (i := 1085) (by decide +kernel)⟩
theorem lw_p90 : lw_okq (⟨"FortyStemsModel", "not", "()I"⟩, 46) := ⟨⟨by decide +kernel, by decide +kernel⟩, List.mem_of_getElem? (i := 858) (by decide +kernel), List.mem_of_getElem? (i := 1088) (by decide +kernel), List.mem_of_getElem? (i := 1089) (by decide +kernel)⟩
theorem lw_p91 : lw_okq (⟨"FortyStemsModel", "opens", "()Z"⟩, 46) := ⟨⟨by decide +kernel, by decide +kernel⟩, List.mem_of_getElem? (i := 858) (by decide +kernel), List.mem_of_getElem? (i := 1092) (by decide +kernel), List.mem_of_getElem? (i := 1093) (by decide +kernel)⟩
theorem lw_p92 : lw_okq (⟨"FortyStemsModel", "added", "()I"⟩, 46) := ⟨⟨by decide +kernel, by decide +kernel⟩, List.mem_of_getElem? (i := 858) (by decide +kernel), List.mem_of_getElem? (i := 1096) (by decide +kernel), List.mem_of_getElem? (i := 1097) (by decide +kernel)⟩
theorem lw_p93 : lw_okq (⟨"FortyStemsModel", "term", "()I"⟩, 46) := ⟨⟨by decide +kernel, by decide +kernel⟩, List.mem_of_getElem? (i := 858) (by decide +kernel), List.mem_of_getElem? (i := 1100) (by decide +kernel), List.mem_of_getElem? (i := 1101) (by decide +kernel)⟩
theorem lw_p94 : lw_okq (⟨"FortyStemsModel", "atom", "()I"⟩, 46) := ⟨⟨by decide +kernel, by decide +kernel⟩, List.mem_of_getElem? (i := 858) (by decide +kernel), List.mem_of_getElem? (i := 1104) (by decide +kernel), List.mem_of_getElem? (i := 1105) (by decide +kernel)⟩
theorem lw_p95 : lw_okq (⟨"FortyStemsModel", "isSign", "(I)Z"⟩, 46) := ⟨⟨by decide +kernel, by decide +kernel⟩, List.mem_of_getElem? (i := 858) (by decide +kernel), List.mem_of_getElem? (i := 1108) (by decide +kernel), List.mem_of_getElem? (i := 1109) (by decide +kernel)⟩
def lw_privs_6 : List (MethodName × Nat) := [(⟨"FortyStemsModel", "turnsOf", "(I)I"⟩, 46), (⟨"FortyStemsModel", "read", "(II)I"⟩, 46), (⟨"FortyStemsModel", "nextToken", "()V"⟩, 46), (⟨"FortyStemsModel", "byteAt", "(I)I"⟩, 46), (⟨"FortyStemsModel", "isWord", "(IIIIIIII)Z"⟩, 46), (⟨"FortyStemsModel", "isLetter", "(II)Z"⟩, 46), (⟨"FortyStemsModel", "part", "(Z)I"⟩, 46), (⟨"FortyStemsModel", "fail", "()V"⟩, 46), (⟨"FortyStemsModel", "either", "()I"⟩, 46), (⟨"FortyStemsModel", "both", "()I"⟩, 46), (⟨"FortyStemsModel", "not", "()I"⟩, 46), (⟨"FortyStemsModel", "opens", "()Z"⟩, 46), (⟨"FortyStemsModel", "added", "()I"⟩, 46), (⟨"FortyStemsModel", "term", "()I"⟩, 46), (⟨"FortyStemsModel", "atom", "()I"⟩, 46), (⟨"FortyStemsModel", "isSign", "(I)Z"⟩, 46)]
theorem lw_r6 : ∀ q ∈ lw_privs_6, lw_okq q := List.forall_mem_cons.mpr ⟨lw_p80, List.forall_mem_cons.mpr ⟨lw_p81, List.forall_mem_cons.mpr ⟨lw_p82, List.forall_mem_cons.mpr ⟨lw_p83, List.forall_mem_cons.mpr ⟨lw_p84, List.forall_mem_cons.mpr ⟨lw_p85, List.forall_mem_cons.mpr ⟨lw_p86, List.forall_mem_cons.mpr ⟨lw_p87, List.forall_mem_cons.mpr ⟨lw_p88, List.forall_mem_cons.mpr ⟨lw_p89, List.forall_mem_cons.mpr ⟨lw_p90, List.forall_mem_cons.mpr ⟨lw_p91, List.forall_mem_cons.mpr ⟨lw_p92, List.forall_mem_cons.mpr ⟨lw_p93, List.forall_mem_cons.mpr ⟨lw_p94, List.forall_mem_cons.mpr ⟨lw_p95, fun _ h => absurd h List.not_mem_nil⟩⟩⟩⟩⟩⟩⟩⟩⟩⟩⟩⟩⟩⟩⟩⟩
theorem lw_p96 : lw_okq (⟨"FortyStemsModel", "name", "()I"⟩, 46) := ⟨⟨by decide +kernel, by decide +kernel⟩, List.mem_of_getElem? (i := 858) (by decide +kernel), List.mem_of_getElem? (i := 1112) (by decide +kernel), List.mem_of_getElem? (i := 1113) (by decide +kernel)⟩
theorem lw_p97 : lw_okq (⟨"FortyStemsModel", "costsOf", "(I)I"⟩, 46) := ⟨⟨by decide +kernel, by decide +kernel⟩, List.mem_of_getElem? (i := 858) (by decide +kernel), List.mem_of_getElem? (i := 1121) (by decide +kernel), List.mem_of_getElem? (i := 1122) (by decide +kernel)⟩
theorem lw_p98 : lw_okq (⟨"FortyStemsModel", "lastsOf", "(I)I"⟩, 46) := ⟨⟨by decide +kernel, by decide +kernel⟩, List.mem_of_getElem? (i := 858) (by decide +kernel), List.mem_of_getElem? (i := 1125) (by decide +kernel), List.mem_of_getElem? (i := 1126) (by decide +kernel)⟩
theorem lw_p99 : lw_okq (⟨"FortyStemsModel", "lays", "(III)V"⟩, 46) := ⟨⟨by decide +kernel, by decide +kernel⟩, List.mem_of_getElem? (i := 858) (by decide +kernel), List.mem_of_getElem? (i := 1129) (by decide +kernel), List.mem_of_getElem? (i := 1130) (by decide +kernel)⟩
theorem lw_p100 : lw_okq (⟨"FortyStemsModel", "isRoom", "(I)Z"⟩, 46) := ⟨⟨by decide +kernel, by decide +kernel⟩, List.mem_of_getElem? (i := 858) (by decide +kernel), List.mem_of_getElem? (i := 1156) (by decide +kernel), List.mem_of_getElem? (i := 1157) (by decide +kernel)⟩
theorem lw_p101 : lw_okq (⟨"FortyStemsModel", "puts", "(I)V"⟩, 46) := ⟨⟨by decide +kernel, by decide +kernel⟩, List.mem_of_getElem? (i := 858) (by decide +kernel), List.mem_of_getElem? (i := 1160) (by decide +kernel), List.mem_of_getElem? (i := 1161) (by decide +kernel)⟩
theorem lw_p102 : lw_okq (⟨"FortyStemsModel", "touching", "(I)I"⟩, 46) := ⟨⟨by decide +kernel, by decide +kernel⟩, List.mem_of_getElem? (i := 858) (by decide +kernel), List.mem_of_getElem? (i := 1182) (by decide +kernel), List.mem_of_getElem? (i := 1183) (by decide +kernel)⟩
theorem lw_p103 : lw_okq (⟨"FortyStemsModel", "touch", "(II)Z"⟩, 46) := ⟨⟨by decide +kernel, by decide +kernel⟩, List.mem_of_getElem? (i := 858) (by decide +kernel), List.mem_of_getElem? (i := 1186) (by decide +kernel), List.mem_of_getElem? (i := 1187) (by decide +kernel)⟩
theorem lw_p104 : lw_okq (⟨"FortyStemsModel", "even", "()I"⟩, 46) := ⟨⟨by decide +kernel, by decide +kernel⟩, List.mem_of_getElem? (i := 858) (by decide +kernel), List.mem_of_getElem? (i := 1190) (by decide +kernel), List.mem_of_getElem? (i := 1191) (by decide +kernel)⟩
theorem lw_p105 : lw_okq (⟨"FortyStemsModel", "quarter", "(I)I"⟩, 46) := ⟨⟨by decide +kernel, by decide +kernel⟩, List.mem_of_getElem? (i := 858) (by decide +kernel), List.mem_of_getElem? (i := 1194) (by decide +kernel), List.mem_of_getElem? (i := 1195) (by decide +kernel)⟩
theorem lw_p106 : lw_okq (⟨"FortyStemsModel", "cost", "()I"⟩, 46) := ⟨⟨by decide +kernel, by decide +kernel⟩, List.mem_of_getElem? (i := 858) (by decide +kernel), List.mem_of_getElem? (i := 1198) (by decide +kernel), List.mem_of_getElem? (i := 1199) (by decide +kernel)⟩
theorem lw_p107 : lw_okq (⟨"FortyStemsModel", "ofColours", "(I)I"⟩, 46) := ⟨⟨by decide +kernel, by decide +kernel⟩, List.mem_of_getElem? (i := 858) (by decide +kernel), List.mem_of_getElem? (i := 1202) (by decide +kernel), List.mem_of_getElem? (i := 1203) (by decide +kernel)⟩
theorem lw_p108 : lw_okq (⟨"FortyStemsModel", "canLay", "(I)Z"⟩, 46) := ⟨⟨by decide +kernel, by decide +kernel⟩, List.mem_of_getElem? (i := 858) (by decide +kernel), List.mem_of_getElem? (i := 1215) (by decide +kernel), List.mem_of_getElem? (i := 1216) (by decide +kernel)⟩
theorem lw_p109 : lw_okq (⟨"FortyStemsModel", "takesOff", "()V"⟩, 46) := ⟨⟨by decide +kernel, by decide +kernel⟩, List.mem_of_getElem? (i := 858) (by decide +kernel), List.mem_of_getElem? (i := 1219) (by decide +kernel), List.mem_of_getElem? (i := 1220) (by decide +kernel)⟩
theorem lw_p110 : lw_okq (⟨"FortyStemsModel", "isOrder", "(I)Z"⟩, 46) := ⟨⟨by decide +kernel, by decide +kernel⟩, List.mem_of_getElem? (i := 858) (by decide +kernel), List.mem_of_getElem? (i := 1235) (by decide +kernel), List.mem_of_getElem? (i := 1236) (by decide +kernel)⟩
theorem lw_p111 : lw_okq (⟨"FortyStemsModel", "seeks", "(III)V"⟩, 46) := ⟨⟨by decide +kernel, by decide +kernel⟩, List.mem_of_getElem? (i := 858) (by decide +kernel), List.mem_of_getElem? (i := 1240) (by decide +kernel), List.mem_of_getElem? (i := 1241) (by decide +kernel)⟩
def lw_privs_7 : List (MethodName × Nat) := [(⟨"FortyStemsModel", "name", "()I"⟩, 46), (⟨"FortyStemsModel", "costsOf", "(I)I"⟩, 46), (⟨"FortyStemsModel", "lastsOf", "(I)I"⟩, 46), (⟨"FortyStemsModel", "lays", "(III)V"⟩, 46), (⟨"FortyStemsModel", "isRoom", "(I)Z"⟩, 46), (⟨"FortyStemsModel", "puts", "(I)V"⟩, 46), (⟨"FortyStemsModel", "touching", "(I)I"⟩, 46), (⟨"FortyStemsModel", "touch", "(II)Z"⟩, 46), (⟨"FortyStemsModel", "even", "()I"⟩, 46), (⟨"FortyStemsModel", "quarter", "(I)I"⟩, 46), (⟨"FortyStemsModel", "cost", "()I"⟩, 46), (⟨"FortyStemsModel", "ofColours", "(I)I"⟩, 46), (⟨"FortyStemsModel", "canLay", "(I)Z"⟩, 46), (⟨"FortyStemsModel", "takesOff", "()V"⟩, 46), (⟨"FortyStemsModel", "isOrder", "(I)Z"⟩, 46), (⟨"FortyStemsModel", "seeks", "(III)V"⟩, 46)]
theorem lw_r7 : ∀ q ∈ lw_privs_7, lw_okq q := List.forall_mem_cons.mpr ⟨lw_p96, List.forall_mem_cons.mpr ⟨lw_p97, List.forall_mem_cons.mpr ⟨lw_p98, List.forall_mem_cons.mpr ⟨lw_p99, List.forall_mem_cons.mpr ⟨lw_p100, List.forall_mem_cons.mpr ⟨lw_p101, List.forall_mem_cons.mpr ⟨lw_p102, List.forall_mem_cons.mpr ⟨lw_p103, List.forall_mem_cons.mpr ⟨lw_p104, List.forall_mem_cons.mpr ⟨lw_p105, List.forall_mem_cons.mpr ⟨lw_p106, List.forall_mem_cons.mpr ⟨lw_p107, List.forall_mem_cons.mpr ⟨lw_p108, List.forall_mem_cons.mpr ⟨lw_p109, List.forall_mem_cons.mpr ⟨lw_p110, List.forall_mem_cons.mpr ⟨lw_p111, fun _ h => absurd h List.not_mem_nil⟩⟩⟩⟩⟩⟩⟩⟩⟩⟩⟩⟩⟩⟩⟩⟩
theorem lw_p112 : lw_okq (⟨"FortyStemsModel", "firstOther", "(II)I"⟩, 46) := ⟨⟨by decide +kernel, by decide +kernel⟩, List.mem_of_getElem? (i := 858) (by decide +kernel), List.mem_of_getElem? (i := 1257) (by decide +kernel), List.mem_of_getElem? (i := 1258) (by decide +kernel)⟩
theorem lw_p113 : lw_okq (⟨"FortyStemsModel", "turnsFrom", "(II)V"⟩, 46) := ⟨⟨by decide +kernel, by decide +kernel⟩, List.mem_of_getElem? (i := 858) (by decide +kernel), List.mem_of_getElem? (i := 1261) (by decide +kernel), List.mem_of_getElem? (i := 1262) (by decide +kernel)⟩
theorem lw_p114 : lw_okq (⟨"FortyStemsModel", "draws", "(II)I"⟩, 46) := ⟨⟨by decide +kernel, by decide +kernel⟩, List.mem_of_getElem? (i := 858) (by decide +kernel), List.mem_of_getElem? (i := 1281) (by decide +kernel), List.mem_of_getElem? (i := 1282) (by decide +kernel)⟩
def lw_privs_8 : List (MethodName × Nat) := [(⟨"FortyStemsModel", "firstOther", "(II)I"⟩, 46), (⟨"FortyStemsModel", "turnsFrom", "(II)V"⟩, 46), (⟨"FortyStemsModel", "draws", "(II)I"⟩, 46)]
theorem lw_r8 : ∀ q ∈ lw_privs_8, lw_okq q := List.forall_mem_cons.mpr ⟨lw_p112, List.forall_mem_cons.mpr ⟨lw_p113, List.forall_mem_cons.mpr ⟨lw_p114, fun _ h => absurd h List.not_mem_nil⟩⟩⟩
def lw_privs : List (MethodName × Nat) := lw_privs_1 ++ (lw_privs_2 ++ (lw_privs_3 ++ (lw_privs_4 ++ (lw_privs_5 ++ (lw_privs_6 ++ (lw_privs_7 ++ (lw_privs_8)))))))
def lw_tbl : List Cond := k2_sels lw_privs ++ tables_1
theorem lw_privs_ok : ∀ q ∈ lw_privs, lw_okq q := by
  show ∀ q ∈ lw_privs_1 ++ (lw_privs_2 ++ (lw_privs_3 ++ (lw_privs_4 ++ (lw_privs_5 ++ (lw_privs_6 ++ (lw_privs_7 ++ (lw_privs_8))))))), lw_okq q
  exact List.forall_mem_append.mpr ⟨lw_r1, List.forall_mem_append.mpr ⟨lw_r2, List.forall_mem_append.mpr ⟨lw_r3, List.forall_mem_append.mpr ⟨lw_r4, List.forall_mem_append.mpr ⟨lw_r5, List.forall_mem_append.mpr ⟨lw_r6, List.forall_mem_append.mpr ⟨lw_r7, lw_r8⟩⟩⟩⟩⟩⟩⟩
def RX0 : String := "FortyStems$Hand"
def TX0 : u_T := fun k => match k with
  | 0 => ("FortyStems$Hand", "holds", "I", false)
  | 1 => ("FortyStems$Hand", "begin", "I", false)
  | 2 => ("FortyStems$Hand", "rule", "I", false)
  | 3 => ("FortyStems$Hand", "flowers", "I", false)
  | 4 => ("FortyStems$Hand", "kinds", "[I", true)
  | 5 => ("FortyStems$Hand", "numbers", "[I", true)
  | 6 => ("FortyStems$Hand", "colours", "[I", true)
  | 7 => ("FortyStems$Hand", "buckets", "[I", true)
  | 8 => ("FortyStems$Hand", "stems", "I", false)
  | 9 => ("FortyStems$Hand", "stemFlowers", "[I", true)
  | _ => ("FortyStems$Hand", "stemAngles", "[I", true)
def tyX0 : Nat → FieldType := fun k => match k with
  | 0 => .int
  | 1 => .int
  | 2 => .int
  | 3 => .int
  | 4 => .array .int
  | 5 => .array .int
  | 6 => .array .int
  | 7 => .array .int
  | 8 => .int
  | 9 => .array .int
  | _ => .array .int
theorem nmX0 : ∀ a, a < 11 → ∀ b, b < 11 → a ≠ b → (TX0 a).2.1 ≠ (TX0 b).2.1 := by decide +kernel
theorem tyX0_ok : ∀ k, k < 11 → parseFieldDescriptor (TX0 k).2.2.1 = some (tyX0 k) := by decide +kernel
abbrev cX0_init : ByteArray := prog_2_method_1_code
def yX0_init : MethodName := ⟨RX0, "<init>", "()V"⟩
abbrev cX0_hasFlower : ByteArray := prog_2_method_2_code
def yX0_hasFlower : MethodName := ⟨RX0, "hasFlower", "(I)Z"⟩
abbrev cX0_hasStem : ByteArray := prog_2_method_3_code
def yX0_hasStem : MethodName := ⟨RX0, "hasStem", "(I)Z"⟩
abbrev cX0_addFlower : ByteArray := prog_2_method_4_code
def yX0_addFlower : MethodName := ⟨RX0, "addFlower", "(II)I"⟩
abbrev cX0_settingOf : ByteArray := prog_2_method_5_code
def yX0_settingOf : MethodName := ⟨RX0, "settingOf", "(II)I"⟩
abbrev cX0_change : ByteArray := prog_2_method_6_code
def yX0_change : MethodName := ⟨RX0, "change", "(III)V"⟩
abbrev cX0_addStem : ByteArray := prog_2_method_7_code
def yX0_addStem : MethodName := ⟨RX0, "addStem", "(II)V"⟩
abbrev cX0_removeStem : ByteArray := prog_2_method_8_code
def yX0_removeStem : MethodName := ⟨RX0, "removeStem", "(I)I"⟩
abbrev cX0_lastAngle : ByteArray := prog_2_method_9_code
def yX0_lastAngle : MethodName := ⟨RX0, "lastAngle", "()I"⟩
abbrev cX0_roomLeft : ByteArray := prog_2_method_10_code
def yX0_roomLeft : MethodName := ⟨RX0, "roomLeft", "()I"⟩
abbrev cX0_thickOf : ByteArray := prog_2_method_11_code
def yX0_thickOf : MethodName := ⟨RX0, "thickOf", "(I)I"⟩
abbrev cX0_colourOf : ByteArray := prog_2_method_12_code
def yX0_colourOf : MethodName := ⟨RX0, "colourOf", "(I)I"⟩
abbrev cX0_stemsOf : ByteArray := prog_2_method_13_code
def yX0_stemsOf : MethodName := ⟨RX0, "stemsOf", "(I)I"⟩
abbrev cX0_stemsOfColour : ByteArray := prog_2_method_14_code
def yX0_stemsOfColour : MethodName := ⟨RX0, "stemsOfColour", "(I)I"⟩
abbrev cX0_stemsInQuarter : ByteArray := prog_2_method_15_code
def yX0_stemsInQuarter : MethodName := ⟨RX0, "stemsInQuarter", "(I)I"⟩
abbrev cX0_inAllBuckets : ByteArray := prog_2_method_16_code
def yX0_inAllBuckets : MethodName := ⟨RX0, "inAllBuckets", "()I"⟩
abbrev cX0_become : ByteArray := prog_2_method_17_code
def yX0_become : MethodName := ⟨RX0, "become", "(LFortyStems$Hand;)V"⟩
def RX1 : String := "FortyStems$Kind"
def TX1 : u_T := fun k => match k with
  | _ => ("", "", "", false)
def tyX1 : Nat → FieldType := fun k => match k with
  | _ => .int
theorem nmX1 : ∀ a, a < 0 → ∀ b, b < 0 → a ≠ b → (TX1 a).2.1 ≠ (TX1 b).2.1 := by decide +kernel
theorem tyX1_ok : ∀ k, k < 0 → parseFieldDescriptor (TX1 k).2.2.1 = some (tyX1 k) := by decide +kernel
abbrev cX1_isKind : ByteArray := prog_3_method_2_code
def yX1_isKind : MethodName := ⟨RX1, "isKind", "(I)Z"⟩
abbrev cX1_isUnder : ByteArray := prog_3_method_3_code
def yX1_isUnder : MethodName := ⟨RX1, "isUnder", "(II)Z"⟩
abbrev cX1_thick : ByteArray := prog_3_method_4_code
def yX1_thick : MethodName := ⟨RX1, "thick", "(II)I"⟩
abbrev cX1_turns : ByteArray := prog_3_method_5_code
def yX1_turns : MethodName := ⟨RX1, "turns", "(II)I"⟩
abbrev cX1_costs : ByteArray := prog_3_method_6_code
def yX1_costs : MethodName := ⟨RX1, "costs", "(III)I"⟩
abbrev cX1_lasts : ByteArray := prog_3_method_7_code
def yX1_lasts : MethodName := ⟨RX1, "lasts", "(III)I"⟩
def RX2 : String := "FortyStems$Moment"
def TX2 : u_T := fun k => match k with
  | 0 => ("FortyStems$Moment", "texts", "LFortyStems$Texts;", true)
  | 1 => ("FortyStems$Moment", "rule", "I", false)
  | 2 => ("FortyStems$Moment", "kind", "I", false)
  | _ => ("FortyStems$Moment", "names", "[I", true)
def tyX2 : Nat → FieldType := fun k => match k with
  | 0 => .object "FortyStems$Texts"
  | 1 => .int
  | 2 => .int
  | _ => .array .int
theorem nmX2 : ∀ a, a < 4 → ∀ b, b < 4 → a ≠ b → (TX2 a).2.1 ≠ (TX2 b).2.1 := by decide +kernel
theorem tyX2_ok : ∀ k, k < 4 → parseFieldDescriptor (TX2 k).2.2.1 = some (tyX2 k) := by decide +kernel
abbrev cX2_init : ByteArray := prog_4_method_1_code
def yX2_init : MethodName := ⟨RX2, "<init>", "(LFortyStems$Texts;)V"⟩
abbrev cX2_asNow : ByteArray := prog_4_method_2_code
def yX2_asNow : MethodName := ⟨RX2, "asNow", "(LFortyStems$Hand;I)V"⟩
abbrev cX2_inEmptyHand : ByteArray := prog_4_method_3_code
def yX2_inEmptyHand : MethodName := ⟨RX2, "inEmptyHand", "(LFortyStems$Hand;I)V"⟩
abbrev cX2_asThought : ByteArray := prog_4_method_4_code
def yX2_asThought : MethodName := ⟨RX2, "asThought", "(IIII)V"⟩
abbrev cX2_suppose : ByteArray := prog_4_method_5_code
def yX2_suppose : MethodName := ⟨RX2, "suppose", "(II)V"⟩
abbrev cX2_layOne : ByteArray := prog_4_method_6_code
def yX2_layOne : MethodName := ⟨RX2, "layOne", "()I"⟩
abbrev cX2_turned : ByteArray := prog_4_method_7_code
def yX2_turned : MethodName := ⟨RX2, "turned", "(II)I"⟩
abbrev cX2_thick : ByteArray := prog_4_method_8_code
def yX2_thick : MethodName := ⟨RX2, "thick", "()I"⟩
abbrev cX2_turns : ByteArray := prog_4_method_9_code
def yX2_turns : MethodName := ⟨RX2, "turns", "()I"⟩
abbrev cX2_costs : ByteArray := prog_4_method_10_code
def yX2_costs : MethodName := ⟨RX2, "costs", "()I"⟩
abbrev cX2_lasts : ByteArray := prog_4_method_11_code
def yX2_lasts : MethodName := ⟨RX2, "lasts", "()I"⟩
abbrev cX2_within : ByteArray := prog_4_method_12_code
def yX2_within : MethodName := ⟨RX2, "within", "(III)I"⟩
def RX3 : String := "FortyStems$Orders"
def TX3 : u_T := fun k => match k with
  | 0 => ("FortyStems$Orders", "trial", "LFortyStems$Trial;", true)
  | 1 => ("FortyStems$Orders", "flowers", "[I", true)
  | 2 => ("FortyStems$Orders", "size", "I", false)
  | 3 => ("FortyStems$Orders", "fewest", "I", false)
  | _ => ("FortyStems$Orders", "bestDigits", "I", false)
def tyX3 : Nat → FieldType := fun k => match k with
  | 0 => .object "FortyStems$Trial"
  | 1 => .array .int
  | 2 => .int
  | 3 => .int
  | _ => .int
theorem nmX3 : ∀ a, a < 5 → ∀ b, b < 5 → a ≠ b → (TX3 a).2.1 ≠ (TX3 b).2.1 := by decide +kernel
theorem tyX3_ok : ∀ k, k < 5 → parseFieldDescriptor (TX3 k).2.2.1 = some (tyX3 k) := by decide +kernel
abbrev cX3_init : ByteArray := prog_5_method_1_code
def yX3_init : MethodName := ⟨RX3, "<init>", "(LFortyStems$Trial;)V"⟩
abbrev cX3_start : ByteArray := prog_5_method_2_code
def yX3_start : MethodName := ⟨RX3, "start", "([II)V"⟩
abbrev cX3_search : ByteArray := prog_5_method_3_code
def yX3_search : MethodName := ⟨RX3, "search", "(III)V"⟩
abbrev cX3_tryPlace : ByteArray := prog_5_method_4_code
def yX3_tryPlace : MethodName := ⟨RX3, "tryPlace", "(IIII)V"⟩
abbrev cX3_isFree : ByteArray := prog_5_method_5_code
def yX3_isFree : MethodName := ⟨RX3, "isFree", "(II)Z"⟩
def RX4 : String := "FortyStems$Reader"
def TX4 : u_T := fun k => match k with
  | 0 => ("FortyStems$Reader", "tape", "LFortyStems$Tape;", true)
  | 1 => ("FortyStems$Reader", "steps", "[I", true)
  | 2 => ("FortyStems$Reader", "ends", "[I", true)
  | 3 => ("FortyStems$Reader", "made", "I", false)
  | 4 => ("FortyStems$Reader", "place", "I", false)
  | 5 => ("FortyStems$Reader", "fault", "I", false)
  | 6 => ("FortyStems$Reader", "token", "I", false)
  | 7 => ("FortyStems$Reader", "start", "I", false)
  | _ => ("FortyStems$Reader", "value", "I", false)
def tyX4 : Nat → FieldType := fun k => match k with
  | 0 => .object "FortyStems$Tape"
  | 1 => .array .int
  | 2 => .array .int
  | 3 => .int
  | 4 => .int
  | 5 => .int
  | 6 => .int
  | 7 => .int
  | _ => .int
theorem nmX4 : ∀ a, a < 9 → ∀ b, b < 9 → a ≠ b → (TX4 a).2.1 ≠ (TX4 b).2.1 := by decide +kernel
theorem tyX4_ok : ∀ k, k < 9 → parseFieldDescriptor (TX4 k).2.2.1 = some (tyX4 k) := by decide +kernel
abbrev cX4_init : ByteArray := prog_6_method_1_code
def yX4_init : MethodName := ⟨RX4, "<init>", "(LFortyStems$Tape;)V"⟩
abbrev cX4_readTape : ByteArray := prog_6_method_2_code
def yX4_readTape : MethodName := ⟨RX4, "readTape", "()I"⟩
abbrev cX4_expect : ByteArray := prog_6_method_3_code
def yX4_expect : MethodName := ⟨RX4, "expect", "(I)V"⟩
abbrev cX4_fail : ByteArray := prog_6_method_4_code
def yX4_fail : MethodName := ⟨RX4, "fail", "()V"⟩
abbrev cX4_make : ByteArray := prog_6_method_5_code
def yX4_make : MethodName := ⟨RX4, "make", "(I)V"⟩
abbrev cX4_readOr : ByteArray := prog_6_method_6_code
def yX4_readOr : MethodName := ⟨RX4, "readOr", "(I)V"⟩
abbrev cX4_readAnd : ByteArray := prog_6_method_7_code
def yX4_readAnd : MethodName := ⟨RX4, "readAnd", "(I)V"⟩
abbrev cX4_readNot : ByteArray := prog_6_method_8_code
def yX4_readNot : MethodName := ⟨RX4, "readNot", "(I)V"⟩
abbrev cX4_readSum : ByteArray := prog_6_method_9_code
def yX4_readSum : MethodName := ⟨RX4, "readSum", "(I)V"⟩
abbrev cX4_readTerm : ByteArray := prog_6_method_10_code
def yX4_readTerm : MethodName := ⟨RX4, "readTerm", "(I)V"⟩
abbrev cX4_readOne : ByteArray := prog_6_method_11_code
def yX4_readOne : MethodName := ⟨RX4, "readOne", "(I)V"⟩
abbrev cX4_advance : ByteArray := prog_6_method_12_code
def yX4_advance : MethodName := ⟨RX4, "advance", "()V"⟩
abbrev cX4_takeWord : ByteArray := prog_6_method_13_code
def yX4_takeWord : MethodName := ⟨RX4, "takeWord", "()V"⟩
abbrev cX4_takeNumber : ByteArray := prog_6_method_14_code
def yX4_takeNumber : MethodName := ⟨RX4, "takeNumber", "()V"⟩
abbrev cX4_standsAtStart : ByteArray := prog_6_method_15_code
def yX4_standsAtStart : MethodName := ⟨RX4, "standsAtStart", "(II)Z"⟩
abbrev cX4_isBlank : ByteArray := prog_6_method_16_code
def yX4_isBlank : MethodName := ⟨RX4, "isBlank", "(I)Z"⟩
abbrev cX4_isLetter : ByteArray := prog_6_method_17_code
def yX4_isLetter : MethodName := ⟨RX4, "isLetter", "(I)Z"⟩
abbrev cX4_isDigit : ByteArray := prog_6_method_18_code
def yX4_isDigit : MethodName := ⟨RX4, "isDigit", "(I)Z"⟩
abbrev cX4_isSign : ByteArray := prog_6_method_19_code
def yX4_isSign : MethodName := ⟨RX4, "isSign", "(I)Z"⟩
def RX5 : String := "FortyStems$Sheets"
def TX5 : u_T := fun k => match k with
  | 0 => ("FortyStems$Sheets", "sorts", "[I", true)
  | 1 => ("FortyStems$Sheets", "sizes", "[I", true)
  | _ => ("FortyStems$Sheets", "items", "[[I", true)
def tyX5 : Nat → FieldType := fun k => match k with
  | 0 => .array .int
  | 1 => .array .int
  | _ => .array (.array .int)
theorem nmX5 : ∀ a, a < 3 → ∀ b, b < 3 → a ≠ b → (TX5 a).2.1 ≠ (TX5 b).2.1 := by decide +kernel
theorem tyX5_ok : ∀ k, k < 3 → parseFieldDescriptor (TX5 k).2.2.1 = some (tyX5 k) := by decide +kernel
abbrev cX5_init : ByteArray := prog_7_method_1_code
def yX5_init : MethodName := ⟨RX5, "<init>", "()V"⟩
abbrev cX5_isNumber : ByteArray := prog_7_method_2_code
def yX5_isNumber : MethodName := ⟨RX5, "isNumber", "(I)Z"⟩
abbrev cX5_isSort : ByteArray := prog_7_method_3_code
def yX5_isSort : MethodName := ⟨RX5, "isSort", "(I)Z"⟩
abbrev cX5_isMissing : ByteArray := prog_7_method_4_code
def yX5_isMissing : MethodName := ⟨RX5, "isMissing", "(I)Z"⟩
abbrev cX5_hasItem : ByteArray := prog_7_method_5_code
def yX5_hasItem : MethodName := ⟨RX5, "hasItem", "(II)Z"⟩
abbrev cX5_hasItems : ByteArray := prog_7_method_6_code
def yX5_hasItems : MethodName := ⟨RX5, "hasItems", "(III)Z"⟩
abbrev cX5_itemAt : ByteArray := prog_7_method_7_code
def yX5_itemAt : MethodName := ⟨RX5, "itemAt", "(II)I"⟩
abbrev cX5_become : ByteArray := prog_7_method_8_code
def yX5_become : MethodName := ⟨RX5, "become", "(III)V"⟩
abbrev cX5_write : ByteArray := prog_7_method_9_code
def yX5_write : MethodName := ⟨RX5, "write", "(III)V"⟩
def RX6 : String := "FortyStems$Tape"
def TX6 : u_T := fun k => match k with
  | 0 => ("FortyStems$Tape", "bytes", "[I", true)
  | _ => ("FortyStems$Tape", "size", "I", false)
def tyX6 : Nat → FieldType := fun k => match k with
  | 0 => .array .int
  | _ => .int
theorem nmX6 : ∀ a, a < 2 → ∀ b, b < 2 → a ≠ b → (TX6 a).2.1 ≠ (TX6 b).2.1 := by decide +kernel
theorem tyX6_ok : ∀ k, k < 2 → parseFieldDescriptor (TX6 k).2.2.1 = some (tyX6 k) := by decide +kernel
abbrev cX6_init : ByteArray := prog_8_method_1_code
def yX6_init : MethodName := ⟨RX6, "<init>", "()V"⟩
abbrev cX6_add : ByteArray := prog_8_method_2_code
def yX6_add : MethodName := ⟨RX6, "add", "(I)Z"⟩
abbrev cX6_clear : ByteArray := prog_8_method_3_code
def yX6_clear : MethodName := ⟨RX6, "clear", "()V"⟩
abbrev cX6_byteAt : ByteArray := prog_8_method_4_code
def yX6_byteAt : MethodName := ⟨RX6, "byteAt", "(I)I"⟩
def RX7 : String := "FortyStems$Texts"
def TX7 : u_T := fun k => match k with
  | 0 => ("FortyStems$Texts", "size", "I", false)
  | 1 => ("FortyStems$Texts", "steps", "[[I", true)
  | 2 => ("FortyStems$Texts", "ends", "[[I", true)
  | _ => ("FortyStems$Texts", "stack", "[I", true)
def tyX7 : Nat → FieldType := fun k => match k with
  | 0 => .int
  | 1 => .array (.array .int)
  | 2 => .array (.array .int)
  | _ => .array .int
theorem nmX7 : ∀ a, a < 4 → ∀ b, b < 4 → a ≠ b → (TX7 a).2.1 ≠ (TX7 b).2.1 := by decide +kernel
theorem tyX7_ok : ∀ k, k < 4 → parseFieldDescriptor (TX7 k).2.2.1 = some (tyX7 k) := by decide +kernel
abbrev cX7_init : ByteArray := prog_9_method_1_code
def yX7_init : MethodName := ⟨RX7, "<init>", "()V"⟩
abbrev cX7_has : ByteArray := prog_9_method_2_code
def yX7_has : MethodName := ⟨RX7, "has", "(I)Z"⟩
abbrev cX7_isFull : ByteArray := prog_9_method_3_code
def yX7_isFull : MethodName := ⟨RX7, "isFull", "()Z"⟩
abbrev cX7_add : ByteArray := prog_9_method_4_code
def yX7_add : MethodName := ⟨RX7, "add", "(LFortyStems$Reader;)I"⟩
abbrev cX7_valueOf : ByteArray := prog_9_method_5_code
def yX7_valueOf : MethodName := ⟨RX7, "valueOf", "(II[I)I"⟩
abbrev cX7_isOfOne : ByteArray := prog_9_method_6_code
def yX7_isOfOne : MethodName := ⟨RX7, "isOfOne", "(I)Z"⟩
abbrev cX7_ofOne : ByteArray := prog_9_method_7_code
def yX7_ofOne : MethodName := ⟨RX7, "ofOne", "(II)I"⟩
abbrev cX7_ofTwo : ByteArray := prog_9_method_8_code
def yX7_ofTwo : MethodName := ⟨RX7, "ofTwo", "(III)I"⟩
def RX8 : String := "FortyStems$Trial"
def TX8 : u_T := fun k => match k with
  | 0 => ("FortyStems$Trial", "hand", "LFortyStems$Hand;", true)
  | 1 => ("FortyStems$Trial", "moment", "LFortyStems$Moment;", true)
  | 2 => ("FortyStems$Trial", "left", "[I", true)
  | 3 => ("FortyStems$Trial", "lying", "[I", true)
  | 4 => ("FortyStems$Trial", "stems", "I", false)
  | 5 => ("FortyStems$Trial", "angle", "I", false)
  | 6 => ("FortyStems$Trial", "room", "I", false)
  | _ => ("FortyStems$Trial", "touching", "I", false)
def tyX8 : Nat → FieldType := fun k => match k with
  | 0 => .object "FortyStems$Hand"
  | 1 => .object "FortyStems$Moment"
  | 2 => .array .int
  | 3 => .array .int
  | 4 => .int
  | 5 => .int
  | 6 => .int
  | _ => .int
theorem nmX8 : ∀ a, a < 8 → ∀ b, b < 8 → a ≠ b → (TX8 a).2.1 ≠ (TX8 b).2.1 := by decide +kernel
theorem tyX8_ok : ∀ k, k < 8 → parseFieldDescriptor (TX8 k).2.2.1 = some (tyX8 k) := by decide +kernel
abbrev cX8_init : ByteArray := prog_10_method_1_code
def yX8_init : MethodName := ⟨RX8, "<init>", "(LFortyStems$Hand;LFortyStems$Moment;)V"⟩
abbrev cX8_start : ByteArray := prog_10_method_2_code
def yX8_start : MethodName := ⟨RX8, "start", "()V"⟩
abbrev cX8_lyingAt : ByteArray := prog_10_method_3_code
def yX8_lyingAt : MethodName := ⟨RX8, "lyingAt", "(II)I"⟩
abbrev cX8_change : ByteArray := prog_10_method_4_code
def yX8_change : MethodName := ⟨RX8, "change", "(III)V"⟩
abbrev cX8_neighbours : ByteArray := prog_10_method_5_code
def yX8_neighbours : MethodName := ⟨RX8, "neighbours", "(II)I"⟩
abbrev cX8_canBe : ByteArray := prog_10_method_6_code
def yX8_canBe : MethodName := ⟨RX8, "canBe", "(I)Z"⟩
abbrev cX8_angleOf : ByteArray := prog_10_method_7_code
def yX8_angleOf : MethodName := ⟨RX8, "angleOf", "(I)I"⟩
abbrev cX8_touchingWith : ByteArray := prog_10_method_8_code
def yX8_touchingWith : MethodName := ⟨RX8, "touchingWith", "(I)I"⟩
abbrev cX8_touchedBy : ByteArray := prog_10_method_9_code
def yX8_touchedBy : MethodName := ⟨RX8, "touchedBy", "(I)I"⟩
abbrev cX8_put : ByteArray := prog_10_method_10_code
def yX8_put : MethodName := ⟨RX8, "put", "(I)V"⟩
abbrev cX8_putBack : ByteArray := prog_10_method_11_code
def yX8_putBack : MethodName := ⟨RX8, "putBack", "(II)V"⟩
def RX9 : String := "FortyStems"
def TX9 : u_T := fun k => match k with
  | 0 => ("FortyStems", "now", "LFortyStems$Hand;", true)
  | 1 => ("FortyStems", "kept", "LFortyStems$Hand;", true)
  | 2 => ("FortyStems", "isKept", "Z", false)
  | 3 => ("FortyStems", "tape", "LFortyStems$Tape;", true)
  | 4 => ("FortyStems", "texts", "LFortyStems$Texts;", true)
  | 5 => ("FortyStems", "reader", "LFortyStems$Reader;", true)
  | 6 => ("FortyStems", "moment", "LFortyStems$Moment;", true)
  | 7 => ("FortyStems", "trial", "LFortyStems$Trial;", true)
  | 8 => ("FortyStems", "orders", "LFortyStems$Orders;", true)
  | _ => ("FortyStems", "sheets", "LFortyStems$Sheets;", true)
def tyX9 : Nat → FieldType := fun k => match k with
  | 0 => .object "FortyStems$Hand"
  | 1 => .object "FortyStems$Hand"
  | 2 => .boolean
  | 3 => .object "FortyStems$Tape"
  | 4 => .object "FortyStems$Texts"
  | 5 => .object "FortyStems$Reader"
  | 6 => .object "FortyStems$Moment"
  | 7 => .object "FortyStems$Trial"
  | 8 => .object "FortyStems$Orders"
  | _ => .object "FortyStems$Sheets"
theorem nmX9 : ∀ a, a < 10 → ∀ b, b < 10 → a ≠ b → (TX9 a).2.1 ≠ (TX9 b).2.1 := by decide +kernel
theorem tyX9_ok : ∀ k, k < 10 → parseFieldDescriptor (TX9 k).2.2.1 = some (tyX9 k) := by decide +kernel
abbrev cX9_init : ByteArray := prog_1_method_1_code
def yX9_init : MethodName := ⟨RX9, "<init>", "()V"⟩
abbrev cX9_set : ByteArray := prog_1_method_2_code
def yX9_set : MethodName := ⟨RX9, "set", "(III)I"⟩
abbrev cX9_mostOf : ByteArray := prog_1_method_3_code
def yX9_mostOf : MethodName := ⟨RX9, "mostOf", "(I)I"⟩
abbrev cX9_flower : ByteArray := prog_1_method_4_code
def yX9_flower : MethodName := ⟨RX9, "flower", "(II)I"⟩
abbrev cX9_told : ByteArray := prog_1_method_5_code
def yX9_told : MethodName := ⟨RX9, "told", "(II)I"⟩
abbrev cX9_feed : ByteArray := prog_1_method_6_code
def yX9_feed : MethodName := ⟨RX9, "feed", "(I)I"⟩
abbrev cX9_text : ByteArray := prog_1_method_7_code
def yX9_text : MethodName := ⟨RX9, "text", "()I"⟩
abbrev cX9_force : ByteArray := prog_1_method_8_code
def yX9_force : MethodName := ⟨RX9, "force", "(I)I"⟩
abbrev cX9_lay : ByteArray := prog_1_method_9_code
def yX9_lay : MethodName := ⟨RX9, "lay", "(I)I"⟩
abbrev cX9_draw : ByteArray := prog_1_method_10_code
def yX9_draw : MethodName := ⟨RX9, "draw", "(I)I"⟩
abbrev cX9_stem : ByteArray := prog_1_method_11_code
def yX9_stem : MethodName := ⟨RX9, "stem", "(II)I"⟩
abbrev cX9_bunch : ByteArray := prog_1_method_12_code
def yX9_bunch : MethodName := ⟨RX9, "bunch", "(I)I"⟩
abbrev cX9_touchingNow : ByteArray := prog_1_method_13_code
def yX9_touchingNow : MethodName := ⟨RX9, "touchingNow", "()I"⟩
abbrev cX9_unevenness : ByteArray := prog_1_method_14_code
def yX9_unevenness : MethodName := ⟨RX9, "unevenness", "()I"⟩
abbrev cX9_costOfAll : ByteArray := prog_1_method_15_code
def yX9_costOfAll : MethodName := ⟨RX9, "costOfAll", "()I"⟩
abbrev cX9_good : ByteArray := prog_1_method_16_code
def yX9_good : MethodName := ⟨RX9, "good", "(I)I"⟩
abbrev cX9_next : ByteArray := prog_1_method_17_code
def yX9_next : MethodName := ⟨RX9, "next", "(I)I"⟩
abbrev cX9_howMany : ByteArray := prog_1_method_18_code
def yX9_howMany : MethodName := ⟨RX9, "howMany", "(I)I"⟩
abbrev cX9_order : ByteArray := prog_1_method_19_code
def yX9_order : MethodName := ⟨RX9, "order", "(II)I"⟩
abbrev cX9_forMoney : ByteArray := prog_1_method_20_code
def yX9_forMoney : MethodName := ⟨RX9, "forMoney", "(I)I"⟩
abbrev cX9_cheapestBut : ByteArray := prog_1_method_21_code
def yX9_cheapestBut : MethodName := ⟨RX9, "cheapestBut", "(I)I"⟩
abbrev cX9_worst : ByteArray := prog_1_method_22_code
def yX9_worst : MethodName := ⟨RX9, "worst", "(I)I"⟩
abbrev cX9_tells : ByteArray := prog_1_method_23_code
def yX9_tells : MethodName := ⟨RX9, "tells", "(III)I"⟩
abbrev cX9_agreeing : ByteArray := prog_1_method_24_code
def yX9_agreeing : MethodName := ⟨RX9, "agreeing", "(III)I"⟩
abbrev cX9_choicesOf : ByteArray := prog_1_method_25_code
def yX9_choicesOf : MethodName := ⟨RX9, "choicesOf", "(I)I"⟩
abbrev cX9_firstOtherwise : ByteArray := prog_1_method_26_code
def yX9_firstOtherwise : MethodName := ⟨RX9, "firstOtherwise", "(I)I"⟩
abbrev cX9_film : ByteArray := prog_1_method_27_code
def yX9_film : MethodName := ⟨RX9, "film", "(III)I"⟩
abbrev cX9_drawn : ByteArray := prog_1_method_28_code
def yX9_drawn : MethodName := ⟨RX9, "drawn", "(II)I"⟩
abbrev cX9_touchingDrawn : ByteArray := prog_1_method_29_code
def yX9_touchingDrawn : MethodName := ⟨RX9, "touchingDrawn", "(II)I"⟩
abbrev cX9_chance : ByteArray := prog_1_method_30_code
def yX9_chance : MethodName := ⟨RX9, "chance", "(IIII)J"⟩
abbrev cX9_commonDivisor : ByteArray := prog_1_method_31_code
def yX9_commonDivisor : MethodName := ⟨RX9, "commonDivisor", "(II)I"⟩
abbrev cX9_image : ByteArray := prog_1_method_32_code
def yX9_image : MethodName := ⟨RX9, "image", "()I"⟩
abbrev cX9_back : ByteArray := prog_1_method_33_code
def yX9_back : MethodName := ⟨RX9, "back", "()I"⟩
abbrev cX9_count : ByteArray := prog_1_method_34_code
def yX9_count : MethodName := ⟨RX9, "count", "(I)I"⟩
abbrev cX9_sheet : ByteArray := prog_1_method_35_code
def yX9_sheet : MethodName := ⟨RX9, "sheet", "(III)I"⟩
abbrev cX9_cell : ByteArray := prog_1_method_36_code
def yX9_cell : MethodName := ⟨RX9, "cell", "(III)I"⟩
abbrev cX9_copy : ByteArray := prog_1_method_37_code
def yX9_copy : MethodName := ⟨RX9, "copy", "(IIIII)I"⟩
abbrev cX9_flowers : ByteArray := prog_1_method_38_code
def yX9_flowers : MethodName := ⟨RX9, "flowers", "(IIII)I"⟩
abbrev cX9_taken : ByteArray := prog_1_method_39_code
def yX9_taken : MethodName := ⟨RX9, "taken", "(II)I"⟩
def RX10 : String := "FortyStemsModel"
def TX10 : u_T := fun k => match k with
  | 0 => ("FortyStemsModel", "thrown", "I", false)
  | 1 => ("FortyStemsModel", "texts", "[I", true)
  | 2 => ("FortyStemsModel", "textSize", "[I", true)
  | 3 => ("FortyStemsModel", "textCount", "I", false)
  | 4 => ("FortyStemsModel", "rule", "I", false)
  | 5 => ("FortyStemsModel", "tape", "[I", true)
  | 6 => ("FortyStemsModel", "taped", "I", false)
  | 7 => ("FortyStemsModel", "hand", "I", false)
  | 8 => ("FortyStemsModel", "beginAt", "I", false)
  | 9 => ("FortyStemsModel", "kinds", "[I", true)
  | 10 => ("FortyStemsModel", "rows", "[I", true)
  | 11 => ("FortyStemsModel", "many", "I", false)
  | 12 => ("FortyStemsModel", "flowerOf", "[I", true)
  | 13 => ("FortyStemsModel", "angleOf", "[I", true)
  | 14 => ("FortyStemsModel", "stemMany", "I", false)
  | 15 => ("FortyStemsModel", "ofStem", "I", false)
  | 16 => ("FortyStemsModel", "ofColour", "I", false)
  | 17 => ("FortyStemsModel", "ofNumber", "I", false)
  | 18 => ("FortyStemsModel", "ofAngle", "I", false)
  | 19 => ("FortyStemsModel", "ofLeft", "I", false)
  | 20 => ("FortyStemsModel", "ofRoom", "I", false)
  | 21 => ("FortyStemsModel", "from", "I", false)
  | 22 => ("FortyStemsModel", "size", "I", false)
  | 23 => ("FortyStemsModel", "here", "I", false)
  | 24 => ("FortyStemsModel", "token", "I", false)
  | 25 => ("FortyStemsModel", "tokenAt", "I", false)
  | 26 => ("FortyStemsModel", "tokenWorth", "J", false)
  | 27 => ("FortyStemsModel", "open", "I", false)
  | 28 => ("FortyStemsModel", "bad", "Z", false)
  | 29 => ("FortyStemsModel", "fault", "I", false)
  | 30 => ("FortyStemsModel", "bestTouching", "I", false)
  | 31 => ("FortyStemsModel", "bestDigits", "I", false)
  | 32 => ("FortyStemsModel", "prices", "[I", true)
  | 33 => ("FortyStemsModel", "anglesThen", "[I", true)
  | 34 => ("FortyStemsModel", "rowsKept", "[I", true)
  | 35 => ("FortyStemsModel", "flowersKept", "[I", true)
  | 36 => ("FortyStemsModel", "anglesKept", "[I", true)
  | 37 => ("FortyStemsModel", "manyKept", "I", false)
  | 38 => ("FortyStemsModel", "handKept", "I", false)
  | 39 => ("FortyStemsModel", "beginKept", "I", false)
  | 40 => ("FortyStemsModel", "stemsKept", "I", false)
  | 41 => ("FortyStemsModel", "ruleKept", "I", false)
  | 42 => ("FortyStemsModel", "isThere", "[Z", true)
  | 43 => ("FortyStemsModel", "sorts", "[I", true)
  | 44 => ("FortyStemsModel", "sheetSize", "[I", true)
  | _ => ("FortyStemsModel", "items", "[I", true)
def tyX10 : Nat → FieldType := fun k => match k with
  | 0 => .int
  | 1 => .array .int
  | 2 => .array .int
  | 3 => .int
  | 4 => .int
  | 5 => .array .int
  | 6 => .int
  | 7 => .int
  | 8 => .int
  | 9 => .array .int
  | 10 => .array .int
  | 11 => .int
  | 12 => .array .int
  | 13 => .array .int
  | 14 => .int
  | 15 => .int
  | 16 => .int
  | 17 => .int
  | 18 => .int
  | 19 => .int
  | 20 => .int
  | 21 => .int
  | 22 => .int
  | 23 => .int
  | 24 => .int
  | 25 => .int
  | 26 => .long
  | 27 => .int
  | 28 => .boolean
  | 29 => .int
  | 30 => .int
  | 31 => .int
  | 32 => .array .int
  | 33 => .array .int
  | 34 => .array .int
  | 35 => .array .int
  | 36 => .array .int
  | 37 => .int
  | 38 => .int
  | 39 => .int
  | 40 => .int
  | 41 => .int
  | 42 => .array .boolean
  | 43 => .array .int
  | 44 => .array .int
  | _ => .array .int
theorem nmX10 : ∀ a, a < 46 → ∀ b, b < 46 → a ≠ b → (TX10 a).2.1 ≠ (TX10 b).2.1 := by decide +kernel
theorem tyX10_ok : ∀ k, k < 46 → parseFieldDescriptor (TX10 k).2.2.1 = some (tyX10 k) := by decide +kernel
abbrev cX10_in : ByteArray := prog_12_method_2_code
def yX10_in : MethodName := ⟨RX10, "in", "(JJJ)Z"⟩
abbrev cX10_within : ByteArray := prog_12_method_3_code
def yX10_within : MethodName := ⟨RX10, "within", "(III)I"⟩
abbrev cX10_init : ByteArray := prog_12_method_4_code
def yX10_init : MethodName := ⟨RX10, "<init>", "()V"⟩
abbrev cX10_spell : ByteArray := prog_12_method_5_code
def yX10_spell : MethodName := ⟨RX10, "spell", "(IIIIIIIII)V"⟩
abbrev cX10_isFlower : ByteArray := prog_12_method_6_code
def yX10_isFlower : MethodName := ⟨RX10, "isFlower", "(I)Z"⟩
abbrev cX10_mostOf : ByteArray := prog_12_method_7_code
def yX10_mostOf : MethodName := ⟨RX10, "mostOf", "(I)I"⟩
abbrev cX10_set : ByteArray := prog_12_method_8_code
def yX10_set : MethodName := ⟨RX10, "set", "(III)I"⟩
abbrev cX10_lays : ByteArray := prog_12_method_9_code
def yX10_lays : MethodName := ⟨RX10, "lays", "(III)V"⟩
abbrev cX10_flower : ByteArray := prog_12_method_10_code
def yX10_flower : MethodName := ⟨RX10, "flower", "(II)I"⟩
abbrev cX10_told : ByteArray := prog_12_method_11_code
def yX10_told : MethodName := ⟨RX10, "told", "(II)I"⟩
abbrev cX10_thickOf : ByteArray := prog_12_method_12_code
def yX10_thickOf : MethodName := ⟨RX10, "thickOf", "(I)I"⟩
abbrev cX10_feed : ByteArray := prog_12_method_13_code
def yX10_feed : MethodName := ⟨RX10, "feed", "(I)I"⟩
abbrev cX10_byteAt : ByteArray := prog_12_method_14_code
def yX10_byteAt : MethodName := ⟨RX10, "byteAt", "(I)I"⟩
abbrev cX10_nextToken : ByteArray := prog_12_method_15_code
def yX10_nextToken : MethodName := ⟨RX10, "nextToken", "()V"⟩
abbrev cX10_fail : ByteArray := prog_12_method_16_code
def yX10_fail : MethodName := ⟨RX10, "fail", "()V"⟩
abbrev cX10_isLetter : ByteArray := prog_12_method_17_code
def yX10_isLetter : MethodName := ⟨RX10, "isLetter", "(II)Z"⟩
abbrev cX10_isWord : ByteArray := prog_12_method_18_code
def yX10_isWord : MethodName := ⟨RX10, "isWord", "(IIIIIIII)Z"⟩
abbrev cX10_isSign : ByteArray := prog_12_method_19_code
def yX10_isSign : MethodName := ⟨RX10, "isSign", "(I)Z"⟩
abbrev cX10_opens : ByteArray := prog_12_method_20_code
def yX10_opens : MethodName := ⟨RX10, "opens", "()Z"⟩
abbrev cX10_name : ByteArray := prog_12_method_21_code
def yX10_name : MethodName := ⟨RX10, "name", "()I"⟩
abbrev cX10_atom : ByteArray := prog_12_method_22_code
def yX10_atom : MethodName := ⟨RX10, "atom", "()I"⟩
abbrev cX10_term : ByteArray := prog_12_method_23_code
def yX10_term : MethodName := ⟨RX10, "term", "()I"⟩
abbrev cX10_added : ByteArray := prog_12_method_24_code
def yX10_added : MethodName := ⟨RX10, "added", "()I"⟩
abbrev cX10_not : ByteArray := prog_12_method_25_code
def yX10_not : MethodName := ⟨RX10, "not", "()I"⟩
abbrev cX10_both : ByteArray := prog_12_method_26_code
def yX10_both : MethodName := ⟨RX10, "both", "()I"⟩
abbrev cX10_either : ByteArray := prog_12_method_27_code
def yX10_either : MethodName := ⟨RX10, "either", "()I"⟩
abbrev cX10_part : ByteArray := prog_12_method_28_code
def yX10_part : MethodName := ⟨RX10, "part", "(Z)I"⟩
abbrev cX10_read : ByteArray := prog_12_method_29_code
def yX10_read : MethodName := ⟨RX10, "read", "(II)I"⟩
abbrev cX10_text : ByteArray := prog_12_method_30_code
def yX10_text : MethodName := ⟨RX10, "text", "()I"⟩
abbrev cX10_force : ByteArray := prog_12_method_31_code
def yX10_force : MethodName := ⟨RX10, "force", "(I)I"⟩
abbrev cX10_roomNow : ByteArray := prog_12_method_32_code
def yX10_roomNow : MethodName := ⟨RX10, "roomNow", "()I"⟩
abbrev cX10_lastAngle : ByteArray := prog_12_method_33_code
def yX10_lastAngle : MethodName := ⟨RX10, "lastAngle", "()I"⟩
abbrev cX10_looks : ByteArray := prog_12_method_34_code
def yX10_looks : MethodName := ⟨RX10, "looks", "(I)V"⟩
abbrev cX10_turnsOf : ByteArray := prog_12_method_35_code
def yX10_turnsOf : MethodName := ⟨RX10, "turnsOf", "(I)I"⟩
abbrev cX10_costsOf : ByteArray := prog_12_method_36_code
def yX10_costsOf : MethodName := ⟨RX10, "costsOf", "(I)I"⟩
abbrev cX10_lastsOf : ByteArray := prog_12_method_37_code
def yX10_lastsOf : MethodName := ⟨RX10, "lastsOf", "(I)I"⟩
abbrev cX10_round : ByteArray := prog_12_method_38_code
def yX10_round : MethodName := ⟨RX10, "round", "(I)I"⟩
abbrev cX10_isRoom : ByteArray := prog_12_method_39_code
def yX10_isRoom : MethodName := ⟨RX10, "isRoom", "(I)Z"⟩
abbrev cX10_canLay : ByteArray := prog_12_method_40_code
def yX10_canLay : MethodName := ⟨RX10, "canLay", "(I)Z"⟩
abbrev cX10_puts : ByteArray := prog_12_method_41_code
def yX10_puts : MethodName := ⟨RX10, "puts", "(I)V"⟩
abbrev cX10_takesOff : ByteArray := prog_12_method_42_code
def yX10_takesOff : MethodName := ⟨RX10, "takesOff", "()V"⟩
abbrev cX10_lay : ByteArray := prog_12_method_43_code
def yX10_lay : MethodName := ⟨RX10, "lay", "(I)I"⟩
abbrev cX10_draw : ByteArray := prog_12_method_44_code
def yX10_draw : MethodName := ⟨RX10, "draw", "(I)I"⟩
abbrev cX10_stem : ByteArray := prog_12_method_45_code
def yX10_stem : MethodName := ⟨RX10, "stem", "(II)I"⟩
abbrev cX10_touch : ByteArray := prog_12_method_46_code
def yX10_touch : MethodName := ⟨RX10, "touch", "(II)Z"⟩
abbrev cX10_touching : ByteArray := prog_12_method_47_code
def yX10_touching : MethodName := ⟨RX10, "touching", "(I)I"⟩
abbrev cX10_quarter : ByteArray := prog_12_method_48_code
def yX10_quarter : MethodName := ⟨RX10, "quarter", "(I)I"⟩
abbrev cX10_even : ByteArray := prog_12_method_49_code
def yX10_even : MethodName := ⟨RX10, "even", "()I"⟩
abbrev cX10_cost : ByteArray := prog_12_method_50_code
def yX10_cost : MethodName := ⟨RX10, "cost", "()I"⟩
abbrev cX10_ofColours : ByteArray := prog_12_method_51_code
def yX10_ofColours : MethodName := ⟨RX10, "ofColours", "(I)I"⟩
abbrev cX10_bunch : ByteArray := prog_12_method_52_code
def yX10_bunch : MethodName := ⟨RX10, "bunch", "(I)I"⟩
abbrev cX10_good : ByteArray := prog_12_method_53_code
def yX10_good : MethodName := ⟨RX10, "good", "(I)I"⟩
abbrev cX10_next : ByteArray := prog_12_method_54_code
def yX10_next : MethodName := ⟨RX10, "next", "(I)I"⟩
abbrev cX10_howMany : ByteArray := prog_12_method_55_code
def yX10_howMany : MethodName := ⟨RX10, "howMany", "(I)I"⟩
abbrev cX10_seeks : ByteArray := prog_12_method_56_code
def yX10_seeks : MethodName := ⟨RX10, "seeks", "(III)V"⟩
abbrev cX10_isOrder : ByteArray := prog_12_method_57_code
def yX10_isOrder : MethodName := ⟨RX10, "isOrder", "(I)Z"⟩
abbrev cX10_order : ByteArray := prog_12_method_58_code
def yX10_order : MethodName := ⟨RX10, "order", "(II)I"⟩
abbrev cX10_forMoney : ByteArray := prog_12_method_59_code
def yX10_forMoney : MethodName := ⟨RX10, "forMoney", "(I)I"⟩
abbrev cX10_worst : ByteArray := prog_12_method_60_code
def yX10_worst : MethodName := ⟨RX10, "worst", "(I)I"⟩
abbrev cX10_turnsFrom : ByteArray := prog_12_method_61_code
def yX10_turnsFrom : MethodName := ⟨RX10, "turnsFrom", "(II)V"⟩
abbrev cX10_firstOther : ByteArray := prog_12_method_62_code
def yX10_firstOther : MethodName := ⟨RX10, "firstOther", "(II)I"⟩
abbrev cX10_tells : ByteArray := prog_12_method_63_code
def yX10_tells : MethodName := ⟨RX10, "tells", "(III)I"⟩
abbrev cX10_film : ByteArray := prog_12_method_64_code
def yX10_film : MethodName := ⟨RX10, "film", "(III)I"⟩
abbrev cX10_draws : ByteArray := prog_12_method_65_code
def yX10_draws : MethodName := ⟨RX10, "draws", "(II)I"⟩
abbrev cX10_drawn : ByteArray := prog_12_method_66_code
def yX10_drawn : MethodName := ⟨RX10, "drawn", "(II)I"⟩
abbrev cX10_chance : ByteArray := prog_12_method_67_code
def yX10_chance : MethodName := ⟨RX10, "chance", "(IIII)J"⟩
abbrev cX10_image : ByteArray := prog_12_method_68_code
def yX10_image : MethodName := ⟨RX10, "image", "()I"⟩
abbrev cX10_back : ByteArray := prog_12_method_69_code
def yX10_back : MethodName := ⟨RX10, "back", "()I"⟩
abbrev cX10_count : ByteArray := prog_12_method_70_code
def yX10_count : MethodName := ⟨RX10, "count", "(I)I"⟩
abbrev cX10_isSheet : ByteArray := prog_12_method_71_code
def yX10_isSheet : MethodName := ⟨RX10, "isSheet", "(I)Z"⟩
abbrev cX10_sheet : ByteArray := prog_12_method_72_code
def yX10_sheet : MethodName := ⟨RX10, "sheet", "(III)I"⟩
abbrev cX10_cell : ByteArray := prog_12_method_73_code
def yX10_cell : MethodName := ⟨RX10, "cell", "(III)I"⟩
abbrev cX10_copy : ByteArray := prog_12_method_74_code
def yX10_copy : MethodName := ⟨RX10, "copy", "(IIIII)I"⟩
abbrev cX10_flowers : ByteArray := prog_12_method_75_code
def yX10_flowers : MethodName := ⟨RX10, "flowers", "(IIII)I"⟩
abbrev cX10_over : ByteArray := prog_12_method_76_code
def yX10_over : MethodName := ⟨RX10, "over", "(I)I"⟩
abbrev cX10_taken : ByteArray := prog_12_method_77_code
def yX10_taken : MethodName := ⟨RX10, "taken", "(II)I"⟩
def RJ9 : String := "java/lang/Math"
abbrev cJ9_floorMod_7cf53 : ByteArray := prog_13_method_50_code
def yJ9_floorMod_7cf53 : MethodName := ⟨RJ9, "floorMod", "(II)I"⟩
abbrev cJ9_max_7cf53 : ByteArray := prog_13_method_65_code
def yJ9_max_7cf53 : MethodName := ⟨RJ9, "max", "(II)I"⟩
abbrev cJ9_min_7cf53 : ByteArray := prog_13_method_69_code
def yJ9_min_7cf53 : MethodName := ⟨RJ9, "min", "(II)I"⟩
def RJ0 : String := "java/lang/String"
abbrev cJ0_length_8abf5 : ByteArray := prog_14_method_54_code
def yJ0_length_8abf5 : MethodName := ⟨RJ0, "length", "()I"⟩
abbrev cJ0_charAt_5068e : ByteArray := prog_14_method_56_code
def yJ0_charAt_5068e : MethodName := ⟨RJ0, "charAt", "(I)C"⟩
abbrev cJ0_coder_7d493 : ByteArray := prog_14_method_152_code
def yJ0_coder_7d493 : MethodName := ⟨RJ0, "coder", "()B"⟩
abbrev cJ0_isLatin1_aae02 : ByteArray := prog_14_method_154_code
def yJ0_isLatin1_aae02 : MethodName := ⟨RJ0, "isLatin1", "()Z"⟩
abbrev cJ0_checkIndex_df160 : ByteArray := prog_14_method_155_code
def yJ0_checkIndex_df160 : MethodName := ⟨RJ0, "checkIndex", "(II)V"⟩
def RJ1 : String := "java/lang/StringLatin1"
abbrev cJ1_charAt_3b067 : ByteArray := prog_15_method_2_code
def yJ1_charAt_3b067 : MethodName := ⟨RJ1, "charAt", "([BI)C"⟩
def RJ2 : String := "java/lang/StringUTF16"
abbrev cJ2_getChar_3b067 : ByteArray := prog_16_method_5_code
def yJ2_getChar_3b067 : MethodName := ⟨RJ2, "getChar", "([BI)C"⟩
abbrev cJ2_length_9d52b : ByteArray := prog_16_method_6_code
def yJ2_length_9d52b : MethodName := ⟨RJ2, "length", "([B)I"⟩
abbrev cJ2_charAt_3b067 : ByteArray := prog_16_method_83_code
def yJ2_charAt_3b067 : MethodName := ⟨RJ2, "charAt", "([BI)C"⟩
abbrev cJ2_checkIndex_2214a : ByteArray := prog_16_method_91_code
def yJ2_checkIndex_2214a : MethodName := ⟨RJ2, "checkIndex", "(I[B)V"⟩
def RJ10 : String := "java/lang/System"
def RJ3 : String := "jdk/internal/util/Preconditions"
abbrev cJ3_checkIndex_8e157 : ByteArray := prog_18_method_11_code
def yJ3_checkIndex_8e157 : MethodName := ⟨RJ3, "checkIndex", "(IILjava/util/function/BiFunction;)I"⟩
end
section
/-! THE SMALL MACHINE: memory is a table of whole numbers (object, place); objects and their references never change once made -/
abbrev Mem : Type := Nat → Nat → Int
abbrev VV : Type := Int ⊕ (Int ⊕ Nat)
abbrev vI (x : Int) : VV := Sum.inl x
abbrev vL (x : Int) : VV := Sum.inr (Sum.inl x)
abbrev vR (o : Nat) : VV := Sum.inr (Sum.inr o)
def w32 (x : Int) : Int := x.bmod 4294967296
def w64 (x : Int) : Int := x.bmod 18446744073709551616
def r32 (x : Int) : Prop := -2147483648 ≤ x ∧ x ≤ 2147483647
def r64 (x : Int) : Prop := -9223372036854775808 ≤ x ∧ x ≤ 9223372036854775807
theorem w32_r (x : Int) : r32 (w32 x) := by
  unfold r32 w32 Int.bmod; dsimp only; split <;> omega
theorem w64_r (x : Int) : r64 (w64 x) := by
  unfold r64 w64 Int.bmod; dsimp only; split <;> omega
theorem w32_id {x : Int} (h : -2147483648 ≤ x ∧ x ≤ 2147483647) : w32 x = x := by
  unfold w32 Int.bmod; dsimp only; split <;> omega
theorem w64_id {x : Int} (h : -9223372036854775808 ≤ x ∧ x ≤ 9223372036854775807) : w64 x = x := by
  unfold w64 Int.bmod; dsimp only; split <;> omega
theorem r32_64 {x : Int} (h : r32 x) : r64 x := by unfold r32 at h; unfold r64; omega
theorem iN_w (x : Int) : Int32.ofInt (w32 x) = Int32.ofInt x := Int32.toInt_inj.1 (by
  rw [Int32.toInt_ofInt, Int32.toInt_ofInt]; exact Int.bmod_bmod)
theorem lN_w (x : Int) : Int64.ofInt (w64 x) = Int64.ofInt x := Int64.toInt_inj.1 (by
  rw [Int64.toInt_ofInt, Int64.toInt_ofInt]; exact Int.bmod_bmod)
theorem iN_t {x : Int} (h : r32 x) : (Int32.ofInt x).toInt = x := by
  rw [Int32.toInt_ofInt]; exact w32_id h
theorem lN_t {x : Int} (h : r64 x) : (Int64.ofInt x).toInt = x := by
  rw [Int64.toInt_ofInt]; exact w64_id h
theorem iN_r (x : Int32) : r32 x.toInt := ⟨by have := x.le_toInt; omega, by have := x.toInt_lt; omega⟩
theorem lN_r (x : Int64) : r64 x.toInt := ⟨by have := x.le_toInt; omega, by have := x.toInt_lt; omega⟩
theorem iN_lt {a b : Int} (ha : r32 a) (hb : r32 b) : Int32.ofInt a < Int32.ofInt b ↔ a < b := by rw [Int32.lt_iff_toInt_lt, iN_t ha, iN_t hb]
theorem iN_le {a b : Int} (ha : r32 a) (hb : r32 b) : Int32.ofInt a ≤ Int32.ofInt b ↔ a ≤ b := by rw [Int32.le_iff_toInt_le, iN_t ha, iN_t hb]
theorem iN_eq {a b : Int} (ha : r32 a) (hb : r32 b) : Int32.ofInt a = Int32.ofInt b ↔ a = b := by rw [← Int32.toInt_inj, iN_t ha, iN_t hb]
theorem lN_lt' {a b : Int} (ha : r64 a) (hb : r64 b) : Int64.ofInt a < Int64.ofInt b ↔ a < b := by rw [Int64.lt_iff_toInt_lt, lN_t ha, lN_t hb]
theorem lN_eq' {a b : Int} (ha : r64 a) (hb : r64 b) : Int64.ofInt a = Int64.ofInt b ↔ a = b := by rw [← Int64.toInt_inj, lN_t ha, lN_t hb]
theorem r32_0 : r32 0 := ⟨by decide, by decide⟩
theorem iN_cl {i : Int} (h : r32 i) : (Int32.ofInt i).toNatClampNeg = i.toNat := Int32.toNatClampNeg_ofInt_of_le (by unfold r32 at h; omega) (by unfold r32 at h; omega)
theorem iN_in {i : Int} {n : Nat} (h : r32 i) (h0 : 0 ≤ i ∧ i < n) : vp_in (Int32.ofInt i) n := vp_in_iff.mpr (by rw [iN_t h]; exact h0)
def sh_l (a b : Int) : Int := (Int32.ofInt a <<< (Int32.ofInt b &&& 31)).toInt
def sh_r (a b : Int) : Int := (Int32.ofInt a >>> (Int32.ofInt b &&& 31)).toInt
def us_r (a b : Int) : Int := ((Int32.ofInt a).toUInt32 >>> ((Int32.ofInt b).toUInt32 &&& Int32.toUInt32 31)).toInt32.toInt
def an_d (a b : Int) : Int := (Int32.ofInt a &&& Int32.ofInt b).toInt
def o_r (a b : Int) : Int := (Int32.ofInt a ||| Int32.ofInt b).toInt
def x_r (a b : Int) : Int := (Int32.ofInt a ^^^ Int32.ofInt b).toInt
def t_b (a : Int) : Int := (Int32.ofInt a).toInt8.toInt32.toInt
def t_s (a : Int) : Int := (Int32.ofInt a).toInt16.toInt32.toInt
def l_c (a b : Int) : Int := if b < a then 1 else if a = b then 0 else -1
theorem l_c_r (a b : Int) : r32 (l_c a b) := by unfold l_c r32; split; · omega
                                                split <;> omega
theorem l_c_lg {a b : Int} (ha : r64 a) (hb : r64 b) : lg_cmp (Int64.ofInt a) (Int64.ofInt b) = Int32.ofInt (l_c a b) := by
  unfold lg_cmp l_c
  simp only [gt_iff_lt, lN_lt' hb ha, lN_eq' ha hb]
  split
  · rfl
  · split <;> rfl
theorem i_div {a b : Int} (ha : r32 a) (hb : r32 b) : Int32.ofInt a / Int32.ofInt b = Int32.ofInt (w32 (a.tdiv b)) := Int32.toInt_inj.1 (by
  rw [Int32.toInt_div, iN_t ha, iN_t hb, iN_t (w32_r _)]; rfl)
theorem tmod_r {a b : Int} (ha : r32 a) (hb : r32 b) : r32 (a.tmod b) := by
  have h := iN_r (Int32.ofInt a - Int32.ofInt a / Int32.ofInt b * Int32.ofInt b)
  rw [rem_toInt, iN_t ha, iN_t hb] at h
  exact h
theorem i_rem {a b : Int} (ha : r32 a) (hb : r32 b) : Int32.ofInt a - Int32.ofInt a / Int32.ofInt b * Int32.ofInt b = Int32.ofInt (a.tmod b) := Int32.toInt_inj.1 (by
  rw [rem_toInt, iN_t ha, iN_t hb, iN_t (tmod_r ha hb)])
theorem l_div {a b : Int} (ha : r64 a) (hb : r64 b) : Int64.ofInt a / Int64.ofInt b = Int64.ofInt (w64 (a.tdiv b)) := Int64.toInt_inj.1 (by
  rw [Int64.toInt_div, lN_t ha, lN_t hb, lN_t (w64_r _)]; rfl)
theorem lrem_t (a b : Int64) : (a - a / b * b).toInt = a.toInt.tmod b.toInt := by
  rw [Int64.toInt_sub, Int64.toInt_mul, Int64.toInt_div]
  have e : (a % b).toInt = a.toInt.tmod b.toInt := Int64.toInt_mod a b
  have hb := Int64.toInt_bmod (a % b)
  rw [e] at hb
  rw [← hb, Int.tmod_def, Int.bmod_mul_bmod, Int.sub_bmod_bmod, Int.mul_comm b.toInt]
theorem tmod_r64 {a b : Int} (ha : r64 a) (hb : r64 b) : r64 (a.tmod b) := by
  have h := lN_r (Int64.ofInt a - Int64.ofInt a / Int64.ofInt b * Int64.ofInt b)
  rw [lrem_t, lN_t ha, lN_t hb] at h
  exact h
theorem l_rem {a b : Int} (ha : r64 a) (hb : r64 b) : Int64.ofInt a - Int64.ofInt a / Int64.ofInt b * Int64.ofInt b = Int64.ofInt (a.tmod b) := Int64.toInt_inj.1 (by
  rw [lrem_t, lN_t ha, lN_t hb, lN_t (tmod_r64 ha hb)])
theorem i_2l {a : Int} (ha : r32 a) : (Int32.ofInt a).toInt64 = Int64.ofInt a := Int64.toInt_inj.1 (by
  rw [Int32.toInt_toInt64, iN_t ha, lN_t (r32_64 ha)])
theorem l_2i {a : Int} (ha : r64 a) : (Int64.ofInt a).toInt32 = Int32.ofInt (w32 a) := by
  rw [iN_w, ← Int32.ofInt_int64ToInt, lN_t ha]
-- the world
abbrev GX : Type := va_G × (Nat → Nat) × (ClassId × ClassId × ClassId)
abbrev Sh : Type := (Nat × List Nat) ⊕ ((Nat × Nat) ⊕ List Nat)
abbrev mm_cl : List vw_C := [(RX0, TX0, 11), (RX2, TX2, 4), (RX3, TX3, 5), (RX4, TX4, 9), (RX5, TX5, 3), (RX6, TX6, 2), (RX7, TX7, 4), (RX8, TX8, 8), (RX9, TX9, 10), (RX10, TX10, 46)]
def shp : List Sh := [.inl (8, [4, 11, 2, 18, 20, 36, 39, 41, 44, 46]),
  .inl (0, [0, 0, 0, 0, 5, 6, 7, 8, 0, 9, 10]),
  .inr (.inl (0, 6)),
  .inr (.inl (0, 6)),
  .inr (.inl (0, 6)),
  .inr (.inl (0, 6)),
  .inr (.inl (0, 40)),
  .inr (.inl (0, 40)),
  .inl (0, [0, 0, 0, 0, 12, 13, 14, 15, 0, 16, 17]),
  .inr (.inl (0, 6)),
  .inr (.inl (0, 6)),
  .inr (.inl (0, 6)),
  .inr (.inl (0, 6)),
  .inr (.inl (0, 40)),
  .inr (.inl (0, 40)),
  .inl (5, [19, 0]),
  .inr (.inl (0, 160)),
  .inl (6, [0, 21, 28, 35]),
  .inr (.inr [19, 20, 21, 22, 23, 24]),
  .inr (.inl (0, 160)),
  .inr (.inl (0, 160)),
  .inr (.inl (0, 160)),
  .inr (.inl (0, 160)),
  .inr (.inl (0, 160)),
  .inr (.inl (0, 160)),
  .inr (.inr [26, 27, 28, 29, 30, 31]),
  .inr (.inl (0, 3)),
  .inr (.inl (0, 3)),
  .inr (.inl (0, 3)),
  .inr (.inl (0, 3)),
  .inr (.inl (0, 3)),
  .inr (.inl (0, 3)),
  .inr (.inl (0, 160)),
  .inl (3, [18, 37, 38, 0, 0, 0, 0, 0, 0]),
  .inr (.inl (0, 160)),
  .inr (.inl (0, 3)),
  .inl (1, [20, 0, 0, 40]),
  .inr (.inl (0, 6)),
  .inl (7, [4, 39, 42, 43, 0, 0, 0, 0]),
  .inr (.inl (0, 6)),
  .inr (.inl (0, 80)),
  .inl (2, [41, 45, 0, 0, 0]),
  .inr (.inl (0, 6)),
  .inl (4, [47, 48, 49]),
  .inr (.inl (0, 4)),
  .inr (.inl (0, 4)),
  .inr (.inr [47, 48, 49, 50]),
  .inr (.inl (0, 40)),
  .inr (.inl (0, 40)),
  .inr (.inl (0, 40)),
  .inr (.inl (0, 40)),
  .inl (9, [0, 55, 56, 0, 0, 57, 0, 0, 0, 58, 59, 0, 60, 61, 0, 0, 0, 0, 0, 0, 0, 0, 0, 0, 0, 0, 1, 0, 2, 0, 0, 0, 62, 63, 64, 65, 66, 0, 0, 0, 0, 0, 67, 68, 69, 70]),
  .inr (.inl (0, 960)),
  .inr (.inl (0, 6)),
  .inr (.inl (0, 160)),
  .inr (.inl (0, 6)),
  .inr (.inl (0, 18)),
  .inr (.inl (0, 40)),
  .inr (.inl (0, 40)),
  .inr (.inl (0, 6)),
  .inr (.inl (0, 20)),
  .inr (.inl (0, 18)),
  .inr (.inl (0, 40)),
  .inr (.inl (0, 40)),
  .inr (.inl (1, 4)),
  .inr (.inl (0, 4)),
  .inr (.inl (0, 4)),
  .inr (.inl (0, 160))]
abbrev shN : Nat := 68
theorem shp_len : shp.length = shN := by decide
def tv (g : GX) : VV → Value
  | .inl x => .int (Int32.ofInt x)
  | .inr (.inl x) => .long (Int64.ofInt x)
  | .inr (.inr o) => .ref (g.2.1 o)
def fv (g : GX) (M : Mem) (o k : Nat) : Nat → Value
  | 0 => .int (Int32.ofInt (M o k))
  | 1 => .long (Int64.ofInt (M o k))
  | 2 => .int (Int32.ofInt (M o k))
  | n + 3 => .ref (g.2.1 n)
def ent (g : GX) (M : Mem) (o : Nat) : Sh → va_E
  | .inl q => .inr (q.1, q.2.mapIdx (fun k d => fv g M o k d))
  | .inr (.inl q) => .inl (if q.1 = 0 then g.2.2.1 else g.2.2.2.1, q.2, .inl (fun j => Int32.ofInt (M o j)))
  | .inr (.inr ids) => .inl (g.2.2.2.2, ids.length, .inr (.inr (.inr (.inr (fun j => (ids[j]?).map g.2.1)))))
def wld (g : GX) (M : Mem) : va_W := shp.mapIdx (fun o e => (g.2.1 o, ent g M o e))
theorem wld_get (g : GX) (M : Mem) (o : Nat) : (wld g M)[o]? = (shp[o]?).map (fun e => (g.2.1 o, ent g M o e)) := by
  unfold wld; rw [List.getElem?_mapIdx]
theorem wld_at {g : GX} {M : Mem} {o : Nat} {e : Sh} (h : shp[o]? = some e) : (wld g M)[o]? = some (g.2.1 o, ent g M o e) := by rw [wld_get, h]; rfl
def up (M : Mem) (o k : Nat) (v : Int) : Mem := fun o' k' => if o' = o ∧ k' = k then v else M o' k'
/-- a whole row anew -/
def upr (M : Mem) (o : Nat) (f : Nat → Int) : Mem := fun o' k' => if o' = o then f k' else M o' k'
theorem wld_set {g : GX} {M M' : Mem} {o : Nat} {e : Sh} {x : va_E} (h : shp[o]? = some e) (hx : ent g M' o e = x) (ho : ∀ o' k, o' ≠ o → M' o' k = M o' k) : (wld g M).set o (g.2.1 o, x) = wld g M' := by
  apply List.ext_getElem?
  intro i
  have hl : o < (wld g M).length := by
    have := (List.getElem?_eq_some_iff.mp h).1
    unfold wld; rw [List.length_mapIdx]; exact this
  by_cases hi : i = o
  · subst hi
    rw [List.getElem?_set_self hl, wld_at h, hx]
  · rw [List.getElem?_set_ne (Ne.symm hi), wld_get, wld_get]
    congr 1
    funext e'
    have hM : ∀ k, M' i k = M i k := fun k => ho i k hi
    have : M' i = M i := funext hM
    have e1 : ent g M i e' = ent g M' i e' := by
      rcases e' with q | q | q
      · show Sum.inr _ = Sum.inr _
        congr 2
        · congr 1
          funext k d
          unfold fv
          rw [this]
      · show Sum.inl _ = Sum.inl _
        rw [this]
      · rfl
    rw [e1]
def Ag (g : GX) : Nat → Prop := fun q => ∃ i, i < shN ∧ q = g.2.1 i
def AdOk (g : GX) : Prop := ∀ i j, i < shN → j < shN → g.2.1 i = g.2.1 j → i = j
theorem wld_D {g : GX} (h : AdOk g) (M : Mem) : va_D (Ag g) (wld g M) := by
  have hat : ∀ (i : Nat) (p : Nat × va_E), (wld g M)[i]? = some p → i < shN ∧ p.1 = g.2.1 i := by
    intro i p hp
    rw [wld_get] at hp
    cases hs : shp[i]? with
    | none => rw [hs] at hp; cases hp
    | some e =>
      rw [hs] at hp
      cases hp
      refine ⟨?_, rfl⟩
      have := (List.getElem?_eq_some_iff.mp hs).1
      rwa [shp_len] at this
  refine ⟨fun i j p q hp hq hpq => ?_, fun k q hq => ?_⟩
  · obtain ⟨h1, h2⟩ := hat i p hp
    obtain ⟨h3, h4⟩ := hat j q hq
    exact h i j h1 h3 (by rw [← h2, ← h4, hpq])
  · obtain ⟨h1, h2⟩ := hat k q hq
    exact ⟨k, h1, h2⟩
def mm_tys (g : GX) : List (ClassId × FieldType) := [(g.2.2.1, .int), (g.2.2.2.1, .boolean), (g.2.2.2.2, .array .int)]
def isNest : Cond → Bool
  | .fieldLinkNest .. => true
  | .methodLinkNest .. => true
  | _ => false
def nst_tbl : List Cond := tables_1.filter isNest
def gd_tbl : List Cond := lw_tbl.filter goodWord
theorem gd_good : ∀ w ∈ gd_tbl, (w.onTables && w.keeps) = true ∨ ∃ ty, w = .arrayClass ty := fun w h => good_of_word (List.mem_filter.mp h).2
def NW (U : State) : Prop := ∀ w ∈ nst_tbl, va_Nw w U
theorem NW.warm {s U : State} (hW : s.WarmedH U.vm) (h : NW s) : NW U := by
  intro w hw
  have h1 := h w hw
  have h2 := (List.mem_filter.mp hw).2
  cases w <;> first | exact va_Nw.warmF hW h1 | exact va_Nw.warmM hW h1 | cases h2
theorem NW.same {s U : State} (hv : s.vm = U.vm) (h : NW s) : NW U := by
  intro w hw
  have h1 := h w hw
  have h2 := (List.mem_filter.mp hw).2
  cases w <;> first | exact va_Nw.same rfl hv h1 | cases h2
def KK (g : GX) (U : State) : Prop := va_K g.1 mm_cl (mm_tys g) U ∧ NW U ∧ AdOk g
theorem KK.warm {g : GX} {s U : State} (hW : s.WarmedH U.vm) (h : KK g s) : KK g U := ⟨va_K.moved hW.alike h.1, h.2.1.warm hW, h.2.2⟩
theorem KK.same {g : GX} {s U : State} (hv : s.vm = U.vm) (h : KK g s) : KK g U := ⟨va_K.moved (u := s) (U := U) (by rw [hv]; exact Vm.Alike.refl U.vm) h.1, h.2.1.same hv, h.2.2⟩
def wtx : String := "stem colour number angle left room turns costs lasts or and not "
def wbt : List Int32 := [115, 116, 101, 109, 32, 99, 111, 108, 111, 117, 114, 32, 110, 117, 109, 98, 101, 114, 32, 97, 110, 103, 108, 101, 32, 108, 101, 102, 116, 32, 114, 111, 111, 109, 32, 116, 117, 114, 110, 115, 32, 99, 111, 115, 116, 115, 32, 108, 97, 115, 116, 115, 32, 111, 114, 32, 97, 110, 100, 32, 110, 111, 116, 32]
def un_l : List Int32 := [-1, 0, 0, 1, 2, 0]
abbrev idS : Nat := 68
abbrev idU : Nat := 69
/-- the String's bytes -/
abbrev idB : Nat := 70
def SS (g : GX) (U : State) (H : Heap) : Prop :=
  va_Z "FortyStems$Kind" "UNDER" "[I" (.ref (g.2.1 idU)) (Ag g) U H ∧ va_T .int (g.2.1 idU) 6 (fun j => .int (un_l.getD j 0)) (Ag g) U H ∧
  va_Z "java/lang/String" "COMPACT_STRINGS" "Z" (.int 1) (Ag g) U H ∧ va_Zq "jdk/internal/util/Preconditions" "SIOOBE_FORMATTER" "Ljava/util/function/BiFunction;" (Ag g) U H ∧
  vk_R "FortyStems$Reader" 99 wtx (g.2.1 idS) U ∧ vk_S 1 [64] [wbt] (fun _ => g.2.1 idS) (fun _ => g.2.1 idB) (Ag g) U H
theorem SS.go {g : GX} {s U : State} {H H1 : Heap} (hW : s.WarmedH U.vm) (h : SS g s H) (hq : ∀ a : Nat, a < H.size → ¬ Ag g a → H1[a]? = H[a]?) : SS g U H1 := by
  obtain ⟨h1, h2, h3, h4, h5, h6⟩ := h
  exact ⟨(h1.moved hW.alike).kept hq, (h2.moved hW.alike).kept hq, (h3.moved hW.alike).kept hq, (h4.moved hW.alike).kept hq, h5.warm hW, (h6.moved hW.alike).kept hq⟩
theorem SS.same {g : GX} {s U : State} {H : Heap} (hv : U.vm = s.vm) (h : SS g s H) : SS g U H := by
  obtain ⟨h1, h2, h3, h4, h5, h6⟩ := h
  have hal : s.vm.Alike U.vm := by rw [hv]; exact Vm.Alike.refl s.vm
  exact ⟨h1.moved hal, h2.moved hal, h3.moved hal, h4.moved hal, h5.same hv, h6.moved hal⟩
-- canonical numbers
def cV : VV → Prop
  | .inl x => r32 x
  | .inr (.inl x) => r64 x
  | .inr (.inr _) => True
def Can (M : Mem) : Prop := ∀ o k, r32 (M o k)
def CanL (L : List (Nat × VV)) : Prop := ∀ q ∈ L, cV q.2
def CanS (S : List VV) : Prop := ∀ v ∈ S, cV v
theorem Can.up {M : Mem} (h : Can M) {o k : Nat} {v : Int} (hv : r32 v) : Can (up M o k v) := by
  intro o' k'; unfold Jvm.Pilot.@@N@@.up; split
  · exact hv
  · exact h o' k'
theorem CanS.push {S : List VV} {v : VV} (h : CanS S) (hv : cV v) : CanS (v :: S) := fun w hw => (List.mem_cons.mp hw).elim (fun e => e ▸ hv) (h w)
theorem CanS.tl {S : List VV} {v : VV} (h : CanS (v :: S)) : CanS S := fun w hw => h w (List.mem_cons_of_mem _ hw)
theorem CanS.hd {S : List VV} {v : VV} (h : CanS (v :: S)) : cV v := h v List.mem_cons_self
-- contracts
abbrev MD : Type := MethodName × ByteArray × Nat × Option FieldType
def rmO (n : Nat) : Room := { frames := n, cells := 0, slots := 0, locals := 60 * n }
def PcO (g : GX) (as : List VV) (M : Mem) : Array Value → State → Prop := fun v U => v = (as.map (tv g)).toArray ∧ Can M ∧ CanS as ∧ va_P g.1 mm_cl (wld g M) U.heap ∧ KK g U ∧ SS g U U.heap
def rvO : Option FieldType → Int → Option Value
  | none, _ => none
  | some .long, r => some (.long (Int64.ofInt r))
  | some _, r => some (.int (Int32.ofInt r))
def rsO : Option FieldType → Int → List VV
  | none, _ => []
  | some .long, r => [vL r]
  | some _, r => [vI r]
theorem rsO_map (g : GX) (ret : Option FieldType) (r : Int) : (rsO ret r).map (tv g) = (rvO ret r).toList := by
  cases ret with
  | none => rfl
  | some t => cases t <;> rfl
def QcO (g : GX) (ret : Option FieldType) (Q : Int → Mem → Prop) : Array Value → State → Outcome → State → Prop := fun _ st oc t =>
  (∃ (r : Int) (M' : Mem), oc = .returned (rvO ret r) ∧ CanS (rsO ret r) ∧ Q r M' ∧ Can M' ∧ va_P g.1 mm_cl (wld g M') t.heap) ∧ va_F (Ag g) st t
def Con (n : Nat) (md : MD) (as : List VV) (M : Mem) (Q : Int → Mem → Prop) : Prop :=
  ∀ (l : Launch) (g : GX), Met l md.1 (.code md.1 md.2.1 md.2.2.1 md.2.2.2 :: gd_tbl) (rmO n) (PcO g as M) (QcO g md.2.2.2 Q) 0 0 (Ag g)
theorem Con.mono {n : Nat} {md : MD} {as : List VV} {M : Mem} {Q Q' : Int → Mem → Prop} (h : Con n md as M Q) (hq : ∀ r M', CanS (rsO md.2.2.2 r) → Can M' → Q r M' → Q' r M') : Con n md as M Q' := by
  intro l g
  refine MetFree.mono (h l g) (fun _ _ h => h) (fun _ _ _ _ _ h => h) (fun a s o s' _ h => ?_)
  obtain ⟨⟨⟨r, M', h1, h2, h3, h4, h5⟩, hF⟩, hL⟩ := h
  exact ⟨⟨⟨r, M', h1, h2, hq r M' h2 h4 h3, h4, h5⟩, hF⟩, hL⟩
theorem PcO.blind (g : GX) (as : List VV) (M : Mem) : FrameBlind (PcO g as M) := by
  intro a U fr mk h
  obtain ⟨h1, h2, h3, h4, h5, h6⟩ := h
  exact ⟨h1, h2, h3, h4, KK.same (s := U) (U := U.calling fr mk a) rfl h5, SS.same (s := U) (U := U.calling fr mk a) rfl h6⟩
-- a place in a method's walk
abbrev CT : Type := (Program × Launch × Env × Room × State) × (MethodId × Array Value × List Frame × Method × Code) × (Nat × Nat × Nat × (State → Prop)) × GX
def WM (X : CT) (pc : Nat) (L : List (Nat × VV)) (S : List VV) (M : Mem) : Prop :=
  Can M → CanL L → CanS S → ∀ (H : Heap) (locs : List Loc) (ls : Array Slot), va_P X.2.2.2.1 mm_cl (wld X.2.2.2 M) H → va_S (Ag X.2.2.2) X.1.2.2.2.2.heap H locs → lv_has ls X.2.2.1.1 (L.map (fun q => (q.1, tv X.2.2.2 q.2))) →
    W X.1.1 X.1.2.1 X.1.2.2.1 X.1.2.2.2.1 X.1.2.2.2.2 X.2.1.1 X.2.1.2.1 X.2.1.2.2.1 X.2.1.2.2.2.1 X.2.1.2.2.2.2 H locs X.2.2.1.2.1 X.2.2.1.2.2.1 X.2.2.1.2.2.2 (F0 X.2.1.1 pc ls (S.map (tv X.2.2.2)))
/-- what stays the same in a walk; n: how deep its calls may go -/
def Cx (X : CT) (cc : ByteArray) (own : String) (n : Nat) : Prop :=
  X.1.1.tables.exec = Jvm.exec ∧ X.2.1.2.2.2.2.code = cc ∧ X.2.1.2.2.2.2.maxLocals = X.2.2.1.1 ∧ X.1.2.2.2.2.vm.findClass own = some X.2.1.1.cls ∧ (∀ w ∈ gd_tbl, w.before X.2.1.2.1 X.1.2.2.2.2 = true) ∧ KK X.2.2.2 X.1.2.2.2.2 ∧ SS X.2.2.2 X.1.2.2.2.2 X.1.2.2.2.2.heap ∧
  (n + 1 ≤ X.1.2.2.2.1.frames ∧ 60 * n + 60 ≤ X.1.2.2.2.1.locals ∧ X.2.2.1.2.1 ≤ X.1.2.2.2.1.cells ∧ X.2.2.1.2.2.1 ≤ X.1.2.2.2.1.slots)
/-- and at a method's end -/
def Cr (X : CT) (ret : Option FieldType) (Q : Int → Mem → Prop) : Prop :=
  X.2.1.2.2.2.1.sig.returnType = ret ∧ X.2.1.2.2.2.1.locks = false ∧ X.2.2.1.2.2.2 = MQ X.2.1.2.2.1 (QcO X.2.2.2 ret Q) X.2.1.2.1 X.1.2.2.2.2 X.2.2.1.2.1 X.2.2.1.2.2.1 (Ag X.2.2.2)
def lvA : Nat → List VV → List (Nat × VV)
  | _, [] => []
  | i, .inl x :: vs => (i, .inl x) :: lvA (i + 1) vs
  | i, .inr (.inl x) :: vs => (i, .inr (.inl x)) :: lvA (i + 2) vs
  | i, .inr (.inr x) :: vs => (i, .inr (.inr x)) :: lvA (i + 1) vs
theorem lvA_map (g : GX) : ∀ (vs : List VV) (i : Nat), (lvA i vs).map (fun q => (q.1, tv g q.2)) = lv_args i (vs.map (tv g))
  | [], _ => rfl
  | .inl x :: vs, i => by
    show _ :: _ = _ :: _
    rw [lvA_map g vs (i + 1)]; rfl
  | .inr (.inl x) :: vs, i => by
    show _ :: _ = _ :: _
    rw [lvA_map g vs (i + 2)]; rfl
  | .inr (.inr x) :: vs, i => by
    show _ :: _ = _ :: _
    rw [lvA_map g vs (i + 1)]; rfl
theorem lvA_can : ∀ (vs : List VV) (i : Nat), CanS vs → CanL (lvA i vs)
  | [], _, _ => fun _ h => by cases h
  | .inl x :: vs, i, h => fun q hq => (List.mem_cons.mp hq).elim (fun e => e ▸ h.hd) (lvA_can vs (i + 1) h.tl q)
  | .inr (.inl x) :: vs, i, h => fun q hq => (List.mem_cons.mp hq).elim (fun e => e ▸ h.hd) (lvA_can vs (i + 2) h.tl q)
  | .inr (.inr x) :: vs, i, h => fun q hq => (List.mem_cons.mp hq).elim (fun e => e ▸ h.hd) (lvA_can vs (i + 1) h.tl q)
def wdt : List VV → Nat
  | [] => 0
  | .inr (.inl _) :: vs => 2 + wdt vs
  | _ :: vs => 1 + wdt vs
theorem lg_sl_len (g : GX) : ∀ vs : List VV, (lg_sl (vs.map (tv g))).length = wdt vs
  | [] => rfl
  | .inl x :: vs => by
    show ([Slot.val (tv g (vI x))] ++ lg_sl (vs.map (tv g))).length = 1 + wdt vs
    rw [List.length_append, lg_sl_len g vs]; rfl
  | .inr (.inl x) :: vs => by
    show ([Slot.val (tv g (vL x)), Slot.second] ++ lg_sl (vs.map (tv g))).length = 2 + wdt vs
    rw [List.length_append, lg_sl_len g vs]; rfl
  | .inr (.inr x) :: vs => by
    show ([Slot.val (tv g (vR x))] ++ lg_sl (vs.map (tv g))).length = 1 + wdt vs
    rw [List.length_append, lg_sl_len g vs]; rfl
theorem wdt_cat (g : GX) : ∀ vs : List VV, ((vs.map (tv g)).map fun v => v.category).sum = wdt vs
  | [] => rfl
  | .inl x :: vs => by
    show 1 + ((vs.map (tv g)).map fun v => v.category).sum = 1 + wdt vs
    rw [wdt_cat g vs]
  | .inr (.inl x) :: vs => by
    show 2 + ((vs.map (tv g)).map fun v => v.category).sum = 2 + wdt vs
    rw [wdt_cat g vs]
  | .inr (.inr x) :: vs => by
    show 1 + ((vs.map (tv g)).map fun v => v.category).sum = 1 + wdt vs
    rw [wdt_cat g vs]
/-- a contract out of a walk -/
theorem Con.of {n : Nat} (hn : 0 < n) {y : MethodName} {cc : ByteArray} {nL : Nat} {ret : Option FieldType} {as : List VV} {M : Mem} {Q : Int → Mem → Prop} (hy : plainName y.cls = true) (hw : wdt as ≤ nL)
    (h : ∀ X : CT, Cx X cc y.cls (n - 1) → Cr X ret Q → X.2.2.1.1 = nL → WM X 0 (lvA 0 as) [] M) : Con n (y, cc, nL, ret) as M Q := by
  intro l g
  refine Met.ofW (cc := cc) (maxL := nL) (ret := ret) hy rfl ?_
  intro p e s m args below meth c s₁ B hml hv
  obtain ⟨rfl, hCM, hCa, hP, hK, hS⟩ := hv
  have hts := atoms_spec (ws := .code y cc nL ret :: gd_tbl) B.pre
  have hown : s.vm.findClass y.cls = some m.cls := findClass_of_methodNamed B.named
  rw [lg_entry_eq]
  have hl := lv_entry (as.map (tv g)) (n := nL) (by rw [lg_sl_len]; exact hw)
  rw [← lvA_map] at hl
  exact h ((p, l, e, rmO n, s), (m, (as.map (tv g)).toArray, below, meth, c), (nL, 0, 0, MQ below (QcO g ret Q) (as.map (tv g)).toArray s 0 0 (Ag g)), g)
    ⟨B.exec, B.bytes, hml, hown, fun w hw => hts w (List.mem_cons_of_mem _ hw), hK, hS, by
      show n - 1 + 1 ≤ n; omega, by show 60 * (n - 1) + 60 ≤ 60 * n; omega, Nat.le_refl _, Nat.le_refl _⟩
    ⟨B.returns, B.notSynchronized, rfl⟩ rfl hCM (lvA_can as 0 hCa) (fun _ h => by cases h) s.heap [] _ hP va_S.rf hl
section ROWS
variable {X : CT} {cc : ByteArray} {own : String} {n pc : Nat} {L : List (Nat × VV)} {S : List VV} {M : Mem}
theorem WM.eq {pc' : Nat} (h : pc = pc') (K : WM X pc' L S M) : WM X pc L S M := h ▸ K
theorem m_at {X : CT} {ls : Array Slot} {L : List (Nat × VV)} (hl : lv_has ls X.2.2.1.1 (L.map (fun q => (q.1, tv X.2.2.2 q.2)))) (k : Nat) {i : Nat} {v : VV} (hk : L[k]? = some (i, v)) : ls[i]? = some (.val (tv X.2.2.2 v)) := lv_at hl k (by rw [List.getElem?_map, hk]; rfl)
theorem m_cat {L : List (Nat × VV)} (h : CanL L) {k i : Nat} {v : VV} (hk : L[k]? = some (i, v)) : cV v := h (i, v) (List.mem_of_getElem? hk)
def c2 : VV → Bool
  | .inr (.inl _) => true
  | _ => false
theorem c2_tv (g : GX) (v : VV) : ((tv g v).category == 2) = c2 v := by rcases v with x | x | x <;> rfl
theorem m_flt (g : GX) (i : Nat) : ∀ L : List (Nat × VV), (L.map (fun q => (q.1, tv g q.2))).filter (fun q => !(q.1 == i) && !(q.1 + 1 == i && q.2.category == 2)) = (L.filter (fun q => !(q.1 == i) && !(q.1 + 1 == i && c2 q.2))).map (fun q => (q.1, tv g q.2)) := by
  intro L
  rw [List.filter_map]
  congr 1
  apply List.filter_congr
  intro q _
  show (!(q.1 == i) && !(q.1 + 1 == i && (tv g q.2).category == 2)) = _
  rw [c2_tv]
theorem m_flt2 (g : GX) (i : Nat) : ∀ L : List (Nat × VV), (L.map (fun q => (q.1, tv g q.2))).filter (fun q => !(q.1 == i) && (!(q.1 == i + 1) && !(q.1 + 1 == i && q.2.category == 2))) = (L.filter (fun q => !(q.1 == i) && (!(q.1 == i + 1) && !(q.1 + 1 == i && c2 q.2)))).map (fun q => (q.1, tv g q.2)) := by
  intro L
  rw [List.filter_map]
  congr 1
  apply List.filter_congr
  intro q _
  show (!(q.1 == i) && (!(q.1 == i + 1) && !(q.1 + 1 == i && (tv g q.2).category == 2))) = _
  rw [c2_tv]
theorem CanL.set {L : List (Nat × VV)} (h : CanL L) {f : Nat × VV → Bool} {i : Nat} {v : VV} (hv : cV v) : CanL ((i, v) :: L.filter f) := fun q hq => (List.mem_cons.mp hq).elim (fun e => e ▸ hv) (fun h1 => h q (List.mem_filter.mp h1).1)

theorem m_iconst (C : Cx X cc own n) {v : Int} (hd : decode cc pc = .ok (.iconst v, 1)) (hv : r32 v) (K : WM X (pc + 1) L (vI v :: S) M) : WM X pc L S M :=
  fun a b c H lo ls hP hS hl => lv_iconst C.1 C.2.1 hd rfl (K a b (c.push hv) H lo ls hP hS hl)
theorem m_bipush (C : Cx X cc own n) {v : Int} (hd : decode cc pc = .ok (.bipush v, 2)) (hv : r32 v) (he : (Int8.ofInt v).toInt32 = Int32.ofInt v) (K : WM X (pc + 2) L (vI v :: S) M) : WM X pc L S M :=
  fun a b c H lo ls hP hS hl => lv_bipush C.1 C.2.1 hd he (K a b (c.push hv) H lo ls hP hS hl)
theorem m_sipush (C : Cx X cc own n) {v : Int} (hd : decode cc pc = .ok (.sipush v, 3)) (hv : r32 v) (he : (Int16.ofInt v).toInt32 = Int32.ofInt v) (K : WM X (pc + 3) L (vI v :: S) M) : WM X pc L S M :=
  fun a b c H lo ls hP hS hl => lv_sipush C.1 C.2.1 hd he (K a b (c.push hv) H lo ls hP hS hl)
theorem m_ldc (C : Cx X cc own n) {i : Nat} {v : Int} (hd : decode cc pc = .ok (.ldc i, 2)) (hm : Cond.constant own i (Int32.ofInt v) ∈ gd_tbl) (hv : r32 v) (K : WM X (pc + 2) L (vI v :: S) M) : WM X pc L S M :=
  fun a b c H lo ls hP hS hl => lv_ldc C.1 C.2.1 C.2.2.2.1 (C.2.2.2.2.1 _ hm) hd (K a b (c.push hv) H lo ls hP hS hl)
theorem m_ldc_w (C : Cx X cc own n) {i : Nat} {v : Int} (hd : decode cc pc = .ok (.ldc_w i, 3)) (hm : Cond.constant own i (Int32.ofInt v) ∈ gd_tbl) (hv : r32 v) (K : WM X (pc + 3) L (vI v :: S) M) : WM X pc L S M :=
  fun a b c H lo ls hP hS hl => lv_ldcw C.1 C.2.1 C.2.2.2.1 (C.2.2.2.2.1 _ hm) hd (K a b (c.push hv) H lo ls hP hS hl)
theorem m_ldc2 (C : Cx X cc own n) {i : Nat} {v : Int} (hd : decode cc pc = .ok (.ldc2_w i, 3)) (hm : Cond.constantLong own i (Int64.ofInt v) ∈ gd_tbl) (hv : r64 v) (K : WM X (pc + 3) L (vL v :: S) M) : WM X pc L S M :=
  fun a b c H lo ls hP hS hl => lv_ldc2 C.1 C.2.1 C.2.2.2.1 (C.2.2.2.2.1 _ hm) hd (K a b (c.push hv) H lo ls hP hS hl)
theorem m_lconst (C : Cx X cc own n) {v : Fin 2} {x : Int} (hd : decode cc pc = .ok (.lconst v, 1)) (he : Int64.ofNat (v : Nat) = Int64.ofInt x) (hv : r64 x) (K : WM X (pc + 1) L (vL x :: S) M) : WM X pc L S M :=
  fun a b c H lo ls hP hS hl => lv_lconst C.1 C.2.1 hd he (K a b (c.push hv) H lo ls hP hS hl)
theorem m_iload_n (C : Cx X cc own n) {j : Fin 4} {i : Nat} {x : Int} (k : Nat) (hd : decode cc pc = .ok (.iload_n j, 1)) (hi : (j : Nat) = i) (hk : L[k]? = some (i, vI x)) (K : WM X (pc + 1) L (vI x :: S) M) : WM X pc L S M :=
  fun a b c H lo ls hP hS hl => lv_iload_n C.1 C.2.1 hd hi (m_at hl k hk) (K a b (c.push (m_cat b hk)) H lo ls hP hS hl)
theorem m_iload (C : Cx X cc own n) {i : Nat} {x : Int} (k : Nat) (hd : decode cc pc = .ok (.iload i, 2)) (hk : L[k]? = some (i, vI x)) (K : WM X (pc + 2) L (vI x :: S) M) : WM X pc L S M :=
  fun a b c H lo ls hP hS hl => lv_iload C.1 C.2.1 hd (m_at hl k hk) (K a b (c.push (m_cat b hk)) H lo ls hP hS hl)
theorem m_istore_n (C : Cx X cc own n) {j : Fin 4} {i : Nat} {x : Int} {L' : List (Nat × VV)} (hd : decode cc pc = .ok (.istore_n j, 1)) (hi : (j : Nat) = i) (hn : i < X.2.2.1.1) (hL : (i, vI x) :: L.filter (fun q => !(q.1 == i) && !(q.1 + 1 == i && c2 q.2)) = L') (K : WM X (pc + 1) L' S M) : WM X pc L (vI x :: S) M :=
  fun a b c H lo ls hP hS hl => lv_istore_n C.1 C.2.1 hd hi hl hn (by rw [m_flt]) (fun ls' hl' => K a (by rw [← hL]; exact b.set c.hd) c.tl H lo ls' hP hS (by rw [← hL]; exact hl'))
theorem m_istore (C : Cx X cc own n) {i : Nat} {x : Int} {L' : List (Nat × VV)} (hd : decode cc pc = .ok (.istore i, 2)) (hn : i < X.2.2.1.1) (hL : (i, vI x) :: L.filter (fun q => !(q.1 == i) && !(q.1 + 1 == i && c2 q.2)) = L') (K : WM X (pc + 2) L' S M) : WM X pc L (vI x :: S) M :=
  fun a b c H lo ls hP hS hl => lv_istore C.1 C.2.1 hd hl hn (by rw [m_flt]) (fun ls' hl' => K a (by rw [← hL]; exact b.set c.hd) c.tl H lo ls' hP hS (by rw [← hL]; exact hl'))
theorem m_lload_n (C : Cx X cc own n) {j : Fin 4} {i : Nat} {x : Int} (k : Nat) (hd : decode cc pc = .ok (.lload_n j, 1)) (hi : (j : Nat) = i) (hk : L[k]? = some (i, vL x)) (K : WM X (pc + 1) L (vL x :: S) M) : WM X pc L S M :=
  fun a b c H lo ls hP hS hl => lv_lload_n C.1 C.2.1 hd hi (m_at hl k hk) (K a b (c.push (m_cat b hk)) H lo ls hP hS hl)
theorem m_lload (C : Cx X cc own n) {i : Nat} {x : Int} (k : Nat) (hd : decode cc pc = .ok (.lload i, 2)) (hk : L[k]? = some (i, vL x)) (K : WM X (pc + 2) L (vL x :: S) M) : WM X pc L S M :=
  fun a b c H lo ls hP hS hl => lv_lload C.1 C.2.1 hd (m_at hl k hk) (K a b (c.push (m_cat b hk)) H lo ls hP hS hl)
theorem m_lstore_n (C : Cx X cc own n) {j : Fin 4} {i : Nat} {x : Int} {L' : List (Nat × VV)} (hd : decode cc pc = .ok (.lstore_n j, 1)) (hi : (j : Nat) = i) (hn : i + 1 < X.2.2.1.1) (hL : (i, vL x) :: L.filter (fun q => !(q.1 == i) && (!(q.1 == i + 1) && !(q.1 + 1 == i && c2 q.2))) = L') (K : WM X (pc + 1) L' S M) : WM X pc L (vL x :: S) M :=
  fun a b c H lo ls hP hS hl => lv_lstore_n C.1 C.2.1 hd hi hl hn (by rw [m_flt2]) (fun ls' hl' => K a (by rw [← hL]; exact b.set c.hd) c.tl H lo ls' hP hS (by rw [← hL]; exact hl'))
theorem m_lstore (C : Cx X cc own n) {i : Nat} {x : Int} {L' : List (Nat × VV)} (hd : decode cc pc = .ok (.lstore i, 2)) (hn : i + 1 < X.2.2.1.1) (hL : (i, vL x) :: L.filter (fun q => !(q.1 == i) && (!(q.1 == i + 1) && !(q.1 + 1 == i && c2 q.2))) = L') (K : WM X (pc + 2) L' S M) : WM X pc L (vL x :: S) M :=
  fun a b c H lo ls hP hS hl => lv_lstore C.1 C.2.1 hd hl hn (by rw [m_flt2]) (fun ls' hl' => K a (by rw [← hL]; exact b.set c.hd) c.tl H lo ls' hP hS (by rw [← hL]; exact hl'))
theorem m_aload_n (C : Cx X cc own n) {j : Fin 4} {i : Nat} {x : Nat} (k : Nat) (hd : decode cc pc = .ok (.aload_n j, 1)) (hi : (j : Nat) = i) (hk : L[k]? = some (i, vR x)) (K : WM X (pc + 1) L (vR x :: S) M) : WM X pc L S M :=
  fun a b c H lo ls hP hS hl => lv_aload_n C.1 C.2.1 hd hi (m_at hl k hk) (K a b (c.push (m_cat b hk)) H lo ls hP hS hl)
theorem m_aload (C : Cx X cc own n) {i : Nat} {x : Nat} (k : Nat) (hd : decode cc pc = .ok (.aload i, 2)) (hk : L[k]? = some (i, vR x)) (K : WM X (pc + 2) L (vR x :: S) M) : WM X pc L S M :=
  fun a b c H lo ls hP hS hl => lv_aload C.1 C.2.1 hd (m_at hl k hk) (K a b (c.push (m_cat b hk)) H lo ls hP hS hl)
theorem m_astore_n (C : Cx X cc own n) {j : Fin 4} {i : Nat} {x : Nat} {L' : List (Nat × VV)} (hd : decode cc pc = .ok (.astore_n j, 1)) (hi : (j : Nat) = i) (hn : i < X.2.2.1.1) (hL : (i, vR x) :: L.filter (fun q => !(q.1 == i) && !(q.1 + 1 == i && c2 q.2)) = L') (K : WM X (pc + 1) L' S M) : WM X pc L (vR x :: S) M :=
  fun a b c H lo ls hP hS hl => lv_astore_n C.1 C.2.1 hd hi hl hn (by rw [m_flt]) (fun ls' hl' => K a (by rw [← hL]; exact b.set c.hd) c.tl H lo ls' hP hS (by rw [← hL]; exact hl'))
theorem m_astore (C : Cx X cc own n) {i : Nat} {x : Nat} {L' : List (Nat × VV)} (hd : decode cc pc = .ok (.astore i, 2)) (hn : i < X.2.2.1.1) (hL : (i, vR x) :: L.filter (fun q => !(q.1 == i) && !(q.1 + 1 == i && c2 q.2)) = L') (K : WM X (pc + 2) L' S M) : WM X pc L (vR x :: S) M :=
  fun a b c H lo ls hP hS hl => lv_astore C.1 C.2.1 hd hl hn (by rw [m_flt]) (fun ls' hl' => K a (by rw [← hL]; exact b.set c.hd) c.tl H lo ls' hP hS (by rw [← hL]; exact hl'))
theorem m_iinc (C : Cx X cc own n) {i : Nat} {v x : Int} {L' : List (Nat × VV)} (k : Nat) (hd : decode cc pc = .ok (.iinc i v, 3)) (hk : L[k]? = some (i, vI x)) (hn : i < X.2.2.1.1) (hL : (i, vI (w32 (x + v))) :: L.filter (fun q => !(q.1 == i) && !(q.1 + 1 == i && c2 q.2)) = L') (K : WM X (pc + 3) L' S M) : WM X pc L S M :=
  fun a b c H lo ls hP hS hl => lv_iinc (v := Int32.ofInt (w32 (x + v))) (k := k) C.1 C.2.1 hd hl (by rw [List.getElem?_map, hk]; rfl) (by rw [iN_w, Int32.ofInt_add]) hn (by rw [m_flt]) (fun ls' hl' => K a (by rw [← hL]; exact b.set (w32_r _)) c H lo ls' hP hS (by rw [← hL]; exact hl'))
theorem m_iadd (C : Cx X cc own n) {x y : Int} (hd : decode cc pc = .ok (.iadd, 1)) (K : WM X (pc + 1) L (vI (w32 (x + y)) :: S) M) : WM X pc L (vI y :: vI x :: S) M :=
  fun a b c H lo ls hP hS hl => lv_iadd C.1 C.2.1 hd (by have h := K a b (c.tl.tl.push (w32_r _)) H lo ls hP hS hl; rw [List.map_cons, show tv X.2.2.2 (vI (w32 (x + y))) = .int (Int32.ofInt (w32 (x + y))) from rfl, iN_w, Int32.ofInt_add] at h; exact h)
theorem m_isub (C : Cx X cc own n) {x y : Int} (hd : decode cc pc = .ok (.isub, 1)) (K : WM X (pc + 1) L (vI (w32 (x - y)) :: S) M) : WM X pc L (vI y :: vI x :: S) M :=
  fun a b c H lo ls hP hS hl => lv_isub C.1 C.2.1 hd (by have h := K a b (c.tl.tl.push (w32_r _)) H lo ls hP hS hl; rw [List.map_cons, show tv X.2.2.2 (vI (w32 (x - y))) = .int (Int32.ofInt (w32 (x - y))) from rfl, iN_w, Int32.ofInt_sub] at h; exact h)
theorem m_imul (C : Cx X cc own n) {x y : Int} (hd : decode cc pc = .ok (.imul, 1)) (K : WM X (pc + 1) L (vI (w32 (x * y)) :: S) M) : WM X pc L (vI y :: vI x :: S) M :=
  fun a b c H lo ls hP hS hl => lv_imul C.1 C.2.1 hd (by have h := K a b (c.tl.tl.push (w32_r _)) H lo ls hP hS hl; rw [List.map_cons, show tv X.2.2.2 (vI (w32 (x * y))) = .int (Int32.ofInt (w32 (x * y))) from rfl, iN_w, Int32.ofInt_mul] at h; exact h)
theorem m_ishl (C : Cx X cc own n) {x y : Int} (hd : decode cc pc = .ok (.ishl, 1)) (K : WM X (pc + 1) L (vI (sh_l x y) :: S) M) : WM X pc L (vI y :: vI x :: S) M :=
  fun a b c H lo ls hP hS hl => lv_ishl C.1 C.2.1 hd (by have h := K a b (c.tl.tl.push (iN_r _)) H lo ls hP hS hl; rw [List.map_cons, show tv X.2.2.2 (vI (sh_l x y)) = .int (Int32.ofInt (sh_l x y)) from rfl, sh_l, Int32.ofInt_toInt] at h; exact h)
theorem m_ishr (C : Cx X cc own n) {x y : Int} (hd : decode cc pc = .ok (.ishr, 1)) (K : WM X (pc + 1) L (vI (sh_r x y) :: S) M) : WM X pc L (vI y :: vI x :: S) M :=
  fun a b c H lo ls hP hS hl => lv_ishr C.1 C.2.1 hd (by have h := K a b (c.tl.tl.push (iN_r _)) H lo ls hP hS hl; rw [List.map_cons, show tv X.2.2.2 (vI (sh_r x y)) = .int (Int32.ofInt (sh_r x y)) from rfl, sh_r, Int32.ofInt_toInt] at h; exact h)
theorem m_iand (C : Cx X cc own n) {x y : Int} (hd : decode cc pc = .ok (.iand, 1)) (K : WM X (pc + 1) L (vI (an_d x y) :: S) M) : WM X pc L (vI y :: vI x :: S) M :=
  fun a b c H lo ls hP hS hl => lv_iand C.1 C.2.1 hd (by have h := K a b (c.tl.tl.push (iN_r _)) H lo ls hP hS hl; rw [List.map_cons, show tv X.2.2.2 (vI (an_d x y)) = .int (Int32.ofInt (an_d x y)) from rfl, an_d, Int32.ofInt_toInt] at h; exact h)
theorem m_ior (C : Cx X cc own n) {x y : Int} (hd : decode cc pc = .ok (.ior, 1)) (K : WM X (pc + 1) L (vI (o_r x y) :: S) M) : WM X pc L (vI y :: vI x :: S) M :=
  fun a b c H lo ls hP hS hl => lv_ior C.1 C.2.1 hd (by have h := K a b (c.tl.tl.push (iN_r _)) H lo ls hP hS hl; rw [List.map_cons, show tv X.2.2.2 (vI (o_r x y)) = .int (Int32.ofInt (o_r x y)) from rfl, o_r, Int32.ofInt_toInt] at h; exact h)
theorem m_ixor (C : Cx X cc own n) {x y : Int} (hd : decode cc pc = .ok (.ixor, 1)) (K : WM X (pc + 1) L (vI (x_r x y) :: S) M) : WM X pc L (vI y :: vI x :: S) M :=
  fun a b c H lo ls hP hS hl => lv_ixor C.1 C.2.1 hd (by have h := K a b (c.tl.tl.push (iN_r _)) H lo ls hP hS hl; rw [List.map_cons, show tv X.2.2.2 (vI (x_r x y)) = .int (Int32.ofInt (x_r x y)) from rfl, x_r, Int32.ofInt_toInt] at h; exact h)
theorem m_iushr (C : Cx X cc own n) {x y : Int} (hd : decode cc pc = .ok (.iushr, 1)) (K : WM X (pc + 1) L (vI (us_r x y) :: S) M) : WM X pc L (vI y :: vI x :: S) M :=
  fun a b c H lo ls hP hS hl => lv_iushr C.1 C.2.1 hd (by rw [us_r, Int32.ofInt_toInt]) (K a b (c.tl.tl.push (iN_r _)) H lo ls hP hS hl)
theorem m_ineg (C : Cx X cc own n) {x : Int} (hd : decode cc pc = .ok (.ineg, 1)) (K : WM X (pc + 1) L (vI (w32 (-x)) :: S) M) : WM X pc L (vI x :: S) M :=
  fun a b c H lo ls hP hS hl => lv_ineg C.1 C.2.1 hd (by have h := K a b (c.tl.push (w32_r _)) H lo ls hP hS hl; rw [List.map_cons, show tv X.2.2.2 (vI (w32 (-x))) = .int (Int32.ofInt (w32 (-x))) from rfl, iN_w, Int32.ofInt_neg] at h; exact h)
theorem m_idiv (C : Cx X cc own n) {x y : Int} (hd : decode cc pc = .ok (.idiv, 1)) (h0 : y ≠ 0) (K : WM X (pc + 1) L (vI (w32 (x.tdiv y)) :: S) M) : WM X pc L (vI y :: vI x :: S) M :=
  fun a b c H lo ls hP hS hl => lv_idiv C.1 C.2.1 hd (fun e => h0 ((iN_eq c.hd r32_0).mp e)) (by have h := K a b (c.tl.tl.push (w32_r _)) H lo ls hP hS hl; rw [List.map_cons, show tv X.2.2.2 (vI (w32 (x.tdiv y))) = .int (Int32.ofInt (w32 (x.tdiv y))) from rfl, ← i_div c.tl.hd c.hd] at h; exact h)
theorem m_irem (C : Cx X cc own n) {x y : Int} (hd : decode cc pc = .ok (.irem, 1)) (h0 : y ≠ 0) (K : WM X (pc + 1) L (vI (x.tmod y) :: S) M) : WM X pc L (vI y :: vI x :: S) M :=
  fun a b c H lo ls hP hS hl => lv_irem C.1 C.2.1 hd (fun e => h0 ((iN_eq c.hd r32_0).mp e)) (by have h := K a b (c.tl.tl.push (tmod_r c.tl.hd c.hd)) H lo ls hP hS hl; rw [List.map_cons, show tv X.2.2.2 (vI (x.tmod y)) = .int (Int32.ofInt (x.tmod y)) from rfl, ← i_rem c.tl.hd c.hd] at h; exact h)
theorem m_ladd (C : Cx X cc own n) {x y : Int} (hd : decode cc pc = .ok (.ladd, 1)) (K : WM X (pc + 1) L (vL (w64 (x + y)) :: S) M) : WM X pc L (vL y :: vL x :: S) M :=
  fun a b c H lo ls hP hS hl => lv_ladd C.1 C.2.1 hd (by have h := K a b (c.tl.tl.push (w64_r _)) H lo ls hP hS hl; rw [List.map_cons, show tv X.2.2.2 (vL (w64 (x + y))) = .long (Int64.ofInt (w64 (x + y))) from rfl, lN_w, Int64.ofInt_add] at h; exact h)
theorem m_lsub (C : Cx X cc own n) {x y : Int} (hd : decode cc pc = .ok (.lsub, 1)) (K : WM X (pc + 1) L (vL (w64 (x - y)) :: S) M) : WM X pc L (vL y :: vL x :: S) M :=
  fun a b c H lo ls hP hS hl => lv_lsub C.1 C.2.1 hd (by have h := K a b (c.tl.tl.push (w64_r _)) H lo ls hP hS hl; rw [List.map_cons, show tv X.2.2.2 (vL (w64 (x - y))) = .long (Int64.ofInt (w64 (x - y))) from rfl, lN_w, Int64.ofInt_sub] at h; exact h)
theorem m_lmul (C : Cx X cc own n) {x y : Int} (hd : decode cc pc = .ok (.lmul, 1)) (K : WM X (pc + 1) L (vL (w64 (x * y)) :: S) M) : WM X pc L (vL y :: vL x :: S) M :=
  fun a b c H lo ls hP hS hl => lv_lmul C.1 C.2.1 hd (by have h := K a b (c.tl.tl.push (w64_r _)) H lo ls hP hS hl; rw [List.map_cons, show tv X.2.2.2 (vL (w64 (x * y))) = .long (Int64.ofInt (w64 (x * y))) from rfl, lN_w, Int64.ofInt_mul] at h; exact h)
theorem m_ldiv (C : Cx X cc own n) {x y : Int} (hd : decode cc pc = .ok (.ldiv, 1)) (h0 : y ≠ 0) (K : WM X (pc + 1) L (vL (w64 (x.tdiv y)) :: S) M) : WM X pc L (vL y :: vL x :: S) M :=
  fun a b c H lo ls hP hS hl => lv_ldiv C.1 C.2.1 hd (fun e => h0 ((lN_eq' c.hd (r32_64 r32_0)).mp e)) (by have h := K a b (c.tl.tl.push (w64_r _)) H lo ls hP hS hl; rw [List.map_cons, show tv X.2.2.2 (vL (w64 (x.tdiv y))) = .long (Int64.ofInt (w64 (x.tdiv y))) from rfl, ← l_div c.tl.hd c.hd] at h; exact h)
theorem m_lrem (C : Cx X cc own n) {x y : Int} (hd : decode cc pc = .ok (.lrem, 1)) (h0 : y ≠ 0) (K : WM X (pc + 1) L (vL (x.tmod y) :: S) M) : WM X pc L (vL y :: vL x :: S) M :=
  fun a b c H lo ls hP hS hl => lv_lrem C.1 C.2.1 hd (fun e => h0 ((lN_eq' c.hd (r32_64 r32_0)).mp e)) (by have h := K a b (c.tl.tl.push (tmod_r64 c.tl.hd c.hd)) H lo ls hP hS hl; rw [List.map_cons, show tv X.2.2.2 (vL (x.tmod y)) = .long (Int64.ofInt (x.tmod y)) from rfl, ← l_rem c.tl.hd c.hd] at h; exact h)
theorem m_lcmp (C : Cx X cc own n) {x y : Int} (hd : decode cc pc = .ok (.lcmp, 1)) (K : WM X (pc + 1) L (vI (l_c x y) :: S) M) : WM X pc L (vL y :: vL x :: S) M :=
  fun a b c H lo ls hP hS hl => W.lcmp C.1 C.2.1 hd (by have h := K a b (c.tl.tl.push (l_c_r _ _)) H lo ls hP hS hl; rw [List.map_cons, show tv X.2.2.2 (vI (l_c x y)) = .int (Int32.ofInt (l_c x y)) from rfl, ← l_c_lg c.tl.hd c.hd] at h; exact h)
theorem m_i2l (C : Cx X cc own n) {x : Int} (hd : decode cc pc = .ok (.i2l, 1)) (K : WM X (pc + 1) L (vL x :: S) M) : WM X pc L (vI x :: S) M :=
  fun a b c H lo ls hP hS hl => lv_i2l C.1 C.2.1 hd (i_2l c.hd) (K a b (c.tl.push (r32_64 c.hd)) H lo ls hP hS hl)
theorem m_l2i (C : Cx X cc own n) {x : Int} (hd : decode cc pc = .ok (.l2i, 1)) (K : WM X (pc + 1) L (vI (w32 x) :: S) M) : WM X pc L (vL x :: S) M :=
  fun a b c H lo ls hP hS hl => lv_l2i C.1 C.2.1 hd (l_2i c.hd) (K a b (c.tl.push (w32_r _)) H lo ls hP hS hl)
theorem m_i2b (C : Cx X cc own n) {x : Int} (hd : decode cc pc = .ok (.i2b, 1)) (K : WM X (pc + 1) L (vI (t_b x) :: S) M) : WM X pc L (vI x :: S) M :=
  fun a b c H lo ls hP hS hl => lv_i2b C.1 C.2.1 hd (by rw [t_b, Int32.ofInt_toInt]) (K a b (c.tl.push (iN_r _)) H lo ls hP hS hl)
theorem m_i2s (C : Cx X cc own n) {x : Int} (hd : decode cc pc = .ok (.i2s, 1)) (K : WM X (pc + 1) L (vI (t_s x) :: S) M) : WM X pc L (vI x :: S) M :=
  fun a b c H lo ls hP hS hl => lv_i2s C.1 C.2.1 hd (by rw [t_s, Int32.ofInt_toInt]) (K a b (c.tl.push (iN_r _)) H lo ls hP hS hl)
theorem m_dupI (C : Cx X cc own n) {x : Int} (hd : decode cc pc = .ok (.dup, 1)) (K : WM X (pc + 1) L (vI x :: vI x :: S) M) : WM X pc L (vI x :: S) M :=
  fun a b c H lo ls hP hS hl => lv_dup C.1 C.2.1 hd rfl (K a b (c.push c.hd) H lo ls hP hS hl)
theorem m_dupR (C : Cx X cc own n) {x : Nat} (hd : decode cc pc = .ok (.dup, 1)) (K : WM X (pc + 1) L (vR x :: vR x :: S) M) : WM X pc L (vR x :: S) M :=
  fun a b c H lo ls hP hS hl => lv_dup C.1 C.2.1 hd rfl (K a b (c.push c.hd) H lo ls hP hS hl)
theorem m_popI (C : Cx X cc own n) {x : Int} (hd : decode cc pc = .ok (.pop, 1)) (K : WM X (pc + 1) L S M) : WM X pc L (vI x :: S) M :=
  fun a b c H lo ls hP hS hl => lv_pop C.1 C.2.1 hd rfl (K a b c.tl H lo ls hP hS hl)
theorem m_dup2 (C : Cx X cc own n) {x : Int} {o : Nat} (hd : decode cc pc = .ok (.dup2, 1)) (K : WM X (pc + 1) L (vI x :: vR o :: vI x :: vR o :: S) M) : WM X pc L (vI x :: vR o :: S) M :=
  fun a b c H lo ls hP hS hl => lv_dup2_11 C.1 C.2.1 hd rfl rfl (K a b ((c.push c.tl.hd).push c.hd) H lo ls hP hS hl)
theorem m_goto (C : Cx X cc own n) {off : Int} {tgt : Nat} (hd : decode cc pc = .ok (.goto off, 3)) (ht : (pc : Int) + off = (tgt : Int)) (K : WM X tgt L S M) : WM X pc L S M :=
  fun a b c H lo ls hP hS hl => lv_goto C.1 C.2.1 hd ht (K a b c H lo ls hP hS hl)
theorem m_icmp_eq (C : Cx X cc own n) {x y off : Int} {tgt : Nat} (hd : decode cc pc = .ok (.if_icmp .eq off, 3)) (ht : (pc : Int) + off = (tgt : Int)) (Kt : x = y → WM X tgt L S M) (Kf : ¬ x = y → WM X (pc + 3) L S M) : WM X pc L (vI y :: vI x :: S) M :=
  fun a b c H lo ls hP hS hl => lv_icmp_eq C.1 C.2.1 hd ht (fun e => Kt ((iN_eq c.tl.hd c.hd).mp e) a b c.tl.tl H lo ls hP hS hl) (fun e => Kf (fun h => e ((iN_eq c.tl.hd c.hd).mpr h)) a b c.tl.tl H lo ls hP hS hl)
theorem m_icmp_ne (C : Cx X cc own n) {x y off : Int} {tgt : Nat} (hd : decode cc pc = .ok (.if_icmp .ne off, 3)) (ht : (pc : Int) + off = (tgt : Int)) (Kt : ¬ x = y → WM X tgt L S M) (Kf : x = y → WM X (pc + 3) L S M) : WM X pc L (vI y :: vI x :: S) M :=
  fun a b c H lo ls hP hS hl => lv_icmp_ne C.1 C.2.1 hd ht (fun e => Kt (fun h => e ((iN_eq c.tl.hd c.hd).mpr h)) a b c.tl.tl H lo ls hP hS hl) (fun e => Kf ((iN_eq c.tl.hd c.hd).mp e) a b c.tl.tl H lo ls hP hS hl)
theorem m_icmp_lt (C : Cx X cc own n) {x y off : Int} {tgt : Nat} (hd : decode cc pc = .ok (.if_icmp .lt off, 3)) (ht : (pc : Int) + off = (tgt : Int)) (Kt : x < y → WM X tgt L S M) (Kf : ¬ x < y → WM X (pc + 3) L S M) : WM X pc L (vI y :: vI x :: S) M :=
  fun a b c H lo ls hP hS hl => lv_icmp_lt C.1 C.2.1 hd ht (fun e => Kt ((iN_lt c.tl.hd c.hd).mp e) a b c.tl.tl H lo ls hP hS hl) (fun e => Kf (fun h => e ((iN_lt c.tl.hd c.hd).mpr h)) a b c.tl.tl H lo ls hP hS hl)
theorem m_icmp_ge (C : Cx X cc own n) {x y off : Int} {tgt : Nat} (hd : decode cc pc = .ok (.if_icmp .ge off, 3)) (ht : (pc : Int) + off = (tgt : Int)) (Kt : y ≤ x → WM X tgt L S M) (Kf : ¬ y ≤ x → WM X (pc + 3) L S M) : WM X pc L (vI y :: vI x :: S) M :=
  fun a b c H lo ls hP hS hl => lv_icmp_ge C.1 C.2.1 hd ht (fun e => Kt ((iN_le c.hd c.tl.hd).mp e) a b c.tl.tl H lo ls hP hS hl) (fun e => Kf (fun h => e ((iN_le c.hd c.tl.hd).mpr h)) a b c.tl.tl H lo ls hP hS hl)
theorem m_icmp_gt (C : Cx X cc own n) {x y off : Int} {tgt : Nat} (hd : decode cc pc = .ok (.if_icmp .gt off, 3)) (ht : (pc : Int) + off = (tgt : Int)) (Kt : y < x → WM X tgt L S M) (Kf : ¬ y < x → WM X (pc + 3) L S M) : WM X pc L (vI y :: vI x :: S) M :=
  fun a b c H lo ls hP hS hl => lv_icmp_gt C.1 C.2.1 hd ht (fun e => Kt ((iN_lt c.hd c.tl.hd).mp e) a b c.tl.tl H lo ls hP hS hl) (fun e => Kf (fun h => e ((iN_lt c.hd c.tl.hd).mpr h)) a b c.tl.tl H lo ls hP hS hl)
theorem m_icmp_le (C : Cx X cc own n) {x y off : Int} {tgt : Nat} (hd : decode cc pc = .ok (.if_icmp .le off, 3)) (ht : (pc : Int) + off = (tgt : Int)) (Kt : x ≤ y → WM X tgt L S M) (Kf : ¬ x ≤ y → WM X (pc + 3) L S M) : WM X pc L (vI y :: vI x :: S) M :=
  fun a b c H lo ls hP hS hl => lv_icmp_le C.1 C.2.1 hd ht (fun e => Kt ((iN_le c.tl.hd c.hd).mp e) a b c.tl.tl H lo ls hP hS hl) (fun e => Kf (fun h => e ((iN_le c.tl.hd c.hd).mpr h)) a b c.tl.tl H lo ls hP hS hl)
theorem m_if_eq (C : Cx X cc own n) {x off : Int} {tgt : Nat} (hd : decode cc pc = .ok (.ifCond .eq off, 3)) (ht : (pc : Int) + off = (tgt : Int)) (Kt : x = 0 → WM X tgt L S M) (Kf : ¬ x = 0 → WM X (pc + 3) L S M) : WM X pc L (vI x :: S) M :=
  fun a b c H lo ls hP hS hl => lv_if_eq C.1 C.2.1 hd ht (fun e => Kt ((iN_eq c.hd r32_0).mp e) a b c.tl H lo ls hP hS hl) (fun e => Kf (fun h => e ((iN_eq c.hd r32_0).mpr h)) a b c.tl H lo ls hP hS hl)
theorem m_if_ne (C : Cx X cc own n) {x off : Int} {tgt : Nat} (hd : decode cc pc = .ok (.ifCond .ne off, 3)) (ht : (pc : Int) + off = (tgt : Int)) (Kt : ¬ x = 0 → WM X tgt L S M) (Kf : x = 0 → WM X (pc + 3) L S M) : WM X pc L (vI x :: S) M :=
  fun a b c H lo ls hP hS hl => lv_if_ne C.1 C.2.1 hd ht (fun e => Kt (fun h => e ((iN_eq c.hd r32_0).mpr h)) a b c.tl H lo ls hP hS hl) (fun e => Kf ((iN_eq c.hd r32_0).mp e) a b c.tl H lo ls hP hS hl)
theorem m_if_lt (C : Cx X cc own n) {x off : Int} {tgt : Nat} (hd : decode cc pc = .ok (.ifCond .lt off, 3)) (ht : (pc : Int) + off = (tgt : Int)) (Kt : x < 0 → WM X tgt L S M) (Kf : ¬ x < 0 → WM X (pc + 3) L S M) : WM X pc L (vI x :: S) M :=
  fun a b c H lo ls hP hS hl => lv_if_lt C.1 C.2.1 hd ht (fun e => Kt ((iN_lt c.hd r32_0).mp e) a b c.tl H lo ls hP hS hl) (fun e => Kf (fun h => e ((iN_lt c.hd r32_0).mpr h)) a b c.tl H lo ls hP hS hl)
theorem m_if_ge (C : Cx X cc own n) {x off : Int} {tgt : Nat} (hd : decode cc pc = .ok (.ifCond .ge off, 3)) (ht : (pc : Int) + off = (tgt : Int)) (Kt : 0 ≤ x → WM X tgt L S M) (Kf : ¬ 0 ≤ x → WM X (pc + 3) L S M) : WM X pc L (vI x :: S) M :=
  fun a b c H lo ls hP hS hl => lv_if_ge C.1 C.2.1 hd ht (fun e => Kt ((iN_le r32_0 c.hd).mp e) a b c.tl H lo ls hP hS hl) (fun e => Kf (fun h => e ((iN_le r32_0 c.hd).mpr h)) a b c.tl H lo ls hP hS hl)
theorem m_if_gt (C : Cx X cc own n) {x off : Int} {tgt : Nat} (hd : decode cc pc = .ok (.ifCond .gt off, 3)) (ht : (pc : Int) + off = (tgt : Int)) (Kt : 0 < x → WM X tgt L S M) (Kf : ¬ 0 < x → WM X (pc + 3) L S M) : WM X pc L (vI x :: S) M :=
  fun a b c H lo ls hP hS hl => lv_if_gt C.1 C.2.1 hd ht (fun e => Kt ((iN_lt r32_0 c.hd).mp e) a b c.tl H lo ls hP hS hl) (fun e => Kf (fun h => e ((iN_lt r32_0 c.hd).mpr h)) a b c.tl H lo ls hP hS hl)
theorem m_if_le (C : Cx X cc own n) {x off : Int} {tgt : Nat} (hd : decode cc pc = .ok (.ifCond .le off, 3)) (ht : (pc : Int) + off = (tgt : Int)) (Kt : x ≤ 0 → WM X tgt L S M) (Kf : ¬ x ≤ 0 → WM X (pc + 3) L S M) : WM X pc L (vI x :: S) M :=
  fun a b c H lo ls hP hS hl => lv_if_le C.1 C.2.1 hd ht (fun e => Kt ((iN_le c.hd r32_0).mp e) a b c.tl H lo ls hP hS hl) (fun e => Kf (fun h => e ((iN_le c.hd r32_0).mpr h)) a b c.tl H lo ls hP hS hl)
theorem m_tabO (C : Cx X cc own n) {dflt lo hi x : Int} {offs : Array Int} {len tgt : Nat} (hd : decode cc pc = .ok (.tableswitch dflt lo hi offs, len)) (h : x < lo ∨ hi < x) (ht : (pc : Int) + dflt = (tgt : Int)) (K : WM X tgt L S M) : WM X pc L (vI x :: S) M :=
  fun a b c H lo ls hP hS hl => lv_tableOut C.1 C.2.1 hd (by rw [iN_t c.hd]; exact h) ht (K a b c.tl H lo ls hP hS hl)
theorem m_tabI (C : Cx X cc own n) {dflt lo hi x off : Int} {offs : Array Int} {len tgt : Nat} (hd : decode cc pc = .ok (.tableswitch dflt lo hi offs, len)) (h1 : ¬ x < lo) (h2 : ¬ hi < x) (ho : offs[(x - lo).toNat]? = some off) (ht : (pc : Int) + off = (tgt : Int)) (K : WM X tgt L S M) : WM X pc L (vI x :: S) M :=
  fun a b c H lo ls hP hS hl => lv_tableIn C.1 C.2.1 hd (by rw [iN_t c.hd]; exact h1) (by rw [iN_t c.hd]; exact h2) (by rw [iN_t c.hd]; exact ho) ht (K a b c.tl H lo ls hP hS hl)
theorem m_lkp (C : Cx X cc own n) {dflt x off : Int} {ps : Array (Int × Int)} {len tgt : Nat} (hd : decode cc pc = .ok (.lookupswitch dflt ps, len)) (hp : (ps.toList.zip (ps.toList.drop 1)).all (fun (a, next) => a.1 < next.1) = true) (ho : Op.lookupswitch.offset ps.toList dflt x = off) (ht : (pc : Int) + off = (tgt : Int)) (K : WM X tgt L S M) : WM X pc L (vI x :: S) M :=
  fun a b c H lo ls hP hS hl => lv_lookup C.1 C.2.1 hd hp (by rw [iN_t c.hd]; exact ho) ht (K a b c.tl H lo ls hP hS hl)
-- fields
/-- class number ci, its words -/
def clOk (ci : Nat) (C : String) (T : u_T) (N : Nat) (ty : Nat → FieldType) : Prop := mm_cl[ci]? = some (C, T, N) ∧ (∀ w ∈ u_ws C T N, w ∈ gd_tbl) ∧ (∀ k, k < N → parseFieldDescriptor (T k).2.2.1 = some (ty k)) ∧ (∀ a, a < N → ∀ b, b < N → a ≠ b → (T a).2.1 ≠ (T b).2.1)
/-- a field's link: of its own class, or of a nest mate -/
def fLk (own : String) (index : Nat) (q : String × String × String × Bool) : Prop := Cond.fieldLink own index q.1 q.2.1 q.2.2.1 ∈ gd_tbl ∨ ∃ host, Cond.fieldLinkNest own index q.1 q.2.1 q.2.2.1 host ∈ nst_tbl
theorem m_getV (C : Cx X cc own n) {o k ci N index d : Nat} {fds : List Nat} {CN : String} {T : u_T} {ty : Nat → FieldType} {v : VV} (hc : clOk ci CN T N ty) (hk : k < N) (ho : shp[o]? = some (.inl (ci, fds))) (hf : fds[k]? = some d) (hv : fv X.2.2.2 M o k d = tv X.2.2.2 v) (hcv : Can M → cV v) (hlk : fLk own index (T k)) (hd : decode cc pc = .ok (.getfield index, 3)) (K : WM X (pc + 3) L (v :: S) M) : WM X pc L (vR o :: S) M := by
  intro a b c H lo ls hP hS hl
  have hfs : (fds.mapIdx (fun k d => fv X.2.2.2 M o k d))[k]? = some (tv X.2.2.2 v) := by rw [List.getElem?_mapIdx, hf]; exact congrArg some hv
  rcases hlk with h | ⟨host, h⟩
  · exact va_get C.1 C.2.1 (C.2.2.2.2.1) hc.2.1 C.2.2.2.1 C.2.2.2.2.2.1.1 hP o (wld_at ho) hc.1 k hk (C.2.2.2.2.1 _ h) (fun _ h => h) hfs hd (K a b (c.tl.push (hcv a)) H lo ls hP hS hl)
  · exact va_getN C.1 C.2.1 (C.2.2.2.2.1) hc.2.1 C.2.2.2.1 C.2.2.2.2.2.1.1 hP o (wld_at ho) hc.1 k hk (va_Nw.use rfl (C.2.2.2.2.2.1.2.1 _ h)) (fun _ h => h) hfs hd (K a b (c.tl.push (hcv a)) H lo ls hP hS hl)
theorem m_getI (C : Cx X cc own n) {o k ci N index : Nat} {fds : List Nat} {CN : String} {T : u_T} {ty : Nat → FieldType} (hc : clOk ci CN T N ty) (hk : k < N) (ho : shp[o]? = some (.inl (ci, fds))) (hf : fds[k]? = some 0) (hlk : fLk own index (T k)) (hd : decode cc pc = .ok (.getfield index, 3)) (K : WM X (pc + 3) L (vI (M o k) :: S) M) : WM X pc L (vR o :: S) M := m_getV (v := vI (M o k)) C hc hk ho hf rfl (fun a => a o k) hlk hd K
theorem m_getZ (C : Cx X cc own n) {o k ci N index : Nat} {fds : List Nat} {CN : String} {T : u_T} {ty : Nat → FieldType} (hc : clOk ci CN T N ty) (hk : k < N) (ho : shp[o]? = some (.inl (ci, fds))) (hf : fds[k]? = some 2) (hlk : fLk own index (T k)) (hd : decode cc pc = .ok (.getfield index, 3)) (K : WM X (pc + 3) L (vI (M o k) :: S) M) : WM X pc L (vR o :: S) M := m_getV (v := vI (M o k)) C hc hk ho hf rfl (fun a => a o k) hlk hd K
theorem m_getL (C : Cx X cc own n) {o k ci N index : Nat} {fds : List Nat} {CN : String} {T : u_T} {ty : Nat → FieldType} (hc : clOk ci CN T N ty) (hk : k < N) (ho : shp[o]? = some (.inl (ci, fds))) (hf : fds[k]? = some 1) (hlk : fLk own index (T k)) (hd : decode cc pc = .ok (.getfield index, 3)) (K : WM X (pc + 3) L (vL (M o k) :: S) M) : WM X pc L (vR o :: S) M := m_getV (v := vL (M o k)) C hc hk ho hf rfl (fun a => r32_64 (a o k)) hlk hd K
theorem m_getR (C : Cx X cc own n) {o k ci N index p : Nat} {fds : List Nat} {CN : String} {T : u_T} {ty : Nat → FieldType} (hc : clOk ci CN T N ty) (hk : k < N) (ho : shp[o]? = some (.inl (ci, fds))) (hf : fds[k]? = some (p + 3)) (hlk : fLk own index (T k)) (hd : decode cc pc = .ok (.getfield index, 3)) (K : WM X (pc + 3) L (vR p :: S) M) : WM X pc L (vR o :: S) M := m_getV (v := vR p) C hc hk ho hf rfl (fun _ => trivial) hlk hd K
theorem m_putV (C : Cx X cc own n) {o k ci N index d : Nat} {fds : List Nat} {CN : String} {T : u_T} {ty : Nat → FieldType} {v : VV} {x : Int} (hc : clOk ci CN T N ty) (hk : k < N) (ho : shp[o]? = some (.inl (ci, fds))) (hf : fds[k]? = some d) (hfin : (T k).2.2.2 = false) (hv : ∀ M' : Mem, M' o k = x → fv X.2.2.2 M' o k d = tv X.2.2.2 v) (hn : narrow (ty k) (tv X.2.2.2 v) = tv X.2.2.2 v) (hfit : fits (ty k) (tv X.2.2.2 v) = true) (hr : cV v → r32 x) (hlk : fLk own index (T k)) (hd : decode cc pc = .ok (.putfield index, 3)) (K : WM X (pc + 3) L S (up M o k x)) : WM X pc L (v :: vR o :: S) M := by
  intro a b c H lo ls hP hS hl
  have hlen : k < (fds.mapIdx (fun k d => fv X.2.2.2 M o k d)).length := by rw [List.length_mapIdx]; exact (List.getElem?_eq_some_iff.mp hf).1
  have hset : (wld X.2.2.2 M).set o (X.2.2.2.2.1 o, .inr (ci, (fds.mapIdx (fun k d => fv X.2.2.2 M o k d)).set k (tv X.2.2.2 v))) = wld X.2.2.2 (up M o k x) := by
    refine wld_set ho ?_ (fun o' k' h => by unfold Jvm.Pilot.@@N@@.up; rw [if_neg (fun q => h q.1)])
    show Sum.inr (ci, _) = Sum.inr (ci, _)
    congr 2
    apply List.ext_getElem?
    intro j
    rw [List.getElem?_mapIdx]
    by_cases hj : j = k
    · subst hj
      rw [List.getElem?_set_self hlen, hf]
      exact congrArg some (hv _ (by unfold Jvm.Pilot.@@N@@.up; rw [if_pos ⟨rfl, rfl⟩]))
    · rw [List.getElem?_set_ne (Ne.symm hj), List.getElem?_mapIdx]
      congr 1
      funext d'
      have e : up M o k x o j = M o j := by unfold Jvm.Pilot.@@N@@.up; rw [if_neg (fun q => hj q.2)]
      show fv X.2.2.2 (up M o k x) o j d' = fv X.2.2.2 M o j d'
      unfold fv
      rw [e]
  have kk : ∀ (H1 : Heap) (locs1 : List Loc), va_P X.2.2.2.1 mm_cl ((wld X.2.2.2 M).set o (X.2.2.2.2.1 o, .inr (ci, (fds.mapIdx (fun k d => fv X.2.2.2 M o k d)).set k (tv X.2.2.2 v)))) H1 → va_D (Ag X.2.2.2) ((wld X.2.2.2 M).set o (X.2.2.2.2.1 o, .inr (ci, (fds.mapIdx (fun k d => fv X.2.2.2 M o k d)).set k (tv X.2.2.2 v)))) → va_S (Ag X.2.2.2) X.1.2.2.2.2.heap H1 locs1 → _ :=
    fun H1 l1 hP1 _ hS1 => K (a.up (hr c.hd)) b c.tl.tl H1 l1 ls (by rw [← hset]; exact hP1) hS1 hl
  rcases hlk with h | ⟨host, h⟩
  · exact va_put C.1 C.2.1 (C.2.2.2.2.1) hc.2.1 ty hc.2.2.1 hc.2.2.2 C.2.2.2.1 C.2.2.2.2.2.1.1 hP (wld_D C.2.2.2.2.2.1.2.2 M) hS o (wld_at ho) hc.1 k hk (C.2.2.2.2.1 _ h) (fun _ h => h) hfin (hc.2.2.1 k hk) hn hfit hlen hd kk
  · exact va_putN C.1 C.2.1 (C.2.2.2.2.1) hc.2.1 ty hc.2.2.1 hc.2.2.2 C.2.2.2.1 C.2.2.2.2.2.1.1 hP (wld_D C.2.2.2.2.2.1.2.2 M) hS o (wld_at ho) hc.1 k hk (va_Nw.use rfl (C.2.2.2.2.2.1.2.1 _ h)) (fun _ h => h) hfin (hc.2.2.1 k hk) hn hfit hlen hd kk
theorem m_putI (C : Cx X cc own n) {o k ci N index : Nat} {fds : List Nat} {CN : String} {T : u_T} {ty : Nat → FieldType} {x : Int} (hc : clOk ci CN T N ty) (hk : k < N) (ho : shp[o]? = some (.inl (ci, fds))) (hf : fds[k]? = some 0) (hfin : (T k).2.2.2 = false) (hty : ty k = .int) (hlk : fLk own index (T k)) (hd : decode cc pc = .ok (.putfield index, 3)) (K : WM X (pc + 3) L S (up M o k x)) : WM X pc L (vI x :: vR o :: S) M :=
  m_putV C hc hk ho hf hfin (fun M' h => by show Value.int _ = Value.int _; rw [h]) (by rw [hty]; rfl) (by rw [hty]; rfl) (fun h => h) hlk hd K
theorem m_putZ (C : Cx X cc own n) {o k ci N index : Nat} {fds : List Nat} {CN : String} {T : u_T} {ty : Nat → FieldType} {x : Int} (hc : clOk ci CN T N ty) (hk : k < N) (ho : shp[o]? = some (.inl (ci, fds))) (hf : fds[k]? = some 2) (hfin : (T k).2.2.2 = false) (hty : ty k = .boolean) (hx : x = 0 ∨ x = 1) (hlk : fLk own index (T k)) (hd : decode cc pc = .ok (.putfield index, 3)) (K : WM X (pc + 3) L S (up M o k x)) : WM X pc L (vI x :: vR o :: S) M :=
  m_putV C hc hk ho hf hfin (fun M' h => by show Value.int _ = Value.int _; rw [h]) (by rw [hty]; rcases hx with rfl | rfl <;> rfl) (by rw [hty]; rcases hx with rfl | rfl <;> rfl) (fun h => h) hlk hd K
theorem m_putL (C : Cx X cc own n) {o k ci N index : Nat} {fds : List Nat} {CN : String} {T : u_T} {ty : Nat → FieldType} {x : Int} (hc : clOk ci CN T N ty) (hk : k < N) (ho : shp[o]? = some (.inl (ci, fds))) (hf : fds[k]? = some 1) (hfin : (T k).2.2.2 = false) (hty : ty k = .long) (hx : r32 x) (hlk : fLk own index (T k)) (hd : decode cc pc = .ok (.putfield index, 3)) (K : WM X (pc + 3) L S (up M o k x)) : WM X pc L (vL x :: vR o :: S) M :=
  m_putV C hc hk ho hf hfin (fun M' h => by show Value.long _ = Value.long _; rw [h]) (by rw [hty]; rfl) (by rw [hty]; rfl) (fun _ => hx) hlk hd K
-- arrays
def isI (o N : Nat) : Prop := shp[o]? = some (.inr (.inl (0, N)))
theorem m_iald (C : Cx X cc own n) {o N : Nat} {i : Int} (ho : isI o N) (hin : 0 ≤ i ∧ i < (N : Int)) (hd : decode cc pc = .ok (.iaload, 1)) (K : WM X (pc + 1) L (vI (M o i.toNat) :: S) M) : WM X pc L (vI i :: vR o :: S) M :=
  fun a b c H lo ls hP hS hl => va_iald C.1 C.2.1 C.2.2.2.2.2.1.1 hP o 0 (wld_at ho) rfl (iN_in c.hd hin) hd (by
    have h := K a b (c.tl.tl.push (a o i.toNat)) H lo ls hP hS hl
    rw [List.map_cons, show tv X.2.2.2 (vI (M o i.toNat)) = .int (Int32.ofInt (M o i.toNat)) from rfl, ← iN_cl c.hd] at h
    exact h)
theorem m_zald (C : Cx X cc own n) {o N : Nat} {i : Int} (ho : shp[o]? = some (.inr (.inl (1, N)))) (hin : 0 ≤ i ∧ i < (N : Int)) (hd : decode cc pc = .ok (.baload, 1)) (K : WM X (pc + 1) L (vI (M o i.toNat) :: S) M) : WM X pc L (vI i :: vR o :: S) M :=
  fun a b c H lo ls hP hS hl => va_zald C.1 C.2.1 C.2.2.2.2.2.1.1 hP o 1 (wld_at ho) rfl (iN_in c.hd hin) hd (by
    have h := K a b (c.tl.tl.push (a o i.toNat)) H lo ls hP hS hl
    rw [List.map_cons, show tv X.2.2.2 (vI (M o i.toNat)) = .int (Int32.ofInt (M o i.toNat)) from rfl, ← iN_cl c.hd] at h
    exact h)
theorem m_upd {g : GX} {M : Mem} {o t N k : Nat} {x : Int} (ho : shp[o]? = some (.inr (.inl (t, N)))) : (wld g M).set o (g.2.1 o, .inl (if t = 0 then g.2.2.1 else g.2.2.2.1, N, .inl (upd (fun j => Int32.ofInt (M o j)) k (Int32.ofInt x)))) = wld g (up M o k x) := by
  refine wld_set ho ?_ (fun o' k' h => by unfold Jvm.Pilot.@@N@@.up; rw [if_neg (fun q => h q.1)])
  show Sum.inl (_, N, Sum.inl _) = Sum.inl (_, N, Sum.inl _)
  congr 3
  congr 1
  funext j
  unfold upd Jvm.Pilot.@@N@@.up
  by_cases hj : j = k
  · subst hj; simp
  · simp [hj]
theorem m_iast (C : Cx X cc own n) {o N : Nat} {i x : Int} (ho : isI o N) (hin : 0 ≤ i ∧ i < (N : Int)) (hd : decode cc pc = .ok (.iastore, 1)) (K : WM X (pc + 1) L S (up M o i.toNat x)) : WM X pc L (vI x :: vI i :: vR o :: S) M :=
  fun a b c H lo ls hP hS hl => va_iast C.1 C.2.1 C.2.2.2.2.2.1.1 hP (wld_D C.2.2.2.2.2.1.2.2 M) hS o 0 (wld_at ho) rfl (iN_in c.tl.hd hin) hd (fun H1 l1 hP1 _ hS1 => K (a.up c.hd) b c.tl.tl.tl H1 l1 ls (by
    rw [iN_cl c.tl.hd] at hP1
    exact (m_upd (g := X.2.2.2) (M := M) (k := i.toNat) (x := x) ho) ▸ hP1) hS1 hl)
theorem m_zast (C : Cx X cc own n) {o N : Nat} {i x : Int} (ho : shp[o]? = some (.inr (.inl (1, N)))) (hin : 0 ≤ i ∧ i < (N : Int)) (hx : x = 0 ∨ x = 1) (hd : decode cc pc = .ok (.bastore, 1)) (K : WM X (pc + 1) L S (up M o i.toNat x)) : WM X pc L (vI x :: vI i :: vR o :: S) M :=
  fun a b c H lo ls hP hS hl => va_zast C.1 C.2.1 C.2.2.2.2.2.1.1 hP (wld_D C.2.2.2.2.2.1.2.2 M) hS o 1 (wld_at ho) rfl (iN_in c.tl.hd hin) hd (fun H1 l1 hP1 _ hS1 => K (a.up c.hd) b c.tl.tl.tl H1 l1 ls (by
    rw [iN_cl c.tl.hd, show vp_nar .boolean (Int32.ofInt x) = Int32.ofInt x by rcases hx with rfl | rfl <;> rfl] at hP1
    exact (m_upd (g := X.2.2.2) (M := M) (k := i.toNat) (x := x) ho) ▸ hP1) hS1 hl)
theorem m_aald (C : Cx X cc own n) {o p : Nat} {ids : List Nat} {i : Int} (ho : shp[o]? = some (.inr (.inr ids))) (hin : 0 ≤ i ∧ i < (ids.length : Int)) (hp : ids[i.toNat]? = some p) (hd : decode cc pc = .ok (.aaload, 1)) (K : WM X (pc + 1) L (vR p :: S) M) : WM X pc L (vI i :: vR o :: S) M := by
  intro a b c H lo ls hP hS hl
  have hin' : vp_in (Int32.ofInt i) ids.length := iN_in c.hd hin
  have hlt : (Int32.ofInt i).toNatClampNeg < ids.length := Nat.not_le.mp fun q => hin' (Or.inr q)
  refine W.aald (v := .ref (X.2.2.2.2.1 p)) (ty := .array .int) C.1 C.2.1 (hP o _ (wld_at ho)) ((C.2.2.2.2.2.1.1.2 2 _ rfl).1 ids.length (fun j => va_rf ((ids[j]?).map X.2.2.2.2.1))) rfl (fun q => by cases q) (by show ¬ (_ ∨ (arrV _ _ _).slots.size ≤ _); rw [arrV_size]; exact hin') ?_ rfl rfl hd (K a b (c.tl.tl.push trivial) H lo ls hP hS hl)
  show (arrV _ _ _).slots[_]? = _
  rw [arrV_read _ _ hlt, iN_cl c.hd]
  show some (va_rf ((ids[i.toNat]?).map X.2.2.2.2.1)) = _
  rw [hp]
  rfl
theorem m_alen (C : Cx X cc own n) {o t N : Nat} {v : Int} (ho : shp[o]? = some (.inr (.inl (t, N)))) (ht : t = 0 ∨ t = 1) (hv : (N : Int) = v) (hr : r32 v) (hd : decode cc pc = .ok (.arraylength, 1)) (K : WM X (pc + 1) L (vI v :: S) M) : WM X pc L (vR o :: S) M :=
  fun a b c H lo ls hP hS hl => by
    have e : Int32.ofNat N = Int32.ofInt v := by rw [← hv, Int32.ofInt_eq_ofNat]
    rcases ht with rfl | rfl
    · exact va_alen C.1 C.2.1 C.2.2.2.2.2.1.1 hP o 0 (wld_at ho) rfl e hd (K a b (c.tl.push hr) H lo ls hP hS hl)
    · exact va_alen C.1 C.2.1 C.2.2.2.2.2.1.1 hP o 1 (wld_at ho) rfl e hd (K a b (c.tl.push hr) H lo ls hP hS hl)
-- ends
theorem m_iret (C : Cx X cc own n) {Q : Int → Mem → Prop} {r : Int} {ty : FieldType} (E : Cr X (some ty) Q) (hty : ty = .int ∨ (ty = .boolean ∧ (r = 0 ∨ r = 1))) (hd : decode cc pc = .ok (.ireturn, 1)) (hq : Q r M) : WM X pc L [vI r] M := by
  intro a b c H lo ls hP hS hl
  rw [E.2.2]
  have hn : narrow ty (.int (Int32.ofInt r)) = .int (Int32.ofInt r) := by
    rcases hty with rfl | ⟨rfl, rfl | rfl⟩ <;> rfl
  have hrv : rvO (some ty) r = some (.int (Int32.ofInt r)) := by rcases hty with rfl | ⟨rfl, _⟩ <;> rfl
  have hrs : rsO (some ty) r = [vI r] := by rcases hty with rfl | ⟨rfl, _⟩ <;> rfl
  exact W.zret (ty := ty) C.1 C.2.1 E.1 hn (fun t ht hW => ⟨⟨r, M, by rw [hrv], by rw [hrs]; exact c, hq, a, by rw [ht]; exact hP⟩, hS.F ht⟩) hS.2.2 hd (hlocks := E.2.1)
theorem m_lret (C : Cx X cc own n) {Q : Int → Mem → Prop} {r : Int} (E : Cr X (some .long) Q) (hd : decode cc pc = .ok (.lreturn, 1)) (hq : Q r M) : WM X pc L [vL r] M := by
  intro a b c H lo ls hP hS hl
  rw [E.2.2]
  exact W.lret C.1 C.2.1 E.1 (fun t ht hW => ⟨⟨r, M, rfl, c, hq, a, by rw [ht]; exact hP⟩, hS.F ht⟩) hS.2.2 hd (hlocks := E.2.1)
theorem m_vret (C : Cx X cc own n) {Q : Int → Mem → Prop} (E : Cr X none Q) (hd : decode cc pc = .ok (.return_, 1)) (hq : Q 0 M) : WM X pc L [] M := by
  intro a b c H lo ls hP hS hl
  rw [E.2.2]
  exact W.vret C.1 C.2.1 E.1 (fun t ht hW => ⟨⟨0, M, rfl, c, hq, a, by rw [ht]; exact hP⟩, hS.F ht⟩) hS.2.2 hd (hlocks := E.2.1)
-- calls
theorem m_run (C : Cx X cc own n) {ret : Option FieldType} {L : List (Nat × VV)} {rest : List VV} {H : Heap} {lo : List Loc} {ls : Array Slot} {av : Array Value} {st0 : List Value} (b : CanL L) (c : CanS rest)
    (hS : va_S (Ag X.2.2.2) X.1.2.2.2.2.heap H lo) (hl : lv_has ls X.2.2.1.1 (L.map (fun q => (q.1, tv X.2.2.2 q.2))))
    (hr : va_Run X.1.1 X.1.2.1 X.1.2.2.1 X.1.2.2.2.1 X.1.2.2.2.2 X.2.1.1 X.2.1.2.1 X.2.1.2.2.1 X.2.1.2.2.2.1 X.2.1.2.2.2.2 H lo X.2.2.1.2.1 X.2.2.1.2.2.1 0 0 (F0 X.2.1.1 pc ls st0) (rest.map (tv X.2.2.2)) (QcO X.2.2.2 ret (fun r M' => WM X (pc + 3) L (rsO ret r ++ rest) M') av) (Ag X.2.2.2)) :
    W X.1.1 X.1.2.1 X.1.2.2.1 X.1.2.2.2.1 X.1.2.2.2.2 X.2.1.1 X.2.1.2.1 X.2.1.2.2.1 X.2.1.2.2.2.1 X.2.1.2.2.2.2 H lo X.2.2.1.2.1 X.2.2.1.2.2.1 X.2.2.1.2.2.2 (F0 X.2.1.1 pc ls st0) := by
  intro T hT Xs
  obtain ⟨v, st₀, t, T', Lc, h0, X', hL, e1, e2, ⟨⟨r, M', hv, hcr, hq, hCM, hP'⟩, hz, hk⟩, st⟩ := hr T hT Xs
  have hv : v = rvO ret r := by injection hv
  subst hv
  rw [h0] at hz hk
  have hcs : CanS (rsO ret r ++ rest) := fun w hw => (List.mem_append.mp hw).elim (hcr w) (c w)
  have h := hq hCM b hcs T'.heap (lo ++ Lc) ls (by rw [e1]; exact hP') ⟨Nat.le_trans hS.1 (by rw [e1]; exact hz), fun q h1 h2 => by rw [e1, hk q (Nat.lt_of_lt_of_le h1 hS.1) h2]; exact hS.2.1 q h1 h2, fun q hq => (List.mem_append.mp hq).elim (hS.2.2 q) (hL q)⟩ hl
  rw [List.map_append, rsO_map] at h
  obtain ⟨t2, a1, b1⟩ := h T' rfl X'
  exact ⟨t2, st t2 a1, b1⟩
theorem gd_in {a : List Cond} {y : MethodName} {bytes : ByteArray} {maxL : Nat} {ret : Option FieldType} (hc : Cond.code y bytes maxL ret ∈ gd_tbl) (ha : GoodIn gd_tbl a) : GoodIn gd_tbl (a ++ (.code y bytes maxL ret :: gd_tbl)) := fun w h => (List.mem_append.mp h).elim (ha w) (fun h => (List.mem_cons.mp h).elim (fun e => e ▸ ⟨hc, gd_good _ hc⟩) (fun h => ⟨h, gd_good w h⟩))
theorem gd_in0 {y : MethodName} {bytes : ByteArray} {maxL : Nat} {ret : Option FieldType} (hc : Cond.code y bytes maxL ret ∈ gd_tbl) : GoodIn gd_tbl (.code y bytes maxL ret :: gd_tbl) := gd_in (a := []) hc (fun _ h => by cases h)
/-- a method of the table: its code, that its class stands ready, its name is plain, how many parameters it has -/
def mOk (md : MD) (k : Nat) : Prop := Cond.code md.1 md.2.1 md.2.2.1 md.2.2.2 ∈ gd_tbl ∧ Cond.initialized md.1.cls ∈ gd_tbl ∧ (md.1.cls ≠ "java/lang/invoke/MethodHandle" ∧ md.1.cls ≠ "java/lang/invoke/VarHandle" ∧ (parseMethodDescriptor md.1.desc).map (fun d => d.parameters.length) = some k) ∧ md.2.2.1 ≤ 40
/-- an instance method, chosen on objects of its own class -/
def vOk (md : MD) (k : Nat) : Prop := mOk md k ∧ Cond.instanceMethod md.1 ∈ gd_tbl ∧ Cond.selects md.1.cls md.1 md.1 ∈ gd_tbl
def sOk (md : MD) (k : Nat) : Prop := mOk md k ∧ Cond.static md.1 ∈ gd_tbl
/-- a method's link -/
def mLk (own : String) (index : Nat) (y : MethodName) : Prop := Cond.methodLink own index y ∈ gd_tbl ∨ ∃ host, Cond.methodLinkNest own index y host ∈ nst_tbl
theorem m_pre (C : Cx X cc own n) {as : List VV} {H : Heap} {lo : List Loc} (a : Can M) (c : CanS as) (hP : va_P X.2.2.2.1 mm_cl (wld X.2.2.2 M) H) (hS : va_S (Ag X.2.2.2) X.1.2.2.2.2.heap H lo) : ∀ U : State, U.heap = H → X.1.2.2.2.2.WarmedH U.vm → PcO X.2.2.2 as M (as.map (tv X.2.2.2)).toArray U := fun U hU hW =>
  ⟨rfl, a, c, by rw [hU]; exact hP, C.2.2.2.2.2.1.warm hW, C.2.2.2.2.2.2.1.go hW (fun q h1 h2 => by rw [hU]; exact hS.2.1 q h1 h2)⟩
theorem m_callV (C : Cx X cc own n) {md : MD} {k o index ci : Nat} {fds : List Nat} {T : u_T} {N : Nat} {as rest : List VV} (hm : vOk md k) (hlk : mLk own index md.1) (ho : shp[o]? = some (.inl (ci, fds))) (hcl : mm_cl[ci]? = some (md.1.cls, T, N)) (hk : as.length = k) (hS0 : S = as.reverse ++ vR o :: rest) (hrest : wdt rest ≤ 8) (hd : decode cc pc = .ok (.invokevirtual index, 3))
    (K : Con n md (vR o :: as) M (fun r M' => WM X (pc + 3) L (rsO md.2.2.2 r ++ rest) M')) : WM X pc L S M := by
  intro a b c H lo ls hP hS hl
  subst hS0
  have cas : CanS (vR o :: as) := CanS.push (fun w hw => c w (List.mem_append_left _ (List.mem_reverse.mpr hw))) trivial
  have crest : CanS rest := fun w hw => c w (List.mem_append_right _ (List.mem_cons_of_mem _ hw))
  have hmon : ((rest.map (tv X.2.2.2)).map fun v => v.category).sum ≤ 8 := by rw [wdt_cat]; exact hrest
  obtain ⟨⟨hcode, hini, hy, h40⟩, hins, hsel⟩ := hm
  obtain ⟨hx, hb, hml, hown, hts, hKK, hSS, hR1, hR2, hR3, hR4⟩ := C
  have C : Cx X cc own n := ⟨hx, hb, hml, hown, hts, hKK, hSS, hR1, hR2, hR3, hR4⟩
  have hstk : ((as.reverse ++ vR o :: rest).map (tv X.2.2.2)) = (as.map (tv X.2.2.2)).reverse ++ .ref (X.2.2.2.2.1 o) :: rest.map (tv X.2.2.2) := by
    rw [List.map_append, List.map_cons, List.map_reverse]; rfl
  have hR : (rmO n).frames + 1 ≤ X.1.2.2.2.1.frames ∧ 8 + (md.2.2.1 + 11) + (rmO n).locals ≤ X.1.2.2.2.1.locals := ⟨hR1, by show 8 + (md.2.2.1 + 11) + 60 * n ≤ _; omega⟩
  have hpre : PreV X.1.2.2.2.2 H md.1.cls (X.2.2.2.2.1 o) (PcO X.2.2.2 (vR o :: as) M) (as.map (tv X.2.2.2)) := ⟨PcO.blind _ _ _, va_recv hKK.1 hP hcl (wld_at ho), m_pre C a cas hP hS⟩
  have hlen : (as.map (tv X.2.2.2)).length = k := by rw [List.length_map]; exact hk
  refine m_run C (ret := md.2.2.2) (rest := rest) b crest hS hl (av := (Value.ref (X.2.2.2.2.1 o) :: as.map (tv X.2.2.2)).toArray) ?_
  rcases hlk with h | ⟨host, h⟩
  · exact va_runV (C := md.1.cls) (bytes := md.2.1) (maxL := md.2.2.1) (ret := md.2.2.2) (n := k) (Ts := gd_tbl) ⟨hx, hb, hml, hown, hts⟩ (K X.1.2.1 X.2.2.2) ⟨callB_of k hts (gd_in0 hcode) rfl rfl rfl (hts _ hini) (hts _ h) hy hR, hts _ hins, hts _ hsel⟩ hpre rfl hlen hl.1 hstk (by show 2 * 0 + _ ≤ 8; rw [Nat.mul_zero, Nat.zero_add]; exact hmon) hd ⟨hR3, hR4⟩
  · exact va_runVN (C := md.1.cls) (bytes := md.2.1) (maxL := md.2.2.1) (ret := md.2.2.2) (n := k) (host := host) (Ts := gd_tbl) ⟨hx, hb, hml, hown, hts⟩ (K X.1.2.1 X.2.2.2) ⟨va_cnB k hts (gd_in0 hcode) rfl rfl rfl (hKK.2.1 _ h) (hts _ hini) hy hR, hts _ hins, hts _ hsel⟩ hpre rfl hlen hl.1 hstk (by show 2 * 0 + _ ≤ 8; rw [Nat.mul_zero, Nat.zero_add]; exact hmon) hd ⟨hR3, hR4⟩
theorem m_callS (C : Cx X cc own n) {md : MD} {k index : Nat} {as rest : List VV} (hm : sOk md k) (hlk : mLk own index md.1) (hk : as.length = k) (hS0 : S = as.reverse ++ rest) (hrest : wdt rest ≤ 8) (hd : decode cc pc = .ok (.invokestatic index, 3))
    (K : Con n md as M (fun r M' => WM X (pc + 3) L (rsO md.2.2.2 r ++ rest) M')) : WM X pc L S M := by
  intro a b c H lo ls hP hS hl
  subst hS0
  have cas : CanS as := fun w hw => c w (List.mem_append_left _ (List.mem_reverse.mpr hw))
  have crest : CanS rest := fun w hw => c w (List.mem_append_right _ hw)
  have hmon : ((rest.map (tv X.2.2.2)).map fun v => v.category).sum ≤ 8 := by rw [wdt_cat]; exact hrest
  obtain ⟨⟨hcode, hini, hy, h40⟩, hst⟩ := hm
  obtain ⟨hx, hb, hml, hown, hts, hKK, hSS, hR1, hR2, hR3, hR4⟩ := C
  have C : Cx X cc own n := ⟨hx, hb, hml, hown, hts, hKK, hSS, hR1, hR2, hR3, hR4⟩
  have hstk : ((as.reverse ++ rest).map (tv X.2.2.2)) = (as.map (tv X.2.2.2)).reverse ++ rest.map (tv X.2.2.2) := by
    rw [List.map_append, List.map_reverse]
  have hR : (rmO n).frames + 1 ≤ X.1.2.2.2.1.frames ∧ 8 + (md.2.2.1 + 11) + (rmO n).locals ≤ X.1.2.2.2.1.locals := ⟨hR1, by show 8 + (md.2.2.1 + 11) + 60 * n ≤ _; omega⟩
  have hpre : PreS X.1.2.2.2.2 H (PcO X.2.2.2 as M) (as.map (tv X.2.2.2)) := ⟨PcO.blind _ _ _, m_pre C a cas hP hS⟩
  have hlen : (as.map (tv X.2.2.2)).length = k := by rw [List.length_map]; exact hk
  refine m_run C (ret := md.2.2.2) (rest := rest) b crest hS hl (av := (as.map (tv X.2.2.2)).toArray) ?_
  rcases hlk with h | ⟨host, h⟩
  · exact va_runS (bytes := md.2.1) (maxL := md.2.2.1) (ret := md.2.2.2) (n := k) (Ts := gd_tbl) ⟨hx, hb, hml, hown, hts⟩ (K X.1.2.1 X.2.2.2) ⟨callB_of k hts (gd_in0 hcode) rfl rfl rfl (hts _ hini) (hts _ h) hy hR, hts _ hst⟩ hpre rfl hlen hl.1 hstk (by show 2 * 0 + _ ≤ 8; rw [Nat.mul_zero, Nat.zero_add]; exact hmon) hd ⟨hR3, hR4⟩
  · exact va_runSN (bytes := md.2.1) (maxL := md.2.2.1) (ret := md.2.2.2) (n := k) (host := host) (Ts := gd_tbl) ⟨hx, hb, hml, hown, hts⟩ (K X.1.2.1 X.2.2.2) ⟨va_cnB k hts (gd_in0 hcode) rfl rfl rfl (hKK.2.1 _ h) (hts _ hini) hy hR, hts _ hst, trivial⟩ hpre rfl hlen hl.1 hstk (by show 2 * 0 + _ ≤ 8; rw [Nat.mul_zero, Nat.zero_add]; exact hmon) hd ⟨hR3, hR4⟩
end ROWS
end
section
/-! MORE ROWS OF THE SMALL MACHINE -/
theorem r32_of {v : Int} (h : (decide (-2147483648 ≤ v) && decide (v ≤ 2147483647)) = true) : r32 v := by
  simp only [Bool.and_eq_true, decide_eq_true_eq] at h; exact h
theorem r64_of {v : Int} (h : (decide (-9223372036854775808 ≤ v) && decide (v ≤ 9223372036854775807)) = true) : r64 v := by
  simp only [Bool.and_eq_true, decide_eq_true_eq] at h; exact h
/-- a contract out of a walk, of any class -/
theorem Con.ofF {n : Nat} (hn : 0 < n) {y : MethodName} {cc : ByteArray} {nL : Nat} {ret : Option FieldType} {as : List VV} {M : Mem} {Q : Int → Mem → Prop} (hy : plainFor y = true) (hw : wdt as ≤ nL)
    (h : ∀ X : CT, Cx X cc y.cls (n - 1) → Cr X ret Q → X.2.2.1.1 = nL → WM X 0 (lvA 0 as) [] M) : Con n (y, cc, nL, ret) as M Q := by
  intro l g
  refine va_MetF (cc := cc) (maxL := nL) (ret := ret) hy rfl ?_
  intro p e s m args below meth c s₁ B hml hv
  obtain ⟨rfl, hCM, hCa, hP, hK, hS⟩ := hv
  have hts := atoms_spec (ws := .code y cc nL ret :: gd_tbl) B.pre
  have hown : s.vm.findClass y.cls = some m.cls := findClass_of_methodNamed B.named
  rw [lg_entry_eq]
  have hl := lv_entry (as.map (tv g)) (n := nL) (by rw [lg_sl_len]; exact hw)
  rw [← lvA_map] at hl
  exact h ((p, l, e, rmO n, s), (m, (as.map (tv g)).toArray, below, meth, c), (nL, 0, 0, MQ below (QcO g ret Q) (as.map (tv g)).toArray s 0 0 (Ag g)), g)
    ⟨B.exec, B.bytes, hml, hown, fun w hw => hts w (List.mem_cons_of_mem _ hw), hK, hS, by
      show n - 1 + 1 ≤ n; omega, by show 60 * (n - 1) + 60 ≤ 60 * n; omega, Nat.le_refl _, Nat.le_refl _⟩
    ⟨B.returns, B.notSynchronized, rfl⟩ rfl hCM (lvA_can as 0 hCa) (fun _ h => by cases h) s.heap [] _ hP va_S.rf hl
section ROWS2
variable {X : CT} {cc : ByteArray} {own : String} {n pc : Nat} {L : List (Nat × VV)} {S : List VV} {M : Mem}
theorem m_sub (ks : List Nat) {L' : List (Nat × VV)} (hL : ks.filterMap (fun k => L[k]?) = L') (K : WM X pc L' S M) : WM X pc L S M := by
  intro a b c H lo ls hP hS hl
  refine K a (fun q hq => ?_) c H lo ls hP hS ⟨hl.1, hl.2.1, fun q hq => ?_⟩
  · rw [← hL] at hq
    obtain ⟨k, -, hk⟩ := List.mem_filterMap.mp hq
    exact b q (List.mem_of_getElem? hk)
  · obtain ⟨q', hq', rfl⟩ := List.mem_map.mp hq
    rw [← hL] at hq'
    obtain ⟨k, -, hk⟩ := List.mem_filterMap.mp hq'
    exact hl.2.2 _ (List.mem_map.mpr ⟨q', List.mem_of_getElem? hk, rfl⟩)
theorem m_callVi (C : Cx X cc own n) {md : MD} {k o index ci : Nat} {fds : List Nat} {T : u_T} {N : Nat} {as rest : List VV} (hm : vOk md k) (hlk : mLk own index md.1) (ho : shp[o]? = some (.inl (ci, fds))) (hcl : mm_cl[ci]? = some (md.1.cls, T, N)) (hk : as.length = k) (hS0 : S = as.reverse ++ vR o :: rest) (hrest : wdt rest ≤ 8) (hret : ∀ r, rsO md.2.2.2 r = [vI r]) (hd : decode cc pc = .ok (.invokevirtual index, 3))
    (K : Con n md (vR o :: as) M (fun r M' => WM X (pc + 3) L (vI r :: rest) M')) : WM X pc L S M := m_callV C hm hlk ho hcl hk hS0 hrest hd (K.mono fun r M' _ _ h => by rw [hret]; exact h)
theorem m_callVl (C : Cx X cc own n) {md : MD} {k o index ci : Nat} {fds : List Nat} {T : u_T} {N : Nat} {as rest : List VV} (hm : vOk md k) (hlk : mLk own index md.1) (ho : shp[o]? = some (.inl (ci, fds))) (hcl : mm_cl[ci]? = some (md.1.cls, T, N)) (hk : as.length = k) (hS0 : S = as.reverse ++ vR o :: rest) (hrest : wdt rest ≤ 8) (hret : ∀ r, rsO md.2.2.2 r = [vL r]) (hd : decode cc pc = .ok (.invokevirtual index, 3))
    (K : Con n md (vR o :: as) M (fun r M' => WM X (pc + 3) L (vL r :: rest) M')) : WM X pc L S M := m_callV C hm hlk ho hcl hk hS0 hrest hd (K.mono fun r M' _ _ h => by rw [hret]; exact h)
theorem m_callVv (C : Cx X cc own n) {md : MD} {k o index ci : Nat} {fds : List Nat} {T : u_T} {N : Nat} {as rest : List VV} (hm : vOk md k) (hlk : mLk own index md.1) (ho : shp[o]? = some (.inl (ci, fds))) (hcl : mm_cl[ci]? = some (md.1.cls, T, N)) (hk : as.length = k) (hS0 : S = as.reverse ++ vR o :: rest) (hrest : wdt rest ≤ 8) (hret : ∀ r, rsO md.2.2.2 r = []) (hd : decode cc pc = .ok (.invokevirtual index, 3))
    (K : Con n md (vR o :: as) M (fun _ M' => WM X (pc + 3) L rest M')) : WM X pc L S M := m_callV C hm hlk ho hcl hk hS0 hrest hd (K.mono fun r M' _ _ h => by rw [hret]; exact h)
theorem m_callSi (C : Cx X cc own n) {md : MD} {k index : Nat} {as rest : List VV} (hm : sOk md k) (hlk : mLk own index md.1) (hk : as.length = k) (hS0 : S = as.reverse ++ rest) (hrest : wdt rest ≤ 8) (hret : ∀ r, rsO md.2.2.2 r = [vI r]) (hd : decode cc pc = .ok (.invokestatic index, 3))
    (K : Con n md as M (fun r M' => WM X (pc + 3) L (vI r :: rest) M')) : WM X pc L S M := m_callS C hm hlk hk hS0 hrest hd (K.mono fun r M' _ _ h => by rw [hret]; exact h)
theorem m_callSv (C : Cx X cc own n) {md : MD} {k index : Nat} {as rest : List VV} (hm : sOk md k) (hlk : mLk own index md.1) (hk : as.length = k) (hS0 : S = as.reverse ++ rest) (hrest : wdt rest ≤ 8) (hret : ∀ r, rsO md.2.2.2 r = []) (hd : decode cc pc = .ok (.invokestatic index, 3))
    (K : Con n md as M (fun _ M' => WM X (pc + 3) L rest M')) : WM X pc L S M := m_callS C hm hlk hk hS0 hrest hd (K.mono fun r M' _ _ h => by rw [hret]; exact h)
-- the String constant, the static row
theorem m_ldcS (C : Cx X cc "FortyStems$Reader" n) (hd : decode cc pc = .ok (.ldc 99, 2)) (K : WM X (pc + 2) L (vR idS :: S) M) : WM X pc L S M :=
  fun a b c H lo ls hP hS hl => va_ldcS C.1 C.2.1 C.2.2.2.1 C.2.2.2.2.2.2.1.2.2.2.2.1 hd (K a b (c.push trivial) H lo ls hP hS hl)
def un_d (i : Int) : Int := (un_l.getD i.toNat 0).toInt
theorem m_gets (C : Cx X cc own n) {index : Nat} (hlk : Cond.fieldLink own index "FortyStems$Kind" "UNDER" "[I" ∈ gd_tbl) (hd : decode cc pc = .ok (.getstatic index, 3)) (K : WM X (pc + 3) L (vR idU :: S) M) : WM X pc L S M :=
  fun a b c H lo ls hP hS hl => va_gets C.1 C.2.1 C.2.2.2.2.2.2.1.1 hS C.2.2.2.1 (C.2.2.2.2.1 _ hlk) (fun _ h => h) hd (K a b (c.push trivial) H lo ls hP hS hl)
theorem m_und (C : Cx X cc own n) {i : Int} (hin : 0 ≤ i ∧ i < 6) (hd : decode cc pc = .ok (.iaload, 1)) (K : WM X (pc + 1) L (vI (un_d i) :: S) M) : WM X pc L (vI i :: vR idU :: S) M :=
  fun a b c H lo ls hP hS hl => va_ti C.1 C.2.1 C.2.2.2.2.2.2.1.2.1 hS (iN_in c.hd hin) (by
    show Value.int (un_l.getD (Int32.ofInt i).toNatClampNeg 0) = tv X.2.2.2 (vI (un_d i))
    rw [iN_cl c.hd]
    show _ = Value.int (Int32.ofInt (un_d i))
    rw [un_d, Int32.ofInt_toInt]) hd (K a b (c.tl.tl.push (iN_r _)) H lo ls hP hS hl)
def cpM (M : Mem) (src dst : Nat) (sp dp cn : Int) : Mem := upr M dst (fun k => if dp.toNat ≤ k ∧ k < dp.toNat + cn.toNat then M src (sp.toNat + (k - dp.toNat)) else M dst k)
theorem m_copy (C : Cx X cc own n) {src dst N0 N1 index : Nat} {sp dp cn : Int} (h0 : isI src N0) (h1 : isI dst N1) (hb : 0 ≤ sp ∧ 0 ≤ dp ∧ 0 ≤ cn ∧ sp + cn ≤ (N0 : Int) ∧ dp + cn ≤ (N1 : Int)) (hlk : Cond.methodLink own index arraycopyName ∈ gd_tbl) (hnat : Cond.native arraycopyName ∈ gd_tbl) (hst : Cond.static arraycopyName ∈ gd_tbl) (hini : Cond.initialized "java/lang/System" ∈ gd_tbl) (hrest : wdt S ≤ 8) (hd : decode cc pc = .ok (.invokestatic index, 3))
    (K : WM X (pc + 3) L S (cpM M src dst sp dp cn)) : WM X pc L (vI cn :: vI dp :: vR dst :: vI sp :: vR src :: S) M := by
  intro a b c H lo ls hP hS hl
  have c1 : r32 cn := c.hd
  have c2 : r32 dp := c.tl.hd
  have c3 : r32 sp := c.tl.tl.tl.hd
  have hts := C.2.2.2.2.1
  refine va_copyi C.1 C.2.1 (C.2.2.1.trans hl.1.symm) C.2.2.2.1 (hts _ hlk) (hts _ hnat) (hts _ hst) (hts _ hini) C.2.2.2.2.2.1.1 hP (wld_D C.2.2.2.2.2.1.2.2 M) hS src dst 0 0 (ty := .int) (wld_at h0) (wld_at h1) rfl rfl rfl
    (fun e => absurd ((iN_lt c3 r32_0).mp e) (by omega)) (fun e => absurd ((iN_lt c2 r32_0).mp e) (by omega)) (fun e => absurd ((iN_lt c1 r32_0).mp e) (by omega)) (by rw [iN_cl c3, iN_cl c1]; omega) (by rw [iN_cl c2, iN_cl c1]; omega) (fun _ _ => rfl)
    (by have := C.2.2.2.2.2.2.2.1; omega) ?_ hd (fun H1 l1 hP1 _ hS1 => K ?_ b c.tl.tl.tl.tl.tl H1 l1 ls ?_ hS1 hl)
  · have h60 := C.2.2.2.2.2.2.2.2.1
    have hw : ((S.map (tv X.2.2.2)).map fun v => v.category).sum ≤ 8 := by rw [wdt_cat]; exact hrest
    have hnf : nativeFrameWords "java/lang/System" "arraycopy" 5 ≤ 30 := by decide +kernel
    omega
  · intro o k
    unfold cpM upr
    split
    · show r32 (if _ then _ else _)
      split
      · exact a _ _
      · exact a _ _
    · exact a _ _
  · have hset : (wld X.2.2.2 M).set dst (X.2.2.2.2.1 dst, .inl (if (0 : Nat) = 0 then X.2.2.2.2.2.1 else X.2.2.2.2.2.2.1, N1, .inl (va_cpy (fun j => Int32.ofInt (M src j)) (fun j => Int32.ofInt (M dst j)) (Int32.ofInt sp).toNatClampNeg (Int32.ofInt dp).toNatClampNeg (Int32.ofInt cn).toNatClampNeg))) = wld X.2.2.2 (cpM M src dst sp dp cn) := by
      refine wld_set h1 ?_ (fun o' k' h => by unfold cpM upr; rw [if_neg h])
      show Sum.inl (_, N1, Sum.inl _) = Sum.inl (_, N1, Sum.inl _)
      congr 3
      congr 1
      funext j
      unfold cpM upr va_cpy
      rw [if_pos rfl, iN_cl c3, iN_cl c2, iN_cl c1]
      show Int32.ofInt (if _ then _ else _) = if _ then _ else _
      split <;> rfl
    exact hset ▸ hP1
end ROWS2
end
section
/-! new int[n][k], on the heap itself -/
/-- arrays of int arrays: what the tables say, of any state of these tables -/
def AOv (U : State) : Prop := (Cond.arrayOver (.array .int)).before #[] U = true
theorem AOv.of {args : Array Value} {s : State} (h : (Cond.arrayOver (.array .int)).before args s = true) : AOv s := Jvm.Stand.arrayOver_alikeB (Vm.Alike.refl s.vm) h
theorem AOv.use {args : Array Value} {s : State} (h : AOv s) : (Cond.arrayOver (.array .int)).before args s = true := Jvm.Stand.arrayOver_alikeB (Vm.Alike.refl s.vm) h
theorem AOv.moved {s U : State} (hv : s.vm.Alike U.vm) (h : AOv s) : AOv U := Jvm.Stand.arrayOver_alikeB hv h
theorem outerC_V (c : ClassId) (N h0 : Nat) : ∀ i : Nat, Jvm.Free.Multi.outerC c N h0 i = arrV c N (fun j => va_rf (if j < i then some (h0 + 1 + j) else none))
  | 0 => by
    show ({ cls := c, slots := Array.replicate N .null, vm := .none } : Cell) = _
    rw [arrV_new]
    refine congrArg (arrV c N) (funext fun j => ?_)
    simp [va_rf]
  | i + 1 => by
    show (Jvm.Free.Multi.outerC c N h0 i).setSlot i (.ref (h0 + 1 + i)) = _
    rw [outerC_V c N h0 i, arrV_store]
    refine congrArg (arrV c N) (funext fun j => ?_)
    by_cases e : j = i
    · subst e
      simp [updV, va_rf]
    · by_cases h : j < i
      · simp [updV, e, h, Nat.lt_succ_of_lt h]
      · simp [updV, e, h, show ¬ j < i + 1 by omega]
section MNA
variable {p : Program} {l : Launch} {e : Env} {R : Room} {s : State} {m : MethodId} {args : Array Value} {below : List Frame} {meth : Method} {c : Code} {H : Heap} {locs : List Loc} {cells slots : Nat} {Q : State → Prop}
variable {cc : ByteArray} {pc : Nat} {ls : Array Slot} {rest : List Value}
theorem W_mna (hexec : p.tables.exec = Jvm.exec) (hb : c.code = cc) {own : String} {index : Nat} (hown : s.vm.findClass own = some m.cls) (hclink : (Cond.classLink own index "[[I").before args s = true) (hover : AOv s) (harr : (Cond.arrayClass .int).before args s = true)
    {n k : Int32} {N K : Nat} (hn : ¬ n < 0) (hk : ¬ k < 0) (hN : n.toNatClampNeg = N) (hK : k.toNatClampNeg = K) (hb1 : N ≤ 1000) (hb2 : K ≤ 1000) (hcells : cells + (1 + N) ≤ R.cells) (hslots : slots + (N + N * K) ≤ R.slots) (hdg : decode cc pc = .ok (.multianewarray index 2, 4))
    (kk : ∀ (H1 : Heap) (cA cy : ClassId), s.vm.findClass "[[I" = some cA → s.vm.findClass "[I" = some cy → H1.size = H.size + 1 + N → (∀ x : Nat, x < H.size → H1[x]? = H[x]?) →
      H1[H.size]? = some (vp_cell cA (N, .inr (.inr (.inr (.inr (fun i => if i < N then some (H.size + 1 + i) else none)))))) → (∀ j : Nat, j < N → H1[H.size + 1 + j]? = some (vp_cell cy (K, .inl (fun _ => 0)))) →
      W p l e R s m args below meth c H1 locs (cells + 1 + N) (slots + N + N * K) Q (F0 m (pc + 4) ls (.ref H.size :: rest))) : W p l e R s m args below meth c H locs cells slots Q (F0 m pc ls (.int k :: .int n :: rest)) := by
  subst hN
  subst hK
  intro T hT Xs
  have e4 : componentBytes (FieldType.int) = 4 := rfl
  obtain ⟨vm₁, cA, cy, -, fA, fC, -, -, X', step⟩ := Jvm.Stand.multianewarray2F Xs hexec (ty := .int) hown hclink hover.use harr (g := F0 m pc ls (.int k :: .int n :: rest)) rfl (by rw [hb]; exact hdg) rfl hn hk (by omega) (by rw [e4]; omega) (by omega) rfl rfl hcells hslots
  generalize hF : Jvm.Free.Multi.fill (T.setVm vm₁) cA cy n.toNatClampNeg k.toNatClampNeg (defaultValue .int) n.toNatClampNeg = F at X' step
  have hTh : (T.setVm vm₁).heap = H := hT
  obtain ⟨f1, f2, -, -⟩ := Jvm.Free.Multi.fill_facts (T.setVm vm₁) cA cy n.toNatClampNeg k.toNatClampNeg (defaultValue .int) n.toNatClampNeg
  rw [hF, hTh] at f1 f2
  have hold : ∀ x : Nat, x < H.size → F.heap[x]? = H[x]? := fun x hx => by
    have := Jvm.Free.Multi.fill_old (T.setVm vm₁) cA cy n.toNatClampNeg k.toNatClampNeg (defaultValue .int) (a := x) (by rw [hTh]; exact hx) n.toNatClampNeg
    rw [hF, hTh] at this
    exact this
  have hin : Jvm.Free.Multi.innerC cy k.toNatClampNeg (defaultValue .int) = vp_cell cy (k.toNatClampNeg, .inl (fun _ => 0)) := arrV_new _ _ _
  have hrow : ∀ j : Nat, j < n.toNatClampNeg → F.heap[H.size + 1 + j]? = some (vp_cell cy (k.toNatClampNeg, .inl (fun _ => 0))) := fun j hj => by
    have := Jvm.Free.Multi.fill_inner (T.setVm vm₁) cA cy n.toNatClampNeg k.toNatClampNeg (defaultValue .int) n.toNatClampNeg j hj
    rw [hF, hTh, hin] at this
    exact this
  have hout : Jvm.Free.Multi.outerC cA n.toNatClampNeg H.size n.toNatClampNeg = vp_cell cA (n.toNatClampNeg, .inr (.inr (.inr (.inr (fun i => if i < n.toNatClampNeg then some (H.size + 1 + i) else none))))) := by
    rw [vp_cell_q]
    exact outerC_V cA n.toNatClampNeg H.size n.toNatClampNeg
  rw [hout] at f2
  obtain ⟨t, a1, b1⟩ := kk F.heap cA cy fA fC f1 hold f2 hrow F rfl X'
  rw [hT] at step
  exact ⟨t, step t a1, b1⟩
end MNA
end
