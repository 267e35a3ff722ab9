section
-- ===== PART A: goes FIRST, ahead of the names: the tables' words, and 'selects' of the private methods out of them =====
/-- a private method of a class that the tables say can be made, by its rows of tables_1 -/
def lw_okq (q : MethodName × Nat) : Prop := (q.1.cls ≠ "java/lang/invoke/MethodHandle" ∧ q.1.cls ≠ "java/lang/invoke/VarHandle") ∧ Cond.instantiable q.1.cls q.2 ∈ tables_1 ∧ Cond.privateMethod q.1 ∈ tables_1 ∧ Cond.instanceMethod q.1 ∈ tables_1
theorem lw_p0 : lw_okq (⟨"TwoWays$Text", "upcoming", "()I"⟩, 4) := ⟨⟨by decide +kernel, by decide +kernel⟩, List.mem_of_getElem? (i := 75) (by decide +kernel), List.mem_of_getElem? (i := 288) (by decide +kernel), List.mem_of_getElem? (i := 289) (by decide +kernel)⟩
theorem lw_p1 : lw_okq (⟨"TwoWays$Text", "readSize", "(LTwoWays$Machine;)V"⟩, 4) := ⟨⟨by decide +kernel, by decide +kernel⟩, List.mem_of_getElem? (i := 75) (by decide +kernel), List.mem_of_getElem? (i := 292) (by decide +kernel), List.mem_of_getElem? (i := 293) (by decide +kernel)⟩
theorem lw_p2 : lw_okq (⟨"TwoWays$Text", "takeLetter", "(I)V"⟩, 4) := ⟨⟨by decide +kernel, by decide +kernel⟩, List.mem_of_getElem? (i := 75) (by decide +kernel), List.mem_of_getElem? (i := 296) (by decide +kernel), List.mem_of_getElem? (i := 297) (by decide +kernel)⟩
theorem lw_p3 : lw_okq (⟨"TwoWays$Text", "passIf", "(Z)V"⟩, 4) := ⟨⟨by decide +kernel, by decide +kernel⟩, List.mem_of_getElem? (i := 75) (by decide +kernel), List.mem_of_getElem? (i := 300) (by decide +kernel), List.mem_of_getElem? (i := 301) (by decide +kernel)⟩
theorem lw_p4 : lw_okq (⟨"TwoWays$Text", "blame", "(I)V"⟩, 4) := ⟨⟨by decide +kernel, by decide +kernel⟩, List.mem_of_getElem? (i := 75) (by decide +kernel), List.mem_of_getElem? (i := 304) (by decide +kernel), List.mem_of_getElem? (i := 305) (by decide +kernel)⟩
theorem lw_p5 : lw_okq (⟨"TwoWays$Text", "takeFigure", "(II)I"⟩, 4) := ⟨⟨by decide +kernel, by decide +kernel⟩, List.mem_of_getElem? (i := 75) (by decide +kernel), List.mem_of_getElem? (i := 308) (by decide +kernel), List.mem_of_getElem? (i := 309) (by decide +kernel)⟩
theorem lw_p6 : lw_okq (⟨"TwoWays$Text", "readMove", "(LTwoWays$Machine;)V"⟩, 4) := ⟨⟨by decide +kernel, by decide +kernel⟩, List.mem_of_getElem? (i := 75) (by decide +kernel), List.mem_of_getElem? (i := 312) (by decide +kernel), List.mem_of_getElem? (i := 313) (by decide +kernel)⟩
theorem lw_p7 : lw_okq (⟨"TwoWays$Text", "takeSign", "(LTwoWays$Machine;I)I"⟩, 4) := ⟨⟨by decide +kernel, by decide +kernel⟩, List.mem_of_getElem? (i := 75) (by decide +kernel), List.mem_of_getElem? (i := 320) (by decide +kernel), List.mem_of_getElem? (i := 321) (by decide +kernel)⟩
theorem lw_p8 : lw_okq (⟨"TwoWays$Text", "takeSide", "()I"⟩, 4) := ⟨⟨by decide +kernel, by decide +kernel⟩, List.mem_of_getElem? (i := 75) (by decide +kernel), List.mem_of_getElem? (i := 334) (by decide +kernel), List.mem_of_getElem? (i := 335) (by decide +kernel)⟩
theorem lw_p9 : lw_okq (⟨"TwoWays$History", "slotAt", "(I)LTwoWays$Both;"⟩, 3) := ⟨⟨by decide +kernel, by decide +kernel⟩, List.mem_of_getElem? (i := 56) (by decide +kernel), List.mem_of_getElem? (i := 358) (by decide +kernel), List.mem_of_getElem? (i := 359) (by decide +kernel)⟩
theorem lw_p10 : lw_okq (⟨"TwoWays", "hasMoveOf", "(III)Z"⟩, 13) := ⟨⟨by decide +kernel, by decide +kernel⟩, List.mem_of_getElem? (i := 15) (by decide +kernel), List.mem_of_getElem? (i := 388) (by decide +kernel), List.mem_of_getElem? (i := 389) (by decide +kernel)⟩
theorem lw_p11 : lw_okq (⟨"TwoWays", "change", "(LTwoWays$Machine;III)I"⟩, 13) := ⟨⟨by decide +kernel, by decide +kernel⟩, List.mem_of_getElem? (i := 15) (by decide +kernel), List.mem_of_getElem? (i := 397) (by decide +kernel), List.mem_of_getElem? (i := 398) (by decide +kernel)⟩
theorem lw_p12 : lw_okq (⟨"TwoWays$Machine", "drawLot", "(I)I"⟩, 3) := ⟨⟨by decide +kernel, by decide +kernel⟩, List.mem_of_getElem? (i := 29) (by decide +kernel), List.mem_of_getElem? (i := 422) (by decide +kernel), List.mem_of_getElem? (i := 423) (by decide +kernel)⟩
theorem lw_p13 : lw_okq (⟨"TwoWays$Machine", "drawMove", "()I"⟩, 3) := ⟨⟨by decide +kernel, by decide +kernel⟩, List.mem_of_getElem? (i := 29) (by decide +kernel), List.mem_of_getElem? (i := 428) (by decide +kernel), List.mem_of_getElem? (i := 429) (by decide +kernel)⟩
theorem lw_p14 : lw_okq (⟨"TwoWays", "firstByRule", "(I)I"⟩, 13) := ⟨⟨by decide +kernel, by decide +kernel⟩, List.mem_of_getElem? (i := 15) (by decide +kernel), List.mem_of_getElem? (i := 503) (by decide +kernel), List.mem_of_getElem? (i := 504) (by decide +kernel)⟩
theorem lw_p15 : lw_okq (⟨"TwoWays$OneWay", "findBehind", "(II)V"⟩, 16) := ⟨⟨by decide +kernel, by decide +kernel⟩, List.mem_of_getElem? (i := 138) (by decide +kernel), List.mem_of_getElem? (i := 514) (by decide +kernel), List.mem_of_getElem? (i := 515) (by decide +kernel)⟩
def lw_privs_1 : List (MethodName × Nat) := [(⟨"TwoWays$Text", "upcoming", "()I"⟩, 4), (⟨"TwoWays$Text", "readSize", "(LTwoWays$Machine;)V"⟩, 4), (⟨"TwoWays$Text", "takeLetter", "(I)V"⟩, 4), (⟨"TwoWays$Text", "passIf", "(Z)V"⟩, 4), (⟨"TwoWays$Text", "blame", "(I)V"⟩, 4), (⟨"TwoWays$Text", "takeFigure", "(II)I"⟩, 4), (⟨"TwoWays$Text", "readMove", "(LTwoWays$Machine;)V"⟩, 4), (⟨"TwoWays$Text", "takeSign", "(LTwoWays$Machine;I)I"⟩, 4), (⟨"TwoWays$Text", "takeSide", "()I"⟩, 4), (⟨"TwoWays$History", "slotAt", "(I)LTwoWays$Both;"⟩, 3), (⟨"TwoWays", "hasMoveOf", "(III)Z"⟩, 13), (⟨"TwoWays", "change", "(LTwoWays$Machine;III)I"⟩, 13), (⟨"TwoWays$Machine", "drawLot", "(I)I"⟩, 3), (⟨"TwoWays$Machine", "drawMove", "()I"⟩, 3), (⟨"TwoWays", "firstByRule", "(I)I"⟩, 13), (⟨"TwoWays$OneWay", "findBehind", "(II)V"⟩, 16)]
theorem lw_r1 : ∀ q ∈ lw_privs_1, lw_okq q := List.forall_mem_cons.mpr ⟨lw_p0, List.forall_mem_cons.mpr ⟨lw_p1, List.forall_mem_cons.mpr ⟨lw_p2, List.forall_mem_cons.mpr ⟨lw_p3, List.forall_mem_cons.mpr ⟨lw_p4, List.forall_mem_cons.mpr ⟨lw_p5, List.forall_mem_cons.mpr ⟨lw_p6, List.forall_mem_cons.mpr ⟨lw_p7, List.forall_mem_cons.mpr ⟨lw_p8, List.forall_mem_cons.mpr ⟨lw_p9, List.forall_mem_cons.mpr ⟨lw_p10, List.forall_mem_cons.mpr ⟨lw_p11, List.forall_mem_cons.mpr ⟨lw_p12, List.forall_mem_cons.mpr ⟨lw_p13, List.forall_mem_cons.mpr ⟨lw_p14, List.forall_mem_cons.mpr ⟨lw_p15, fun _ h => absurd h List.not_mem_nil⟩⟩⟩⟩⟩⟩⟩⟩⟩⟩⟩⟩⟩⟩⟩⟩
theorem lw_p16 : lw_okq (⟨"TwoWays$OneWay", "goOff", "(III)I"⟩, 16) := ⟨⟨by decide +kernel, by decide +kernel⟩, List.mem_of_getElem? (i := 138) (by decide +kernel), List.mem_of_getElem? (i := 526) (by decide +kernel), List.mem_of_getElem? (i := 527) (by decide +kernel)⟩
theorem lw_p17 : lw_okq (⟨"TwoWays$OneWay", "numberOfFound", "(I)I"⟩, 16) := ⟨⟨by decide +kernel, by decide +kernel⟩, List.mem_of_getElem? (i := 138) (by decide +kernel), List.mem_of_getElem? (i := 541) (by decide +kernel), List.mem_of_getElem? (i := 542) (by decide +kernel)⟩
theorem lw_p18 : lw_okq (⟨"TwoWays$OneWay", "codeOfFound", "()I"⟩, 16) := ⟨⟨by decide +kernel, by decide +kernel⟩, List.mem_of_getElem? (i := 138) (by decide +kernel), List.mem_of_getElem? (i := 545) (by decide +kernel), List.mem_of_getElem? (i := 546) (by decide +kernel)⟩
theorem lw_p19 : lw_okq (⟨"TwoWays$OneWay", "addFound", "(I)V"⟩, 16) := ⟨⟨by decide +kernel, by decide +kernel⟩, List.mem_of_getElem? (i := 138) (by decide +kernel), List.mem_of_getElem? (i := 549) (by decide +kernel), List.mem_of_getElem? (i := 550) (by decide +kernel)⟩
theorem lw_p20 : lw_okq (⟨"TwoWays$OneWay", "markGoods", "()V"⟩, 16) := ⟨⟨by decide +kernel, by decide +kernel⟩, List.mem_of_getElem? (i := 138) (by decide +kernel), List.mem_of_getElem? (i := 557) (by decide +kernel), List.mem_of_getElem? (i := 558) (by decide +kernel)⟩
theorem lw_p21 : lw_okq (⟨"TwoWays$Meeting", "meet", "(III)V"⟩, 3) := ⟨⟨by decide +kernel, by decide +kernel⟩, List.mem_of_getElem? (i := 195) (by decide +kernel), List.mem_of_getElem? (i := 570) (by decide +kernel), List.mem_of_getElem? (i := 571) (by decide +kernel)⟩
theorem lw_p22 : lw_okq (⟨"TwoWays$Meeting", "isMet", "(I)Z"⟩, 3) := ⟨⟨by decide +kernel, by decide +kernel⟩, List.mem_of_getElem? (i := 195) (by decide +kernel), List.mem_of_getElem? (i := 574) (by decide +kernel), List.mem_of_getElem? (i := 575) (by decide +kernel)⟩
theorem lw_p23 : lw_okq (⟨"TwoWays$Course", "arrive", "(LTwoWays$Word;)V"⟩, 7) := ⟨⟨by decide +kernel, by decide +kernel⟩, List.mem_of_getElem? (i := 110) (by decide +kernel), List.mem_of_getElem? (i := 603) (by decide +kernel), List.mem_of_getElem? (i := 604) (by decide +kernel)⟩
theorem lw_p24 : lw_okq (⟨"TwoWays$Course", "step", "(LTwoWays$Machine;LTwoWays$Word;)V"⟩, 7) := ⟨⟨by decide +kernel, by decide +kernel⟩, List.mem_of_getElem? (i := 110) (by decide +kernel), List.mem_of_getElem? (i := 608) (by decide +kernel), List.mem_of_getElem? (i := 609) (by decide +kernel)⟩
theorem lw_p25 : lw_okq (⟨"TwoWays$Course", "note", "(I)V"⟩, 7) := ⟨⟨by decide +kernel, by decide +kernel⟩, List.mem_of_getElem? (i := 110) (by decide +kernel), List.mem_of_getElem? (i := 623) (by decide +kernel), List.mem_of_getElem? (i := 624) (by decide +kernel)⟩
theorem lw_p26 : lw_okq (⟨"TwoWays", "isPiece", "(II)Z"⟩, 13) := ⟨⟨by decide +kernel, by decide +kernel⟩, List.mem_of_getElem? (i := 15) (by decide +kernel), List.mem_of_getElem? (i := 668) (by decide +kernel), List.mem_of_getElem? (i := 669) (by decide +kernel)⟩
theorem lw_p27 : lw_okq (⟨"TwoWays", "goOffPiece", "(LTwoWays$Machine;IIII)I"⟩, 13) := ⟨⟨by decide +kernel, by decide +kernel⟩, List.mem_of_getElem? (i := 15) (by decide +kernel), List.mem_of_getElem? (i := 672) (by decide +kernel), List.mem_of_getElem? (i := 673) (by decide +kernel)⟩
theorem lw_p28 : lw_okq (⟨"TwoWays", "oneWayFor", "(I)LTwoWays$OneWay;"⟩, 13) := ⟨⟨by decide +kernel, by decide +kernel⟩, List.mem_of_getElem? (i := 15) (by decide +kernel), List.mem_of_getElem? (i := 687) (by decide +kernel), List.mem_of_getElem? (i := 688) (by decide +kernel)⟩
theorem lw_p29 : lw_okq (⟨"TwoWays$OneWay", "groupByGoodness", "()V"⟩, 16) := ⟨⟨by decide +kernel, by decide +kernel⟩, List.mem_of_getElem? (i := 138) (by decide +kernel), List.mem_of_getElem? (i := 699) (by decide +kernel), List.mem_of_getElem? (i := 700) (by decide +kernel)⟩
theorem lw_p30 : lw_okq (⟨"TwoWays$OneWay", "splitGroups", "()I"⟩, 16) := ⟨⟨by decide +kernel, by decide +kernel⟩, List.mem_of_getElem? (i := 138) (by decide +kernel), List.mem_of_getElem? (i := 703) (by decide +kernel), List.mem_of_getElem? (i := 704) (by decide +kernel)⟩
theorem lw_p31 : lw_okq (⟨"TwoWays$OneWay", "groupAmong", "(II)I"⟩, 16) := ⟨⟨by decide +kernel, by decide +kernel⟩, List.mem_of_getElem? (i := 138) (by decide +kernel), List.mem_of_getElem? (i := 707) (by decide +kernel), List.mem_of_getElem? (i := 708) (by decide +kernel)⟩
def lw_privs_2 : List (MethodName × Nat) := [(⟨"TwoWays$OneWay", "goOff", "(III)I"⟩, 16), (⟨"TwoWays$OneWay", "numberOfFound", "(I)I"⟩, 16), (⟨"TwoWays$OneWay", "codeOfFound", "()I"⟩, 16), (⟨"TwoWays$OneWay", "addFound", "(I)V"⟩, 16), (⟨"TwoWays$OneWay", "markGoods", "()V"⟩, 16), (⟨"TwoWays$Meeting", "meet", "(III)V"⟩, 3), (⟨"TwoWays$Meeting", "isMet", "(I)Z"⟩, 3), (⟨"TwoWays$Course", "arrive", "(LTwoWays$Word;)V"⟩, 7), (⟨"TwoWays$Course", "step", "(LTwoWays$Machine;LTwoWays$Word;)V"⟩, 7), (⟨"TwoWays$Course", "note", "(I)V"⟩, 7), (⟨"TwoWays", "isPiece", "(II)Z"⟩, 13), (⟨"TwoWays", "goOffPiece", "(LTwoWays$Machine;IIII)I"⟩, 13), (⟨"TwoWays", "oneWayFor", "(I)LTwoWays$OneWay;"⟩, 13), (⟨"TwoWays$OneWay", "groupByGoodness", "()V"⟩, 16), (⟨"TwoWays$OneWay", "splitGroups", "()I"⟩, 16), (⟨"TwoWays$OneWay", "groupAmong", "(II)I"⟩, 16)]
theorem lw_r2 : ∀ q ∈ lw_privs_2, lw_okq q := List.forall_mem_cons.mpr ⟨lw_p16, List.forall_mem_cons.mpr ⟨lw_p17, List.forall_mem_cons.mpr ⟨lw_p18, List.forall_mem_cons.mpr ⟨lw_p19, List.forall_mem_cons.mpr ⟨lw_p20, List.forall_mem_cons.mpr ⟨lw_p21, List.forall_mem_cons.mpr ⟨lw_p22, List.forall_mem_cons.mpr ⟨lw_p23, List.forall_mem_cons.mpr ⟨lw_p24, List.forall_mem_cons.mpr ⟨lw_p25, List.forall_mem_cons.mpr ⟨lw_p26, List.forall_mem_cons.mpr ⟨lw_p27, List.forall_mem_cons.mpr ⟨lw_p28, List.forall_mem_cons.mpr ⟨lw_p29, List.forall_mem_cons.mpr ⟨lw_p30, List.forall_mem_cons.mpr ⟨lw_p31, fun _ h => absurd h List.not_mem_nil⟩⟩⟩⟩⟩⟩⟩⟩⟩⟩⟩⟩⟩⟩⟩⟩
theorem lw_p32 : lw_okq (⟨"TwoWays$OneWay", "goTogether", "(II)Z"⟩, 16) := ⟨⟨by decide +kernel, by decide +kernel⟩, List.mem_of_getElem? (i := 138) (by decide +kernel), List.mem_of_getElem? (i := 711) (by decide +kernel), List.mem_of_getElem? (i := 712) (by decide +kernel)⟩
theorem lw_p33 : lw_okq (⟨"TwoWays$OneWay", "groupOf", "(I)I"⟩, 16) := ⟨⟨by decide +kernel, by decide +kernel⟩, List.mem_of_getElem? (i := 138) (by decide +kernel), List.mem_of_getElem? (i := 715) (by decide +kernel), List.mem_of_getElem? (i := 716) (by decide +kernel)⟩
theorem lw_p34 : lw_okq (⟨"TwoWays$OneWay", "countOneLetterMore", "()V"⟩, 16) := ⟨⟨by decide +kernel, by decide +kernel⟩, List.mem_of_getElem? (i := 138) (by decide +kernel), List.mem_of_getElem? (i := 741) (by decide +kernel), List.mem_of_getElem? (i := 742) (by decide +kernel)⟩
theorem lw_p35 : lw_okq (⟨"TwoWays", "isTakenBothWays", "(LTwoWays$Machine;I)Z"⟩, 13) := ⟨⟨by decide +kernel, by decide +kernel⟩, List.mem_of_getElem? (i := 15) (by decide +kernel), List.mem_of_getElem? (i := 753) (by decide +kernel), List.mem_of_getElem? (i := 754) (by decide +kernel)⟩
theorem lw_p36 : lw_okq (⟨"TwoWays", "imageAt", "(I)LTwoWays$Both;"⟩, 13) := ⟨⟨by decide +kernel, by decide +kernel⟩, List.mem_of_getElem? (i := 15) (by decide +kernel), List.mem_of_getElem? (i := 765) (by decide +kernel), List.mem_of_getElem? (i := 766) (by decide +kernel)⟩
theorem lw_p37 : lw_okq (⟨"TwoWaysModel", "wipes", "(II)V"⟩, 36) := ⟨⟨by decide +kernel, by decide +kernel⟩, List.mem_of_getElem? (i := 778) (by decide +kernel), List.mem_of_getElem? (i := 784) (by decide +kernel), List.mem_of_getElem? (i := 785) (by decide +kernel)⟩
theorem lw_p38 : lw_okq (⟨"TwoWaysModel", "reads", "()Z"⟩, 36) := ⟨⟨by decide +kernel, by decide +kernel⟩, List.mem_of_getElem? (i := 778) (by decide +kernel), List.mem_of_getElem? (i := 915) (by decide +kernel), List.mem_of_getElem? (i := 916) (by decide +kernel)⟩
theorem lw_p39 : lw_okq (⟨"TwoWaysModel", "here", "()I"⟩, 36) := ⟨⟨by decide +kernel, by decide +kernel⟩, List.mem_of_getElem? (i := 778) (by decide +kernel), List.mem_of_getElem? (i := 919) (by decide +kernel), List.mem_of_getElem? (i := 920) (by decide +kernel)⟩
theorem lw_p40 : lw_okq (⟨"TwoWaysModel", "must", "(I)Z"⟩, 36) := ⟨⟨by decide +kernel, by decide +kernel⟩, List.mem_of_getElem? (i := 778) (by decide +kernel), List.mem_of_getElem? (i := 923) (by decide +kernel), List.mem_of_getElem? (i := 924) (by decide +kernel)⟩
theorem lw_p41 : lw_okq (⟨"TwoWaysModel", "wrong", "(I)Z"⟩, 36) := ⟨⟨by decide +kernel, by decide +kernel⟩, List.mem_of_getElem? (i := 778) (by decide +kernel), List.mem_of_getElem? (i := 927) (by decide +kernel), List.mem_of_getElem? (i := 928) (by decide +kernel)⟩
theorem lw_p42 : lw_okq (⟨"TwoWaysModel", "isFigure", "(II)Z"⟩, 36) := ⟨⟨by decide +kernel, by decide +kernel⟩, List.mem_of_getElem? (i := 778) (by decide +kernel), List.mem_of_getElem? (i := 931) (by decide +kernel), List.mem_of_getElem? (i := 932) (by decide +kernel)⟩
theorem lw_p43 : lw_okq (⟨"TwoWaysModel", "readsMove", "()Z"⟩, 36) := ⟨⟨by decide +kernel, by decide +kernel⟩, List.mem_of_getElem? (i := 778) (by decide +kernel), List.mem_of_getElem? (i := 936) (by decide +kernel), List.mem_of_getElem? (i := 937) (by decide +kernel)⟩
theorem lw_p44 : lw_okq (⟨"TwoWaysModel", "notes", "()V"⟩, 36) := ⟨⟨by decide +kernel, by decide +kernel⟩, List.mem_of_getElem? (i := 778) (by decide +kernel), List.mem_of_getElem? (i := 943) (by decide +kernel), List.mem_of_getElem? (i := 944) (by decide +kernel)⟩
theorem lw_p45 : lw_okq (⟨"TwoWaysModel", "isSpot", "(III)Z"⟩, 36) := ⟨⟨by decide +kernel, by decide +kernel⟩, List.mem_of_getElem? (i := 778) (by decide +kernel), List.mem_of_getElem? (i := 955) (by decide +kernel), List.mem_of_getElem? (i := 956) (by decide +kernel)⟩
theorem lw_p46 : lw_okq (⟨"TwoWaysModel", "isState", "(II)Z"⟩, 36) := ⟨⟨by decide +kernel, by decide +kernel⟩, List.mem_of_getElem? (i := 778) (by decide +kernel), List.mem_of_getElem? (i := 959) (by decide +kernel), List.mem_of_getElem? (i := 960) (by decide +kernel)⟩
theorem lw_p47 : lw_okq (⟨"TwoWaysModel", "states0", "(I)I"⟩, 36) := ⟨⟨by decide +kernel, by decide +kernel⟩, List.mem_of_getElem? (i := 778) (by decide +kernel), List.mem_of_getElem? (i := 963) (by decide +kernel), List.mem_of_getElem? (i := 964) (by decide +kernel)⟩
def lw_privs_3 : List (MethodName × Nat) := [(⟨"TwoWays$OneWay", "goTogether", "(II)Z"⟩, 16), (⟨"TwoWays$OneWay", "groupOf", "(I)I"⟩, 16), (⟨"TwoWays$OneWay", "countOneLetterMore", "()V"⟩, 16), (⟨"TwoWays", "isTakenBothWays", "(LTwoWays$Machine;I)Z"⟩, 13), (⟨"TwoWays", "imageAt", "(I)LTwoWays$Both;"⟩, 13), (⟨"TwoWaysModel", "wipes", "(II)V"⟩, 36), (⟨"TwoWaysModel", "reads", "()Z"⟩, 36), (⟨"TwoWaysModel", "here", "()I"⟩, 36), (⟨"TwoWaysModel", "must", "(I)Z"⟩, 36), (⟨"TwoWaysModel", "wrong", "(I)Z"⟩, 36), (⟨"TwoWaysModel", "isFigure", "(II)Z"⟩, 36), (⟨"TwoWaysModel", "readsMove", "()Z"⟩, 36), (⟨"TwoWaysModel", "notes", "()V"⟩, 36), (⟨"TwoWaysModel", "isSpot", "(III)Z"⟩, 36), (⟨"TwoWaysModel", "isState", "(II)Z"⟩, 36), (⟨"TwoWaysModel", "states0", "(I)I"⟩, 36)]
theorem lw_r3 : ∀ q ∈ lw_privs_3, lw_okq q := List.forall_mem_cons.mpr ⟨lw_p32, List.forall_mem_cons.mpr ⟨lw_p33, List.forall_mem_cons.mpr ⟨lw_p34, List.forall_mem_cons.mpr ⟨lw_p35, List.forall_mem_cons.mpr ⟨lw_p36, List.forall_mem_cons.mpr ⟨lw_p37, List.forall_mem_cons.mpr ⟨lw_p38, List.forall_mem_cons.mpr ⟨lw_p39, List.forall_mem_cons.mpr ⟨lw_p40, List.forall_mem_cons.mpr ⟨lw_p41, List.forall_mem_cons.mpr ⟨lw_p42, List.forall_mem_cons.mpr ⟨lw_p43, List.forall_mem_cons.mpr ⟨lw_p44, List.forall_mem_cons.mpr ⟨lw_p45, List.forall_mem_cons.mpr ⟨lw_p46, List.forall_mem_cons.mpr ⟨lw_p47, fun _ h => absurd h List.not_mem_nil⟩⟩⟩⟩⟩⟩⟩⟩⟩⟩⟩⟩⟩⟩⟩⟩
theorem lw_p48 : lw_okq (⟨"TwoWaysModel", "moveAt", "(III)I"⟩, 36) := ⟨⟨by decide +kernel, by decide +kernel⟩, List.mem_of_getElem? (i := 778) (by decide +kernel), List.mem_of_getElem? (i := 968) (by decide +kernel), List.mem_of_getElem? (i := 969) (by decide +kernel)⟩
theorem lw_p49 : lw_okq (⟨"TwoWaysModel", "lots", "(I)I"⟩, 36) := ⟨⟨by decide +kernel, by decide +kernel⟩, List.mem_of_getElem? (i := 778) (by decide +kernel), List.mem_of_getElem? (i := 987) (by decide +kernel), List.mem_of_getElem? (i := 988) (by decide +kernel)⟩
theorem lw_p50 : lw_okq (⟨"TwoWaysModel", "movesOf", "(I)I"⟩, 36) := ⟨⟨by decide +kernel, by decide +kernel⟩, List.mem_of_getElem? (i := 778) (by decide +kernel), List.mem_of_getElem? (i := 993) (by decide +kernel), List.mem_of_getElem? (i := 994) (by decide +kernel)⟩
theorem lw_p51 : lw_okq (⟨"TwoWaysModel", "numberOf", "()I"⟩, 36) := ⟨⟨by decide +kernel, by decide +kernel⟩, List.mem_of_getElem? (i := 778) (by decide +kernel), List.mem_of_getElem? (i := 1028) (by decide +kernel), List.mem_of_getElem? (i := 1029) (by decide +kernel)⟩
theorem lw_p52 : lw_okq (⟨"TwoWaysModel", "laysBoth", "()Z"⟩, 36) := ⟨⟨by decide +kernel, by decide +kernel⟩, List.mem_of_getElem? (i := 778) (by decide +kernel), List.mem_of_getElem? (i := 1032) (by decide +kernel), List.mem_of_getElem? (i := 1033) (by decide +kernel)⟩
theorem lw_p53 : lw_okq (⟨"TwoWaysModel", "lays", "(I)Z"⟩, 36) := ⟨⟨by decide +kernel, by decide +kernel⟩, List.mem_of_getElem? (i := 778) (by decide +kernel), List.mem_of_getElem? (i := 1036) (by decide +kernel), List.mem_of_getElem? (i := 1037) (by decide +kernel)⟩
theorem lw_p54 : lw_okq (⟨"TwoWaysModel", "tries", "(IIII)V"⟩, 36) := ⟨⟨by decide +kernel, by decide +kernel⟩, List.mem_of_getElem? (i := 778) (by decide +kernel), List.mem_of_getElem? (i := 1040) (by decide +kernel), List.mem_of_getElem? (i := 1041) (by decide +kernel)⟩
theorem lw_p55 : lw_okq (⟨"TwoWaysModel", "offRight", "(IIII)I"⟩, 36) := ⟨⟨by decide +kernel, by decide +kernel⟩, List.mem_of_getElem? (i := 778) (by decide +kernel), List.mem_of_getElem? (i := 1044) (by decide +kernel), List.mem_of_getElem? (i := 1045) (by decide +kernel)⟩
theorem lw_p56 : lw_okq (⟨"TwoWaysModel", "findsTried", "(I)I"⟩, 36) := ⟨⟨by decide +kernel, by decide +kernel⟩, List.mem_of_getElem? (i := 778) (by decide +kernel), List.mem_of_getElem? (i := 1048) (by decide +kernel), List.mem_of_getElem? (i := 1049) (by decide +kernel)⟩
theorem lw_p57 : lw_okq (⟨"TwoWaysModel", "at", "(II)I"⟩, 36) := ⟨⟨by decide +kernel, by decide +kernel⟩, List.mem_of_getElem? (i := 778) (by decide +kernel), List.mem_of_getElem? (i := 1052) (by decide +kernel), List.mem_of_getElem? (i := 1053) (by decide +kernel)⟩
theorem lw_p58 : lw_okq (⟨"TwoWaysModel", "isGood", "(II)Z"⟩, 36) := ⟨⟨by decide +kernel, by decide +kernel⟩, List.mem_of_getElem? (i := 778) (by decide +kernel), List.mem_of_getElem? (i := 1056) (by decide +kernel), List.mem_of_getElem? (i := 1057) (by decide +kernel)⟩
theorem lw_p59 : lw_okq (⟨"TwoWaysModel", "firstBy", "(I)I"⟩, 36) := ⟨⟨by decide +kernel, by decide +kernel⟩, List.mem_of_getElem? (i := 778) (by decide +kernel), List.mem_of_getElem? (i := 1060) (by decide +kernel), List.mem_of_getElem? (i := 1061) (by decide +kernel)⟩
theorem lw_p60 : lw_okq (⟨"TwoWaysModel", "wordTo", "(I)I"⟩, 36) := ⟨⟨by decide +kernel, by decide +kernel⟩, List.mem_of_getElem? (i := 778) (by decide +kernel), List.mem_of_getElem? (i := 1067) (by decide +kernel), List.mem_of_getElem? (i := 1068) (by decide +kernel)⟩
theorem lw_p61 : lw_okq (⟨"TwoWaysModel", "runs", "(I)V"⟩, 36) := ⟨⟨by decide +kernel, by decide +kernel⟩, List.mem_of_getElem? (i := 778) (by decide +kernel), List.mem_of_getElem? (i := 1077) (by decide +kernel), List.mem_of_getElem? (i := 1078) (by decide +kernel)⟩
theorem lw_p62 : lw_okq (⟨"TwoWaysModel", "signAt", "(I)I"⟩, 36) := ⟨⟨by decide +kernel, by decide +kernel⟩, List.mem_of_getElem? (i := 778) (by decide +kernel), List.mem_of_getElem? (i := 1081) (by decide +kernel), List.mem_of_getElem? (i := 1082) (by decide +kernel)⟩
theorem lw_p63 : lw_okq (⟨"TwoWaysModel", "oftenOver", "(I)I"⟩, 36) := ⟨⟨by decide +kernel, by decide +kernel⟩, List.mem_of_getElem? (i := 778) (by decide +kernel), List.mem_of_getElem? (i := 1085) (by decide +kernel), List.mem_of_getElem? (i := 1086) (by decide +kernel)⟩
def lw_privs_4 : List (MethodName × Nat) := [(⟨"TwoWaysModel", "moveAt", "(III)I"⟩, 36), (⟨"TwoWaysModel", "lots", "(I)I"⟩, 36), (⟨"TwoWaysModel", "movesOf", "(I)I"⟩, 36), (⟨"TwoWaysModel", "numberOf", "()I"⟩, 36), (⟨"TwoWaysModel", "laysBoth", "()Z"⟩, 36), (⟨"TwoWaysModel", "lays", "(I)Z"⟩, 36), (⟨"TwoWaysModel", "tries", "(IIII)V"⟩, 36), (⟨"TwoWaysModel", "offRight", "(IIII)I"⟩, 36), (⟨"TwoWaysModel", "findsTried", "(I)I"⟩, 36), (⟨"TwoWaysModel", "at", "(II)I"⟩, 36), (⟨"TwoWaysModel", "isGood", "(II)Z"⟩, 36), (⟨"TwoWaysModel", "firstBy", "(I)I"⟩, 36), (⟨"TwoWaysModel", "wordTo", "(I)I"⟩, 36), (⟨"TwoWaysModel", "runs", "(I)V"⟩, 36), (⟨"TwoWaysModel", "signAt", "(I)I"⟩, 36), (⟨"TwoWaysModel", "oftenOver", "(I)I"⟩, 36)]
theorem lw_r4 : ∀ q ∈ lw_privs_4, lw_okq q := List.forall_mem_cons.mpr ⟨lw_p48, List.forall_mem_cons.mpr ⟨lw_p49, List.forall_mem_cons.mpr ⟨lw_p50, List.forall_mem_cons.mpr ⟨lw_p51, List.forall_mem_cons.mpr ⟨lw_p52, List.forall_mem_cons.mpr ⟨lw_p53, List.forall_mem_cons.mpr ⟨lw_p54, List.forall_mem_cons.mpr ⟨lw_p55, List.forall_mem_cons.mpr ⟨lw_p56, List.forall_mem_cons.mpr ⟨lw_p57, List.forall_mem_cons.mpr ⟨lw_p58, List.forall_mem_cons.mpr ⟨lw_p59, List.forall_mem_cons.mpr ⟨lw_p60, List.forall_mem_cons.mpr ⟨lw_p61, List.forall_mem_cons.mpr ⟨lw_p62, List.forall_mem_cons.mpr ⟨lw_p63, fun _ h => absurd h List.not_mem_nil⟩⟩⟩⟩⟩⟩⟩⟩⟩⟩⟩⟩⟩⟩⟩⟩
theorem lw_p64 : lw_okq (⟨"TwoWaysModel", "isPiece", "(II)Z"⟩, 36) := ⟨⟨by decide +kernel, by decide +kernel⟩, List.mem_of_getElem? (i := 778) (by decide +kernel), List.mem_of_getElem? (i := 1097) (by decide +kernel), List.mem_of_getElem? (i := 1098) (by decide +kernel)⟩
theorem lw_p65 : lw_okq (⟨"TwoWaysModel", "goesOff", "(IIIII)I"⟩, 36) := ⟨⟨by decide +kernel, by decide +kernel⟩, List.mem_of_getElem? (i := 778) (by decide +kernel), List.mem_of_getElem? (i := 1101) (by decide +kernel), List.mem_of_getElem? (i := 1102) (by decide +kernel)⟩
theorem lw_p66 : lw_okq (⟨"TwoWaysModel", "least", "(I)I"⟩, 36) := ⟨⟨by decide +kernel, by decide +kernel⟩, List.mem_of_getElem? (i := 778) (by decide +kernel), List.mem_of_getElem? (i := 1113) (by decide +kernel), List.mem_of_getElem? (i := 1114) (by decide +kernel)⟩
theorem lw_p67 : lw_okq (⟨"TwoWaysModel", "isLike", "(III)Z"⟩, 36) := ⟨⟨by decide +kernel, by decide +kernel⟩, List.mem_of_getElem? (i := 778) (by decide +kernel), List.mem_of_getElem? (i := 1117) (by decide +kernel), List.mem_of_getElem? (i := 1118) (by decide +kernel)⟩
theorem lw_p68 : lw_okq (⟨"TwoWaysModel", "firstOf", "(II)I"⟩, 36) := ⟨⟨by decide +kernel, by decide +kernel⟩, List.mem_of_getElem? (i := 778) (by decide +kernel), List.mem_of_getElem? (i := 1121) (by decide +kernel), List.mem_of_getElem? (i := 1122) (by decide +kernel)⟩
def lw_privs_5 : List (MethodName × Nat) := [(⟨"TwoWaysModel", "isPiece", "(II)Z"⟩, 36), (⟨"TwoWaysModel", "goesOff", "(IIIII)I"⟩, 36), (⟨"TwoWaysModel", "least", "(I)I"⟩, 36), (⟨"TwoWaysModel", "isLike", "(III)Z"⟩, 36), (⟨"TwoWaysModel", "firstOf", "(II)I"⟩, 36)]
theorem lw_r5 : ∀ q ∈ lw_privs_5, lw_okq q := List.forall_mem_cons.mpr ⟨lw_p64, List.forall_mem_cons.mpr ⟨lw_p65, List.forall_mem_cons.mpr ⟨lw_p66, List.forall_mem_cons.mpr ⟨lw_p67, List.forall_mem_cons.mpr ⟨lw_p68, fun _ h => absurd h List.not_mem_nil⟩⟩⟩⟩⟩
def lw_privs : List (MethodName × Nat) := lw_privs_1 ++ (lw_privs_2 ++ (lw_privs_3 ++ (lw_privs_4 ++ (lw_privs_5))))
def lw_tbl : List Cond := k2_sels lw_privs ++ tables_1
theorem lw_privs_ok : ∀ q ∈ lw_privs, lw_okq q := by
  show ∀ q ∈ lw_privs_1 ++ (lw_privs_2 ++ (lw_privs_3 ++ (lw_privs_4 ++ (lw_privs_5)))), lw_okq q
  exact List.forall_mem_append.mpr ⟨lw_r1, List.forall_mem_append.mpr ⟨lw_r2, List.forall_mem_append.mpr ⟨lw_r3, List.forall_mem_append.mpr ⟨lw_r4, lw_r5⟩⟩⟩⟩
-- ===== end of PART A; then your names; then what follows =====
end
section
/-! ===== BEGIN words of one list among another's, by their places ===== -/
theorem goodIn_r {big : List Cond} (ws : List Cond) (ps : List Nat) (hp : ws = ps.filterMap (fun i => big[i]?)) (h : ws.all goodWord = true) : GoodIn big ws := by
  intro w hw
  have h1 := List.all_eq_true.mp h w hw
  rw [hp] at hw
  obtain ⟨i, -, hi⟩ := List.mem_filterMap.mp hw
  have hm : w ∈ big := by first | exact List.mem_of_getElem? hi | exact List.getElem?_mem hi
  exact ⟨hm, good_of_word h1⟩
theorem goodIn_app {big a b : List Cond} (ha : GoodIn big a) (hb : GoodIn big b) : GoodIn big (a ++ b) := fun w h => (List.mem_append.mp h).elim (ha w) (hb w)
theorem goodIn_ca {big a b : List Cond} {c : Cond} (ha : GoodIn big (c :: a)) (hb : GoodIn big b) : GoodIn big (c :: (a ++ b)) := fun w h => (List.mem_cons.mp h).elim (fun e => ha w (List.mem_cons.mpr (Or.inl e))) (fun h => (List.mem_append.mp h).elim (fun h => ha w (List.mem_cons.mpr (Or.inr h))) (hb w))
theorem goodIn_sub {big ws : List Cond} (hm : ∀ w ∈ ws, w ∈ big) (h : ws.all goodWord = true) : GoodIn big ws := fun w hw => ⟨hm w hw, good_of_word (List.all_eq_true.mp h w hw)⟩
/-! ===== END ===== -/

/-! ===== BEGIN printed: names, fields, word lists, decode rows ===== -/
def RX0 : String := "TwoWays$Both"
def TX0 : u_T := fun k => match k with
  | 0 => ("TwoWays$Both", "zero", "LTwoWays$Machine;", true)
  | _ => ("TwoWays$Both", "one", "LTwoWays$Machine;", true)
def tyX0 : Nat → FieldType := fun k => match k with
  | 0 => .object "TwoWays$Machine"
  | _ => .object "TwoWays$Machine"
abbrev wsX00 : List Cond := u_ws RX0 TX0 2
theorem nmX0 : ∀ a, a < 2 → ∀ b, b < 2 → a ≠ b → (TX0 a).2.1 ≠ (TX0 b).2.1 := by decide +kernel
theorem tyX0_ok : ∀ k, k < 2 → parseFieldDescriptor (TX0 k).2.2.1 = some (tyX0 k) := by decide +kernel
abbrev cX0_init : ByteArray := prog_2_method_1_code
def yX0_init : MethodName := ⟨RX0, "<init>", "()V"⟩
abbrev cX0_at : ByteArray := prog_2_method_2_code
def yX0_at : MethodName := ⟨RX0, "at", "(I)LTwoWays$Machine;"⟩
abbrev cX0_become : ByteArray := prog_2_method_3_code
def yX0_become : MethodName := ⟨RX0, "become", "(LTwoWays$Both;)V"⟩
abbrev cX0_changePlaces : ByteArray := prog_2_method_4_code
def yX0_changePlaces : MethodName := ⟨RX0, "changePlaces", "(LTwoWays$Machine;)V"⟩
def RX1 : String := "TwoWays$Course"
def TX1 : u_T := fun k => match k with
  | 0 => ("TwoWays$Course", "statesSeen", "[I", true)
  | 1 => ("TwoWays$Course", "gaps", "[I", true)
  | 2 => ("TwoWays$Course", "states", "[I", true)
  | 3 => ("TwoWays$Course", "steps", "I", false)
  | 4 => ("TwoWays$Course", "state", "I", false)
  | 5 => ("TwoWays$Course", "place", "I", false)
  | _ => ("TwoWays$Course", "ending", "I", false)
def tyX1 : Nat → FieldType := fun k => match k with
  | 0 => .array .int
  | 1 => .array .int
  | 2 => .array .int
  | 3 => .int
  | 4 => .int
  | 5 => .int
  | _ => .int
abbrev wsX10 : List Cond := u_ws RX1 TX1 7
theorem nmX1 : ∀ a, a < 7 → ∀ b, b < 7 → a ≠ b → (TX1 a).2.1 ≠ (TX1 b).2.1 := by decide +kernel
theorem tyX1_ok : ∀ k, k < 7 → parseFieldDescriptor (TX1 k).2.2.1 = some (tyX1 k) := by decide +kernel
abbrev cX1_init : ByteArray := prog_3_method_1_code
def yX1_init : MethodName := ⟨RX1, "<init>", "()V"⟩
abbrev cX1_follow : ByteArray := prog_3_method_2_code
def yX1_follow : MethodName := ⟨RX1, "follow", "(LTwoWays$Machine;LTwoWays$Word;)V"⟩
abbrev cX1_isTaken : ByteArray := prog_3_method_3_code
def yX1_isTaken : MethodName := ⟨RX1, "isTaken", "()Z"⟩
abbrev cX1_ending : ByteArray := prog_3_method_4_code
def yX1_ending : MethodName := ⟨RX1, "ending", "()I"⟩
abbrev cX1_steps : ByteArray := prog_3_method_5_code
def yX1_steps : MethodName := ⟨RX1, "steps", "()I"⟩
abbrev cX1_lastState : ByteArray := prog_3_method_6_code
def yX1_lastState : MethodName := ⟨RX1, "lastState", "()I"⟩
abbrev cX1_howOften : ByteArray := prog_3_method_7_code
def yX1_howOften : MethodName := ⟨RX1, "howOften", "(I)I"⟩
abbrev cX1_stateAt : ByteArray := prog_3_method_8_code
def yX1_stateAt : MethodName := ⟨RX1, "stateAt", "(II)I"⟩
abbrev cX1_countGaps : ByteArray := prog_3_method_9_code
def yX1_countGaps : MethodName := ⟨RX1, "countGaps", "(I)I"⟩
abbrev cX1_busiestGap : ByteArray := prog_3_method_10_code
def yX1_busiestGap : MethodName := ⟨RX1, "busiestGap", "(I)I"⟩
abbrev cX1_step : ByteArray := prog_3_method_11_code
def yX1_step : MethodName := ⟨RX1, "step", "(LTwoWays$Machine;LTwoWays$Word;)V"⟩
abbrev cX1_note : ByteArray := prog_3_method_12_code
def yX1_note : MethodName := ⟨RX1, "note", "(I)V"⟩
abbrev cX1_arrive : ByteArray := prog_3_method_13_code
def yX1_arrive : MethodName := ⟨RX1, "arrive", "(LTwoWays$Word;)V"⟩
def RX2 : String := "TwoWays$History"
def TX2 : u_T := fun k => match k with
  | 0 => ("TwoWays$History", "ring", "[LTwoWays$Both;", true)
  | 1 => ("TwoWays$History", "size", "I", false)
  | _ => ("TwoWays$History", "free", "I", false)
def tyX2 : Nat → FieldType := fun k => match k with
  | 0 => .array (.object "TwoWays$Both")
  | 1 => .int
  | _ => .int
abbrev wsX20 : List Cond := u_ws RX2 TX2 3
theorem nmX2 : ∀ a, a < 3 → ∀ b, b < 3 → a ≠ b → (TX2 a).2.1 ≠ (TX2 b).2.1 := by decide +kernel
theorem tyX2_ok : ∀ k, k < 3 → parseFieldDescriptor (TX2 k).2.2.1 = some (tyX2 k) := by decide +kernel
abbrev cX2_init : ByteArray := prog_4_method_1_code
def yX2_init : MethodName := ⟨RX2, "<init>", "()V"⟩
abbrev cX2_size : ByteArray := prog_4_method_2_code
def yX2_size : MethodName := ⟨RX2, "size", "()I"⟩
abbrev cX2_remember : ByteArray := prog_4_method_3_code
def yX2_remember : MethodName := ⟨RX2, "remember", "(LTwoWays$Both;)V"⟩
abbrev cX2_stepBack : ByteArray := prog_4_method_4_code
def yX2_stepBack : MethodName := ⟨RX2, "stepBack", "(LTwoWays$Both;)Z"⟩
abbrev cX2_forget : ByteArray := prog_4_method_5_code
def yX2_forget : MethodName := ⟨RX2, "forget", "()V"⟩
abbrev cX2_slotAt : ByteArray := prog_4_method_6_code
def yX2_slotAt : MethodName := ⟨RX2, "slotAt", "(I)LTwoWays$Both;"⟩
def RX3 : String := "TwoWays$Machine"
def TX3 : u_T := fun k => match k with
  | 0 => ("TwoWays$Machine", "moves", "[I", true)
  | 1 => ("TwoWays$Machine", "size", "I", false)
  | _ => ("TwoWays$Machine", "lot", "J", false)
def tyX3 : Nat → FieldType := fun k => match k with
  | 0 => .array .int
  | 1 => .int
  | _ => .long
abbrev wsX30 : List Cond := u_ws RX3 TX3 3
theorem nmX3 : ∀ a, a < 3 → ∀ b, b < 3 → a ≠ b → (TX3 a).2.1 ≠ (TX3 b).2.1 := by decide +kernel
theorem tyX3_ok : ∀ k, k < 3 → parseFieldDescriptor (TX3 k).2.2.1 = some (tyX3 k) := by decide +kernel
abbrev cX3_init : ByteArray := prog_5_method_1_code
def yX3_init : MethodName := ⟨RX3, "<init>", "()V"⟩
abbrev cX3_size : ByteArray := prog_5_method_2_code
def yX3_size : MethodName := ⟨RX3, "size", "()I"⟩
abbrev cX3_hasState : ByteArray := prog_5_method_3_code
def yX3_hasState : MethodName := ⟨RX3, "hasState", "(I)Z"⟩
abbrev cX3_at : ByteArray := prog_5_method_4_code
def yX3_at : MethodName := ⟨RX3, "at", "(II)I"⟩
abbrev cX3_put : ByteArray := prog_5_method_5_code
def yX3_put : MethodName := ⟨RX3, "put", "(III)V"⟩
abbrev cX3_empty : ByteArray := prog_5_method_6_code
def yX3_empty : MethodName := ⟨RX3, "empty", "(I)V"⟩
abbrev cX3_become : ByteArray := prog_5_method_7_code
def yX3_become : MethodName := ⟨RX3, "become", "(LTwoWays$Machine;)V"⟩
abbrev cX3_isLike : ByteArray := prog_5_method_8_code
def yX3_isLike : MethodName := ⟨RX3, "isLike", "(LTwoWays$Machine;)Z"⟩
abbrev cX3_countMoves : ByteArray := prog_5_method_9_code
def yX3_countMoves : MethodName := ⟨RX3, "countMoves", "()I"⟩
abbrev cX3_drawLots : ByteArray := prog_5_method_10_code
def yX3_drawLots : MethodName := ⟨RX3, "drawLots", "(I)V"⟩
abbrev cX3_drawMove : ByteArray := prog_5_method_11_code
def yX3_drawMove : MethodName := ⟨RX3, "drawMove", "()I"⟩
abbrev cX3_drawLot : ByteArray := prog_5_method_12_code
def yX3_drawLot : MethodName := ⟨RX3, "drawLot", "(I)I"⟩
def RX4 : String := "TwoWays$Meeting"
def TX4 : u_T := fun k => match k with
  | 0 => ("TwoWays$Meeting", "queue", "[J", true)
  | 1 => ("TwoWays$Meeting", "met", "[I", true)
  | _ => ("TwoWays$Meeting", "waiting", "I", false)
def tyX4 : Nat → FieldType := fun k => match k with
  | 0 => .array .long
  | 1 => .array .int
  | _ => .int
abbrev wsX40 : List Cond := u_ws RX4 TX4 3
theorem nmX4 : ∀ a, a < 3 → ∀ b, b < 3 → a ≠ b → (TX4 a).2.1 ≠ (TX4 b).2.1 := by decide +kernel
theorem tyX4_ok : ∀ k, k < 3 → parseFieldDescriptor (TX4 k).2.2.1 = some (tyX4 k) := by decide +kernel
abbrev cX4_init : ByteArray := prog_6_method_1_code
def yX4_init : MethodName := ⟨RX4, "<init>", "()V"⟩
abbrev cX4_firstWord : ByteArray := prog_6_method_2_code
def yX4_firstWord : MethodName := ⟨RX4, "firstWord", "(LTwoWays$OneWay;LTwoWays$OneWay;I)I"⟩
abbrev cX4_fits : ByteArray := prog_6_method_3_code
def yX4_fits : MethodName := ⟨RX4, "fits", "(IZZ)Z"⟩
abbrev cX4_meet : ByteArray := prog_6_method_4_code
def yX4_meet : MethodName := ⟨RX4, "meet", "(III)V"⟩
abbrev cX4_isMet : ByteArray := prog_6_method_5_code
def yX4_isMet : MethodName := ⟨RX4, "isMet", "(I)Z"⟩
def RX5 : String := "TwoWays$OneWay"
def TX5 : u_T := fun k => match k with
  | 0 => ("TwoWays$OneWay", "source", "LTwoWays$Machine;", true)
  | 1 => ("TwoWays$OneWay", "doings", "[I", true)
  | 2 => ("TwoWays$OneWay", "found", "[I", true)
  | 3 => ("TwoWays$OneWay", "numberByCode", "[I", true)
  | 4 => ("TwoWays$OneWay", "nexts", "[I", true)
  | 5 => ("TwoWays$OneWay", "goods", "[Z", true)
  | 6 => ("TwoWays$OneWay", "words", "[I", true)
  | 7 => ("TwoWays$OneWay", "groups", "[I", true)
  | 8 => ("TwoWays$OneWay", "finerGroups", "[I", true)
  | 9 => ("TwoWays$OneWay", "leaders", "[I", true)
  | 10 => ("TwoWays$OneWay", "ways", "[I", true)
  | 11 => ("TwoWays$OneWay", "longerWays", "[I", true)
  | 12 => ("TwoWays$OneWay", "made", "Z", false)
  | 13 => ("TwoWays$OneWay", "tooMany", "Z", false)
  | 14 => ("TwoWays$OneWay", "size", "I", false)
  | _ => ("TwoWays$OneWay", "least", "I", false)
def tyX5 : Nat → FieldType := fun k => match k with
  | 0 => .object "TwoWays$Machine"
  | 1 => .array .int
  | 2 => .array .int
  | 3 => .array .int
  | 4 => .array .int
  | 5 => .array .boolean
  | 6 => .array .int
  | 7 => .array .int
  | 8 => .array .int
  | 9 => .array .int
  | 10 => .array .int
  | 11 => .array .int
  | 12 => .boolean
  | 13 => .boolean
  | 14 => .int
  | _ => .int
abbrev wsX50 : List Cond := u_ws RX5 TX5 16
theorem nmX5 : ∀ a, a < 16 → ∀ b, b < 16 → a ≠ b → (TX5 a).2.1 ≠ (TX5 b).2.1 := by decide +kernel
theorem tyX5_ok : ∀ k, k < 16 → parseFieldDescriptor (TX5 k).2.2.1 = some (tyX5 k) := by decide +kernel
abbrev cX5_init : ByteArray := prog_7_method_1_code
def yX5_init : MethodName := ⟨RX5, "<init>", "()V"⟩
abbrev cX5_make : ByteArray := prog_7_method_2_code
def yX5_make : MethodName := ⟨RX5, "make", "(LTwoWays$Machine;)V"⟩
abbrev cX5_isTooMany : ByteArray := prog_7_method_3_code
def yX5_isTooMany : MethodName := ⟨RX5, "isTooMany", "()Z"⟩
abbrev cX5_size : ByteArray := prog_7_method_4_code
def yX5_size : MethodName := ⟨RX5, "size", "()I"⟩
abbrev cX5_hasState : ByteArray := prog_7_method_5_code
def yX5_hasState : MethodName := ⟨RX5, "hasState", "(I)Z"⟩
abbrev cX5_next : ByteArray := prog_7_method_6_code
def yX5_next : MethodName := ⟨RX5, "next", "(II)I"⟩
abbrev cX5_isGood : ByteArray := prog_7_method_7_code
def yX5_isGood : MethodName := ⟨RX5, "isGood", "(I)Z"⟩
abbrev cX5_firstOff : ByteArray := prog_7_method_8_code
def yX5_firstOff : MethodName := ⟨RX5, "firstOff", "(I)I"⟩
abbrev cX5_comesBack : ByteArray := prog_7_method_9_code
def yX5_comesBack : MethodName := ⟨RX5, "comesBack", "(II)I"⟩
abbrev cX5_firstWord : ByteArray := prog_7_method_10_code
def yX5_firstWord : MethodName := ⟨RX5, "firstWord", "(Z)I"⟩
abbrev cX5_countWords : ByteArray := prog_7_method_11_code
def yX5_countWords : MethodName := ⟨RX5, "countWords", "(I)I"⟩
abbrev cX5_leastSize : ByteArray := prog_7_method_12_code
def yX5_leastSize : MethodName := ⟨RX5, "leastSize", "()I"⟩
abbrev cX5_findBehind : ByteArray := prog_7_method_13_code
def yX5_findBehind : MethodName := ⟨RX5, "findBehind", "(II)V"⟩
abbrev cX5_goOff : ByteArray := prog_7_method_14_code
def yX5_goOff : MethodName := ⟨RX5, "goOff", "(III)I"⟩
abbrev cX5_numberOfFound : ByteArray := prog_7_method_15_code
def yX5_numberOfFound : MethodName := ⟨RX5, "numberOfFound", "(I)I"⟩
abbrev cX5_codeOfFound : ByteArray := prog_7_method_16_code
def yX5_codeOfFound : MethodName := ⟨RX5, "codeOfFound", "()I"⟩
abbrev cX5_addFound : ByteArray := prog_7_method_17_code
def yX5_addFound : MethodName := ⟨RX5, "addFound", "(I)V"⟩
abbrev cX5_markGoods : ByteArray := prog_7_method_18_code
def yX5_markGoods : MethodName := ⟨RX5, "markGoods", "()V"⟩
abbrev cX5_countOneLetterMore : ByteArray := prog_7_method_19_code
def yX5_countOneLetterMore : MethodName := ⟨RX5, "countOneLetterMore", "()V"⟩
abbrev cX5_groupByGoodness : ByteArray := prog_7_method_20_code
def yX5_groupByGoodness : MethodName := ⟨RX5, "groupByGoodness", "()V"⟩
abbrev cX5_splitGroups : ByteArray := prog_7_method_21_code
def yX5_splitGroups : MethodName := ⟨RX5, "splitGroups", "()I"⟩
abbrev cX5_groupAmong : ByteArray := prog_7_method_22_code
def yX5_groupAmong : MethodName := ⟨RX5, "groupAmong", "(II)I"⟩
abbrev cX5_goTogether : ByteArray := prog_7_method_23_code
def yX5_goTogether : MethodName := ⟨RX5, "goTogether", "(II)Z"⟩
abbrev cX5_groupOf : ByteArray := prog_7_method_24_code
def yX5_groupOf : MethodName := ⟨RX5, "groupOf", "(I)I"⟩
def RX6 : String := "TwoWays$Text"
def TX6 : u_T := fun k => match k with
  | 0 => ("TwoWays$Text", "letters", "[I", true)
  | 1 => ("TwoWays$Text", "length", "I", false)
  | 2 => ("TwoWays$Text", "place", "I", false)
  | _ => ("TwoWays$Text", "fault", "I", false)
def tyX6 : Nat → FieldType := fun k => match k with
  | 0 => .array .int
  | 1 => .int
  | 2 => .int
  | _ => .int
abbrev wsX60 : List Cond := u_ws RX6 TX6 4
theorem nmX6 : ∀ a, a < 4 → ∀ b, b < 4 → a ≠ b → (TX6 a).2.1 ≠ (TX6 b).2.1 := by decide +kernel
theorem tyX6_ok : ∀ k, k < 4 → parseFieldDescriptor (TX6 k).2.2.1 = some (tyX6 k) := by decide +kernel
abbrev cX6_init : ByteArray := prog_8_method_1_code
def yX6_init : MethodName := ⟨RX6, "<init>", "()V"⟩
abbrev cX6_length : ByteArray := prog_8_method_2_code
def yX6_length : MethodName := ⟨RX6, "length", "()I"⟩
abbrev cX6_place : ByteArray := prog_8_method_3_code
def yX6_place : MethodName := ⟨RX6, "place", "()I"⟩
abbrev cX6_add : ByteArray := prog_8_method_4_code
def yX6_add : MethodName := ⟨RX6, "add", "(I)Z"⟩
abbrev cX6_clear : ByteArray := prog_8_method_5_code
def yX6_clear : MethodName := ⟨RX6, "clear", "()V"⟩
abbrev cX6_readInto : ByteArray := prog_8_method_6_code
def yX6_readInto : MethodName := ⟨RX6, "readInto", "(LTwoWays$Machine;)I"⟩
abbrev cX6_readSize : ByteArray := prog_8_method_7_code
def yX6_readSize : MethodName := ⟨RX6, "readSize", "(LTwoWays$Machine;)V"⟩
abbrev cX6_readMove : ByteArray := prog_8_method_8_code
def yX6_readMove : MethodName := ⟨RX6, "readMove", "(LTwoWays$Machine;)V"⟩
abbrev cX6_takeLetter : ByteArray := prog_8_method_9_code
def yX6_takeLetter : MethodName := ⟨RX6, "takeLetter", "(I)V"⟩
abbrev cX6_takeFigure : ByteArray := prog_8_method_10_code
def yX6_takeFigure : MethodName := ⟨RX6, "takeFigure", "(II)I"⟩
abbrev cX6_takeSign : ByteArray := prog_8_method_11_code
def yX6_takeSign : MethodName := ⟨RX6, "takeSign", "(LTwoWays$Machine;I)I"⟩
abbrev cX6_takeSide : ByteArray := prog_8_method_12_code
def yX6_takeSide : MethodName := ⟨RX6, "takeSide", "()I"⟩
abbrev cX6_signOf : ByteArray := prog_8_method_13_code
def yX6_signOf : MethodName := ⟨RX6, "signOf", "(I)I"⟩
abbrev cX6_upcoming : ByteArray := prog_8_method_14_code
def yX6_upcoming : MethodName := ⟨RX6, "upcoming", "()I"⟩
abbrev cX6_passIf : ByteArray := prog_8_method_15_code
def yX6_passIf : MethodName := ⟨RX6, "passIf", "(Z)V"⟩
abbrev cX6_blame : ByteArray := prog_8_method_16_code
def yX6_blame : MethodName := ⟨RX6, "blame", "(I)V"⟩
def RX7 : String := "TwoWays$Word"
def TX7 : u_T := fun k => match k with
  | 0 => ("TwoWays$Word", "letters", "[I", true)
  | _ => ("TwoWays$Word", "length", "I", false)
def tyX7 : Nat → FieldType := fun k => match k with
  | 0 => .array .int
  | _ => .int
abbrev wsX70 : List Cond := u_ws RX7 TX7 2
theorem nmX7 : ∀ a, a < 2 → ∀ b, b < 2 → a ≠ b → (TX7 a).2.1 ≠ (TX7 b).2.1 := by decide +kernel
theorem tyX7_ok : ∀ k, k < 2 → parseFieldDescriptor (TX7 k).2.2.1 = some (tyX7 k) := by decide +kernel
abbrev cX7_init : ByteArray := prog_9_method_1_code
def yX7_init : MethodName := ⟨RX7, "<init>", "()V"⟩
abbrev cX7_length : ByteArray := prog_9_method_2_code
def yX7_length : MethodName := ⟨RX7, "length", "()I"⟩
abbrev cX7_add : ByteArray := prog_9_method_3_code
def yX7_add : MethodName := ⟨RX7, "add", "(I)Z"⟩
abbrev cX7_letterAt : ByteArray := prog_9_method_4_code
def yX7_letterAt : MethodName := ⟨RX7, "letterAt", "(I)I"⟩
abbrev cX7_signAt : ByteArray := prog_9_method_5_code
def yX7_signAt : MethodName := ⟨RX7, "signAt", "(I)I"⟩
abbrev cX7_number : ByteArray := prog_9_method_6_code
def yX7_number : MethodName := ⟨RX7, "number", "()I"⟩
abbrev cX7_become : ByteArray := prog_9_method_7_code
def yX7_become : MethodName := ⟨RX7, "become", "(I)V"⟩
abbrev cX7_turn : ByteArray := prog_9_method_8_code
def yX7_turn : MethodName := ⟨RX7, "turn", "()V"⟩
def RX8 : String := "TwoWays"
def TX8 : u_T := fun k => match k with
  | 0 => ("TwoWays", "machines", "LTwoWays$Both;", true)
  | 1 => ("TwoWays", "history", "LTwoWays$History;", true)
  | 2 => ("TwoWays", "images", "[LTwoWays$Both;", true)
  | 3 => ("TwoWays", "imageKept", "[Z", true)
  | 4 => ("TwoWays", "text", "LTwoWays$Text;", true)
  | 5 => ("TwoWays", "draft", "LTwoWays$Machine;", true)
  | 6 => ("TwoWays", "theWord", "LTwoWays$Word;", true)
  | 7 => ("TwoWays", "trial", "LTwoWays$Word;", true)
  | 8 => ("TwoWays", "course", "LTwoWays$Course;", true)
  | 9 => ("TwoWays", "oneWayOfZero", "LTwoWays$OneWay;", true)
  | 10 => ("TwoWays", "oneWayOfOne", "LTwoWays$OneWay;", true)
  | 11 => ("TwoWays", "meeting", "LTwoWays$Meeting;", true)
  | _ => ("TwoWays", "faultPlace", "I", false)
def tyX8 : Nat → FieldType := fun k => match k with
  | 0 => .object "TwoWays$Both"
  | 1 => .object "TwoWays$History"
  | 2 => .array (.object "TwoWays$Both")
  | 3 => .array .boolean
  | 4 => .object "TwoWays$Text"
  | 5 => .object "TwoWays$Machine"
  | 6 => .object "TwoWays$Word"
  | 7 => .object "TwoWays$Word"
  | 8 => .object "TwoWays$Course"
  | 9 => .object "TwoWays$OneWay"
  | 10 => .object "TwoWays$OneWay"
  | 11 => .object "TwoWays$Meeting"
  | _ => .int
abbrev wsX80 : List Cond := u_ws RX8 TX8 13
theorem nmX8 : ∀ a, a < 13 → ∀ b, b < 13 → a ≠ b → (TX8 a).2.1 ≠ (TX8 b).2.1 := by decide +kernel
theorem tyX8_ok : ∀ k, k < 13 → parseFieldDescriptor (TX8 k).2.2.1 = some (tyX8 k) := by decide +kernel
abbrev cX8_init : ByteArray := prog_1_method_1_code
def yX8_init : MethodName := ⟨RX8, "<init>", "()V"⟩
abbrev cX8_feed : ByteArray := prog_1_method_2_code
def yX8_feed : MethodName := ⟨RX8, "feed", "(I)I"⟩
abbrev cX8_machine : ByteArray := prog_1_method_3_code
def yX8_machine : MethodName := ⟨RX8, "machine", "(I)I"⟩
abbrev cX8_fault : ByteArray := prog_1_method_4_code
def yX8_fault : MethodName := ⟨RX8, "fault", "()I"⟩
abbrev cX8_move : ByteArray := prog_1_method_5_code
def yX8_move : MethodName := ⟨RX8, "move", "(IIIII)I"⟩
abbrev cX8_none : ByteArray := prog_1_method_6_code
def yX8_none : MethodName := ⟨RX8, "none", "(III)I"⟩
abbrev cX8_states : ByteArray := prog_1_method_7_code
def yX8_states : MethodName := ⟨RX8, "states", "(II)I"⟩
abbrev cX8_drift : ByteArray := prog_1_method_8_code
def yX8_drift : MethodName := ⟨RX8, "drift", "(II)I"⟩
abbrev cX8_swap : ByteArray := prog_1_method_9_code
def yX8_swap : MethodName := ⟨RX8, "swap", "()I"⟩
abbrev cX8_undo : ByteArray := prog_1_method_10_code
def yX8_undo : MethodName := ⟨RX8, "undo", "()I"⟩
abbrev cX8_moveOf : ByteArray := prog_1_method_11_code
def yX8_moveOf : MethodName := ⟨RX8, "moveOf", "(III)I"⟩
abbrev cX8_letter : ByteArray := prog_1_method_12_code
def yX8_letter : MethodName := ⟨RX8, "letter", "(I)I"⟩
abbrev cX8_word : ByteArray := prog_1_method_13_code
def yX8_word : MethodName := ⟨RX8, "word", "(I)I"⟩
abbrev cX8_wipe : ByteArray := prog_1_method_14_code
def yX8_wipe : MethodName := ⟨RX8, "wipe", "()I"⟩
abbrev cX8_told : ByteArray := prog_1_method_15_code
def yX8_told : MethodName := ⟨RX8, "told", "(I)I"⟩
abbrev cX8_run : ByteArray := prog_1_method_16_code
def yX8_run : MethodName := ⟨RX8, "run", "(II)I"⟩
abbrev cX8_crossed : ByteArray := prog_1_method_17_code
def yX8_crossed : MethodName := ⟨RX8, "crossed", "(III)I"⟩
abbrev cX8_table : ByteArray := prog_1_method_18_code
def yX8_table : MethodName := ⟨RX8, "table", "(IIIII)I"⟩
abbrev cX8_alike : ByteArray := prog_1_method_19_code
def yX8_alike : MethodName := ⟨RX8, "alike", "(IIIII)I"⟩
abbrev cX8_ofMachine : ByteArray := prog_1_method_20_code
def yX8_ofMachine : MethodName := ⟨RX8, "ofMachine", "(II)I"⟩
abbrev cX8_oneWay : ByteArray := prog_1_method_21_code
def yX8_oneWay : MethodName := ⟨RX8, "oneWay", "(III)I"⟩
abbrev cX8_taken : ByteArray := prog_1_method_22_code
def yX8_taken : MethodName := ⟨RX8, "taken", "(II)I"⟩
abbrev cX8_first : ByteArray := prog_1_method_23_code
def yX8_first : MethodName := ⟨RX8, "first", "(I)I"⟩
abbrev cX8_turned : ByteArray := prog_1_method_24_code
def yX8_turned : MethodName := ⟨RX8, "turned", "(II)I"⟩
abbrev cX8_keep : ByteArray := prog_1_method_25_code
def yX8_keep : MethodName := ⟨RX8, "keep", "(I)I"⟩
abbrev cX8_goBack : ByteArray := prog_1_method_26_code
def yX8_goBack : MethodName := ⟨RX8, "goBack", "(I)I"⟩
abbrev cX8_isMachine : ByteArray := prog_1_method_27_code
def yX8_isMachine : MethodName := ⟨RX8, "isMachine", "(I)Z"⟩
abbrev cX8_isSign : ByteArray := prog_1_method_28_code
def yX8_isSign : MethodName := ⟨RX8, "isSign", "(I)Z"⟩
abbrev cX8_isSide : ByteArray := prog_1_method_29_code
def yX8_isSide : MethodName := ⟨RX8, "isSide", "(I)Z"⟩
abbrev cX8_stateOf : ByteArray := prog_1_method_30_code
def yX8_stateOf : MethodName := ⟨RX8, "stateOf", "(I)I"⟩
abbrev cX8_sideOf : ByteArray := prog_1_method_31_code
def yX8_sideOf : MethodName := ⟨RX8, "sideOf", "(I)I"⟩
abbrev cX8_shift : ByteArray := prog_1_method_32_code
def yX8_shift : MethodName := ⟨RX8, "shift", "(I)I"⟩
abbrev cX8_lengthen : ByteArray := prog_1_method_33_code
def yX8_lengthen : MethodName := ⟨RX8, "lengthen", "(II)I"⟩
abbrev cX8_hasMoveOf : ByteArray := prog_1_method_34_code
def yX8_hasMoveOf : MethodName := ⟨RX8, "hasMoveOf", "(III)Z"⟩
abbrev cX8_isPiece : ByteArray := prog_1_method_35_code
def yX8_isPiece : MethodName := ⟨RX8, "isPiece", "(II)Z"⟩
abbrev cX8_imageAt : ByteArray := prog_1_method_36_code
def yX8_imageAt : MethodName := ⟨RX8, "imageAt", "(I)LTwoWays$Both;"⟩
abbrev cX8_change : ByteArray := prog_1_method_37_code
def yX8_change : MethodName := ⟨RX8, "change", "(LTwoWays$Machine;III)I"⟩
abbrev cX8_oneWayFor : ByteArray := prog_1_method_38_code
def yX8_oneWayFor : MethodName := ⟨RX8, "oneWayFor", "(I)LTwoWays$OneWay;"⟩
abbrev cX8_firstByRule : ByteArray := prog_1_method_39_code
def yX8_firstByRule : MethodName := ⟨RX8, "firstByRule", "(I)I"⟩
abbrev cX8_tellWhetherNone : ByteArray := prog_1_method_40_code
def yX8_tellWhetherNone : MethodName := ⟨RX8, "tellWhetherNone", "(I)I"⟩
abbrev cX8_goOffPiece : ByteArray := prog_1_method_41_code
def yX8_goOffPiece : MethodName := ⟨RX8, "goOffPiece", "(LTwoWays$Machine;IIII)I"⟩
abbrev cX8_isTakenBothWays : ByteArray := prog_1_method_42_code
def yX8_isTakenBothWays : MethodName := ⟨RX8, "isTakenBothWays", "(LTwoWays$Machine;I)Z"⟩
def RX9 : String := "TwoWaysModel"
def TX9 : u_T := fun k => match k with
  | 0 => ("TwoWaysModel", "now", "[I", true)
  | 1 => ("TwoWaysModel", "text", "[I", true)
  | 2 => ("TwoWaysModel", "fed", "I", false)
  | 3 => ("TwoWaysModel", "place", "I", false)
  | 4 => ("TwoWaysModel", "faultAt", "I", false)
  | 5 => ("TwoWaysModel", "why", "I", false)
  | 6 => ("TwoWaysModel", "read", "[I", true)
  | 7 => ("TwoWaysModel", "figure", "I", false)
  | 8 => ("TwoWaysModel", "ahead", "[I", true)
  | 9 => ("TwoWaysModel", "undos", "I", false)
  | 10 => ("TwoWaysModel", "lot", "J", false)
  | 11 => ("TwoWaysModel", "word", "[I", true)
  | 12 => ("TwoWaysModel", "letters", "I", false)
  | 13 => ("TwoWaysModel", "been", "[I", true)
  | 14 => ("TwoWaysModel", "ended", "I", false)
  | 15 => ("TwoWaysModel", "steps", "I", false)
  | 16 => ("TwoWaysModel", "lastState", "I", false)
  | 17 => ("TwoWaysModel", "gaps", "[I", true)
  | 18 => ("TwoWaysModel", "into", "[I", true)
  | 19 => ("TwoWaysModel", "crossings", "I", false)
  | 20 => ("TwoWaysModel", "found", "[I", true)
  | 21 => ("TwoWaysModel", "does", "[I", true)
  | 22 => ("TwoWaysModel", "next", "[I", true)
  | 23 => ("TwoWaysModel", "good", "[I", true)
  | 24 => ("TwoWaysModel", "from", "[I", true)
  | 25 => ("TwoWaysModel", "tried", "[I", true)
  | 26 => ("TwoWaysModel", "sort", "[I", true)
  | 27 => ("TwoWaysModel", "then", "[I", true)
  | 28 => ("TwoWaysModel", "ways", "[I", true)
  | 29 => ("TwoWaysModel", "wayThen", "[I", true)
  | 30 => ("TwoWaysModel", "pairs", "[I", true)
  | 31 => ("TwoWaysModel", "pairFrom", "[I", true)
  | 32 => ("TwoWaysModel", "isFound", "[I", true)
  | 33 => ("TwoWaysModel", "aside", "[I", true)
  | 34 => ("TwoWaysModel", "kept", "[I", true)
  | _ => ("TwoWaysModel", "keptSet", "I", false)
def tyX9 : Nat → FieldType := fun k => match k with
  | 0 => .array .int
  | 1 => .array .int
  | 2 => .int
  | 3 => .int
  | 4 => .int
  | 5 => .int
  | 6 => .array .int
  | 7 => .int
  | 8 => .array .int
  | 9 => .int
  | 10 => .long
  | 11 => .array .int
  | 12 => .int
  | 13 => .array .int
  | 14 => .int
  | 15 => .int
  | 16 => .int
  | 17 => .array .int
  | 18 => .array .int
  | 19 => .int
  | 20 => .array .int
  | 21 => .array .int
  | 22 => .array .int
  | 23 => .array .int
  | 24 => .array .int
  | 25 => .array .int
  | 26 => .array .int
  | 27 => .array .int
  | 28 => .array .int
  | 29 => .array .int
  | 30 => .array .int
  | 31 => .array .int
  | 32 => .array .int
  | 33 => .array .int
  | 34 => .array .int
  | _ => .int
abbrev wsX90 : List Cond := u_ws RX9 TX9 36
theorem nmX9 : ∀ a, a < 36 → ∀ b, b < 36 → a ≠ b → (TX9 a).2.1 ≠ (TX9 b).2.1 := by decide +kernel
theorem tyX9_ok : ∀ k, k < 36 → parseFieldDescriptor (TX9 k).2.2.1 = some (tyX9 k) := by decide +kernel
abbrev cX9_in : ByteArray := prog_11_method_2_code
def yX9_in : MethodName := ⟨RX9, "in", "(JJJ)Z"⟩
abbrev cX9_init : ByteArray := prog_11_method_3_code
def yX9_init : MethodName := ⟨RX9, "<init>", "()V"⟩
abbrev cX9_wipes : ByteArray := prog_11_method_4_code
def yX9_wipes : MethodName := ⟨RX9, "wipes", "(II)V"⟩
abbrev cX9_isMachine : ByteArray := prog_11_method_5_code
def yX9_isMachine : MethodName := ⟨RX9, "isMachine", "(I)Z"⟩
abbrev cX9_states0 : ByteArray := prog_11_method_6_code
def yX9_states0 : MethodName := ⟨RX9, "states0", "(I)I"⟩
abbrev cX9_isState : ByteArray := prog_11_method_7_code
def yX9_isState : MethodName := ⟨RX9, "isState", "(II)Z"⟩
abbrev cX9_moveAt : ByteArray := prog_11_method_8_code
def yX9_moveAt : MethodName := ⟨RX9, "moveAt", "(III)I"⟩
abbrev cX9_feed : ByteArray := prog_11_method_9_code
def yX9_feed : MethodName := ⟨RX9, "feed", "(I)I"⟩
abbrev cX9_here : ByteArray := prog_11_method_10_code
def yX9_here : MethodName := ⟨RX9, "here", "()I"⟩
abbrev cX9_wrong : ByteArray := prog_11_method_11_code
def yX9_wrong : MethodName := ⟨RX9, "wrong", "(I)Z"⟩
abbrev cX9_must : ByteArray := prog_11_method_12_code
def yX9_must : MethodName := ⟨RX9, "must", "(I)Z"⟩
abbrev cX9_isFigure : ByteArray := prog_11_method_13_code
def yX9_isFigure : MethodName := ⟨RX9, "isFigure", "(II)Z"⟩
abbrev cX9_signOf : ByteArray := prog_11_method_14_code
def yX9_signOf : MethodName := ⟨RX9, "signOf", "(I)I"⟩
abbrev cX9_readsMove : ByteArray := prog_11_method_15_code
def yX9_readsMove : MethodName := ⟨RX9, "readsMove", "()Z"⟩
abbrev cX9_reads : ByteArray := prog_11_method_16_code
def yX9_reads : MethodName := ⟨RX9, "reads", "()Z"⟩
abbrev cX9_machine : ByteArray := prog_11_method_17_code
def yX9_machine : MethodName := ⟨RX9, "machine", "(I)I"⟩
abbrev cX9_fault : ByteArray := prog_11_method_18_code
def yX9_fault : MethodName := ⟨RX9, "fault", "()I"⟩
abbrev cX9_notes : ByteArray := prog_11_method_19_code
def yX9_notes : MethodName := ⟨RX9, "notes", "()V"⟩
abbrev cX9_isSpot : ByteArray := prog_11_method_20_code
def yX9_isSpot : MethodName := ⟨RX9, "isSpot", "(III)Z"⟩
abbrev cX9_move : ByteArray := prog_11_method_21_code
def yX9_move : MethodName := ⟨RX9, "move", "(IIIII)I"⟩
abbrev cX9_none : ByteArray := prog_11_method_22_code
def yX9_none : MethodName := ⟨RX9, "none", "(III)I"⟩
abbrev cX9_states : ByteArray := prog_11_method_23_code
def yX9_states : MethodName := ⟨RX9, "states", "(II)I"⟩
abbrev cX9_lots : ByteArray := prog_11_method_24_code
def yX9_lots : MethodName := ⟨RX9, "lots", "(I)I"⟩
abbrev cX9_movesOf : ByteArray := prog_11_method_25_code
def yX9_movesOf : MethodName := ⟨RX9, "movesOf", "(I)I"⟩
abbrev cX9_drift : ByteArray := prog_11_method_26_code
def yX9_drift : MethodName := ⟨RX9, "drift", "(II)I"⟩
abbrev cX9_swap : ByteArray := prog_11_method_27_code
def yX9_swap : MethodName := ⟨RX9, "swap", "()I"⟩
abbrev cX9_undo : ByteArray := prog_11_method_28_code
def yX9_undo : MethodName := ⟨RX9, "undo", "()I"⟩
abbrev cX9_moveOf : ByteArray := prog_11_method_29_code
def yX9_moveOf : MethodName := ⟨RX9, "moveOf", "(III)I"⟩
abbrev cX9_letter : ByteArray := prog_11_method_30_code
def yX9_letter : MethodName := ⟨RX9, "letter", "(I)I"⟩
abbrev cX9_word : ByteArray := prog_11_method_31_code
def yX9_word : MethodName := ⟨RX9, "word", "(I)I"⟩
abbrev cX9_wipe : ByteArray := prog_11_method_32_code
def yX9_wipe : MethodName := ⟨RX9, "wipe", "()I"⟩
abbrev cX9_numberOf : ByteArray := prog_11_method_33_code
def yX9_numberOf : MethodName := ⟨RX9, "numberOf", "()I"⟩
abbrev cX9_told : ByteArray := prog_11_method_34_code
def yX9_told : MethodName := ⟨RX9, "told", "(I)I"⟩
abbrev cX9_signAt : ByteArray := prog_11_method_35_code
def yX9_signAt : MethodName := ⟨RX9, "signAt", "(I)I"⟩
abbrev cX9_runs : ByteArray := prog_11_method_36_code
def yX9_runs : MethodName := ⟨RX9, "runs", "(I)V"⟩
abbrev cX9_oftenOver : ByteArray := prog_11_method_37_code
def yX9_oftenOver : MethodName := ⟨RX9, "oftenOver", "(I)I"⟩
abbrev cX9_run : ByteArray := prog_11_method_38_code
def yX9_run : MethodName := ⟨RX9, "run", "(II)I"⟩
abbrev cX9_crossed : ByteArray := prog_11_method_39_code
def yX9_crossed : MethodName := ⟨RX9, "crossed", "(III)I"⟩
abbrev cX9_goesOff : ByteArray := prog_11_method_40_code
def yX9_goesOff : MethodName := ⟨RX9, "goesOff", "(IIIII)I"⟩
abbrev cX9_isPiece : ByteArray := prog_11_method_41_code
def yX9_isPiece : MethodName := ⟨RX9, "isPiece", "(II)Z"⟩
abbrev cX9_table : ByteArray := prog_11_method_42_code
def yX9_table : MethodName := ⟨RX9, "table", "(IIIII)I"⟩
abbrev cX9_alike : ByteArray := prog_11_method_43_code
def yX9_alike : MethodName := ⟨RX9, "alike", "(IIIII)I"⟩
abbrev cX9_at : ByteArray := prog_11_method_44_code
def yX9_at : MethodName := ⟨RX9, "at", "(II)I"⟩
abbrev cX9_offRight : ByteArray := prog_11_method_45_code
def yX9_offRight : MethodName := ⟨RX9, "offRight", "(IIII)I"⟩
abbrev cX9_findsTried : ByteArray := prog_11_method_46_code
def yX9_findsTried : MethodName := ⟨RX9, "findsTried", "(I)I"⟩
abbrev cX9_tries : ByteArray := prog_11_method_47_code
def yX9_tries : MethodName := ⟨RX9, "tries", "(IIII)V"⟩
abbrev cX9_isGood : ByteArray := prog_11_method_48_code
def yX9_isGood : MethodName := ⟨RX9, "isGood", "(II)Z"⟩
abbrev cX9_lays : ByteArray := prog_11_method_49_code
def yX9_lays : MethodName := ⟨RX9, "lays", "(I)Z"⟩
abbrev cX9_laysBoth : ByteArray := prog_11_method_50_code
def yX9_laysBoth : MethodName := ⟨RX9, "laysBoth", "()Z"⟩
abbrev cX9_isLike : ByteArray := prog_11_method_51_code
def yX9_isLike : MethodName := ⟨RX9, "isLike", "(III)Z"⟩
abbrev cX9_least : ByteArray := prog_11_method_52_code
def yX9_least : MethodName := ⟨RX9, "least", "(I)I"⟩
abbrev cX9_firstOf : ByteArray := prog_11_method_53_code
def yX9_firstOf : MethodName := ⟨RX9, "firstOf", "(II)I"⟩
abbrev cX9_ofMachine : ByteArray := prog_11_method_54_code
def yX9_ofMachine : MethodName := ⟨RX9, "ofMachine", "(II)I"⟩
abbrev cX9_oneWay : ByteArray := prog_11_method_55_code
def yX9_oneWay : MethodName := ⟨RX9, "oneWay", "(III)I"⟩
abbrev cX9_taken : ByteArray := prog_11_method_56_code
def yX9_taken : MethodName := ⟨RX9, "taken", "(II)I"⟩
abbrev cX9_isBy : ByteArray := prog_11_method_57_code
def yX9_isBy : MethodName := ⟨RX9, "isBy", "(III)Z"⟩
abbrev cX9_wordTo : ByteArray := prog_11_method_58_code
def yX9_wordTo : MethodName := ⟨RX9, "wordTo", "(I)I"⟩
abbrev cX9_firstBy : ByteArray := prog_11_method_59_code
def yX9_firstBy : MethodName := ⟨RX9, "firstBy", "(I)I"⟩
abbrev cX9_first : ByteArray := prog_11_method_60_code
def yX9_first : MethodName := ⟨RX9, "first", "(I)I"⟩
abbrev cX9_turned : ByteArray := prog_11_method_61_code
def yX9_turned : MethodName := ⟨RX9, "turned", "(II)I"⟩
abbrev cX9_keep : ByteArray := prog_11_method_62_code
def yX9_keep : MethodName := ⟨RX9, "keep", "(I)I"⟩
abbrev cX9_goBack : ByteArray := prog_11_method_63_code
def yX9_goBack : MethodName := ⟨RX9, "goBack", "(I)I"⟩
def RJ9 : String := "java/lang/Math"
def TJ9 : u_T := fun k => match k with
  | _ => ("", "", "", false)
def tyJ9 : Nat → FieldType := fun k => match k with
  | _ => .int
abbrev wsJ90 : List Cond := u_ws RJ9 TJ9 0
theorem nmJ9 : ∀ a, a < 0 → ∀ b, b < 0 → a ≠ b → (TJ9 a).2.1 ≠ (TJ9 b).2.1 := by decide +kernel
theorem tyJ9_ok : ∀ k, k < 0 → parseFieldDescriptor (TJ9 k).2.2.1 = some (tyJ9 k) := by decide +kernel
abbrev cJ9_max_7cf53 : ByteArray := prog_12_method_65_code
def yJ9_max_7cf53 : MethodName := ⟨RJ9, "max", "(II)I"⟩
abbrev cJ9_min_7cf53 : ByteArray := prog_12_method_69_code
def yJ9_min_7cf53 : MethodName := ⟨RJ9, "min", "(II)I"⟩
def RJ10 : String := "java/lang/System"
def TJ10 : u_T := fun k => match k with
  | _ => ("", "", "", false)
def tyJ10 : Nat → FieldType := fun k => match k with
  | _ => .int
abbrev wsJ100 : List Cond := u_ws RJ10 TJ10 0
theorem nmJ10 : ∀ a, a < 0 → ∀ b, b < 0 → a ≠ b → (TJ10 a).2.1 ≠ (TJ10 b).2.1 := by decide +kernel
theorem tyJ10_ok : ∀ k, k < 0 → parseFieldDescriptor (TJ10 k).2.2.1 = some (tyJ10 k) := by decide +kernel
def RJ7 : String := "java/util/Arrays"
def TJ7 : u_T := fun k => match k with
  | _ => ("", "", "", false)
def tyJ7 : Nat → FieldType := fun k => match k with
  | _ => .int
abbrev wsJ70 : List Cond := u_ws RJ7 TJ7 0
theorem nmJ7 : ∀ a, a < 0 → ∀ b, b < 0 → a ≠ b → (TJ7 a).2.1 ≠ (TJ7 b).2.1 := by decide +kernel
theorem tyJ7_ok : ∀ k, k < 0 → parseFieldDescriptor (TJ7 k).2.2.1 = some (tyJ7 k) := by decide +kernel
abbrev cJ7_fill_53178 : ByteArray := prog_14_method_103_code
def yJ7_fill_53178 : MethodName := ⟨RJ7, "fill", "([II)V"⟩
def RL : String := "TwoWaysLaw"
abbrev cL_law : ByteArray := code
def yL_law : MethodName := ⟨RL, "law", "([I)Z"⟩
def wsJ7_fill_53178 : List Cond := .code yJ7_fill_53178 cJ7_fill_53178 4 none :: ([])
def wsX3_init : List Cond := .code yX3_init cX3_init 1 none :: ([.methodLink RX3 3 objectInit, .instanceMethod objectInit, .code objectInit ⟨#[0xb1]⟩ 1 none, .arrayClass .int, .fieldLink RX3 9 "TwoWays$Machine" "moves" "[I", .fieldLink RX3 15 "TwoWays$Machine" "size" "I", .methodLink RX3 19 yJ7_fill_53178, .static yJ7_fill_53178, .initialized RJ7, .code yJ7_fill_53178 cJ7_fill_53178 4 none] ++ wsX30)
def wsX0_init : List Cond := .code yX0_init cX0_init 1 none :: ([.methodLink RX0 1 objectInit, .instanceMethod objectInit, .code objectInit ⟨#[0xb1]⟩ 1 none, .classLink RX0 7 RX3, .instantiable RX3 3, .initialized RX3, .fieldLink RX0 10 "TwoWays$Both" "zero" "LTwoWays$Machine;", .fieldLink RX0 16 "TwoWays$Both" "one" "LTwoWays$Machine;", .methodLink RX0 9 yX3_init, .instanceMethod yX3_init, .code yX3_init cX3_init 1 none, .methodLink RX3 3 objectInit, .arrayClass .int, .fieldLink RX3 9 "TwoWays$Machine" "moves" "[I", .fieldLink RX3 15 "TwoWays$Machine" "size" "I", .methodLink RX3 19 yJ7_fill_53178, .static yJ7_fill_53178, .initialized RJ7, .code yJ7_fill_53178 cJ7_fill_53178 4 none] ++ wsX30 ++ wsX00)
def wsX0_at : List Cond := .code yX0_at cX0_at 2 (some (.object "TwoWays$Machine")) :: ([.fieldLink RX0 10 "TwoWays$Both" "zero" "LTwoWays$Machine;", .fieldLink RX0 16 "TwoWays$Both" "one" "LTwoWays$Machine;"] ++ wsX00)
def wsX3_become : List Cond := .code yX3_become cX3_become 2 none :: ([.fieldLink RX3 15 "TwoWays$Machine" "size" "I", .fieldLink RX3 9 "TwoWays$Machine" "moves" "[I", .methodLink RX3 41 arraycopyName, .native arraycopyName, .static arraycopyName, .initialized "java/lang/System"] ++ wsX30)
def wsX0_become : List Cond := .code yX0_become cX0_become 2 none :: ([.fieldLink RX0 10 "TwoWays$Both" "zero" "LTwoWays$Machine;", .fieldLink RX0 16 "TwoWays$Both" "one" "LTwoWays$Machine;", .methodLink RX0 19 yX3_become, .instanceMethod yX3_become, .selects RX3 yX3_become yX3_become, .initialized RX3, .code yX3_become cX3_become 2 none, .fieldLink RX3 15 "TwoWays$Machine" "size" "I", .fieldLink RX3 9 "TwoWays$Machine" "moves" "[I", .methodLink RX3 41 arraycopyName, .native arraycopyName, .static arraycopyName, .initialized "java/lang/System"] ++ wsX00 ++ wsX30)
def wsX0_changePlaces : List Cond := .code yX0_changePlaces cX0_changePlaces 2 none :: ([.fieldLink RX0 10 "TwoWays$Both" "zero" "LTwoWays$Machine;", .fieldLink RX0 16 "TwoWays$Both" "one" "LTwoWays$Machine;", .methodLink RX0 19 yX3_become, .instanceMethod yX3_become, .selects RX3 yX3_become yX3_become, .initialized RX3, .code yX3_become cX3_become 2 none, .fieldLink RX3 15 "TwoWays$Machine" "size" "I", .fieldLink RX3 9 "TwoWays$Machine" "moves" "[I", .methodLink RX3 41 arraycopyName, .native arraycopyName, .static arraycopyName, .initialized "java/lang/System"] ++ wsX00 ++ wsX30)
def wsX1_init : List Cond := .code yX1_init cX1_init 1 none :: ([.methodLink RX1 5 objectInit, .instanceMethod objectInit, .code objectInit ⟨#[0xb1]⟩ 1 none, .arrayClass .int, .fieldLink RX1 11 "TwoWays$Course" "statesSeen" "[I", .fieldLink RX1 15 "TwoWays$Course" "gaps" "[I", .fieldLink RX1 18 "TwoWays$Course" "states" "[I"] ++ wsX10)
def wsX7_length : List Cond := .code yX7_length cX7_length 1 (some .int) :: ([.fieldLink RX7 15 "TwoWays$Word" "length" "I"] ++ wsX70)
def wsX1_arrive : List Cond := .code yX1_arrive cX1_arrive 2 none :: ([.fieldLink RX1 34 "TwoWays$Course" "place" "I", .fieldLink RX1 37 "TwoWays$Course" "ending" "I", .fieldLink RX1 11 "TwoWays$Course" "statesSeen" "[I", .fieldLink RX1 31 "TwoWays$Course" "state" "I", .methodLink RX1 78 yX7_length, .instanceMethod yX7_length, .selects RX7 yX7_length yX7_length, .initialized RX7, .code yX7_length cX7_length 1 (some .int), .fieldLink RX7 15 "TwoWays$Word" "length" "I"] ++ wsX10 ++ wsX70)
def wsX7_letterAt : List Cond := .code yX7_letterAt cX7_letterAt 2 (some .int) :: ([.fieldLink RX7 15 "TwoWays$Word" "length" "I", .fieldLink RX7 9 "TwoWays$Word" "letters" "[I"] ++ wsX70)
def wsX7_signAt : List Cond := .code yX7_signAt cX7_signAt 2 (some .int) :: ([.fieldLink RX7 15 "TwoWays$Word" "length" "I", .methodLink RX7 19 yX7_letterAt, .instanceMethod yX7_letterAt, .selects RX7 yX7_letterAt yX7_letterAt, .initialized RX7, .code yX7_letterAt cX7_letterAt 2 (some .int), .fieldLink RX7 9 "TwoWays$Word" "letters" "[I"] ++ wsX70)
def wsX8_isSign : List Cond := .code yX8_isSign cX8_isSign 1 (some .boolean) :: ([])
def wsX3_at : List Cond := .code yX3_at cX3_at 3 (some .int) :: ([.fieldLink RX3 15 "TwoWays$Machine" "size" "I", .fieldLink RX3 9 "TwoWays$Machine" "moves" "[I", .static yX8_isSign, .initialized RX8, .code yX8_isSign cX8_isSign 1 (some .boolean)] ++ wsX30)
def wsX8_stateOf : List Cond := .code yX8_stateOf cX8_stateOf 1 (some .int) :: ([])
def wsX8_sideOf : List Cond := .code yX8_sideOf cX8_sideOf 1 (some .int) :: ([])
def wsX8_shift : List Cond := .code yX8_shift cX8_shift 1 (some .int) :: ([.methodLink RX8 259 yX8_sideOf, .static yX8_sideOf, .initialized RX8, .code yX8_sideOf cX8_sideOf 1 (some .int)])
def wsX1_note : List Cond := .code yX1_note cX1_note 2 none :: ([.fieldLink RX1 27 "TwoWays$Course" "steps" "I", .fieldLink RX1 15 "TwoWays$Course" "gaps" "[I", .fieldLink RX1 18 "TwoWays$Course" "states" "[I", .fieldLink RX1 31 "TwoWays$Course" "state" "I"] ++ wsX10)
def wsX1_step_r1 : List Cond := [Cond.fieldLink RX1 31 "TwoWays$Course" "state" "I", Cond.fieldLink RX1 34 "TwoWays$Course" "place" "I", Cond.fieldLink RX1 37 "TwoWays$Course" "ending" "I", Cond.methodLink RX1 69 Lib.Math.min.name, Cond.static Lib.Math.min.name, Cond.initialized "java/lang/Math", Cond.code Lib.Math.min.name Lib.Math.min.code 2 (some .int), Cond.methodLink RX1 52 yX7_signAt, Cond.instanceMethod yX7_signAt, Cond.selects RX7 yX7_signAt yX7_signAt, Cond.initialized RX7, Cond.code yX7_signAt cX7_signAt 2 (some .int), Cond.fieldLink RX7 15 "TwoWays$Word" "length" "I", Cond.methodLink RX7 19 yX7_letterAt, Cond.instanceMethod yX7_letterAt, Cond.selects RX7 yX7_letterAt yX7_letterAt, Cond.code yX7_letterAt cX7_letterAt 2 (some .int), Cond.fieldLink RX7 9 "TwoWays$Word" "letters" "[I", Cond.methodLink RX1 57 yX3_at, Cond.instanceMethod yX3_at, Cond.selects RX3 yX3_at yX3_at, Cond.initialized RX3, Cond.code yX3_at cX3_at 3 (some .int), Cond.fieldLink RX3 15 "TwoWays$Machine" "size" "I"]
def wsX1_step_r2 : List Cond := [Cond.fieldLink RX3 9 "TwoWays$Machine" "moves" "[I", Cond.static yX8_isSign, Cond.initialized RX8, Cond.code yX8_isSign cX8_isSign 1 (some .boolean), Cond.static yX8_stateOf, Cond.code yX8_stateOf cX8_stateOf 1 (some .int), Cond.static yX8_shift, Cond.code yX8_shift cX8_shift 1 (some .int), Cond.methodLink RX8 259 yX8_sideOf, Cond.static yX8_sideOf, Cond.code yX8_sideOf cX8_sideOf 1 (some .int), Cond.methodLink RX1 74 yX1_note, Cond.instanceMethod yX1_note, Cond.selects RX1 yX1_note yX1_note, Cond.initialized RX1, Cond.code yX1_note cX1_note 2 none, Cond.fieldLink RX1 27 "TwoWays$Course" "steps" "I", Cond.fieldLink RX1 15 "TwoWays$Course" "gaps" "[I", Cond.fieldLink RX1 18 "TwoWays$Course" "states" "[I", Cond.methodLink RX1 40 yX1_arrive, Cond.instanceMethod yX1_arrive, Cond.selects RX1 yX1_arrive yX1_arrive, Cond.code yX1_arrive cX1_arrive 2 none, Cond.fieldLink RX1 11 "TwoWays$Course" "statesSeen" "[I"]
def wsX1_step_r3 : List Cond := [Cond.methodLink RX1 78 yX7_length, Cond.instanceMethod yX7_length, Cond.selects RX7 yX7_length yX7_length, Cond.code yX7_length cX7_length 1 (some .int)]
def wsX1_step : List Cond := .code yX1_step cX1_step 5 none :: ((wsX1_step_r1 ++ (wsX1_step_r2 ++ wsX1_step_r3)) ++ wsX10 ++ wsX70 ++ wsX30)
def wsX1_follow_r1 : List Cond := [Cond.fieldLink RX1 11 "TwoWays$Course" "statesSeen" "[I", Cond.fieldLink RX1 27 "TwoWays$Course" "steps" "I", Cond.fieldLink RX1 31 "TwoWays$Course" "state" "I", Cond.fieldLink RX1 34 "TwoWays$Course" "place" "I", Cond.fieldLink RX1 37 "TwoWays$Course" "ending" "I", Cond.methodLink RX1 21 yJ7_fill_53178, Cond.static yJ7_fill_53178, Cond.initialized RJ7, Cond.code yJ7_fill_53178 cJ7_fill_53178 4 none, Cond.methodLink RX1 40 yX1_arrive, Cond.instanceMethod yX1_arrive, Cond.selects RX1 yX1_arrive yX1_arrive, Cond.initialized RX1, Cond.code yX1_arrive cX1_arrive 2 none, Cond.methodLink RX1 78 yX7_length, Cond.instanceMethod yX7_length, Cond.selects RX7 yX7_length yX7_length, Cond.initialized RX7, Cond.code yX7_length cX7_length 1 (some .int), Cond.fieldLink RX7 15 "TwoWays$Word" "length" "I", Cond.methodLink RX1 44 yX1_step, Cond.instanceMethod yX1_step, Cond.selects RX1 yX1_step yX1_step, Cond.code yX1_step cX1_step 5 none]
def wsX1_follow_r2 : List Cond := [Cond.methodLink RX1 69 Lib.Math.min.name, Cond.static Lib.Math.min.name, Cond.initialized "java/lang/Math", Cond.code Lib.Math.min.name Lib.Math.min.code 2 (some .int), Cond.methodLink RX1 52 yX7_signAt, Cond.instanceMethod yX7_signAt, Cond.selects RX7 yX7_signAt yX7_signAt, Cond.code yX7_signAt cX7_signAt 2 (some .int), Cond.methodLink RX7 19 yX7_letterAt, Cond.instanceMethod yX7_letterAt, Cond.selects RX7 yX7_letterAt yX7_letterAt, Cond.code yX7_letterAt cX7_letterAt 2 (some .int), Cond.fieldLink RX7 9 "TwoWays$Word" "letters" "[I", Cond.methodLink RX1 57 yX3_at, Cond.instanceMethod yX3_at, Cond.selects RX3 yX3_at yX3_at, Cond.initialized RX3, Cond.code yX3_at cX3_at 3 (some .int), Cond.fieldLink RX3 15 "TwoWays$Machine" "size" "I", Cond.fieldLink RX3 9 "TwoWays$Machine" "moves" "[I", Cond.static yX8_isSign, Cond.initialized RX8, Cond.code yX8_isSign cX8_isSign 1 (some .boolean), Cond.static yX8_stateOf]
def wsX1_follow_r3 : List Cond := [Cond.code yX8_stateOf cX8_stateOf 1 (some .int), Cond.static yX8_shift, Cond.code yX8_shift cX8_shift 1 (some .int), Cond.methodLink RX8 259 yX8_sideOf, Cond.static yX8_sideOf, Cond.code yX8_sideOf cX8_sideOf 1 (some .int), Cond.methodLink RX1 74 yX1_note, Cond.instanceMethod yX1_note, Cond.selects RX1 yX1_note yX1_note, Cond.code yX1_note cX1_note 2 none, Cond.fieldLink RX1 15 "TwoWays$Course" "gaps" "[I", Cond.fieldLink RX1 18 "TwoWays$Course" "states" "[I"]
def wsX1_follow : List Cond := .code yX1_follow cX1_follow 4 none :: ((wsX1_follow_r1 ++ (wsX1_follow_r2 ++ wsX1_follow_r3)) ++ wsX10 ++ wsX70 ++ wsX30)
def wsX1_isTaken : List Cond := .code yX1_isTaken cX1_isTaken 1 (some .boolean) :: ([.fieldLink RX1 37 "TwoWays$Course" "ending" "I"] ++ wsX10)
def wsX1_ending : List Cond := .code yX1_ending cX1_ending 1 (some .int) :: ([.fieldLink RX1 37 "TwoWays$Course" "ending" "I"] ++ wsX10)
def wsX1_steps : List Cond := .code yX1_steps cX1_steps 1 (some .int) :: ([.fieldLink RX1 27 "TwoWays$Course" "steps" "I"] ++ wsX10)
def wsX1_lastState : List Cond := .code yX1_lastState cX1_lastState 1 (some .int) :: ([.fieldLink RX1 31 "TwoWays$Course" "state" "I"] ++ wsX10)
def wsX1_howOften : List Cond := .code yX1_howOften cX1_howOften 4 (some .int) :: ([.fieldLink RX1 27 "TwoWays$Course" "steps" "I", .fieldLink RX1 15 "TwoWays$Course" "gaps" "[I"] ++ wsX10)
def wsX1_stateAt : List Cond := .code yX1_stateAt cX1_stateAt 5 (some .int) :: ([.fieldLink RX1 27 "TwoWays$Course" "steps" "I", .fieldLink RX1 15 "TwoWays$Course" "gaps" "[I", .fieldLink RX1 18 "TwoWays$Course" "states" "[I"] ++ wsX10)
def wsX1_countGaps : List Cond := .code yX1_countGaps cX1_countGaps 4 (some .int) :: ([.methodLink RX1 48 yX1_howOften, .instanceMethod yX1_howOften, .selects RX1 yX1_howOften yX1_howOften, .initialized RX1, .code yX1_howOften cX1_howOften 4 (some .int), .fieldLink RX1 27 "TwoWays$Course" "steps" "I", .fieldLink RX1 15 "TwoWays$Course" "gaps" "[I"] ++ wsX10)
def wsX1_busiestGap : List Cond := .code yX1_busiestGap cX1_busiestGap 6 (some .int) :: ([.methodLink RX1 48 yX1_howOften, .instanceMethod yX1_howOften, .selects RX1 yX1_howOften yX1_howOften, .initialized RX1, .code yX1_howOften cX1_howOften 4 (some .int), .fieldLink RX1 27 "TwoWays$Course" "steps" "I", .fieldLink RX1 15 "TwoWays$Course" "gaps" "[I"] ++ wsX10)
def wsX2_init_r1 : List Cond := [Cond.methodLink RX2 3 objectInit, Cond.instanceMethod objectInit, Cond.code objectInit ⟨#[0xb1]⟩ 1 none, Cond.classLink RX2 9 RX0, Cond.fieldLink RX2 11 "TwoWays$History" "ring" "[LTwoWays$Both;", Cond.instantiable RX0 2, Cond.initialized RX0, Cond.instanceMethod yX0_init, Cond.code yX0_init cX0_init 1 none, Cond.methodLink RX0 1 objectInit, Cond.classLink RX0 7 RX3, Cond.instantiable RX3 3, Cond.initialized RX3, Cond.fieldLink RX0 10 "TwoWays$Both" "zero" "LTwoWays$Machine;", Cond.fieldLink RX0 16 "TwoWays$Both" "one" "LTwoWays$Machine;", Cond.methodLink RX0 9 yX3_init, Cond.instanceMethod yX3_init, Cond.code yX3_init cX3_init 1 none, Cond.methodLink RX3 3 objectInit, Cond.arrayClass .int, Cond.fieldLink RX3 9 "TwoWays$Machine" "moves" "[I", Cond.fieldLink RX3 15 "TwoWays$Machine" "size" "I", Cond.methodLink RX3 19 yJ7_fill_53178, Cond.static yJ7_fill_53178]
def wsX2_init_r2 : List Cond := [Cond.initialized RJ7, Cond.code yJ7_fill_53178 cJ7_fill_53178 4 none]
def wsX2_init : List Cond := .code yX2_init cX2_init 2 none :: ((wsX2_init_r1 ++ wsX2_init_r2) ++ wsX20 ++ wsX00 ++ wsX30)
def wsX2_size : List Cond := .code yX2_size cX2_size 1 (some .int) :: ([.fieldLink RX2 18 "TwoWays$History" "size" "I"] ++ wsX20)
def wsX2_slotAt : List Cond := .code yX2_slotAt cX2_slotAt 2 (some (.object "TwoWays$Both")) :: ([.fieldLink RX2 11 "TwoWays$History" "ring" "[LTwoWays$Both;"] ++ wsX20)
def wsX2_remember_r1 : List Cond := [Cond.fieldLink RX2 22 "TwoWays$History" "free" "I", Cond.fieldLink RX2 18 "TwoWays$History" "size" "I", Cond.methodLink RX2 33 Lib.Math.min.name, Cond.static Lib.Math.min.name, Cond.initialized "java/lang/Math", Cond.code Lib.Math.min.name Lib.Math.min.code 2 (some .int), Cond.methodLink RX2 25 yX2_slotAt, Cond.instanceMethod yX2_slotAt, Cond.selects RX2 yX2_slotAt yX2_slotAt, Cond.initialized RX2, Cond.code yX2_slotAt cX2_slotAt 2 (some (.object "TwoWays$Both")), Cond.fieldLink RX2 11 "TwoWays$History" "ring" "[LTwoWays$Both;", Cond.methodLink RX2 29 yX0_become, Cond.instanceMethod yX0_become, Cond.selects RX0 yX0_become yX0_become, Cond.initialized RX0, Cond.code yX0_become cX0_become 2 none, Cond.fieldLink RX0 10 "TwoWays$Both" "zero" "LTwoWays$Machine;", Cond.fieldLink RX0 16 "TwoWays$Both" "one" "LTwoWays$Machine;", Cond.methodLink RX0 19 yX3_become, Cond.instanceMethod yX3_become, Cond.selects RX3 yX3_become yX3_become, Cond.initialized RX3, Cond.code yX3_become cX3_become 2 none]
def wsX2_remember_r2 : List Cond := [Cond.fieldLink RX3 15 "TwoWays$Machine" "size" "I", Cond.fieldLink RX3 9 "TwoWays$Machine" "moves" "[I", Cond.methodLink RX3 41 arraycopyName, Cond.native arraycopyName, Cond.static arraycopyName, Cond.initialized "java/lang/System"]
def wsX2_remember : List Cond := .code yX2_remember cX2_remember 3 none :: ((wsX2_remember_r1 ++ wsX2_remember_r2) ++ wsX20 ++ wsX00 ++ wsX30)
def wsX2_stepBack_r1 : List Cond := [Cond.fieldLink RX2 18 "TwoWays$History" "size" "I", Cond.fieldLink RX2 22 "TwoWays$History" "free" "I", Cond.methodLink RX2 25 yX2_slotAt, Cond.instanceMethod yX2_slotAt, Cond.selects RX2 yX2_slotAt yX2_slotAt, Cond.initialized RX2, Cond.code yX2_slotAt cX2_slotAt 2 (some (.object "TwoWays$Both")), Cond.fieldLink RX2 11 "TwoWays$History" "ring" "[LTwoWays$Both;", Cond.methodLink RX2 29 yX0_become, Cond.instanceMethod yX0_become, Cond.selects RX0 yX0_become yX0_become, Cond.initialized RX0, Cond.code yX0_become cX0_become 2 none, Cond.fieldLink RX0 10 "TwoWays$Both" "zero" "LTwoWays$Machine;", Cond.fieldLink RX0 16 "TwoWays$Both" "one" "LTwoWays$Machine;", Cond.methodLink RX0 19 yX3_become, Cond.instanceMethod yX3_become, Cond.selects RX3 yX3_become yX3_become, Cond.initialized RX3, Cond.code yX3_become cX3_become 2 none, Cond.fieldLink RX3 15 "TwoWays$Machine" "size" "I", Cond.fieldLink RX3 9 "TwoWays$Machine" "moves" "[I", Cond.methodLink RX3 41 arraycopyName, Cond.native arraycopyName]
def wsX2_stepBack_r2 : List Cond := [Cond.static arraycopyName, Cond.initialized "java/lang/System"]
def wsX2_stepBack : List Cond := .code yX2_stepBack cX2_stepBack 3 (some .boolean) :: ((wsX2_stepBack_r1 ++ wsX2_stepBack_r2) ++ wsX20 ++ wsX00 ++ wsX30)
def wsX2_forget : List Cond := .code yX2_forget cX2_forget 1 none :: ([.fieldLink RX2 18 "TwoWays$History" "size" "I"] ++ wsX20)
def wsX3_size : List Cond := .code yX3_size cX3_size 1 (some .int) :: ([.fieldLink RX3 15 "TwoWays$Machine" "size" "I"] ++ wsX30)
def wsX3_hasState : List Cond := .code yX3_hasState cX3_hasState 2 (some .boolean) :: ([.fieldLink RX3 15 "TwoWays$Machine" "size" "I"] ++ wsX30)
def wsX3_put : List Cond := .code yX3_put cX3_put 4 none :: ([.fieldLink RX3 9 "TwoWays$Machine" "moves" "[I", .methodLink RX3 29 yX3_hasState, .instanceMethod yX3_hasState, .selects RX3 yX3_hasState yX3_hasState, .initialized RX3, .code yX3_hasState cX3_hasState 2 (some .boolean), .fieldLink RX3 15 "TwoWays$Machine" "size" "I", .static yX8_isSign, .initialized RX8, .code yX8_isSign cX8_isSign 1 (some .boolean)] ++ wsX30)
def wsX3_empty : List Cond := .code yX3_empty cX3_empty 2 none :: ([.methodLink RX3 32 Lib.Math.max.name, .static Lib.Math.max.name, .initialized "java/lang/Math", .code Lib.Math.max.name Lib.Math.max.code 2 (some .int), .methodLink RX3 38 Lib.Math.min.name, .static Lib.Math.min.name, .code Lib.Math.min.name Lib.Math.min.code 2 (some .int), .fieldLink RX3 15 "TwoWays$Machine" "size" "I", .fieldLink RX3 9 "TwoWays$Machine" "moves" "[I", .methodLink RX3 19 yJ7_fill_53178, .static yJ7_fill_53178, .initialized RJ7, .code yJ7_fill_53178 cJ7_fill_53178 4 none] ++ wsX30)
def wsX3_isLike : List Cond := .code yX3_isLike cX3_isLike 3 (some .boolean) :: ([.fieldLink RX3 9 "TwoWays$Machine" "moves" "[I", .fieldLink RX3 15 "TwoWays$Machine" "size" "I"] ++ wsX30)
def wsX3_countMoves : List Cond := .code yX3_countMoves cX3_countMoves 3 (some .int) :: ([.fieldLink RX3 9 "TwoWays$Machine" "moves" "[I"] ++ wsX30)
def wsX3_drawLot : List Cond := .code yX3_drawLot cX3_drawLot 2 (some .int) :: ([.fieldLink RX3 47 "TwoWays$Machine" "lot" "J", .constantLong RX3 63 (16807), .constantLong RX3 65 (2147483647)] ++ wsX30)
def wsX3_drawMove : List Cond := .code yX3_drawMove cX3_drawMove 2 (some .int) :: ([.fieldLink RX3 15 "TwoWays$Machine" "size" "I", .methodLink RX3 51 yX3_drawLot, .instanceMethod yX3_drawLot, .selects RX3 yX3_drawLot yX3_drawLot, .initialized RX3, .code yX3_drawLot cX3_drawLot 2 (some .int), .fieldLink RX3 47 "TwoWays$Machine" "lot" "J", .constantLong RX3 63 (16807), .constantLong RX3 65 (2147483647)] ++ wsX30)
def wsX3_drawLots_r1 : List Cond := [Cond.fieldLink RX3 47 "TwoWays$Machine" "lot" "J", Cond.fieldLink RX3 15 "TwoWays$Machine" "size" "I", Cond.methodLink RX3 51 yX3_drawLot, Cond.instanceMethod yX3_drawLot, Cond.selects RX3 yX3_drawLot yX3_drawLot, Cond.initialized RX3, Cond.code yX3_drawLot cX3_drawLot 2 (some .int), Cond.constantLong RX3 63 (16807), Cond.constantLong RX3 65 (2147483647), Cond.methodLink RX3 55 yX3_drawMove, Cond.instanceMethod yX3_drawMove, Cond.selects RX3 yX3_drawMove yX3_drawMove, Cond.code yX3_drawMove cX3_drawMove 2 (some .int), Cond.methodLink RX3 59 yX3_put, Cond.instanceMethod yX3_put, Cond.selects RX3 yX3_put yX3_put, Cond.code yX3_put cX3_put 4 none, Cond.fieldLink RX3 9 "TwoWays$Machine" "moves" "[I", Cond.methodLink RX3 29 yX3_hasState, Cond.instanceMethod yX3_hasState, Cond.selects RX3 yX3_hasState yX3_hasState, Cond.code yX3_hasState cX3_hasState 2 (some .boolean), Cond.static yX8_isSign, Cond.initialized RX8]
def wsX3_drawLots_r2 : List Cond := [Cond.code yX8_isSign cX8_isSign 1 (some .boolean)]
def wsX3_drawLots : List Cond := .code yX3_drawLots cX3_drawLots 4 none :: ((wsX3_drawLots_r1 ++ wsX3_drawLots_r2) ++ wsX30)
def wsX4_init : List Cond := .code yX4_init cX4_init 1 none :: ([.methodLink RX4 5 objectInit, .instanceMethod objectInit, .code objectInit ⟨#[0xb1]⟩ 1 none, .arrayClass .long, .fieldLink RX4 11 "TwoWays$Meeting" "queue" "[J", .arrayClass .int, .fieldLink RX4 15 "TwoWays$Meeting" "met" "[I"] ++ wsX40)
def wsX4_isMet : List Cond := .code yX4_isMet cX4_isMet 2 (some .boolean) :: ([.fieldLink RX4 15 "TwoWays$Meeting" "met" "[I"] ++ wsX40)
def wsX4_meet : List Cond := .code yX4_meet cX4_meet 5 none :: ([.fieldLink RX4 25 "TwoWays$Meeting" "waiting" "I", .fieldLink RX4 15 "TwoWays$Meeting" "met" "[I", .fieldLink RX4 11 "TwoWays$Meeting" "queue" "[J", .methodLink RX4 52 yX4_isMet, .instanceMethod yX4_isMet, .selects RX4 yX4_isMet yX4_isMet, .initialized RX4, .code yX4_isMet cX4_isMet 2 (some .boolean)] ++ wsX40)
def wsX5_hasState : List Cond := .code yX5_hasState cX5_hasState 2 (some .boolean) :: ([.fieldLink RX5 68 "TwoWays$OneWay" "size" "I"] ++ wsX50)
def wsX5_isGood : List Cond := .code yX5_isGood cX5_isGood 2 (some .boolean) :: ([.fieldLink RX5 31 "TwoWays$OneWay" "goods" "[Z", .methodLink RX5 96 yX5_hasState, .instanceMethod yX5_hasState, .selects RX5 yX5_hasState yX5_hasState, .initialized RX5, .code yX5_hasState cX5_hasState 2 (some .boolean), .fieldLink RX5 68 "TwoWays$OneWay" "size" "I"] ++ wsX50)
def wsX4_fits : List Cond := .code yX4_fits cX4_fits 3 (some .boolean) :: ([])
def wsX5_next : List Cond := .code yX5_next cX5_next 3 (some .int) :: ([.fieldLink RX5 28 "TwoWays$OneWay" "nexts" "[I", .methodLink RX5 96 yX5_hasState, .instanceMethod yX5_hasState, .selects RX5 yX5_hasState yX5_hasState, .initialized RX5, .code yX5_hasState cX5_hasState 2 (some .boolean), .fieldLink RX5 68 "TwoWays$OneWay" "size" "I"] ++ wsX50)
def wsX8_lengthen : List Cond := .code yX8_lengthen cX8_lengthen 3 (some .int) :: ([.constant RX8 165 (33554432)])
def wsX4_firstWord_r1 : List Cond := [Cond.fieldLink RX4 15 "TwoWays$Meeting" "met" "[I", Cond.fieldLink RX4 25 "TwoWays$Meeting" "waiting" "I", Cond.fieldLink RX4 11 "TwoWays$Meeting" "queue" "[J", Cond.constantLong RX4 33 (32767), Cond.methodLink RX4 19 yJ7_fill_53178, Cond.static yJ7_fill_53178, Cond.initialized RJ7, Cond.code yJ7_fill_53178 cJ7_fill_53178 4 none, Cond.methodLink RX4 29 yX4_meet, Cond.instanceMethod yX4_meet, Cond.selects RX4 yX4_meet yX4_meet, Cond.initialized RX4, Cond.code yX4_meet cX4_meet 5 none, Cond.methodLink RX4 52 yX4_isMet, Cond.instanceMethod yX4_isMet, Cond.selects RX4 yX4_isMet yX4_isMet, Cond.code yX4_isMet cX4_isMet 2 (some .boolean), Cond.methodLink RX4 35 yX5_isGood, Cond.instanceMethod yX5_isGood, Cond.selects RX5 yX5_isGood yX5_isGood, Cond.initialized RX5, Cond.code yX5_isGood cX5_isGood 2 (some .boolean), Cond.fieldLink RX5 31 "TwoWays$OneWay" "goods" "[Z", Cond.methodLink RX5 96 yX5_hasState]
def wsX4_firstWord_r2 : List Cond := [Cond.instanceMethod yX5_hasState, Cond.selects RX5 yX5_hasState yX5_hasState, Cond.code yX5_hasState cX5_hasState 2 (some .boolean), Cond.fieldLink RX5 68 "TwoWays$OneWay" "size" "I", Cond.methodLink RX4 41 yX4_fits, Cond.static yX4_fits, Cond.code yX4_fits cX4_fits 3 (some .boolean), Cond.methodLink RX4 45 yX5_next, Cond.instanceMethod yX5_next, Cond.selects RX5 yX5_next yX5_next, Cond.code yX5_next cX5_next 3 (some .int), Cond.fieldLink RX5 28 "TwoWays$OneWay" "nexts" "[I", Cond.static yX8_lengthen, Cond.initialized RX8, Cond.code yX8_lengthen cX8_lengthen 3 (some .int), Cond.constant RX8 165 (33554432)]
def wsX4_firstWord : List Cond := .code yX4_firstWord cX4_firstWord 9 (some .int) :: ((wsX4_firstWord_r1 ++ wsX4_firstWord_r2) ++ wsX40 ++ wsX50)
def wsX5_init_r1 : List Cond := [Cond.methodLink RX5 5 objectInit, Cond.instanceMethod objectInit, Cond.code objectInit ⟨#[0xb1]⟩ 1 none, Cond.classLink RX5 11 RX3, Cond.instantiable RX3 3, Cond.initialized RX3, Cond.fieldLink RX5 14 "TwoWays$OneWay" "source" "LTwoWays$Machine;", Cond.arrayClass .int, Cond.fieldLink RX5 18 "TwoWays$OneWay" "doings" "[I", Cond.fieldLink RX5 22 "TwoWays$OneWay" "found" "[I", Cond.fieldLink RX5 25 "TwoWays$OneWay" "numberByCode" "[I", Cond.fieldLink RX5 28 "TwoWays$OneWay" "nexts" "[I", Cond.arrayClass .boolean, Cond.fieldLink RX5 31 "TwoWays$OneWay" "goods" "[Z", Cond.fieldLink RX5 35 "TwoWays$OneWay" "words" "[I", Cond.fieldLink RX5 38 "TwoWays$OneWay" "groups" "[I", Cond.fieldLink RX5 41 "TwoWays$OneWay" "finerGroups" "[I", Cond.fieldLink RX5 44 "TwoWays$OneWay" "leaders" "[I", Cond.fieldLink RX5 47 "TwoWays$OneWay" "ways" "[I", Cond.fieldLink RX5 50 "TwoWays$OneWay" "longerWays" "[I", Cond.methodLink RX5 13 yX3_init, Cond.instanceMethod yX3_init, Cond.code yX3_init cX3_init 1 none, Cond.methodLink RX3 3 objectInit]
def wsX5_init_r2 : List Cond := [Cond.fieldLink RX3 9 "TwoWays$Machine" "moves" "[I", Cond.fieldLink RX3 15 "TwoWays$Machine" "size" "I", Cond.methodLink RX3 19 yJ7_fill_53178, Cond.static yJ7_fill_53178, Cond.initialized RJ7, Cond.code yJ7_fill_53178 cJ7_fill_53178 4 none]
def wsX5_init : List Cond := .code yX5_init cX5_init 1 none :: ((wsX5_init_r1 ++ wsX5_init_r2) ++ wsX30 ++ wsX50)
def wsX5_firstOff : List Cond := .code yX5_firstOff cX5_firstOff 2 (some .int) :: ([.fieldLink RX5 18 "TwoWays$OneWay" "doings" "[I", .methodLink RX5 96 yX5_hasState, .instanceMethod yX5_hasState, .selects RX5 yX5_hasState yX5_hasState, .initialized RX5, .code yX5_hasState cX5_hasState 2 (some .boolean), .fieldLink RX5 68 "TwoWays$OneWay" "size" "I"] ++ wsX50)
def wsX5_comesBack : List Cond := .code yX5_comesBack cX5_comesBack 4 (some .int) :: ([.fieldLink RX5 18 "TwoWays$OneWay" "doings" "[I", .methodLink RX5 96 yX5_hasState, .instanceMethod yX5_hasState, .selects RX5 yX5_hasState yX5_hasState, .initialized RX5, .code yX5_hasState cX5_hasState 2 (some .boolean), .fieldLink RX5 68 "TwoWays$OneWay" "size" "I"] ++ wsX50)
def wsX5_goOff_r1 : List Cond := [Cond.fieldLink RX5 14 "TwoWays$OneWay" "source" "LTwoWays$Machine;", Cond.methodLink RX5 117 yX3_at, Cond.instanceMethod yX3_at, Cond.selects RX3 yX3_at yX3_at, Cond.initialized RX3, Cond.code yX3_at cX3_at 3 (some .int), Cond.fieldLink RX3 15 "TwoWays$Machine" "size" "I", Cond.fieldLink RX3 9 "TwoWays$Machine" "moves" "[I", Cond.static yX8_isSign, Cond.initialized RX8, Cond.code yX8_isSign cX8_isSign 1 (some .boolean), Cond.static yX8_sideOf, Cond.code yX8_sideOf cX8_sideOf 1 (some .int), Cond.static yX8_stateOf, Cond.code yX8_stateOf cX8_stateOf 1 (some .int), Cond.methodLink RX5 126 yX5_comesBack, Cond.instanceMethod yX5_comesBack, Cond.selects RX5 yX5_comesBack yX5_comesBack, Cond.initialized RX5, Cond.code yX5_comesBack cX5_comesBack 4 (some .int), Cond.fieldLink RX5 18 "TwoWays$OneWay" "doings" "[I", Cond.methodLink RX5 96 yX5_hasState, Cond.instanceMethod yX5_hasState, Cond.selects RX5 yX5_hasState yX5_hasState]
def wsX5_goOff_r2 : List Cond := [Cond.code yX5_hasState cX5_hasState 2 (some .boolean), Cond.fieldLink RX5 68 "TwoWays$OneWay" "size" "I"]
def wsX5_goOff : List Cond := .code yX5_goOff cX5_goOff 7 (some .int) :: ((wsX5_goOff_r1 ++ wsX5_goOff_r2) ++ wsX50 ++ wsX30)
def wsX5_findBehind_r1 : List Cond := [Cond.fieldLink RX5 22 "TwoWays$OneWay" "found" "[I", Cond.methodLink RX5 110 yX5_firstOff, Cond.instanceMethod yX5_firstOff, Cond.selects RX5 yX5_firstOff yX5_firstOff, Cond.initialized RX5, Cond.code yX5_firstOff cX5_firstOff 2 (some .int), Cond.fieldLink RX5 18 "TwoWays$OneWay" "doings" "[I", Cond.methodLink RX5 96 yX5_hasState, Cond.instanceMethod yX5_hasState, Cond.selects RX5 yX5_hasState yX5_hasState, Cond.code yX5_hasState cX5_hasState 2 (some .boolean), Cond.fieldLink RX5 68 "TwoWays$OneWay" "size" "I", Cond.methodLink RX5 113 yX5_goOff, Cond.instanceMethod yX5_goOff, Cond.selects RX5 yX5_goOff yX5_goOff, Cond.code yX5_goOff cX5_goOff 7 (some .int), Cond.fieldLink RX5 14 "TwoWays$OneWay" "source" "LTwoWays$Machine;", Cond.methodLink RX5 117 yX3_at, Cond.instanceMethod yX3_at, Cond.selects RX3 yX3_at yX3_at, Cond.initialized RX3, Cond.code yX3_at cX3_at 3 (some .int), Cond.fieldLink RX3 15 "TwoWays$Machine" "size" "I", Cond.fieldLink RX3 9 "TwoWays$Machine" "moves" "[I"]
def wsX5_findBehind_r2 : List Cond := [Cond.static yX8_isSign, Cond.initialized RX8, Cond.code yX8_isSign cX8_isSign 1 (some .boolean), Cond.static yX8_sideOf, Cond.code yX8_sideOf cX8_sideOf 1 (some .int), Cond.static yX8_stateOf, Cond.code yX8_stateOf cX8_stateOf 1 (some .int), Cond.methodLink RX5 126 yX5_comesBack, Cond.instanceMethod yX5_comesBack, Cond.selects RX5 yX5_comesBack yX5_comesBack, Cond.code yX5_comesBack cX5_comesBack 4 (some .int)]
def wsX5_findBehind : List Cond := .code yX5_findBehind cX5_findBehind 4 none :: ((wsX5_findBehind_r1 ++ wsX5_findBehind_r2) ++ wsX50 ++ wsX30)
def wsX5_codeOfFound : List Cond := .code yX5_codeOfFound cX5_codeOfFound 3 (some .int) :: ([.fieldLink RX5 22 "TwoWays$OneWay" "found" "[I"] ++ wsX50)
def wsX5_addFound : List Cond := .code yX5_addFound cX5_addFound 3 none :: ([.fieldLink RX5 68 "TwoWays$OneWay" "size" "I", .fieldLink RX5 22 "TwoWays$OneWay" "found" "[I", .fieldLink RX5 18 "TwoWays$OneWay" "doings" "[I", .methodLink RX5 136 arraycopyName, .native arraycopyName, .static arraycopyName, .initialized "java/lang/System", .fieldLink RX5 35 "TwoWays$OneWay" "words" "[I", .methodLink RX5 96 yX5_hasState, .instanceMethod yX5_hasState, .selects RX5 yX5_hasState yX5_hasState, .initialized RX5, .code yX5_hasState cX5_hasState 2 (some .boolean)] ++ wsX50)
def wsX5_numberOfFound : List Cond := .code yX5_numberOfFound cX5_numberOfFound 3 (some .int) :: ([.fieldLink RX5 25 "TwoWays$OneWay" "numberByCode" "[I", .fieldLink RX5 68 "TwoWays$OneWay" "size" "I", .fieldLink RX5 65 "TwoWays$OneWay" "tooMany" "Z", .methodLink RX5 129 yX5_codeOfFound, .instanceMethod yX5_codeOfFound, .selects RX5 yX5_codeOfFound yX5_codeOfFound, .initialized RX5, .code yX5_codeOfFound cX5_codeOfFound 3 (some .int), .fieldLink RX5 22 "TwoWays$OneWay" "found" "[I", .methodLink RX5 132 yX5_addFound, .instanceMethod yX5_addFound, .selects RX5 yX5_addFound yX5_addFound, .code yX5_addFound cX5_addFound 3 none, .fieldLink RX5 18 "TwoWays$OneWay" "doings" "[I", .methodLink RX5 136 arraycopyName, .native arraycopyName, .static arraycopyName, .initialized "java/lang/System", .fieldLink RX5 35 "TwoWays$OneWay" "words" "[I", .methodLink RX5 96 yX5_hasState, .instanceMethod yX5_hasState, .selects RX5 yX5_hasState yX5_hasState, .code yX5_hasState cX5_hasState 2 (some .boolean)] ++ wsX50)
def wsX5_markGoods_r1 : List Cond := [Cond.fieldLink RX5 68 "TwoWays$OneWay" "size" "I", Cond.fieldLink RX5 31 "TwoWays$OneWay" "goods" "[Z", Cond.methodLink RX5 110 yX5_firstOff, Cond.instanceMethod yX5_firstOff, Cond.selects RX5 yX5_firstOff yX5_firstOff, Cond.initialized RX5, Cond.code yX5_firstOff cX5_firstOff 2 (some .int), Cond.fieldLink RX5 18 "TwoWays$OneWay" "doings" "[I", Cond.methodLink RX5 96 yX5_hasState, Cond.instanceMethod yX5_hasState, Cond.selects RX5 yX5_hasState yX5_hasState, Cond.code yX5_hasState cX5_hasState 2 (some .boolean), Cond.methodLink RX5 113 yX5_goOff, Cond.instanceMethod yX5_goOff, Cond.selects RX5 yX5_goOff yX5_goOff, Cond.code yX5_goOff cX5_goOff 7 (some .int), Cond.fieldLink RX5 14 "TwoWays$OneWay" "source" "LTwoWays$Machine;", Cond.methodLink RX5 117 yX3_at, Cond.instanceMethod yX3_at, Cond.selects RX3 yX3_at yX3_at, Cond.initialized RX3, Cond.code yX3_at cX3_at 3 (some .int), Cond.fieldLink RX3 15 "TwoWays$Machine" "size" "I", Cond.fieldLink RX3 9 "TwoWays$Machine" "moves" "[I"]
def wsX5_markGoods_r2 : List Cond := [Cond.static yX8_isSign, Cond.initialized RX8, Cond.code yX8_isSign cX8_isSign 1 (some .boolean), Cond.static yX8_sideOf, Cond.code yX8_sideOf cX8_sideOf 1 (some .int), Cond.static yX8_stateOf, Cond.code yX8_stateOf cX8_stateOf 1 (some .int), Cond.methodLink RX5 126 yX5_comesBack, Cond.instanceMethod yX5_comesBack, Cond.selects RX5 yX5_comesBack yX5_comesBack, Cond.code yX5_comesBack cX5_comesBack 4 (some .int)]
def wsX5_markGoods : List Cond := .code yX5_markGoods cX5_markGoods 2 none :: ((wsX5_markGoods_r1 ++ wsX5_markGoods_r2) ++ wsX50 ++ wsX30)
def wsX5_make_r1 : List Cond := [Cond.fieldLink RX5 53 "TwoWays$OneWay" "made" "Z", Cond.fieldLink RX5 14 "TwoWays$OneWay" "source" "LTwoWays$Machine;", Cond.fieldLink RX5 65 "TwoWays$OneWay" "tooMany" "Z", Cond.fieldLink RX5 68 "TwoWays$OneWay" "size" "I", Cond.fieldLink RX5 72 "TwoWays$OneWay" "least" "I", Cond.fieldLink RX5 25 "TwoWays$OneWay" "numberByCode" "[I", Cond.fieldLink RX5 28 "TwoWays$OneWay" "nexts" "[I", Cond.fieldLink RX5 35 "TwoWays$OneWay" "words" "[I", Cond.methodLink RX5 57 yX3_isLike, Cond.instanceMethod yX3_isLike, Cond.selects RX3 yX3_isLike yX3_isLike, Cond.initialized RX3, Cond.code yX3_isLike cX3_isLike 3 (some .boolean), Cond.fieldLink RX3 9 "TwoWays$Machine" "moves" "[I", Cond.fieldLink RX3 15 "TwoWays$Machine" "size" "I", Cond.methodLink RX5 61 yX3_become, Cond.instanceMethod yX3_become, Cond.selects RX3 yX3_become yX3_become, Cond.code yX3_become cX3_become 2 none, Cond.methodLink RX3 41 arraycopyName, Cond.native arraycopyName, Cond.static arraycopyName, Cond.initialized "java/lang/System", Cond.methodLink RX5 75 yJ7_fill_53178]
def wsX5_make_r2 : List Cond := [Cond.static yJ7_fill_53178, Cond.initialized RJ7, Cond.code yJ7_fill_53178 cJ7_fill_53178 4 none, Cond.methodLink RX5 81 yX5_findBehind, Cond.instanceMethod yX5_findBehind, Cond.selects RX5 yX5_findBehind yX5_findBehind, Cond.initialized RX5, Cond.code yX5_findBehind cX5_findBehind 4 none, Cond.fieldLink RX5 22 "TwoWays$OneWay" "found" "[I", Cond.methodLink RX5 110 yX5_firstOff, Cond.instanceMethod yX5_firstOff, Cond.selects RX5 yX5_firstOff yX5_firstOff, Cond.code yX5_firstOff cX5_firstOff 2 (some .int), Cond.fieldLink RX5 18 "TwoWays$OneWay" "doings" "[I", Cond.methodLink RX5 96 yX5_hasState, Cond.instanceMethod yX5_hasState, Cond.selects RX5 yX5_hasState yX5_hasState, Cond.code yX5_hasState cX5_hasState 2 (some .boolean), Cond.methodLink RX5 113 yX5_goOff, Cond.instanceMethod yX5_goOff, Cond.selects RX5 yX5_goOff yX5_goOff, Cond.code yX5_goOff cX5_goOff 7 (some .int), Cond.methodLink RX5 117 yX3_at, Cond.instanceMethod yX3_at]
def wsX5_make_r3 : List Cond := [Cond.selects RX3 yX3_at yX3_at, Cond.code yX3_at cX3_at 3 (some .int), Cond.static yX8_isSign, Cond.initialized RX8, Cond.code yX8_isSign cX8_isSign 1 (some .boolean), Cond.static yX8_sideOf, Cond.code yX8_sideOf cX8_sideOf 1 (some .int), Cond.static yX8_stateOf, Cond.code yX8_stateOf cX8_stateOf 1 (some .int), Cond.methodLink RX5 126 yX5_comesBack, Cond.instanceMethod yX5_comesBack, Cond.selects RX5 yX5_comesBack yX5_comesBack, Cond.code yX5_comesBack cX5_comesBack 4 (some .int), Cond.methodLink RX5 85 yX5_numberOfFound, Cond.instanceMethod yX5_numberOfFound, Cond.selects RX5 yX5_numberOfFound yX5_numberOfFound, Cond.code yX5_numberOfFound cX5_numberOfFound 3 (some .int), Cond.methodLink RX5 129 yX5_codeOfFound, Cond.instanceMethod yX5_codeOfFound, Cond.selects RX5 yX5_codeOfFound yX5_codeOfFound, Cond.code yX5_codeOfFound cX5_codeOfFound 3 (some .int), Cond.methodLink RX5 132 yX5_addFound, Cond.instanceMethod yX5_addFound, Cond.selects RX5 yX5_addFound yX5_addFound]
def wsX5_make_r4 : List Cond := [Cond.code yX5_addFound cX5_addFound 3 none, Cond.methodLink RX5 136 arraycopyName, Cond.static yX8_lengthen, Cond.code yX8_lengthen cX8_lengthen 3 (some .int), Cond.constant RX8 165 (33554432), Cond.methodLink RX5 93 yX5_markGoods, Cond.instanceMethod yX5_markGoods, Cond.selects RX5 yX5_markGoods yX5_markGoods, Cond.code yX5_markGoods cX5_markGoods 2 none, Cond.fieldLink RX5 31 "TwoWays$OneWay" "goods" "[Z"]
def wsX5_make : List Cond := .code yX5_make cX5_make 4 none :: ((wsX5_make_r1 ++ (wsX5_make_r2 ++ (wsX5_make_r3 ++ wsX5_make_r4))) ++ wsX50 ++ wsX30)
def wsX5_isTooMany : List Cond := .code yX5_isTooMany cX5_isTooMany 1 (some .boolean) :: ([.fieldLink RX5 65 "TwoWays$OneWay" "tooMany" "Z"] ++ wsX50)
def wsX5_size : List Cond := .code yX5_size cX5_size 1 (some .int) :: ([.fieldLink RX5 68 "TwoWays$OneWay" "size" "I"] ++ wsX50)
def wsX5_firstWord : List Cond := .code yX5_firstWord cX5_firstWord 3 (some .int) :: ([.fieldLink RX5 68 "TwoWays$OneWay" "size" "I", .fieldLink RX5 31 "TwoWays$OneWay" "goods" "[Z", .fieldLink RX5 35 "TwoWays$OneWay" "words" "[I"] ++ wsX50)
def wsX5_countOneLetterMore : List Cond := .code yX5_countOneLetterMore cX5_countOneLetterMore 4 none :: ([.fieldLink RX5 50 "TwoWays$OneWay" "longerWays" "[I", .fieldLink RX5 68 "TwoWays$OneWay" "size" "I", .fieldLink RX5 47 "TwoWays$OneWay" "ways" "[I", .methodLink RX5 136 arraycopyName, .native arraycopyName, .static arraycopyName, .initialized "java/lang/System", .methodLink RX5 75 yJ7_fill_53178, .static yJ7_fill_53178, .initialized RJ7, .code yJ7_fill_53178 cJ7_fill_53178 4 none, .methodLink RX5 142 yX5_next, .instanceMethod yX5_next, .selects RX5 yX5_next yX5_next, .initialized RX5, .code yX5_next cX5_next 3 (some .int), .fieldLink RX5 28 "TwoWays$OneWay" "nexts" "[I", .methodLink RX5 96 yX5_hasState, .instanceMethod yX5_hasState, .selects RX5 yX5_hasState yX5_hasState, .code yX5_hasState cX5_hasState 2 (some .boolean)] ++ wsX50)
def wsX5_countWords_r1 : List Cond := [Cond.fieldLink RX5 47 "TwoWays$OneWay" "ways" "[I", Cond.fieldLink RX5 68 "TwoWays$OneWay" "size" "I", Cond.fieldLink RX5 31 "TwoWays$OneWay" "goods" "[Z", Cond.methodLink RX5 75 yJ7_fill_53178, Cond.static yJ7_fill_53178, Cond.initialized RJ7, Cond.code yJ7_fill_53178 cJ7_fill_53178 4 none, Cond.methodLink RX5 100 yX5_countOneLetterMore, Cond.instanceMethod yX5_countOneLetterMore, Cond.selects RX5 yX5_countOneLetterMore yX5_countOneLetterMore, Cond.initialized RX5, Cond.code yX5_countOneLetterMore cX5_countOneLetterMore 4 none, Cond.fieldLink RX5 50 "TwoWays$OneWay" "longerWays" "[I", Cond.methodLink RX5 136 arraycopyName, Cond.native arraycopyName, Cond.static arraycopyName, Cond.initialized "java/lang/System", Cond.methodLink RX5 142 yX5_next, Cond.instanceMethod yX5_next, Cond.selects RX5 yX5_next yX5_next, Cond.code yX5_next cX5_next 3 (some .int), Cond.fieldLink RX5 28 "TwoWays$OneWay" "nexts" "[I", Cond.methodLink RX5 96 yX5_hasState, Cond.instanceMethod yX5_hasState]
def wsX5_countWords_r2 : List Cond := [Cond.selects RX5 yX5_hasState yX5_hasState, Cond.code yX5_hasState cX5_hasState 2 (some .boolean)]
def wsX5_countWords : List Cond := .code yX5_countWords cX5_countWords 4 (some .int) :: ((wsX5_countWords_r1 ++ wsX5_countWords_r2) ++ wsX50)
def wsX5_groupByGoodness : List Cond := .code yX5_groupByGoodness cX5_groupByGoodness 2 none :: ([.fieldLink RX5 68 "TwoWays$OneWay" "size" "I", .fieldLink RX5 38 "TwoWays$OneWay" "groups" "[I", .fieldLink RX5 31 "TwoWays$OneWay" "goods" "[Z"] ++ wsX50)
def wsX5_groupOf : List Cond := .code yX5_groupOf cX5_groupOf 2 (some .int) :: ([.fieldLink RX5 38 "TwoWays$OneWay" "groups" "[I", .methodLink RX5 96 yX5_hasState, .instanceMethod yX5_hasState, .selects RX5 yX5_hasState yX5_hasState, .initialized RX5, .code yX5_hasState cX5_hasState 2 (some .boolean), .fieldLink RX5 68 "TwoWays$OneWay" "size" "I"] ++ wsX50)
def wsX5_goTogether : List Cond := .code yX5_goTogether cX5_goTogether 3 (some .boolean) :: ([.methodLink RX5 152 yX5_groupOf, .instanceMethod yX5_groupOf, .selects RX5 yX5_groupOf yX5_groupOf, .initialized RX5, .code yX5_groupOf cX5_groupOf 2 (some .int), .fieldLink RX5 38 "TwoWays$OneWay" "groups" "[I", .methodLink RX5 96 yX5_hasState, .instanceMethod yX5_hasState, .selects RX5 yX5_hasState yX5_hasState, .code yX5_hasState cX5_hasState 2 (some .boolean), .fieldLink RX5 68 "TwoWays$OneWay" "size" "I", .methodLink RX5 142 yX5_next, .instanceMethod yX5_next, .selects RX5 yX5_next yX5_next, .code yX5_next cX5_next 3 (some .int), .fieldLink RX5 28 "TwoWays$OneWay" "nexts" "[I"] ++ wsX50)
def wsX5_groupAmong : List Cond := .code yX5_groupAmong cX5_groupAmong 4 (some .int) :: ([.fieldLink RX5 44 "TwoWays$OneWay" "leaders" "[I", .methodLink RX5 148 yX5_goTogether, .instanceMethod yX5_goTogether, .selects RX5 yX5_goTogether yX5_goTogether, .initialized RX5, .code yX5_goTogether cX5_goTogether 3 (some .boolean), .methodLink RX5 152 yX5_groupOf, .instanceMethod yX5_groupOf, .selects RX5 yX5_groupOf yX5_groupOf, .code yX5_groupOf cX5_groupOf 2 (some .int), .fieldLink RX5 38 "TwoWays$OneWay" "groups" "[I", .methodLink RX5 96 yX5_hasState, .instanceMethod yX5_hasState, .selects RX5 yX5_hasState yX5_hasState, .code yX5_hasState cX5_hasState 2 (some .boolean), .fieldLink RX5 68 "TwoWays$OneWay" "size" "I", .methodLink RX5 142 yX5_next, .instanceMethod yX5_next, .selects RX5 yX5_next yX5_next, .code yX5_next cX5_next 3 (some .int), .fieldLink RX5 28 "TwoWays$OneWay" "nexts" "[I"] ++ wsX50)
def wsX5_splitGroups_r1 : List Cond := [Cond.fieldLink RX5 68 "TwoWays$OneWay" "size" "I", Cond.fieldLink RX5 44 "TwoWays$OneWay" "leaders" "[I", Cond.fieldLink RX5 41 "TwoWays$OneWay" "finerGroups" "[I", Cond.fieldLink RX5 38 "TwoWays$OneWay" "groups" "[I", Cond.methodLink RX5 136 arraycopyName, Cond.native arraycopyName, Cond.static arraycopyName, Cond.initialized "java/lang/System", Cond.methodLink RX5 145 yX5_groupAmong, Cond.instanceMethod yX5_groupAmong, Cond.selects RX5 yX5_groupAmong yX5_groupAmong, Cond.initialized RX5, Cond.code yX5_groupAmong cX5_groupAmong 4 (some .int), Cond.methodLink RX5 148 yX5_goTogether, Cond.instanceMethod yX5_goTogether, Cond.selects RX5 yX5_goTogether yX5_goTogether, Cond.code yX5_goTogether cX5_goTogether 3 (some .boolean), Cond.methodLink RX5 152 yX5_groupOf, Cond.instanceMethod yX5_groupOf, Cond.selects RX5 yX5_groupOf yX5_groupOf, Cond.code yX5_groupOf cX5_groupOf 2 (some .int), Cond.methodLink RX5 96 yX5_hasState, Cond.instanceMethod yX5_hasState, Cond.selects RX5 yX5_hasState yX5_hasState]
def wsX5_splitGroups_r2 : List Cond := [Cond.code yX5_hasState cX5_hasState 2 (some .boolean), Cond.methodLink RX5 142 yX5_next, Cond.instanceMethod yX5_next, Cond.selects RX5 yX5_next yX5_next, Cond.code yX5_next cX5_next 3 (some .int), Cond.fieldLink RX5 28 "TwoWays$OneWay" "nexts" "[I"]
def wsX5_splitGroups : List Cond := .code yX5_splitGroups cX5_splitGroups 4 (some .int) :: ((wsX5_splitGroups_r1 ++ wsX5_splitGroups_r2) ++ wsX50)
def wsX5_leastSize_r1 : List Cond := [Cond.fieldLink RX5 72 "TwoWays$OneWay" "least" "I", Cond.methodLink RX5 103 yX5_groupByGoodness, Cond.instanceMethod yX5_groupByGoodness, Cond.selects RX5 yX5_groupByGoodness yX5_groupByGoodness, Cond.initialized RX5, Cond.code yX5_groupByGoodness cX5_groupByGoodness 2 none, Cond.fieldLink RX5 68 "TwoWays$OneWay" "size" "I", Cond.fieldLink RX5 38 "TwoWays$OneWay" "groups" "[I", Cond.fieldLink RX5 31 "TwoWays$OneWay" "goods" "[Z", Cond.methodLink RX5 106 yX5_splitGroups, Cond.instanceMethod yX5_splitGroups, Cond.selects RX5 yX5_splitGroups yX5_splitGroups, Cond.code yX5_splitGroups cX5_splitGroups 4 (some .int), Cond.fieldLink RX5 44 "TwoWays$OneWay" "leaders" "[I", Cond.fieldLink RX5 41 "TwoWays$OneWay" "finerGroups" "[I", Cond.methodLink RX5 136 arraycopyName, Cond.native arraycopyName, Cond.static arraycopyName, Cond.initialized "java/lang/System", Cond.methodLink RX5 145 yX5_groupAmong, Cond.instanceMethod yX5_groupAmong, Cond.selects RX5 yX5_groupAmong yX5_groupAmong, Cond.code yX5_groupAmong cX5_groupAmong 4 (some .int), Cond.methodLink RX5 148 yX5_goTogether]
def wsX5_leastSize_r2 : List Cond := [Cond.instanceMethod yX5_goTogether, Cond.selects RX5 yX5_goTogether yX5_goTogether, Cond.code yX5_goTogether cX5_goTogether 3 (some .boolean), Cond.methodLink RX5 152 yX5_groupOf, Cond.instanceMethod yX5_groupOf, Cond.selects RX5 yX5_groupOf yX5_groupOf, Cond.code yX5_groupOf cX5_groupOf 2 (some .int), Cond.methodLink RX5 96 yX5_hasState, Cond.instanceMethod yX5_hasState, Cond.selects RX5 yX5_hasState yX5_hasState, Cond.code yX5_hasState cX5_hasState 2 (some .boolean), Cond.methodLink RX5 142 yX5_next, Cond.instanceMethod yX5_next, Cond.selects RX5 yX5_next yX5_next, Cond.code yX5_next cX5_next 3 (some .int), Cond.fieldLink RX5 28 "TwoWays$OneWay" "nexts" "[I"]
def wsX5_leastSize : List Cond := .code yX5_leastSize cX5_leastSize 3 (some .int) :: ((wsX5_leastSize_r1 ++ wsX5_leastSize_r2) ++ wsX50)
def wsX6_init : List Cond := .code yX6_init cX6_init 1 none :: ([.methodLink RX6 3 objectInit, .instanceMethod objectInit, .code objectInit ⟨#[0xb1]⟩ 1 none, .arrayClass .int, .fieldLink RX6 9 "TwoWays$Text" "letters" "[I"] ++ wsX60)
def wsX6_length : List Cond := .code yX6_length cX6_length 1 (some .int) :: ([.fieldLink RX6 15 "TwoWays$Text" "length" "I"] ++ wsX60)
def wsX6_place : List Cond := .code yX6_place cX6_place 1 (some .int) :: ([.fieldLink RX6 19 "TwoWays$Text" "place" "I"] ++ wsX60)
def wsX6_add : List Cond := .code yX6_add cX6_add 2 (some .boolean) :: ([.fieldLink RX6 15 "TwoWays$Text" "length" "I", .fieldLink RX6 9 "TwoWays$Text" "letters" "[I"] ++ wsX60)
def wsX6_clear : List Cond := .code yX6_clear cX6_clear 1 none :: ([.fieldLink RX6 15 "TwoWays$Text" "length" "I"] ++ wsX60)
def wsX6_upcoming : List Cond := .code yX6_upcoming cX6_upcoming 1 (some .int) :: ([.fieldLink RX6 19 "TwoWays$Text" "place" "I", .fieldLink RX6 15 "TwoWays$Text" "length" "I", .fieldLink RX6 9 "TwoWays$Text" "letters" "[I"] ++ wsX60)
def wsX6_blame : List Cond := .code yX6_blame cX6_blame 2 none :: ([.fieldLink RX6 22 "TwoWays$Text" "fault" "I"] ++ wsX60)
def wsX6_passIf : List Cond := .code yX6_passIf cX6_passIf 2 none :: ([.fieldLink RX6 22 "TwoWays$Text" "fault" "I", .fieldLink RX6 19 "TwoWays$Text" "place" "I", .methodLink RX6 49 yX6_blame, .instanceMethod yX6_blame, .selects RX6 yX6_blame yX6_blame, .initialized RX6, .code yX6_blame cX6_blame 2 none] ++ wsX60)
def wsX6_takeLetter : List Cond := .code yX6_takeLetter cX6_takeLetter 2 none :: ([.methodLink RX6 31 yX6_upcoming, .instanceMethod yX6_upcoming, .selects RX6 yX6_upcoming yX6_upcoming, .initialized RX6, .code yX6_upcoming cX6_upcoming 1 (some .int), .fieldLink RX6 19 "TwoWays$Text" "place" "I", .fieldLink RX6 15 "TwoWays$Text" "length" "I", .fieldLink RX6 9 "TwoWays$Text" "letters" "[I", .methodLink RX6 66 yX6_passIf, .instanceMethod yX6_passIf, .selects RX6 yX6_passIf yX6_passIf, .code yX6_passIf cX6_passIf 2 none, .fieldLink RX6 22 "TwoWays$Text" "fault" "I", .methodLink RX6 49 yX6_blame, .instanceMethod yX6_blame, .selects RX6 yX6_blame yX6_blame, .code yX6_blame cX6_blame 2 none] ++ wsX60)
def wsX6_takeFigure : List Cond := .code yX6_takeFigure cX6_takeFigure 5 (some .int) :: ([.methodLink RX6 31 yX6_upcoming, .instanceMethod yX6_upcoming, .selects RX6 yX6_upcoming yX6_upcoming, .initialized RX6, .code yX6_upcoming cX6_upcoming 1 (some .int), .fieldLink RX6 19 "TwoWays$Text" "place" "I", .fieldLink RX6 15 "TwoWays$Text" "length" "I", .fieldLink RX6 9 "TwoWays$Text" "letters" "[I", .methodLink RX6 49 yX6_blame, .instanceMethod yX6_blame, .selects RX6 yX6_blame yX6_blame, .code yX6_blame cX6_blame 2 none, .fieldLink RX6 22 "TwoWays$Text" "fault" "I", .methodLink RX6 66 yX6_passIf, .instanceMethod yX6_passIf, .selects RX6 yX6_passIf yX6_passIf, .code yX6_passIf cX6_passIf 2 none] ++ wsX60)
def wsX6_readSize_r1 : List Cond := [Cond.fieldLink RX6 22 "TwoWays$Text" "fault" "I", Cond.methodLink RX6 42 yX6_takeLetter, Cond.instanceMethod yX6_takeLetter, Cond.selects RX6 yX6_takeLetter yX6_takeLetter, Cond.initialized RX6, Cond.code yX6_takeLetter cX6_takeLetter 2 none, Cond.methodLink RX6 31 yX6_upcoming, Cond.instanceMethod yX6_upcoming, Cond.selects RX6 yX6_upcoming yX6_upcoming, Cond.code yX6_upcoming cX6_upcoming 1 (some .int), Cond.fieldLink RX6 19 "TwoWays$Text" "place" "I", Cond.fieldLink RX6 15 "TwoWays$Text" "length" "I", Cond.fieldLink RX6 9 "TwoWays$Text" "letters" "[I", Cond.methodLink RX6 66 yX6_passIf, Cond.instanceMethod yX6_passIf, Cond.selects RX6 yX6_passIf yX6_passIf, Cond.code yX6_passIf cX6_passIf 2 none, Cond.methodLink RX6 49 yX6_blame, Cond.instanceMethod yX6_blame, Cond.selects RX6 yX6_blame yX6_blame, Cond.code yX6_blame cX6_blame 2 none, Cond.methodLink RX6 45 yX6_takeFigure, Cond.instanceMethod yX6_takeFigure, Cond.selects RX6 yX6_takeFigure yX6_takeFigure]
def wsX6_readSize_r2 : List Cond := [Cond.code yX6_takeFigure cX6_takeFigure 5 (some .int), Cond.methodLink RX6 25 yX3_empty, Cond.instanceMethod yX3_empty, Cond.selects RX3 yX3_empty yX3_empty, Cond.initialized RX3, Cond.code yX3_empty cX3_empty 2 none, Cond.methodLink RX3 32 Lib.Math.max.name, Cond.static Lib.Math.max.name, Cond.initialized "java/lang/Math", Cond.code Lib.Math.max.name Lib.Math.max.code 2 (some .int), Cond.methodLink RX3 38 Lib.Math.min.name, Cond.static Lib.Math.min.name, Cond.code Lib.Math.min.name Lib.Math.min.code 2 (some .int), Cond.fieldLink RX3 15 "TwoWays$Machine" "size" "I", Cond.fieldLink RX3 9 "TwoWays$Machine" "moves" "[I", Cond.methodLink RX3 19 yJ7_fill_53178, Cond.static yJ7_fill_53178, Cond.initialized RJ7, Cond.code yJ7_fill_53178 cJ7_fill_53178 4 none]
def wsX6_readSize : List Cond := .code yX6_readSize cX6_readSize 3 none :: ((wsX6_readSize_r1 ++ wsX6_readSize_r2) ++ wsX60 ++ wsX30)
def wsX6_signOf : List Cond := .code yX6_signOf cX6_signOf 1 (some .int) :: ([])
def wsX6_takeSign_r1 : List Cond := [Cond.methodLink RX6 31 yX6_upcoming, Cond.instanceMethod yX6_upcoming, Cond.selects RX6 yX6_upcoming yX6_upcoming, Cond.initialized RX6, Cond.code yX6_upcoming cX6_upcoming 1 (some .int), Cond.fieldLink RX6 19 "TwoWays$Text" "place" "I", Cond.fieldLink RX6 15 "TwoWays$Text" "length" "I", Cond.fieldLink RX6 9 "TwoWays$Text" "letters" "[I", Cond.methodLink RX6 70 yX6_signOf, Cond.static yX6_signOf, Cond.code yX6_signOf cX6_signOf 1 (some .int), Cond.methodLink RX6 74 yX3_at, Cond.instanceMethod yX3_at, Cond.selects RX3 yX3_at yX3_at, Cond.initialized RX3, Cond.code yX3_at cX3_at 3 (some .int), Cond.fieldLink RX3 15 "TwoWays$Machine" "size" "I", Cond.fieldLink RX3 9 "TwoWays$Machine" "moves" "[I", Cond.static yX8_isSign, Cond.initialized RX8, Cond.code yX8_isSign cX8_isSign 1 (some .boolean), Cond.methodLink RX6 49 yX6_blame, Cond.instanceMethod yX6_blame, Cond.selects RX6 yX6_blame yX6_blame]
def wsX6_takeSign_r2 : List Cond := [Cond.code yX6_blame cX6_blame 2 none, Cond.fieldLink RX6 22 "TwoWays$Text" "fault" "I", Cond.methodLink RX6 66 yX6_passIf, Cond.instanceMethod yX6_passIf, Cond.selects RX6 yX6_passIf yX6_passIf, Cond.code yX6_passIf cX6_passIf 2 none]
def wsX6_takeSign : List Cond := .code yX6_takeSign cX6_takeSign 4 (some .int) :: ((wsX6_takeSign_r1 ++ wsX6_takeSign_r2) ++ wsX60 ++ wsX30)
def wsX6_takeSide : List Cond := .code yX6_takeSide cX6_takeSide 2 (some .int) :: ([.methodLink RX6 31 yX6_upcoming, .instanceMethod yX6_upcoming, .selects RX6 yX6_upcoming yX6_upcoming, .initialized RX6, .code yX6_upcoming cX6_upcoming 1 (some .int), .fieldLink RX6 19 "TwoWays$Text" "place" "I", .fieldLink RX6 15 "TwoWays$Text" "length" "I", .fieldLink RX6 9 "TwoWays$Text" "letters" "[I", .methodLink RX6 66 yX6_passIf, .instanceMethod yX6_passIf, .selects RX6 yX6_passIf yX6_passIf, .code yX6_passIf cX6_passIf 2 none, .fieldLink RX6 22 "TwoWays$Text" "fault" "I", .methodLink RX6 49 yX6_blame, .instanceMethod yX6_blame, .selects RX6 yX6_blame yX6_blame, .code yX6_blame cX6_blame 2 none] ++ wsX60)
def wsX6_readMove_r1 : List Cond := [Cond.fieldLink RX6 22 "TwoWays$Text" "fault" "I", Cond.methodLink RX6 31 yX6_upcoming, Cond.instanceMethod yX6_upcoming, Cond.selects RX6 yX6_upcoming yX6_upcoming, Cond.initialized RX6, Cond.code yX6_upcoming cX6_upcoming 1 (some .int), Cond.fieldLink RX6 19 "TwoWays$Text" "place" "I", Cond.fieldLink RX6 15 "TwoWays$Text" "length" "I", Cond.fieldLink RX6 9 "TwoWays$Text" "letters" "[I", Cond.methodLink RX6 49 yX6_blame, Cond.instanceMethod yX6_blame, Cond.selects RX6 yX6_blame yX6_blame, Cond.code yX6_blame cX6_blame 2 none, Cond.methodLink RX6 42 yX6_takeLetter, Cond.instanceMethod yX6_takeLetter, Cond.selects RX6 yX6_takeLetter yX6_takeLetter, Cond.code yX6_takeLetter cX6_takeLetter 2 none, Cond.methodLink RX6 66 yX6_passIf, Cond.instanceMethod yX6_passIf, Cond.selects RX6 yX6_passIf yX6_passIf, Cond.code yX6_passIf cX6_passIf 2 none, Cond.methodLink RX6 52 yX3_size, Cond.instanceMethod yX3_size, Cond.selects RX3 yX3_size yX3_size]
def wsX6_readMove_r2 : List Cond := [Cond.initialized RX3, Cond.code yX3_size cX3_size 1 (some .int), Cond.fieldLink RX3 15 "TwoWays$Machine" "size" "I", Cond.methodLink RX6 45 yX6_takeFigure, Cond.instanceMethod yX6_takeFigure, Cond.selects RX6 yX6_takeFigure yX6_takeFigure, Cond.code yX6_takeFigure cX6_takeFigure 5 (some .int), Cond.methodLink RX6 55 yX6_takeSign, Cond.instanceMethod yX6_takeSign, Cond.selects RX6 yX6_takeSign yX6_takeSign, Cond.code yX6_takeSign cX6_takeSign 4 (some .int), Cond.methodLink RX6 70 yX6_signOf, Cond.static yX6_signOf, Cond.code yX6_signOf cX6_signOf 1 (some .int), Cond.methodLink RX6 74 yX3_at, Cond.instanceMethod yX3_at, Cond.selects RX3 yX3_at yX3_at, Cond.code yX3_at cX3_at 3 (some .int), Cond.fieldLink RX3 9 "TwoWays$Machine" "moves" "[I", Cond.static yX8_isSign, Cond.initialized RX8, Cond.code yX8_isSign cX8_isSign 1 (some .boolean), Cond.methodLink RX6 59 yX6_takeSide, Cond.instanceMethod yX6_takeSide]
def wsX6_readMove_r3 : List Cond := [Cond.selects RX6 yX6_takeSide yX6_takeSide, Cond.code yX6_takeSide cX6_takeSide 2 (some .int), Cond.methodLink RX6 62 yX3_put, Cond.instanceMethod yX3_put, Cond.selects RX3 yX3_put yX3_put, Cond.code yX3_put cX3_put 4 none, Cond.methodLink RX3 29 yX3_hasState, Cond.instanceMethod yX3_hasState, Cond.selects RX3 yX3_hasState yX3_hasState, Cond.code yX3_hasState cX3_hasState 2 (some .boolean)]
def wsX6_readMove : List Cond := .code yX6_readMove cX6_readMove 6 none :: ((wsX6_readMove_r1 ++ (wsX6_readMove_r2 ++ wsX6_readMove_r3)) ++ wsX60 ++ wsX30)
def wsX6_readInto_r1 : List Cond := [Cond.fieldLink RX6 19 "TwoWays$Text" "place" "I", Cond.fieldLink RX6 22 "TwoWays$Text" "fault" "I", Cond.methodLink RX6 25 yX3_empty, Cond.instanceMethod yX3_empty, Cond.selects RX3 yX3_empty yX3_empty, Cond.initialized RX3, Cond.code yX3_empty cX3_empty 2 none, Cond.methodLink RX3 32 Lib.Math.max.name, Cond.static Lib.Math.max.name, Cond.initialized "java/lang/Math", Cond.code Lib.Math.max.name Lib.Math.max.code 2 (some .int), Cond.methodLink RX3 38 Lib.Math.min.name, Cond.static Lib.Math.min.name, Cond.code Lib.Math.min.name Lib.Math.min.code 2 (some .int), Cond.fieldLink RX3 15 "TwoWays$Machine" "size" "I", Cond.fieldLink RX3 9 "TwoWays$Machine" "moves" "[I", Cond.methodLink RX3 19 yJ7_fill_53178, Cond.static yJ7_fill_53178, Cond.initialized RJ7, Cond.code yJ7_fill_53178 cJ7_fill_53178 4 none, Cond.methodLink RX6 31 yX6_upcoming, Cond.instanceMethod yX6_upcoming, Cond.selects RX6 yX6_upcoming yX6_upcoming, Cond.initialized RX6]
def wsX6_readInto_r2 : List Cond := [Cond.code yX6_upcoming cX6_upcoming 1 (some .int), Cond.fieldLink RX6 15 "TwoWays$Text" "length" "I", Cond.fieldLink RX6 9 "TwoWays$Text" "letters" "[I", Cond.methodLink RX6 35 yX6_readSize, Cond.instanceMethod yX6_readSize, Cond.selects RX6 yX6_readSize yX6_readSize, Cond.code yX6_readSize cX6_readSize 3 none, Cond.methodLink RX6 42 yX6_takeLetter, Cond.instanceMethod yX6_takeLetter, Cond.selects RX6 yX6_takeLetter yX6_takeLetter, Cond.code yX6_takeLetter cX6_takeLetter 2 none, Cond.methodLink RX6 66 yX6_passIf, Cond.instanceMethod yX6_passIf, Cond.selects RX6 yX6_passIf yX6_passIf, Cond.code yX6_passIf cX6_passIf 2 none, Cond.methodLink RX6 49 yX6_blame, Cond.instanceMethod yX6_blame, Cond.selects RX6 yX6_blame yX6_blame, Cond.code yX6_blame cX6_blame 2 none, Cond.methodLink RX6 45 yX6_takeFigure, Cond.instanceMethod yX6_takeFigure, Cond.selects RX6 yX6_takeFigure yX6_takeFigure, Cond.code yX6_takeFigure cX6_takeFigure 5 (some .int), Cond.methodLink RX6 39 yX6_readMove]
def wsX6_readInto_r3 : List Cond := [Cond.instanceMethod yX6_readMove, Cond.selects RX6 yX6_readMove yX6_readMove, Cond.code yX6_readMove cX6_readMove 6 none, Cond.methodLink RX6 52 yX3_size, Cond.instanceMethod yX3_size, Cond.selects RX3 yX3_size yX3_size, Cond.code yX3_size cX3_size 1 (some .int), Cond.methodLink RX6 55 yX6_takeSign, Cond.instanceMethod yX6_takeSign, Cond.selects RX6 yX6_takeSign yX6_takeSign, Cond.code yX6_takeSign cX6_takeSign 4 (some .int), Cond.methodLink RX6 70 yX6_signOf, Cond.static yX6_signOf, Cond.code yX6_signOf cX6_signOf 1 (some .int), Cond.methodLink RX6 74 yX3_at, Cond.instanceMethod yX3_at, Cond.selects RX3 yX3_at yX3_at, Cond.code yX3_at cX3_at 3 (some .int), Cond.static yX8_isSign, Cond.initialized RX8, Cond.code yX8_isSign cX8_isSign 1 (some .boolean), Cond.methodLink RX6 59 yX6_takeSide, Cond.instanceMethod yX6_takeSide, Cond.selects RX6 yX6_takeSide yX6_takeSide]
def wsX6_readInto_r4 : List Cond := [Cond.code yX6_takeSide cX6_takeSide 2 (some .int), Cond.methodLink RX6 62 yX3_put, Cond.instanceMethod yX3_put, Cond.selects RX3 yX3_put yX3_put, Cond.code yX3_put cX3_put 4 none, Cond.methodLink RX3 29 yX3_hasState, Cond.instanceMethod yX3_hasState, Cond.selects RX3 yX3_hasState yX3_hasState, Cond.code yX3_hasState cX3_hasState 2 (some .boolean)]
def wsX6_readInto : List Cond := .code yX6_readInto cX6_readInto 3 (some .int) :: ((wsX6_readInto_r1 ++ (wsX6_readInto_r2 ++ (wsX6_readInto_r3 ++ wsX6_readInto_r4))) ++ wsX60 ++ wsX30)
def wsX7_init : List Cond := .code yX7_init cX7_init 1 none :: ([.methodLink RX7 3 objectInit, .instanceMethod objectInit, .code objectInit ⟨#[0xb1]⟩ 1 none, .arrayClass .int, .fieldLink RX7 9 "TwoWays$Word" "letters" "[I"] ++ wsX70)
def wsX7_add : List Cond := .code yX7_add cX7_add 2 (some .boolean) :: ([.fieldLink RX7 15 "TwoWays$Word" "length" "I", .fieldLink RX7 9 "TwoWays$Word" "letters" "[I"] ++ wsX70)
def wsX7_number : List Cond := .code yX7_number cX7_number 3 (some .int) :: ([.fieldLink RX7 15 "TwoWays$Word" "length" "I", .methodLink RX7 19 yX7_letterAt, .instanceMethod yX7_letterAt, .selects RX7 yX7_letterAt yX7_letterAt, .initialized RX7, .code yX7_letterAt cX7_letterAt 2 (some .int), .fieldLink RX7 9 "TwoWays$Word" "letters" "[I"] ++ wsX70)
def wsX7_become : List Cond := .code yX7_become cX7_become 5 none :: ([.fieldLink RX7 15 "TwoWays$Word" "length" "I", .methodLink RX7 23 yX7_add, .instanceMethod yX7_add, .selects RX7 yX7_add yX7_add, .initialized RX7, .code yX7_add cX7_add 2 (some .boolean), .fieldLink RX7 9 "TwoWays$Word" "letters" "[I"] ++ wsX70)
def wsX7_turn : List Cond := .code yX7_turn cX7_turn 4 none :: ([.fieldLink RX7 15 "TwoWays$Word" "length" "I", .fieldLink RX7 9 "TwoWays$Word" "letters" "[I"] ++ wsX70)
def wsX8_init_r1 : List Cond := [Cond.methodLink RX8 3 objectInit, Cond.instanceMethod objectInit, Cond.code objectInit ⟨#[0xb1]⟩ 1 none, Cond.classLink RX8 9 RX0, Cond.instantiable RX0 2, Cond.initialized RX0, Cond.fieldLink RX8 12 "TwoWays" "machines" "LTwoWays$Both;", Cond.classLink RX8 16 RX2, Cond.instantiable RX2 3, Cond.initialized RX2, Cond.fieldLink RX8 19 "TwoWays" "history" "LTwoWays$History;", Cond.fieldLink RX8 23 "TwoWays" "images" "[LTwoWays$Both;", Cond.arrayClass .boolean, Cond.fieldLink RX8 27 "TwoWays" "imageKept" "[Z", Cond.classLink RX8 31 RX6, Cond.instantiable RX6 4, Cond.initialized RX6, Cond.fieldLink RX8 34 "TwoWays" "text" "LTwoWays$Text;", Cond.classLink RX8 38 RX3, Cond.instantiable RX3 3, Cond.initialized RX3, Cond.fieldLink RX8 41 "TwoWays" "draft" "LTwoWays$Machine;", Cond.classLink RX8 45 RX7, Cond.instantiable RX7 2]
def wsX8_init_r2 : List Cond := [Cond.initialized RX7, Cond.fieldLink RX8 48 "TwoWays" "theWord" "LTwoWays$Word;", Cond.fieldLink RX8 52 "TwoWays" "trial" "LTwoWays$Word;", Cond.classLink RX8 55 RX1, Cond.instantiable RX1 7, Cond.initialized RX1, Cond.fieldLink RX8 58 "TwoWays" "course" "LTwoWays$Course;", Cond.classLink RX8 62 RX5, Cond.instantiable RX5 16, Cond.initialized RX5, Cond.fieldLink RX8 65 "TwoWays" "oneWayOfZero" "LTwoWays$OneWay;", Cond.fieldLink RX8 69 "TwoWays" "oneWayOfOne" "LTwoWays$OneWay;", Cond.classLink RX8 72 RX4, Cond.instantiable RX4 3, Cond.initialized RX4, Cond.fieldLink RX8 75 "TwoWays" "meeting" "LTwoWays$Meeting;", Cond.fieldLink RX8 79 "TwoWays" "faultPlace" "I", Cond.instanceMethod yX0_init, Cond.code yX0_init cX0_init 1 none, Cond.methodLink RX0 1 objectInit, Cond.classLink RX0 7 RX3, Cond.fieldLink RX0 10 "TwoWays$Both" "zero" "LTwoWays$Machine;", Cond.fieldLink RX0 16 "TwoWays$Both" "one" "LTwoWays$Machine;", Cond.methodLink RX0 9 yX3_init]
def wsX8_init_r3 : List Cond := [Cond.instanceMethod yX3_init, Cond.code yX3_init cX3_init 1 none, Cond.methodLink RX3 3 objectInit, Cond.arrayClass .int, Cond.fieldLink RX3 9 "TwoWays$Machine" "moves" "[I", Cond.fieldLink RX3 15 "TwoWays$Machine" "size" "I", Cond.methodLink RX3 19 yJ7_fill_53178, Cond.static yJ7_fill_53178, Cond.initialized RJ7, Cond.code yJ7_fill_53178 cJ7_fill_53178 4 none, Cond.methodLink RX8 18 yX2_init, Cond.instanceMethod yX2_init, Cond.code yX2_init cX2_init 2 none, Cond.methodLink RX2 3 objectInit, Cond.classLink RX2 9 RX0, Cond.fieldLink RX2 11 "TwoWays$History" "ring" "[LTwoWays$Both;", Cond.instanceMethod yX6_init, Cond.code yX6_init cX6_init 1 none, Cond.methodLink RX6 3 objectInit, Cond.fieldLink RX6 9 "TwoWays$Text" "letters" "[I", Cond.methodLink RX8 40 yX3_init, Cond.instanceMethod yX7_init, Cond.code yX7_init cX7_init 1 none, Cond.methodLink RX7 3 objectInit]
def wsX8_init_r4 : List Cond := [Cond.fieldLink RX7 9 "TwoWays$Word" "letters" "[I", Cond.instanceMethod yX1_init, Cond.code yX1_init cX1_init 1 none, Cond.methodLink RX1 5 objectInit, Cond.fieldLink RX1 11 "TwoWays$Course" "statesSeen" "[I", Cond.fieldLink RX1 15 "TwoWays$Course" "gaps" "[I", Cond.fieldLink RX1 18 "TwoWays$Course" "states" "[I", Cond.instanceMethod yX5_init, Cond.code yX5_init cX5_init 1 none, Cond.methodLink RX5 5 objectInit, Cond.classLink RX5 11 RX3, Cond.fieldLink RX5 14 "TwoWays$OneWay" "source" "LTwoWays$Machine;", Cond.fieldLink RX5 18 "TwoWays$OneWay" "doings" "[I", Cond.fieldLink RX5 22 "TwoWays$OneWay" "found" "[I", Cond.fieldLink RX5 25 "TwoWays$OneWay" "numberByCode" "[I", Cond.fieldLink RX5 28 "TwoWays$OneWay" "nexts" "[I", Cond.fieldLink RX5 31 "TwoWays$OneWay" "goods" "[Z", Cond.fieldLink RX5 35 "TwoWays$OneWay" "words" "[I", Cond.fieldLink RX5 38 "TwoWays$OneWay" "groups" "[I", Cond.fieldLink RX5 41 "TwoWays$OneWay" "finerGroups" "[I", Cond.fieldLink RX5 44 "TwoWays$OneWay" "leaders" "[I", Cond.fieldLink RX5 47 "TwoWays$OneWay" "ways" "[I", Cond.fieldLink RX5 50 "TwoWays$OneWay" "longerWays" "[I", Cond.methodLink RX5 13 yX3_init]
def wsX8_init_r5 : List Cond := [Cond.instanceMethod yX4_init, Cond.code yX4_init cX4_init 1 none, Cond.methodLink RX4 5 objectInit, Cond.arrayClass .long, Cond.fieldLink RX4 11 "TwoWays$Meeting" "queue" "[J", Cond.fieldLink RX4 15 "TwoWays$Meeting" "met" "[I"]
def wsX8_init : List Cond := .code yX8_init cX8_init 2 none :: ((wsX8_init_r1 ++ (wsX8_init_r2 ++ (wsX8_init_r3 ++ (wsX8_init_r4 ++ wsX8_init_r5)))) ++ wsX00 ++ wsX80 ++ wsX20 ++ wsX60 ++ wsX30 ++ wsX70 ++ wsX10 ++ wsX50 ++ wsX40)
def wsX8_feed : List Cond := .code yX8_feed cX8_feed 2 (some .int) :: ([.constant RX8 83 (-1000000002), .fieldLink RX8 34 "TwoWays" "text" "LTwoWays$Text;", .constant RX8 92 (-1000000004), .methodLink RX8 84 yX6_add, .instanceMethod yX6_add, .selects RX6 yX6_add yX6_add, .initialized RX6, .code yX6_add cX6_add 2 (some .boolean), .fieldLink RX6 15 "TwoWays$Text" "length" "I", .fieldLink RX6 9 "TwoWays$Text" "letters" "[I", .methodLink RX8 88 yX6_length, .instanceMethod yX6_length, .selects RX6 yX6_length yX6_length, .code yX6_length cX6_length 1 (some .int)] ++ wsX80 ++ wsX60)
def wsX8_isMachine : List Cond := .code yX8_isMachine cX8_isMachine 1 (some .boolean) :: ([])
def wsX8_machine_r1 : List Cond := [Cond.constant RX8 96 (-1000000001), Cond.fieldLink RX8 34 "TwoWays" "text" "LTwoWays$Text;", Cond.fieldLink RX8 41 "TwoWays" "draft" "LTwoWays$Machine;", Cond.fieldLink RX8 79 "TwoWays" "faultPlace" "I", Cond.fieldLink RX8 19 "TwoWays" "history" "LTwoWays$History;", Cond.fieldLink RX8 12 "TwoWays" "machines" "LTwoWays$Both;", Cond.methodLink RX8 93 yX8_isMachine, Cond.static yX8_isMachine, Cond.initialized RX8, Cond.code yX8_isMachine cX8_isMachine 1 (some .boolean), Cond.methodLink RX8 97 yX6_readInto, Cond.instanceMethod yX6_readInto, Cond.selects RX6 yX6_readInto yX6_readInto, Cond.initialized RX6, Cond.code yX6_readInto cX6_readInto 3 (some .int), Cond.fieldLink RX6 19 "TwoWays$Text" "place" "I", Cond.fieldLink RX6 22 "TwoWays$Text" "fault" "I", Cond.methodLink RX6 25 yX3_empty, Cond.instanceMethod yX3_empty, Cond.selects RX3 yX3_empty yX3_empty, Cond.initialized RX3, Cond.code yX3_empty cX3_empty 2 none, Cond.methodLink RX3 32 Lib.Math.max.name, Cond.static Lib.Math.max.name]
def wsX8_machine_r2 : List Cond := [Cond.initialized "java/lang/Math", Cond.code Lib.Math.max.name Lib.Math.max.code 2 (some .int), Cond.methodLink RX3 38 Lib.Math.min.name, Cond.static Lib.Math.min.name, Cond.code Lib.Math.min.name Lib.Math.min.code 2 (some .int), Cond.fieldLink RX3 15 "TwoWays$Machine" "size" "I", Cond.fieldLink RX3 9 "TwoWays$Machine" "moves" "[I", Cond.methodLink RX3 19 yJ7_fill_53178, Cond.static yJ7_fill_53178, Cond.initialized RJ7, Cond.code yJ7_fill_53178 cJ7_fill_53178 4 none, Cond.methodLink RX6 31 yX6_upcoming, Cond.instanceMethod yX6_upcoming, Cond.selects RX6 yX6_upcoming yX6_upcoming, Cond.code yX6_upcoming cX6_upcoming 1 (some .int), Cond.fieldLink RX6 15 "TwoWays$Text" "length" "I", Cond.fieldLink RX6 9 "TwoWays$Text" "letters" "[I", Cond.methodLink RX6 35 yX6_readSize, Cond.instanceMethod yX6_readSize, Cond.selects RX6 yX6_readSize yX6_readSize, Cond.code yX6_readSize cX6_readSize 3 none, Cond.methodLink RX6 42 yX6_takeLetter, Cond.instanceMethod yX6_takeLetter, Cond.selects RX6 yX6_takeLetter yX6_takeLetter]
def wsX8_machine_r3 : List Cond := [Cond.code yX6_takeLetter cX6_takeLetter 2 none, Cond.methodLink RX6 66 yX6_passIf, Cond.instanceMethod yX6_passIf, Cond.selects RX6 yX6_passIf yX6_passIf, Cond.code yX6_passIf cX6_passIf 2 none, Cond.methodLink RX6 49 yX6_blame, Cond.instanceMethod yX6_blame, Cond.selects RX6 yX6_blame yX6_blame, Cond.code yX6_blame cX6_blame 2 none, Cond.methodLink RX6 45 yX6_takeFigure, Cond.instanceMethod yX6_takeFigure, Cond.selects RX6 yX6_takeFigure yX6_takeFigure, Cond.code yX6_takeFigure cX6_takeFigure 5 (some .int), Cond.methodLink RX6 39 yX6_readMove, Cond.instanceMethod yX6_readMove, Cond.selects RX6 yX6_readMove yX6_readMove, Cond.code yX6_readMove cX6_readMove 6 none, Cond.methodLink RX6 52 yX3_size, Cond.instanceMethod yX3_size, Cond.selects RX3 yX3_size yX3_size, Cond.code yX3_size cX3_size 1 (some .int), Cond.methodLink RX6 55 yX6_takeSign, Cond.instanceMethod yX6_takeSign, Cond.selects RX6 yX6_takeSign yX6_takeSign]
def wsX8_machine_r4 : List Cond := [Cond.code yX6_takeSign cX6_takeSign 4 (some .int), Cond.methodLink RX6 70 yX6_signOf, Cond.static yX6_signOf, Cond.code yX6_signOf cX6_signOf 1 (some .int), Cond.methodLink RX6 74 yX3_at, Cond.instanceMethod yX3_at, Cond.selects RX3 yX3_at yX3_at, Cond.code yX3_at cX3_at 3 (some .int), Cond.static yX8_isSign, Cond.code yX8_isSign cX8_isSign 1 (some .boolean), Cond.methodLink RX6 59 yX6_takeSide, Cond.instanceMethod yX6_takeSide, Cond.selects RX6 yX6_takeSide yX6_takeSide, Cond.code yX6_takeSide cX6_takeSide 2 (some .int), Cond.methodLink RX6 62 yX3_put, Cond.instanceMethod yX3_put, Cond.selects RX3 yX3_put yX3_put, Cond.code yX3_put cX3_put 4 none, Cond.methodLink RX3 29 yX3_hasState, Cond.instanceMethod yX3_hasState, Cond.selects RX3 yX3_hasState yX3_hasState, Cond.code yX3_hasState cX3_hasState 2 (some .boolean), Cond.methodLink RX8 101 yX6_place, Cond.instanceMethod yX6_place]
def wsX8_machine_r5 : List Cond := [Cond.selects RX6 yX6_place yX6_place, Cond.code yX6_place cX6_place 1 (some .int), Cond.methodLink RX8 104 yX6_clear, Cond.instanceMethod yX6_clear, Cond.selects RX6 yX6_clear yX6_clear, Cond.code yX6_clear cX6_clear 1 none, Cond.methodLink RX8 107 yX2_remember, Cond.instanceMethod yX2_remember, Cond.selects RX2 yX2_remember yX2_remember, Cond.initialized RX2, Cond.code yX2_remember cX2_remember 3 none, Cond.fieldLink RX2 22 "TwoWays$History" "free" "I", Cond.fieldLink RX2 18 "TwoWays$History" "size" "I", Cond.methodLink RX2 33 Lib.Math.min.name, Cond.methodLink RX2 25 yX2_slotAt, Cond.instanceMethod yX2_slotAt, Cond.selects RX2 yX2_slotAt yX2_slotAt, Cond.code yX2_slotAt cX2_slotAt 2 (some (.object "TwoWays$Both")), Cond.fieldLink RX2 11 "TwoWays$History" "ring" "[LTwoWays$Both;", Cond.methodLink RX2 29 yX0_become, Cond.instanceMethod yX0_become, Cond.selects RX0 yX0_become yX0_become, Cond.initialized RX0, Cond.code yX0_become cX0_become 2 none]
def wsX8_machine_r6 : List Cond := [Cond.fieldLink RX0 10 "TwoWays$Both" "zero" "LTwoWays$Machine;", Cond.fieldLink RX0 16 "TwoWays$Both" "one" "LTwoWays$Machine;", Cond.methodLink RX0 19 yX3_become, Cond.instanceMethod yX3_become, Cond.selects RX3 yX3_become yX3_become, Cond.code yX3_become cX3_become 2 none, Cond.methodLink RX3 41 arraycopyName, Cond.native arraycopyName, Cond.static arraycopyName, Cond.initialized "java/lang/System", Cond.methodLink RX8 111 yX0_at, Cond.instanceMethod yX0_at, Cond.selects RX0 yX0_at yX0_at, Cond.code yX0_at cX0_at 2 (some (.object "TwoWays$Machine")), Cond.methodLink RX8 115 yX3_become, Cond.methodLink RX8 119 yX3_size]
def wsX8_machine : List Cond := .code yX8_machine cX8_machine 3 (some .int) :: ((wsX8_machine_r1 ++ (wsX8_machine_r2 ++ (wsX8_machine_r3 ++ (wsX8_machine_r4 ++ (wsX8_machine_r5 ++ wsX8_machine_r6))))) ++ wsX80 ++ wsX60 ++ wsX30 ++ wsX20 ++ wsX00)
def wsX8_fault : List Cond := .code yX8_fault cX8_fault 1 (some .int) :: ([.fieldLink RX8 79 "TwoWays" "faultPlace" "I"] ++ wsX80)
def wsX8_hasMoveOf : List Cond := .code yX8_hasMoveOf cX8_hasMoveOf 4 (some .boolean) :: ([.fieldLink RX8 12 "TwoWays" "machines" "LTwoWays$Both;", .methodLink RX8 93 yX8_isMachine, .static yX8_isMachine, .initialized RX8, .code yX8_isMachine cX8_isMachine 1 (some .boolean), .methodLink RX8 111 yX0_at, .instanceMethod yX0_at, .selects RX0 yX0_at yX0_at, .initialized RX0, .code yX0_at cX0_at 2 (some (.object "TwoWays$Machine")), .fieldLink RX0 10 "TwoWays$Both" "zero" "LTwoWays$Machine;", .fieldLink RX0 16 "TwoWays$Both" "one" "LTwoWays$Machine;", .methodLink RX8 126 yX3_hasState, .instanceMethod yX3_hasState, .selects RX3 yX3_hasState yX3_hasState, .initialized RX3, .code yX3_hasState cX3_hasState 2 (some .boolean), .fieldLink RX3 15 "TwoWays$Machine" "size" "I", .methodLink RX8 262 yX8_isSign, .static yX8_isSign, .code yX8_isSign cX8_isSign 1 (some .boolean)] ++ wsX80 ++ wsX00 ++ wsX30)
def wsX8_isSide : List Cond := .code yX8_isSide cX8_isSide 1 (some .boolean) :: ([])
def wsX8_change_r1 : List Cond := [Cond.fieldLink RX8 19 "TwoWays" "history" "LTwoWays$History;", Cond.fieldLink RX8 12 "TwoWays" "machines" "LTwoWays$Both;", Cond.methodLink RX8 107 yX2_remember, Cond.instanceMethod yX2_remember, Cond.selects RX2 yX2_remember yX2_remember, Cond.initialized RX2, Cond.code yX2_remember cX2_remember 3 none, Cond.fieldLink RX2 22 "TwoWays$History" "free" "I", Cond.fieldLink RX2 18 "TwoWays$History" "size" "I", Cond.methodLink RX2 33 Lib.Math.min.name, Cond.static Lib.Math.min.name, Cond.initialized "java/lang/Math", Cond.code Lib.Math.min.name Lib.Math.min.code 2 (some .int), Cond.methodLink RX2 25 yX2_slotAt, Cond.instanceMethod yX2_slotAt, Cond.selects RX2 yX2_slotAt yX2_slotAt, Cond.code yX2_slotAt cX2_slotAt 2 (some (.object "TwoWays$Both")), Cond.fieldLink RX2 11 "TwoWays$History" "ring" "[LTwoWays$Both;", Cond.methodLink RX2 29 yX0_become, Cond.instanceMethod yX0_become, Cond.selects RX0 yX0_become yX0_become, Cond.initialized RX0, Cond.code yX0_become cX0_become 2 none, Cond.fieldLink RX0 10 "TwoWays$Both" "zero" "LTwoWays$Machine;"]
def wsX8_change_r2 : List Cond := [Cond.fieldLink RX0 16 "TwoWays$Both" "one" "LTwoWays$Machine;", Cond.methodLink RX0 19 yX3_become, Cond.instanceMethod yX3_become, Cond.selects RX3 yX3_become yX3_become, Cond.initialized RX3, Cond.code yX3_become cX3_become 2 none, Cond.fieldLink RX3 15 "TwoWays$Machine" "size" "I", Cond.fieldLink RX3 9 "TwoWays$Machine" "moves" "[I", Cond.methodLink RX3 41 arraycopyName, Cond.native arraycopyName, Cond.static arraycopyName, Cond.initialized "java/lang/System", Cond.methodLink RX8 136 yX3_at, Cond.instanceMethod yX3_at, Cond.selects RX3 yX3_at yX3_at, Cond.code yX3_at cX3_at 3 (some .int), Cond.static yX8_isSign, Cond.initialized RX8, Cond.code yX8_isSign cX8_isSign 1 (some .boolean), Cond.methodLink RX8 265 yX3_put, Cond.instanceMethod yX3_put, Cond.selects RX3 yX3_put yX3_put, Cond.code yX3_put cX3_put 4 none, Cond.methodLink RX3 29 yX3_hasState]
def wsX8_change_r3 : List Cond := [Cond.instanceMethod yX3_hasState, Cond.selects RX3 yX3_hasState yX3_hasState, Cond.code yX3_hasState cX3_hasState 2 (some .boolean)]
def wsX8_change : List Cond := .code yX8_change cX8_change 6 (some .int) :: ((wsX8_change_r1 ++ (wsX8_change_r2 ++ wsX8_change_r3)) ++ wsX80 ++ wsX20 ++ wsX00 ++ wsX30)
def wsX8_move_r1 : List Cond := [Cond.fieldLink RX8 12 "TwoWays" "machines" "LTwoWays$Both;", Cond.constant RX8 96 (-1000000001), Cond.constant RX8 83 (-1000000002), Cond.methodLink RX8 122 yX8_hasMoveOf, Cond.instanceMethod yX8_hasMoveOf, Cond.selects RX8 yX8_hasMoveOf yX8_hasMoveOf, Cond.initialized RX8, Cond.code yX8_hasMoveOf cX8_hasMoveOf 4 (some .boolean), Cond.methodLink RX8 93 yX8_isMachine, Cond.static yX8_isMachine, Cond.code yX8_isMachine cX8_isMachine 1 (some .boolean), Cond.methodLink RX8 111 yX0_at, Cond.instanceMethod yX0_at, Cond.selects RX0 yX0_at yX0_at, Cond.initialized RX0, Cond.code yX0_at cX0_at 2 (some (.object "TwoWays$Machine")), Cond.fieldLink RX0 10 "TwoWays$Both" "zero" "LTwoWays$Machine;", Cond.fieldLink RX0 16 "TwoWays$Both" "one" "LTwoWays$Machine;", Cond.methodLink RX8 126 yX3_hasState, Cond.instanceMethod yX3_hasState, Cond.selects RX3 yX3_hasState yX3_hasState, Cond.initialized RX3, Cond.code yX3_hasState cX3_hasState 2 (some .boolean), Cond.fieldLink RX3 15 "TwoWays$Machine" "size" "I"]
def wsX8_move_r2 : List Cond := [Cond.methodLink RX8 262 yX8_isSign, Cond.static yX8_isSign, Cond.code yX8_isSign cX8_isSign 1 (some .boolean), Cond.methodLink RX8 129 yX8_isSide, Cond.static yX8_isSide, Cond.code yX8_isSide cX8_isSide 1 (some .boolean), Cond.methodLink RX8 132 yX8_change, Cond.instanceMethod yX8_change, Cond.selects RX8 yX8_change yX8_change, Cond.code yX8_change cX8_change 6 (some .int), Cond.fieldLink RX8 19 "TwoWays" "history" "LTwoWays$History;", Cond.methodLink RX8 107 yX2_remember, Cond.instanceMethod yX2_remember, Cond.selects RX2 yX2_remember yX2_remember, Cond.initialized RX2, Cond.code yX2_remember cX2_remember 3 none, Cond.fieldLink RX2 22 "TwoWays$History" "free" "I", Cond.fieldLink RX2 18 "TwoWays$History" "size" "I", Cond.methodLink RX2 33 Lib.Math.min.name, Cond.static Lib.Math.min.name, Cond.initialized "java/lang/Math", Cond.code Lib.Math.min.name Lib.Math.min.code 2 (some .int), Cond.methodLink RX2 25 yX2_slotAt, Cond.instanceMethod yX2_slotAt]
def wsX8_move_r3 : List Cond := [Cond.selects RX2 yX2_slotAt yX2_slotAt, Cond.code yX2_slotAt cX2_slotAt 2 (some (.object "TwoWays$Both")), Cond.fieldLink RX2 11 "TwoWays$History" "ring" "[LTwoWays$Both;", Cond.methodLink RX2 29 yX0_become, Cond.instanceMethod yX0_become, Cond.selects RX0 yX0_become yX0_become, Cond.code yX0_become cX0_become 2 none, Cond.methodLink RX0 19 yX3_become, Cond.instanceMethod yX3_become, Cond.selects RX3 yX3_become yX3_become, Cond.code yX3_become cX3_become 2 none, Cond.fieldLink RX3 9 "TwoWays$Machine" "moves" "[I", Cond.methodLink RX3 41 arraycopyName, Cond.native arraycopyName, Cond.static arraycopyName, Cond.initialized "java/lang/System", Cond.methodLink RX8 136 yX3_at, Cond.instanceMethod yX3_at, Cond.selects RX3 yX3_at yX3_at, Cond.code yX3_at cX3_at 3 (some .int), Cond.methodLink RX8 265 yX3_put, Cond.instanceMethod yX3_put, Cond.selects RX3 yX3_put yX3_put, Cond.code yX3_put cX3_put 4 none]
def wsX8_move_r4 : List Cond := [Cond.methodLink RX3 29 yX3_hasState]
def wsX8_move : List Cond := .code yX8_move cX8_move 6 (some .int) :: ((wsX8_move_r1 ++ (wsX8_move_r2 ++ (wsX8_move_r3 ++ wsX8_move_r4))) ++ wsX80 ++ wsX00 ++ wsX30 ++ wsX20)
def wsX8_none_r1 : List Cond := [Cond.constant RX8 96 (-1000000001), Cond.fieldLink RX8 12 "TwoWays" "machines" "LTwoWays$Both;", Cond.constant RX8 139 (-1000000003), Cond.methodLink RX8 122 yX8_hasMoveOf, Cond.instanceMethod yX8_hasMoveOf, Cond.selects RX8 yX8_hasMoveOf yX8_hasMoveOf, Cond.initialized RX8, Cond.code yX8_hasMoveOf cX8_hasMoveOf 4 (some .boolean), Cond.methodLink RX8 93 yX8_isMachine, Cond.static yX8_isMachine, Cond.code yX8_isMachine cX8_isMachine 1 (some .boolean), Cond.methodLink RX8 111 yX0_at, Cond.instanceMethod yX0_at, Cond.selects RX0 yX0_at yX0_at, Cond.initialized RX0, Cond.code yX0_at cX0_at 2 (some (.object "TwoWays$Machine")), Cond.fieldLink RX0 10 "TwoWays$Both" "zero" "LTwoWays$Machine;", Cond.fieldLink RX0 16 "TwoWays$Both" "one" "LTwoWays$Machine;", Cond.methodLink RX8 126 yX3_hasState, Cond.instanceMethod yX3_hasState, Cond.selects RX3 yX3_hasState yX3_hasState, Cond.initialized RX3, Cond.code yX3_hasState cX3_hasState 2 (some .boolean), Cond.fieldLink RX3 15 "TwoWays$Machine" "size" "I"]
def wsX8_none_r2 : List Cond := [Cond.methodLink RX8 262 yX8_isSign, Cond.static yX8_isSign, Cond.code yX8_isSign cX8_isSign 1 (some .boolean), Cond.methodLink RX8 136 yX3_at, Cond.instanceMethod yX3_at, Cond.selects RX3 yX3_at yX3_at, Cond.code yX3_at cX3_at 3 (some .int), Cond.fieldLink RX3 9 "TwoWays$Machine" "moves" "[I", Cond.methodLink RX8 132 yX8_change, Cond.instanceMethod yX8_change, Cond.selects RX8 yX8_change yX8_change, Cond.code yX8_change cX8_change 6 (some .int), Cond.fieldLink RX8 19 "TwoWays" "history" "LTwoWays$History;", Cond.methodLink RX8 107 yX2_remember, Cond.instanceMethod yX2_remember, Cond.selects RX2 yX2_remember yX2_remember, Cond.initialized RX2, Cond.code yX2_remember cX2_remember 3 none, Cond.fieldLink RX2 22 "TwoWays$History" "free" "I", Cond.fieldLink RX2 18 "TwoWays$History" "size" "I", Cond.methodLink RX2 33 Lib.Math.min.name, Cond.static Lib.Math.min.name, Cond.initialized "java/lang/Math", Cond.code Lib.Math.min.name Lib.Math.min.code 2 (some .int)]
def wsX8_none_r3 : List Cond := [Cond.methodLink RX2 25 yX2_slotAt, Cond.instanceMethod yX2_slotAt, Cond.selects RX2 yX2_slotAt yX2_slotAt, Cond.code yX2_slotAt cX2_slotAt 2 (some (.object "TwoWays$Both")), Cond.fieldLink RX2 11 "TwoWays$History" "ring" "[LTwoWays$Both;", Cond.methodLink RX2 29 yX0_become, Cond.instanceMethod yX0_become, Cond.selects RX0 yX0_become yX0_become, Cond.code yX0_become cX0_become 2 none, Cond.methodLink RX0 19 yX3_become, Cond.instanceMethod yX3_become, Cond.selects RX3 yX3_become yX3_become, Cond.code yX3_become cX3_become 2 none, Cond.methodLink RX3 41 arraycopyName, Cond.native arraycopyName, Cond.static arraycopyName, Cond.initialized "java/lang/System", Cond.methodLink RX8 265 yX3_put, Cond.instanceMethod yX3_put, Cond.selects RX3 yX3_put yX3_put, Cond.code yX3_put cX3_put 4 none, Cond.methodLink RX3 29 yX3_hasState]
def wsX8_none : List Cond := .code yX8_none cX8_none 4 (some .int) :: ((wsX8_none_r1 ++ (wsX8_none_r2 ++ wsX8_none_r3)) ++ wsX80 ++ wsX00 ++ wsX30 ++ wsX20)
def wsX8_states_r1 : List Cond := [Cond.constant RX8 96 (-1000000001), Cond.constant RX8 83 (-1000000002), Cond.fieldLink RX8 19 "TwoWays" "history" "LTwoWays$History;", Cond.fieldLink RX8 12 "TwoWays" "machines" "LTwoWays$Both;", Cond.methodLink RX8 93 yX8_isMachine, Cond.static yX8_isMachine, Cond.initialized RX8, Cond.code yX8_isMachine cX8_isMachine 1 (some .boolean), Cond.methodLink RX8 107 yX2_remember, Cond.instanceMethod yX2_remember, Cond.selects RX2 yX2_remember yX2_remember, Cond.initialized RX2, Cond.code yX2_remember cX2_remember 3 none, Cond.fieldLink RX2 22 "TwoWays$History" "free" "I", Cond.fieldLink RX2 18 "TwoWays$History" "size" "I", Cond.methodLink RX2 33 Lib.Math.min.name, Cond.static Lib.Math.min.name, Cond.initialized "java/lang/Math", Cond.code Lib.Math.min.name Lib.Math.min.code 2 (some .int), Cond.methodLink RX2 25 yX2_slotAt, Cond.instanceMethod yX2_slotAt, Cond.selects RX2 yX2_slotAt yX2_slotAt, Cond.code yX2_slotAt cX2_slotAt 2 (some (.object "TwoWays$Both")), Cond.fieldLink RX2 11 "TwoWays$History" "ring" "[LTwoWays$Both;"]
def wsX8_states_r2 : List Cond := [Cond.methodLink RX2 29 yX0_become, Cond.instanceMethod yX0_become, Cond.selects RX0 yX0_become yX0_become, Cond.initialized RX0, Cond.code yX0_become cX0_become 2 none, Cond.fieldLink RX0 10 "TwoWays$Both" "zero" "LTwoWays$Machine;", Cond.fieldLink RX0 16 "TwoWays$Both" "one" "LTwoWays$Machine;", Cond.methodLink RX0 19 yX3_become, Cond.instanceMethod yX3_become, Cond.selects RX3 yX3_become yX3_become, Cond.initialized RX3, Cond.code yX3_become cX3_become 2 none, Cond.fieldLink RX3 15 "TwoWays$Machine" "size" "I", Cond.fieldLink RX3 9 "TwoWays$Machine" "moves" "[I", Cond.methodLink RX3 41 arraycopyName, Cond.native arraycopyName, Cond.static arraycopyName, Cond.initialized "java/lang/System", Cond.methodLink RX8 111 yX0_at, Cond.instanceMethod yX0_at, Cond.selects RX0 yX0_at yX0_at, Cond.code yX0_at cX0_at 2 (some (.object "TwoWays$Machine")), Cond.methodLink RX8 119 yX3_size, Cond.instanceMethod yX3_size]
def wsX8_states_r3 : List Cond := [Cond.selects RX3 yX3_size yX3_size, Cond.code yX3_size cX3_size 1 (some .int), Cond.methodLink RX8 140 yX3_empty, Cond.instanceMethod yX3_empty, Cond.selects RX3 yX3_empty yX3_empty, Cond.code yX3_empty cX3_empty 2 none, Cond.methodLink RX3 32 Lib.Math.max.name, Cond.static Lib.Math.max.name, Cond.code Lib.Math.max.name Lib.Math.max.code 2 (some .int), Cond.methodLink RX3 38 Lib.Math.min.name, Cond.methodLink RX3 19 yJ7_fill_53178, Cond.static yJ7_fill_53178, Cond.initialized RJ7, Cond.code yJ7_fill_53178 cJ7_fill_53178 4 none]
def wsX8_states : List Cond := .code yX8_states cX8_states 4 (some .int) :: ((wsX8_states_r1 ++ (wsX8_states_r2 ++ wsX8_states_r3)) ++ wsX80 ++ wsX20 ++ wsX00 ++ wsX30)
def wsX8_drift_r1 : List Cond := [Cond.constant RX8 96 (-1000000001), Cond.constant RX8 144 (999999), Cond.constant RX8 83 (-1000000002), Cond.fieldLink RX8 19 "TwoWays" "history" "LTwoWays$History;", Cond.fieldLink RX8 12 "TwoWays" "machines" "LTwoWays$Both;", Cond.methodLink RX8 93 yX8_isMachine, Cond.static yX8_isMachine, Cond.initialized RX8, Cond.code yX8_isMachine cX8_isMachine 1 (some .boolean), Cond.methodLink RX8 107 yX2_remember, Cond.instanceMethod yX2_remember, Cond.selects RX2 yX2_remember yX2_remember, Cond.initialized RX2, Cond.code yX2_remember cX2_remember 3 none, Cond.fieldLink RX2 22 "TwoWays$History" "free" "I", Cond.fieldLink RX2 18 "TwoWays$History" "size" "I", Cond.methodLink RX2 33 Lib.Math.min.name, Cond.static Lib.Math.min.name, Cond.initialized "java/lang/Math", Cond.code Lib.Math.min.name Lib.Math.min.code 2 (some .int), Cond.methodLink RX2 25 yX2_slotAt, Cond.instanceMethod yX2_slotAt, Cond.selects RX2 yX2_slotAt yX2_slotAt, Cond.code yX2_slotAt cX2_slotAt 2 (some (.object "TwoWays$Both"))]
def wsX8_drift_r2 : List Cond := [Cond.fieldLink RX2 11 "TwoWays$History" "ring" "[LTwoWays$Both;", Cond.methodLink RX2 29 yX0_become, Cond.instanceMethod yX0_become, Cond.selects RX0 yX0_become yX0_become, Cond.initialized RX0, Cond.code yX0_become cX0_become 2 none, Cond.fieldLink RX0 10 "TwoWays$Both" "zero" "LTwoWays$Machine;", Cond.fieldLink RX0 16 "TwoWays$Both" "one" "LTwoWays$Machine;", Cond.methodLink RX0 19 yX3_become, Cond.instanceMethod yX3_become, Cond.selects RX3 yX3_become yX3_become, Cond.initialized RX3, Cond.code yX3_become cX3_become 2 none, Cond.fieldLink RX3 15 "TwoWays$Machine" "size" "I", Cond.fieldLink RX3 9 "TwoWays$Machine" "moves" "[I", Cond.methodLink RX3 41 arraycopyName, Cond.native arraycopyName, Cond.static arraycopyName, Cond.initialized "java/lang/System", Cond.methodLink RX8 111 yX0_at, Cond.instanceMethod yX0_at, Cond.selects RX0 yX0_at yX0_at, Cond.code yX0_at cX0_at 2 (some (.object "TwoWays$Machine")), Cond.methodLink RX8 145 yX3_drawLots]
def wsX8_drift_r3 : List Cond := [Cond.instanceMethod yX3_drawLots, Cond.selects RX3 yX3_drawLots yX3_drawLots, Cond.code yX3_drawLots cX3_drawLots 4 none, Cond.fieldLink RX3 47 "TwoWays$Machine" "lot" "J", Cond.methodLink RX3 51 yX3_drawLot, Cond.instanceMethod yX3_drawLot, Cond.selects RX3 yX3_drawLot yX3_drawLot, Cond.code yX3_drawLot cX3_drawLot 2 (some .int), Cond.constantLong RX3 63 (16807), Cond.constantLong RX3 65 (2147483647), Cond.methodLink RX3 55 yX3_drawMove, Cond.instanceMethod yX3_drawMove, Cond.selects RX3 yX3_drawMove yX3_drawMove, Cond.code yX3_drawMove cX3_drawMove 2 (some .int), Cond.methodLink RX3 59 yX3_put, Cond.instanceMethod yX3_put, Cond.selects RX3 yX3_put yX3_put, Cond.code yX3_put cX3_put 4 none, Cond.methodLink RX3 29 yX3_hasState, Cond.instanceMethod yX3_hasState, Cond.selects RX3 yX3_hasState yX3_hasState, Cond.code yX3_hasState cX3_hasState 2 (some .boolean), Cond.static yX8_isSign, Cond.code yX8_isSign cX8_isSign 1 (some .boolean)]
def wsX8_drift_r4 : List Cond := [Cond.methodLink RX8 148 yX3_countMoves, Cond.instanceMethod yX3_countMoves, Cond.selects RX3 yX3_countMoves yX3_countMoves, Cond.code yX3_countMoves cX3_countMoves 3 (some .int)]
def wsX8_drift : List Cond := .code yX8_drift cX8_drift 3 (some .int) :: ((wsX8_drift_r1 ++ (wsX8_drift_r2 ++ (wsX8_drift_r3 ++ wsX8_drift_r4))) ++ wsX80 ++ wsX20 ++ wsX00 ++ wsX30)
def wsX8_swap_r1 : List Cond := [Cond.fieldLink RX8 19 "TwoWays" "history" "LTwoWays$History;", Cond.fieldLink RX8 12 "TwoWays" "machines" "LTwoWays$Both;", Cond.fieldLink RX8 41 "TwoWays" "draft" "LTwoWays$Machine;", Cond.methodLink RX8 107 yX2_remember, Cond.instanceMethod yX2_remember, Cond.selects RX2 yX2_remember yX2_remember, Cond.initialized RX2, Cond.code yX2_remember cX2_remember 3 none, Cond.fieldLink RX2 22 "TwoWays$History" "free" "I", Cond.fieldLink RX2 18 "TwoWays$History" "size" "I", Cond.methodLink RX2 33 Lib.Math.min.name, Cond.static Lib.Math.min.name, Cond.initialized "java/lang/Math", Cond.code Lib.Math.min.name Lib.Math.min.code 2 (some .int), Cond.methodLink RX2 25 yX2_slotAt, Cond.instanceMethod yX2_slotAt, Cond.selects RX2 yX2_slotAt yX2_slotAt, Cond.code yX2_slotAt cX2_slotAt 2 (some (.object "TwoWays$Both")), Cond.fieldLink RX2 11 "TwoWays$History" "ring" "[LTwoWays$Both;", Cond.methodLink RX2 29 yX0_become, Cond.instanceMethod yX0_become, Cond.selects RX0 yX0_become yX0_become, Cond.initialized RX0, Cond.code yX0_become cX0_become 2 none]
def wsX8_swap_r2 : List Cond := [Cond.fieldLink RX0 10 "TwoWays$Both" "zero" "LTwoWays$Machine;", Cond.fieldLink RX0 16 "TwoWays$Both" "one" "LTwoWays$Machine;", Cond.methodLink RX0 19 yX3_become, Cond.instanceMethod yX3_become, Cond.selects RX3 yX3_become yX3_become, Cond.initialized RX3, Cond.code yX3_become cX3_become 2 none, Cond.fieldLink RX3 15 "TwoWays$Machine" "size" "I", Cond.fieldLink RX3 9 "TwoWays$Machine" "moves" "[I", Cond.methodLink RX3 41 arraycopyName, Cond.native arraycopyName, Cond.static arraycopyName, Cond.initialized "java/lang/System", Cond.methodLink RX8 111 yX0_at, Cond.instanceMethod yX0_at, Cond.selects RX0 yX0_at yX0_at, Cond.code yX0_at cX0_at 2 (some (.object "TwoWays$Machine")), Cond.methodLink RX8 151 yX3_isLike, Cond.instanceMethod yX3_isLike, Cond.selects RX3 yX3_isLike yX3_isLike, Cond.code yX3_isLike cX3_isLike 3 (some .boolean), Cond.methodLink RX8 155 yX0_changePlaces, Cond.instanceMethod yX0_changePlaces, Cond.selects RX0 yX0_changePlaces yX0_changePlaces]
def wsX8_swap_r3 : List Cond := [Cond.code yX0_changePlaces cX0_changePlaces 2 none]
def wsX8_swap : List Cond := .code yX8_swap cX8_swap 2 (some .int) :: ((wsX8_swap_r1 ++ (wsX8_swap_r2 ++ wsX8_swap_r3)) ++ wsX80 ++ wsX20 ++ wsX00 ++ wsX30)
def wsX8_undo_r1 : List Cond := [Cond.fieldLink RX8 19 "TwoWays" "history" "LTwoWays$History;", Cond.fieldLink RX8 12 "TwoWays" "machines" "LTwoWays$Both;", Cond.constant RX8 139 (-1000000003), Cond.methodLink RX8 158 yX2_stepBack, Cond.instanceMethod yX2_stepBack, Cond.selects RX2 yX2_stepBack yX2_stepBack, Cond.initialized RX2, Cond.code yX2_stepBack cX2_stepBack 3 (some .boolean), Cond.fieldLink RX2 18 "TwoWays$History" "size" "I", Cond.fieldLink RX2 22 "TwoWays$History" "free" "I", Cond.methodLink RX2 25 yX2_slotAt, Cond.instanceMethod yX2_slotAt, Cond.selects RX2 yX2_slotAt yX2_slotAt, Cond.code yX2_slotAt cX2_slotAt 2 (some (.object "TwoWays$Both")), Cond.fieldLink RX2 11 "TwoWays$History" "ring" "[LTwoWays$Both;", Cond.methodLink RX2 29 yX0_become, Cond.instanceMethod yX0_become, Cond.selects RX0 yX0_become yX0_become, Cond.initialized RX0, Cond.code yX0_become cX0_become 2 none, Cond.fieldLink RX0 10 "TwoWays$Both" "zero" "LTwoWays$Machine;", Cond.fieldLink RX0 16 "TwoWays$Both" "one" "LTwoWays$Machine;", Cond.methodLink RX0 19 yX3_become, Cond.instanceMethod yX3_become]
def wsX8_undo_r2 : List Cond := [Cond.selects RX3 yX3_become yX3_become, Cond.initialized RX3, Cond.code yX3_become cX3_become 2 none, Cond.fieldLink RX3 15 "TwoWays$Machine" "size" "I", Cond.fieldLink RX3 9 "TwoWays$Machine" "moves" "[I", Cond.methodLink RX3 41 arraycopyName, Cond.native arraycopyName, Cond.static arraycopyName, Cond.initialized "java/lang/System", Cond.methodLink RX8 162 yX2_size, Cond.instanceMethod yX2_size, Cond.selects RX2 yX2_size yX2_size, Cond.code yX2_size cX2_size 1 (some .int)]
def wsX8_undo : List Cond := .code yX8_undo cX8_undo 1 (some .int) :: ((wsX8_undo_r1 ++ wsX8_undo_r2) ++ wsX80 ++ wsX20 ++ wsX00 ++ wsX30)
def wsX8_moveOf_r1 : List Cond := [Cond.fieldLink RX8 12 "TwoWays" "machines" "LTwoWays$Both;", Cond.constant RX8 96 (-1000000001), Cond.methodLink RX8 122 yX8_hasMoveOf, Cond.instanceMethod yX8_hasMoveOf, Cond.selects RX8 yX8_hasMoveOf yX8_hasMoveOf, Cond.initialized RX8, Cond.code yX8_hasMoveOf cX8_hasMoveOf 4 (some .boolean), Cond.methodLink RX8 93 yX8_isMachine, Cond.static yX8_isMachine, Cond.code yX8_isMachine cX8_isMachine 1 (some .boolean), Cond.methodLink RX8 111 yX0_at, Cond.instanceMethod yX0_at, Cond.selects RX0 yX0_at yX0_at, Cond.initialized RX0, Cond.code yX0_at cX0_at 2 (some (.object "TwoWays$Machine")), Cond.fieldLink RX0 10 "TwoWays$Both" "zero" "LTwoWays$Machine;", Cond.fieldLink RX0 16 "TwoWays$Both" "one" "LTwoWays$Machine;", Cond.methodLink RX8 126 yX3_hasState, Cond.instanceMethod yX3_hasState, Cond.selects RX3 yX3_hasState yX3_hasState, Cond.initialized RX3, Cond.code yX3_hasState cX3_hasState 2 (some .boolean), Cond.fieldLink RX3 15 "TwoWays$Machine" "size" "I", Cond.methodLink RX8 262 yX8_isSign]
def wsX8_moveOf_r2 : List Cond := [Cond.static yX8_isSign, Cond.code yX8_isSign cX8_isSign 1 (some .boolean), Cond.methodLink RX8 136 yX3_at, Cond.instanceMethod yX3_at, Cond.selects RX3 yX3_at yX3_at, Cond.code yX3_at cX3_at 3 (some .int), Cond.fieldLink RX3 9 "TwoWays$Machine" "moves" "[I"]
def wsX8_moveOf : List Cond := .code yX8_moveOf cX8_moveOf 4 (some .int) :: ((wsX8_moveOf_r1 ++ wsX8_moveOf_r2) ++ wsX80 ++ wsX00 ++ wsX30)
def wsX8_letter : List Cond := .code yX8_letter cX8_letter 2 (some .int) :: ([.constant RX8 83 (-1000000002), .fieldLink RX8 48 "TwoWays" "theWord" "LTwoWays$Word;", .constant RX8 92 (-1000000004), .methodLink RX8 163 yX7_add, .instanceMethod yX7_add, .selects RX7 yX7_add yX7_add, .initialized RX7, .code yX7_add cX7_add 2 (some .boolean), .fieldLink RX7 15 "TwoWays$Word" "length" "I", .fieldLink RX7 9 "TwoWays$Word" "letters" "[I", .methodLink RX8 164 yX7_length, .instanceMethod yX7_length, .selects RX7 yX7_length yX7_length, .code yX7_length cX7_length 1 (some .int)] ++ wsX80 ++ wsX70)
def wsX8_word : List Cond := .code yX8_word cX8_word 2 (some .int) :: ([.constant RX8 165 (33554432), .constant RX8 83 (-1000000002), .fieldLink RX8 48 "TwoWays" "theWord" "LTwoWays$Word;", .methodLink RX8 166 yX7_become, .instanceMethod yX7_become, .selects RX7 yX7_become yX7_become, .initialized RX7, .code yX7_become cX7_become 5 none, .fieldLink RX7 15 "TwoWays$Word" "length" "I", .methodLink RX7 23 yX7_add, .instanceMethod yX7_add, .selects RX7 yX7_add yX7_add, .code yX7_add cX7_add 2 (some .boolean), .fieldLink RX7 9 "TwoWays$Word" "letters" "[I", .methodLink RX8 164 yX7_length, .instanceMethod yX7_length, .selects RX7 yX7_length yX7_length, .code yX7_length cX7_length 1 (some .int)] ++ wsX80 ++ wsX70)
def wsX8_wipe : List Cond := .code yX8_wipe cX8_wipe 2 (some .int) :: ([.fieldLink RX8 48 "TwoWays" "theWord" "LTwoWays$Word;", .methodLink RX8 164 yX7_length, .instanceMethod yX7_length, .selects RX7 yX7_length yX7_length, .initialized RX7, .code yX7_length cX7_length 1 (some .int), .fieldLink RX7 15 "TwoWays$Word" "length" "I", .methodLink RX8 166 yX7_become, .instanceMethod yX7_become, .selects RX7 yX7_become yX7_become, .code yX7_become cX7_become 5 none, .methodLink RX7 23 yX7_add, .instanceMethod yX7_add, .selects RX7 yX7_add yX7_add, .code yX7_add cX7_add 2 (some .boolean), .fieldLink RX7 9 "TwoWays$Word" "letters" "[I"] ++ wsX80 ++ wsX70)
def wsX8_firstByRule_r1 : List Cond := [Cond.fieldLink RX8 65 "TwoWays" "oneWayOfZero" "LTwoWays$OneWay;", Cond.fieldLink RX8 12 "TwoWays" "machines" "LTwoWays$Both;", Cond.fieldLink RX8 69 "TwoWays" "oneWayOfOne" "LTwoWays$OneWay;", Cond.constant RX8 92 (-1000000004), Cond.fieldLink RX8 75 "TwoWays" "meeting" "LTwoWays$Meeting;", Cond.methodLink RX8 111 yX0_at, Cond.instanceMethod yX0_at, Cond.selects RX0 yX0_at yX0_at, Cond.initialized RX0, Cond.code yX0_at cX0_at 2 (some (.object "TwoWays$Machine")), Cond.fieldLink RX0 10 "TwoWays$Both" "zero" "LTwoWays$Machine;", Cond.fieldLink RX0 16 "TwoWays$Both" "one" "LTwoWays$Machine;", Cond.methodLink RX8 269 yX5_make, Cond.instanceMethod yX5_make, Cond.selects RX5 yX5_make yX5_make, Cond.initialized RX5, Cond.code yX5_make cX5_make 4 none, Cond.fieldLink RX5 53 "TwoWays$OneWay" "made" "Z", Cond.fieldLink RX5 14 "TwoWays$OneWay" "source" "LTwoWays$Machine;", Cond.fieldLink RX5 65 "TwoWays$OneWay" "tooMany" "Z", Cond.fieldLink RX5 68 "TwoWays$OneWay" "size" "I", Cond.fieldLink RX5 72 "TwoWays$OneWay" "least" "I", Cond.fieldLink RX5 25 "TwoWays$OneWay" "numberByCode" "[I", Cond.fieldLink RX5 28 "TwoWays$OneWay" "nexts" "[I"]
def wsX8_firstByRule_r2 : List Cond := [Cond.fieldLink RX5 35 "TwoWays$OneWay" "words" "[I", Cond.methodLink RX5 57 yX3_isLike, Cond.instanceMethod yX3_isLike, Cond.selects RX3 yX3_isLike yX3_isLike, Cond.initialized RX3, Cond.code yX3_isLike cX3_isLike 3 (some .boolean), Cond.fieldLink RX3 9 "TwoWays$Machine" "moves" "[I", Cond.fieldLink RX3 15 "TwoWays$Machine" "size" "I", Cond.methodLink RX5 61 yX3_become, Cond.instanceMethod yX3_become, Cond.selects RX3 yX3_become yX3_become, Cond.code yX3_become cX3_become 2 none, Cond.methodLink RX3 41 arraycopyName, Cond.native arraycopyName, Cond.static arraycopyName, Cond.initialized "java/lang/System", Cond.methodLink RX5 75 yJ7_fill_53178, Cond.static yJ7_fill_53178, Cond.initialized RJ7, Cond.code yJ7_fill_53178 cJ7_fill_53178 4 none, Cond.methodLink RX5 81 yX5_findBehind, Cond.instanceMethod yX5_findBehind, Cond.selects RX5 yX5_findBehind yX5_findBehind, Cond.code yX5_findBehind cX5_findBehind 4 none]
def wsX8_firstByRule_r3 : List Cond := [Cond.fieldLink RX5 22 "TwoWays$OneWay" "found" "[I", Cond.methodLink RX5 110 yX5_firstOff, Cond.instanceMethod yX5_firstOff, Cond.selects RX5 yX5_firstOff yX5_firstOff, Cond.code yX5_firstOff cX5_firstOff 2 (some .int), Cond.fieldLink RX5 18 "TwoWays$OneWay" "doings" "[I", Cond.methodLink RX5 96 yX5_hasState, Cond.instanceMethod yX5_hasState, Cond.selects RX5 yX5_hasState yX5_hasState, Cond.code yX5_hasState cX5_hasState 2 (some .boolean), Cond.methodLink RX5 113 yX5_goOff, Cond.instanceMethod yX5_goOff, Cond.selects RX5 yX5_goOff yX5_goOff, Cond.code yX5_goOff cX5_goOff 7 (some .int), Cond.methodLink RX5 117 yX3_at, Cond.instanceMethod yX3_at, Cond.selects RX3 yX3_at yX3_at, Cond.code yX3_at cX3_at 3 (some .int), Cond.static yX8_isSign, Cond.initialized RX8, Cond.code yX8_isSign cX8_isSign 1 (some .boolean), Cond.static yX8_sideOf, Cond.code yX8_sideOf cX8_sideOf 1 (some .int), Cond.static yX8_stateOf]
def wsX8_firstByRule_r4 : List Cond := [Cond.code yX8_stateOf cX8_stateOf 1 (some .int), Cond.methodLink RX5 126 yX5_comesBack, Cond.instanceMethod yX5_comesBack, Cond.selects RX5 yX5_comesBack yX5_comesBack, Cond.code yX5_comesBack cX5_comesBack 4 (some .int), Cond.methodLink RX5 85 yX5_numberOfFound, Cond.instanceMethod yX5_numberOfFound, Cond.selects RX5 yX5_numberOfFound yX5_numberOfFound, Cond.code yX5_numberOfFound cX5_numberOfFound 3 (some .int), Cond.methodLink RX5 129 yX5_codeOfFound, Cond.instanceMethod yX5_codeOfFound, Cond.selects RX5 yX5_codeOfFound yX5_codeOfFound, Cond.code yX5_codeOfFound cX5_codeOfFound 3 (some .int), Cond.methodLink RX5 132 yX5_addFound, Cond.instanceMethod yX5_addFound, Cond.selects RX5 yX5_addFound yX5_addFound, Cond.code yX5_addFound cX5_addFound 3 none, Cond.methodLink RX5 136 arraycopyName, Cond.static yX8_lengthen, Cond.code yX8_lengthen cX8_lengthen 3 (some .int), Cond.constant RX8 165 (33554432), Cond.methodLink RX5 93 yX5_markGoods, Cond.instanceMethod yX5_markGoods, Cond.selects RX5 yX5_markGoods yX5_markGoods]
def wsX8_firstByRule_r5 : List Cond := [Cond.code yX5_markGoods cX5_markGoods 2 none, Cond.fieldLink RX5 31 "TwoWays$OneWay" "goods" "[Z", Cond.methodLink RX8 219 yX5_isTooMany, Cond.instanceMethod yX5_isTooMany, Cond.selects RX5 yX5_isTooMany yX5_isTooMany, Cond.code yX5_isTooMany cX5_isTooMany 1 (some .boolean), Cond.methodLink RX8 272 yX4_firstWord, Cond.instanceMethod yX4_firstWord, Cond.selects RX4 yX4_firstWord yX4_firstWord, Cond.initialized RX4, Cond.code yX4_firstWord cX4_firstWord 9 (some .int), Cond.fieldLink RX4 15 "TwoWays$Meeting" "met" "[I", Cond.fieldLink RX4 25 "TwoWays$Meeting" "waiting" "I", Cond.fieldLink RX4 11 "TwoWays$Meeting" "queue" "[J", Cond.constantLong RX4 33 (32767), Cond.methodLink RX4 19 yJ7_fill_53178, Cond.methodLink RX4 29 yX4_meet, Cond.instanceMethod yX4_meet, Cond.selects RX4 yX4_meet yX4_meet, Cond.code yX4_meet cX4_meet 5 none, Cond.methodLink RX4 52 yX4_isMet, Cond.instanceMethod yX4_isMet, Cond.selects RX4 yX4_isMet yX4_isMet, Cond.code yX4_isMet cX4_isMet 2 (some .boolean)]
def wsX8_firstByRule_r6 : List Cond := [Cond.methodLink RX4 35 yX5_isGood, Cond.instanceMethod yX5_isGood, Cond.selects RX5 yX5_isGood yX5_isGood, Cond.code yX5_isGood cX5_isGood 2 (some .boolean), Cond.methodLink RX4 41 yX4_fits, Cond.static yX4_fits, Cond.code yX4_fits cX4_fits 3 (some .boolean), Cond.methodLink RX4 45 yX5_next, Cond.instanceMethod yX5_next, Cond.selects RX5 yX5_next yX5_next, Cond.code yX5_next cX5_next 3 (some .int)]
def wsX8_firstByRule : List Cond := .code yX8_firstByRule cX8_firstByRule 3 (some .int) :: ((wsX8_firstByRule_r1 ++ (wsX8_firstByRule_r2 ++ (wsX8_firstByRule_r3 ++ (wsX8_firstByRule_r4 ++ (wsX8_firstByRule_r5 ++ wsX8_firstByRule_r6))))) ++ wsX80 ++ wsX00 ++ wsX50 ++ wsX30 ++ wsX40)
def wsX8_tellWhetherNone : List Cond := .code yX8_tellWhetherNone cX8_tellWhetherNone 1 (some .int) :: ([.constant RX8 92 (-1000000004)])
def wsX8_told_r1 : List Cond := [Cond.fieldLink RX8 48 "TwoWays" "theWord" "LTwoWays$Word;", Cond.fieldLink RX8 34 "TwoWays" "text" "LTwoWays$Text;", Cond.fieldLink RX8 19 "TwoWays" "history" "LTwoWays$History;", Cond.constant RX8 83 (-1000000002), Cond.methodLink RX8 164 yX7_length, Cond.instanceMethod yX7_length, Cond.selects RX7 yX7_length yX7_length, Cond.initialized RX7, Cond.code yX7_length cX7_length 1 (some .int), Cond.fieldLink RX7 15 "TwoWays$Word" "length" "I", Cond.methodLink RX8 168 yX7_number, Cond.instanceMethod yX7_number, Cond.selects RX7 yX7_number yX7_number, Cond.code yX7_number cX7_number 3 (some .int), Cond.methodLink RX7 19 yX7_letterAt, Cond.instanceMethod yX7_letterAt, Cond.selects RX7 yX7_letterAt yX7_letterAt, Cond.code yX7_letterAt cX7_letterAt 2 (some .int), Cond.fieldLink RX7 9 "TwoWays$Word" "letters" "[I", Cond.methodLink RX8 88 yX6_length, Cond.instanceMethod yX6_length, Cond.selects RX6 yX6_length yX6_length, Cond.initialized RX6, Cond.code yX6_length cX6_length 1 (some .int)]
def wsX8_told_r2 : List Cond := [Cond.fieldLink RX6 15 "TwoWays$Text" "length" "I", Cond.methodLink RX8 162 yX2_size, Cond.instanceMethod yX2_size, Cond.selects RX2 yX2_size yX2_size, Cond.initialized RX2, Cond.code yX2_size cX2_size 1 (some .int), Cond.fieldLink RX2 18 "TwoWays$History" "size" "I", Cond.methodLink RX8 171 yX8_firstByRule, Cond.instanceMethod yX8_firstByRule, Cond.selects RX8 yX8_firstByRule yX8_firstByRule, Cond.initialized RX8, Cond.code yX8_firstByRule cX8_firstByRule 3 (some .int), Cond.fieldLink RX8 65 "TwoWays" "oneWayOfZero" "LTwoWays$OneWay;", Cond.fieldLink RX8 12 "TwoWays" "machines" "LTwoWays$Both;", Cond.fieldLink RX8 69 "TwoWays" "oneWayOfOne" "LTwoWays$OneWay;", Cond.constant RX8 92 (-1000000004), Cond.fieldLink RX8 75 "TwoWays" "meeting" "LTwoWays$Meeting;", Cond.methodLink RX8 111 yX0_at, Cond.instanceMethod yX0_at, Cond.selects RX0 yX0_at yX0_at, Cond.initialized RX0, Cond.code yX0_at cX0_at 2 (some (.object "TwoWays$Machine")), Cond.fieldLink RX0 10 "TwoWays$Both" "zero" "LTwoWays$Machine;", Cond.fieldLink RX0 16 "TwoWays$Both" "one" "LTwoWays$Machine;"]
def wsX8_told_r3 : List Cond := [Cond.methodLink RX8 269 yX5_make, Cond.instanceMethod yX5_make, Cond.selects RX5 yX5_make yX5_make, Cond.initialized RX5, Cond.code yX5_make cX5_make 4 none, Cond.fieldLink RX5 53 "TwoWays$OneWay" "made" "Z", Cond.fieldLink RX5 14 "TwoWays$OneWay" "source" "LTwoWays$Machine;", Cond.fieldLink RX5 65 "TwoWays$OneWay" "tooMany" "Z", Cond.fieldLink RX5 68 "TwoWays$OneWay" "size" "I", Cond.fieldLink RX5 72 "TwoWays$OneWay" "least" "I", Cond.fieldLink RX5 25 "TwoWays$OneWay" "numberByCode" "[I", Cond.fieldLink RX5 28 "TwoWays$OneWay" "nexts" "[I", Cond.fieldLink RX5 35 "TwoWays$OneWay" "words" "[I", Cond.methodLink RX5 57 yX3_isLike, Cond.instanceMethod yX3_isLike, Cond.selects RX3 yX3_isLike yX3_isLike, Cond.initialized RX3, Cond.code yX3_isLike cX3_isLike 3 (some .boolean), Cond.fieldLink RX3 9 "TwoWays$Machine" "moves" "[I", Cond.fieldLink RX3 15 "TwoWays$Machine" "size" "I", Cond.methodLink RX5 61 yX3_become, Cond.instanceMethod yX3_become, Cond.selects RX3 yX3_become yX3_become, Cond.code yX3_become cX3_become 2 none]
def wsX8_told_r4 : List Cond := [Cond.methodLink RX3 41 arraycopyName, Cond.native arraycopyName, Cond.static arraycopyName, Cond.initialized "java/lang/System", Cond.methodLink RX5 75 yJ7_fill_53178, Cond.static yJ7_fill_53178, Cond.initialized RJ7, Cond.code yJ7_fill_53178 cJ7_fill_53178 4 none, Cond.methodLink RX5 81 yX5_findBehind, Cond.instanceMethod yX5_findBehind, Cond.selects RX5 yX5_findBehind yX5_findBehind, Cond.code yX5_findBehind cX5_findBehind 4 none, Cond.fieldLink RX5 22 "TwoWays$OneWay" "found" "[I", Cond.methodLink RX5 110 yX5_firstOff, Cond.instanceMethod yX5_firstOff, Cond.selects RX5 yX5_firstOff yX5_firstOff, Cond.code yX5_firstOff cX5_firstOff 2 (some .int), Cond.fieldLink RX5 18 "TwoWays$OneWay" "doings" "[I", Cond.methodLink RX5 96 yX5_hasState, Cond.instanceMethod yX5_hasState, Cond.selects RX5 yX5_hasState yX5_hasState, Cond.code yX5_hasState cX5_hasState 2 (some .boolean), Cond.methodLink RX5 113 yX5_goOff, Cond.instanceMethod yX5_goOff]
def wsX8_told_r5 : List Cond := [Cond.selects RX5 yX5_goOff yX5_goOff, Cond.code yX5_goOff cX5_goOff 7 (some .int), Cond.methodLink RX5 117 yX3_at, Cond.instanceMethod yX3_at, Cond.selects RX3 yX3_at yX3_at, Cond.code yX3_at cX3_at 3 (some .int), Cond.static yX8_isSign, Cond.code yX8_isSign cX8_isSign 1 (some .boolean), Cond.static yX8_sideOf, Cond.code yX8_sideOf cX8_sideOf 1 (some .int), Cond.static yX8_stateOf, Cond.code yX8_stateOf cX8_stateOf 1 (some .int), Cond.methodLink RX5 126 yX5_comesBack, Cond.instanceMethod yX5_comesBack, Cond.selects RX5 yX5_comesBack yX5_comesBack, Cond.code yX5_comesBack cX5_comesBack 4 (some .int), Cond.methodLink RX5 85 yX5_numberOfFound, Cond.instanceMethod yX5_numberOfFound, Cond.selects RX5 yX5_numberOfFound yX5_numberOfFound, Cond.code yX5_numberOfFound cX5_numberOfFound 3 (some .int), Cond.methodLink RX5 129 yX5_codeOfFound, Cond.instanceMethod yX5_codeOfFound, Cond.selects RX5 yX5_codeOfFound yX5_codeOfFound, Cond.code yX5_codeOfFound cX5_codeOfFound 3 (some .int)]
def wsX8_told_r6 : List Cond := [Cond.methodLink RX5 132 yX5_addFound, Cond.instanceMethod yX5_addFound, Cond.selects RX5 yX5_addFound yX5_addFound, Cond.code yX5_addFound cX5_addFound 3 none, Cond.methodLink RX5 136 arraycopyName, Cond.static yX8_lengthen, Cond.code yX8_lengthen cX8_lengthen 3 (some .int), Cond.constant RX8 165 (33554432), Cond.methodLink RX5 93 yX5_markGoods, Cond.instanceMethod yX5_markGoods, Cond.selects RX5 yX5_markGoods yX5_markGoods, Cond.code yX5_markGoods cX5_markGoods 2 none, Cond.fieldLink RX5 31 "TwoWays$OneWay" "goods" "[Z", Cond.methodLink RX8 219 yX5_isTooMany, Cond.instanceMethod yX5_isTooMany, Cond.selects RX5 yX5_isTooMany yX5_isTooMany, Cond.code yX5_isTooMany cX5_isTooMany 1 (some .boolean), Cond.methodLink RX8 272 yX4_firstWord, Cond.instanceMethod yX4_firstWord, Cond.selects RX4 yX4_firstWord yX4_firstWord, Cond.initialized RX4, Cond.code yX4_firstWord cX4_firstWord 9 (some .int), Cond.fieldLink RX4 15 "TwoWays$Meeting" "met" "[I", Cond.fieldLink RX4 25 "TwoWays$Meeting" "waiting" "I"]
def wsX8_told_r7 : List Cond := [Cond.fieldLink RX4 11 "TwoWays$Meeting" "queue" "[J", Cond.constantLong RX4 33 (32767), Cond.methodLink RX4 19 yJ7_fill_53178, Cond.methodLink RX4 29 yX4_meet, Cond.instanceMethod yX4_meet, Cond.selects RX4 yX4_meet yX4_meet, Cond.code yX4_meet cX4_meet 5 none, Cond.methodLink RX4 52 yX4_isMet, Cond.instanceMethod yX4_isMet, Cond.selects RX4 yX4_isMet yX4_isMet, Cond.code yX4_isMet cX4_isMet 2 (some .boolean), Cond.methodLink RX4 35 yX5_isGood, Cond.instanceMethod yX5_isGood, Cond.selects RX5 yX5_isGood yX5_isGood, Cond.code yX5_isGood cX5_isGood 2 (some .boolean), Cond.methodLink RX4 41 yX4_fits, Cond.static yX4_fits, Cond.code yX4_fits cX4_fits 3 (some .boolean), Cond.methodLink RX4 45 yX5_next, Cond.instanceMethod yX5_next, Cond.selects RX5 yX5_next yX5_next, Cond.code yX5_next cX5_next 3 (some .int), Cond.methodLink RX8 175 yX8_tellWhetherNone, Cond.static yX8_tellWhetherNone]
def wsX8_told_r8 : List Cond := [Cond.code yX8_tellWhetherNone cX8_tellWhetherNone 1 (some .int)]
def wsX8_told : List Cond := .code yX8_told cX8_told 2 (some .int) :: ((wsX8_told_r1 ++ (wsX8_told_r2 ++ (wsX8_told_r3 ++ (wsX8_told_r4 ++ (wsX8_told_r5 ++ (wsX8_told_r6 ++ (wsX8_told_r7 ++ wsX8_told_r8))))))) ++ wsX80 ++ wsX70 ++ wsX60 ++ wsX20 ++ wsX00 ++ wsX50 ++ wsX30 ++ wsX40)
def wsX8_run_r1 : List Cond := [Cond.constant RX8 96 (-1000000001), Cond.constant RX8 83 (-1000000002), Cond.fieldLink RX8 58 "TwoWays" "course" "LTwoWays$Course;", Cond.fieldLink RX8 12 "TwoWays" "machines" "LTwoWays$Both;", Cond.fieldLink RX8 48 "TwoWays" "theWord" "LTwoWays$Word;", Cond.methodLink RX8 93 yX8_isMachine, Cond.static yX8_isMachine, Cond.initialized RX8, Cond.code yX8_isMachine cX8_isMachine 1 (some .boolean), Cond.methodLink RX8 111 yX0_at, Cond.instanceMethod yX0_at, Cond.selects RX0 yX0_at yX0_at, Cond.initialized RX0, Cond.code yX0_at cX0_at 2 (some (.object "TwoWays$Machine")), Cond.fieldLink RX0 10 "TwoWays$Both" "zero" "LTwoWays$Machine;", Cond.fieldLink RX0 16 "TwoWays$Both" "one" "LTwoWays$Machine;", Cond.methodLink RX8 178 yX1_follow, Cond.instanceMethod yX1_follow, Cond.selects RX1 yX1_follow yX1_follow, Cond.initialized RX1, Cond.code yX1_follow cX1_follow 4 none, Cond.fieldLink RX1 11 "TwoWays$Course" "statesSeen" "[I", Cond.fieldLink RX1 27 "TwoWays$Course" "steps" "I", Cond.fieldLink RX1 31 "TwoWays$Course" "state" "I"]
def wsX8_run_r2 : List Cond := [Cond.fieldLink RX1 34 "TwoWays$Course" "place" "I", Cond.fieldLink RX1 37 "TwoWays$Course" "ending" "I", Cond.methodLink RX1 21 yJ7_fill_53178, Cond.static yJ7_fill_53178, Cond.initialized RJ7, Cond.code yJ7_fill_53178 cJ7_fill_53178 4 none, Cond.methodLink RX1 40 yX1_arrive, Cond.instanceMethod yX1_arrive, Cond.selects RX1 yX1_arrive yX1_arrive, Cond.code yX1_arrive cX1_arrive 2 none, Cond.methodLink RX1 78 yX7_length, Cond.instanceMethod yX7_length, Cond.selects RX7 yX7_length yX7_length, Cond.initialized RX7, Cond.code yX7_length cX7_length 1 (some .int), Cond.fieldLink RX7 15 "TwoWays$Word" "length" "I", Cond.methodLink RX1 44 yX1_step, Cond.instanceMethod yX1_step, Cond.selects RX1 yX1_step yX1_step, Cond.code yX1_step cX1_step 5 none, Cond.methodLink RX1 69 Lib.Math.min.name, Cond.static Lib.Math.min.name, Cond.initialized "java/lang/Math", Cond.code Lib.Math.min.name Lib.Math.min.code 2 (some .int)]
def wsX8_run_r3 : List Cond := [Cond.methodLink RX1 52 yX7_signAt, Cond.instanceMethod yX7_signAt, Cond.selects RX7 yX7_signAt yX7_signAt, Cond.code yX7_signAt cX7_signAt 2 (some .int), Cond.methodLink RX7 19 yX7_letterAt, Cond.instanceMethod yX7_letterAt, Cond.selects RX7 yX7_letterAt yX7_letterAt, Cond.code yX7_letterAt cX7_letterAt 2 (some .int), Cond.fieldLink RX7 9 "TwoWays$Word" "letters" "[I", Cond.methodLink RX1 57 yX3_at, Cond.instanceMethod yX3_at, Cond.selects RX3 yX3_at yX3_at, Cond.initialized RX3, Cond.code yX3_at cX3_at 3 (some .int), Cond.fieldLink RX3 15 "TwoWays$Machine" "size" "I", Cond.fieldLink RX3 9 "TwoWays$Machine" "moves" "[I", Cond.static yX8_isSign, Cond.code yX8_isSign cX8_isSign 1 (some .boolean), Cond.static yX8_stateOf, Cond.code yX8_stateOf cX8_stateOf 1 (some .int), Cond.static yX8_shift, Cond.code yX8_shift cX8_shift 1 (some .int), Cond.methodLink RX8 259 yX8_sideOf, Cond.static yX8_sideOf]
def wsX8_run_r4 : List Cond := [Cond.code yX8_sideOf cX8_sideOf 1 (some .int), Cond.methodLink RX1 74 yX1_note, Cond.instanceMethod yX1_note, Cond.selects RX1 yX1_note yX1_note, Cond.code yX1_note cX1_note 2 none, Cond.fieldLink RX1 15 "TwoWays$Course" "gaps" "[I", Cond.fieldLink RX1 18 "TwoWays$Course" "states" "[I", Cond.methodLink RX8 182 yX1_isTaken, Cond.instanceMethod yX1_isTaken, Cond.selects RX1 yX1_isTaken yX1_isTaken, Cond.code yX1_isTaken cX1_isTaken 1 (some .boolean), Cond.methodLink RX8 186 yX1_ending, Cond.instanceMethod yX1_ending, Cond.selects RX1 yX1_ending yX1_ending, Cond.code yX1_ending cX1_ending 1 (some .int), Cond.methodLink RX8 189 yX1_steps, Cond.instanceMethod yX1_steps, Cond.selects RX1 yX1_steps yX1_steps, Cond.code yX1_steps cX1_steps 1 (some .int), Cond.methodLink RX8 192 yX1_lastState, Cond.instanceMethod yX1_lastState, Cond.selects RX1 yX1_lastState yX1_lastState, Cond.code yX1_lastState cX1_lastState 1 (some .int), Cond.methodLink RX8 164 yX7_length]
def wsX8_run_r5 : List Cond := [Cond.methodLink RX8 195 yX1_countGaps, Cond.instanceMethod yX1_countGaps, Cond.selects RX1 yX1_countGaps yX1_countGaps, Cond.code yX1_countGaps cX1_countGaps 4 (some .int), Cond.methodLink RX1 48 yX1_howOften, Cond.instanceMethod yX1_howOften, Cond.selects RX1 yX1_howOften yX1_howOften, Cond.code yX1_howOften cX1_howOften 4 (some .int), Cond.methodLink RX8 198 yX1_busiestGap, Cond.instanceMethod yX1_busiestGap, Cond.selects RX1 yX1_busiestGap yX1_busiestGap, Cond.code yX1_busiestGap cX1_busiestGap 6 (some .int)]
def wsX8_run : List Cond := .code yX8_run cX8_run 3 (some .int) :: ((wsX8_run_r1 ++ (wsX8_run_r2 ++ (wsX8_run_r3 ++ (wsX8_run_r4 ++ wsX8_run_r5)))) ++ wsX80 ++ wsX00 ++ wsX10 ++ wsX70 ++ wsX30)
def wsX8_crossed_r1 : List Cond := [Cond.constant RX8 96 (-1000000001), Cond.fieldLink RX8 48 "TwoWays" "theWord" "LTwoWays$Word;", Cond.constant RX8 83 (-1000000002), Cond.fieldLink RX8 58 "TwoWays" "course" "LTwoWays$Course;", Cond.fieldLink RX8 12 "TwoWays" "machines" "LTwoWays$Both;", Cond.methodLink RX8 93 yX8_isMachine, Cond.static yX8_isMachine, Cond.initialized RX8, Cond.code yX8_isMachine cX8_isMachine 1 (some .boolean), Cond.methodLink RX8 164 yX7_length, Cond.instanceMethod yX7_length, Cond.selects RX7 yX7_length yX7_length, Cond.initialized RX7, Cond.code yX7_length cX7_length 1 (some .int), Cond.fieldLink RX7 15 "TwoWays$Word" "length" "I", Cond.methodLink RX8 111 yX0_at, Cond.instanceMethod yX0_at, Cond.selects RX0 yX0_at yX0_at, Cond.initialized RX0, Cond.code yX0_at cX0_at 2 (some (.object "TwoWays$Machine")), Cond.fieldLink RX0 10 "TwoWays$Both" "zero" "LTwoWays$Machine;", Cond.fieldLink RX0 16 "TwoWays$Both" "one" "LTwoWays$Machine;", Cond.methodLink RX8 178 yX1_follow, Cond.instanceMethod yX1_follow]
def wsX8_crossed_r2 : List Cond := [Cond.selects RX1 yX1_follow yX1_follow, Cond.initialized RX1, Cond.code yX1_follow cX1_follow 4 none, Cond.fieldLink RX1 11 "TwoWays$Course" "statesSeen" "[I", Cond.fieldLink RX1 27 "TwoWays$Course" "steps" "I", Cond.fieldLink RX1 31 "TwoWays$Course" "state" "I", Cond.fieldLink RX1 34 "TwoWays$Course" "place" "I", Cond.fieldLink RX1 37 "TwoWays$Course" "ending" "I", Cond.methodLink RX1 21 yJ7_fill_53178, Cond.static yJ7_fill_53178, Cond.initialized RJ7, Cond.code yJ7_fill_53178 cJ7_fill_53178 4 none, Cond.methodLink RX1 40 yX1_arrive, Cond.instanceMethod yX1_arrive, Cond.selects RX1 yX1_arrive yX1_arrive, Cond.code yX1_arrive cX1_arrive 2 none, Cond.methodLink RX1 78 yX7_length, Cond.methodLink RX1 44 yX1_step, Cond.instanceMethod yX1_step, Cond.selects RX1 yX1_step yX1_step, Cond.code yX1_step cX1_step 5 none, Cond.methodLink RX1 69 Lib.Math.min.name, Cond.static Lib.Math.min.name, Cond.initialized "java/lang/Math"]
def wsX8_crossed_r3 : List Cond := [Cond.code Lib.Math.min.name Lib.Math.min.code 2 (some .int), Cond.methodLink RX1 52 yX7_signAt, Cond.instanceMethod yX7_signAt, Cond.selects RX7 yX7_signAt yX7_signAt, Cond.code yX7_signAt cX7_signAt 2 (some .int), Cond.methodLink RX7 19 yX7_letterAt, Cond.instanceMethod yX7_letterAt, Cond.selects RX7 yX7_letterAt yX7_letterAt, Cond.code yX7_letterAt cX7_letterAt 2 (some .int), Cond.fieldLink RX7 9 "TwoWays$Word" "letters" "[I", Cond.methodLink RX1 57 yX3_at, Cond.instanceMethod yX3_at, Cond.selects RX3 yX3_at yX3_at, Cond.initialized RX3, Cond.code yX3_at cX3_at 3 (some .int), Cond.fieldLink RX3 15 "TwoWays$Machine" "size" "I", Cond.fieldLink RX3 9 "TwoWays$Machine" "moves" "[I", Cond.static yX8_isSign, Cond.code yX8_isSign cX8_isSign 1 (some .boolean), Cond.static yX8_stateOf, Cond.code yX8_stateOf cX8_stateOf 1 (some .int), Cond.static yX8_shift, Cond.code yX8_shift cX8_shift 1 (some .int), Cond.methodLink RX8 259 yX8_sideOf]
def wsX8_crossed_r4 : List Cond := [Cond.static yX8_sideOf, Cond.code yX8_sideOf cX8_sideOf 1 (some .int), Cond.methodLink RX1 74 yX1_note, Cond.instanceMethod yX1_note, Cond.selects RX1 yX1_note yX1_note, Cond.code yX1_note cX1_note 2 none, Cond.fieldLink RX1 15 "TwoWays$Course" "gaps" "[I", Cond.fieldLink RX1 18 "TwoWays$Course" "states" "[I", Cond.methodLink RX8 201 yX1_howOften, Cond.instanceMethod yX1_howOften, Cond.selects RX1 yX1_howOften yX1_howOften, Cond.code yX1_howOften cX1_howOften 4 (some .int), Cond.methodLink RX8 204 yX1_stateAt, Cond.instanceMethod yX1_stateAt, Cond.selects RX1 yX1_stateAt yX1_stateAt, Cond.code yX1_stateAt cX1_stateAt 5 (some .int)]
def wsX8_crossed : List Cond := .code yX8_crossed cX8_crossed 4 (some .int) :: ((wsX8_crossed_r1 ++ (wsX8_crossed_r2 ++ (wsX8_crossed_r3 ++ wsX8_crossed_r4))) ++ wsX80 ++ wsX70 ++ wsX00 ++ wsX10 ++ wsX30)
def wsX8_isPiece : List Cond := .code yX8_isPiece cX8_isPiece 3 (some .boolean) :: ([.fieldLink RX8 48 "TwoWays" "theWord" "LTwoWays$Word;", .methodLink RX8 164 yX7_length, .instanceMethod yX7_length, .selects RX7 yX7_length yX7_length, .initialized RX7, .code yX7_length cX7_length 1 (some .int), .fieldLink RX7 15 "TwoWays$Word" "length" "I"] ++ wsX80 ++ wsX70)
def wsX8_goOffPiece_r1 : List Cond := [Cond.fieldLink RX8 48 "TwoWays" "theWord" "LTwoWays$Word;", Cond.methodLink RX8 275 yX7_letterAt, Cond.instanceMethod yX7_letterAt, Cond.selects RX7 yX7_letterAt yX7_letterAt, Cond.initialized RX7, Cond.code yX7_letterAt cX7_letterAt 2 (some .int), Cond.fieldLink RX7 15 "TwoWays$Word" "length" "I", Cond.fieldLink RX7 9 "TwoWays$Word" "letters" "[I", Cond.methodLink RX8 136 yX3_at, Cond.instanceMethod yX3_at, Cond.selects RX3 yX3_at yX3_at, Cond.initialized RX3, Cond.code yX3_at cX3_at 3 (some .int), Cond.fieldLink RX3 15 "TwoWays$Machine" "size" "I", Cond.fieldLink RX3 9 "TwoWays$Machine" "moves" "[I", Cond.static yX8_isSign, Cond.initialized RX8, Cond.code yX8_isSign cX8_isSign 1 (some .boolean), Cond.methodLink RX8 278 yX8_stateOf, Cond.static yX8_stateOf, Cond.code yX8_stateOf cX8_stateOf 1 (some .int), Cond.methodLink RX8 281 yX8_shift, Cond.static yX8_shift, Cond.code yX8_shift cX8_shift 1 (some .int)]
def wsX8_goOffPiece_r2 : List Cond := [Cond.methodLink RX8 259 yX8_sideOf, Cond.static yX8_sideOf, Cond.code yX8_sideOf cX8_sideOf 1 (some .int)]
def wsX8_goOffPiece : List Cond := .code yX8_goOffPiece cX8_goOffPiece 10 (some .int) :: ((wsX8_goOffPiece_r1 ++ wsX8_goOffPiece_r2) ++ wsX80 ++ wsX70 ++ wsX30)
def wsX8_table_r1 : List Cond := [Cond.fieldLink RX8 12 "TwoWays" "machines" "LTwoWays$Both;", Cond.constant RX8 96 (-1000000001), Cond.constant RX8 83 (-1000000002), Cond.methodLink RX8 93 yX8_isMachine, Cond.static yX8_isMachine, Cond.initialized RX8, Cond.code yX8_isMachine cX8_isMachine 1 (some .boolean), Cond.methodLink RX8 111 yX0_at, Cond.instanceMethod yX0_at, Cond.selects RX0 yX0_at yX0_at, Cond.initialized RX0, Cond.code yX0_at cX0_at 2 (some (.object "TwoWays$Machine")), Cond.fieldLink RX0 10 "TwoWays$Both" "zero" "LTwoWays$Machine;", Cond.fieldLink RX0 16 "TwoWays$Both" "one" "LTwoWays$Machine;", Cond.methodLink RX8 126 yX3_hasState, Cond.instanceMethod yX3_hasState, Cond.selects RX3 yX3_hasState yX3_hasState, Cond.initialized RX3, Cond.code yX3_hasState cX3_hasState 2 (some .boolean), Cond.fieldLink RX3 15 "TwoWays$Machine" "size" "I", Cond.methodLink RX8 129 yX8_isSide, Cond.static yX8_isSide, Cond.code yX8_isSide cX8_isSide 1 (some .boolean), Cond.methodLink RX8 207 yX8_isPiece]
def wsX8_table_r2 : List Cond := [Cond.instanceMethod yX8_isPiece, Cond.selects RX8 yX8_isPiece yX8_isPiece, Cond.code yX8_isPiece cX8_isPiece 3 (some .boolean), Cond.fieldLink RX8 48 "TwoWays" "theWord" "LTwoWays$Word;", Cond.methodLink RX8 164 yX7_length, Cond.instanceMethod yX7_length, Cond.selects RX7 yX7_length yX7_length, Cond.initialized RX7, Cond.code yX7_length cX7_length 1 (some .int), Cond.fieldLink RX7 15 "TwoWays$Word" "length" "I", Cond.methodLink RX8 211 yX8_goOffPiece, Cond.instanceMethod yX8_goOffPiece, Cond.selects RX8 yX8_goOffPiece yX8_goOffPiece, Cond.code yX8_goOffPiece cX8_goOffPiece 10 (some .int), Cond.methodLink RX8 275 yX7_letterAt, Cond.instanceMethod yX7_letterAt, Cond.selects RX7 yX7_letterAt yX7_letterAt, Cond.code yX7_letterAt cX7_letterAt 2 (some .int), Cond.fieldLink RX7 9 "TwoWays$Word" "letters" "[I", Cond.methodLink RX8 136 yX3_at, Cond.instanceMethod yX3_at, Cond.selects RX3 yX3_at yX3_at, Cond.code yX3_at cX3_at 3 (some .int), Cond.fieldLink RX3 9 "TwoWays$Machine" "moves" "[I"]
def wsX8_table_r3 : List Cond := [Cond.static yX8_isSign, Cond.code yX8_isSign cX8_isSign 1 (some .boolean), Cond.methodLink RX8 278 yX8_stateOf, Cond.static yX8_stateOf, Cond.code yX8_stateOf cX8_stateOf 1 (some .int), Cond.methodLink RX8 281 yX8_shift, Cond.static yX8_shift, Cond.code yX8_shift cX8_shift 1 (some .int), Cond.methodLink RX8 259 yX8_sideOf, Cond.static yX8_sideOf, Cond.code yX8_sideOf cX8_sideOf 1 (some .int)]
def wsX8_table : List Cond := .code yX8_table cX8_table 6 (some .int) :: ((wsX8_table_r1 ++ (wsX8_table_r2 ++ wsX8_table_r3)) ++ wsX80 ++ wsX00 ++ wsX30 ++ wsX70)
def wsX8_alike_r1 : List Cond := [Cond.constant RX8 96 (-1000000001), Cond.constant RX8 83 (-1000000002), Cond.fieldLink RX8 12 "TwoWays" "machines" "LTwoWays$Both;", Cond.methodLink RX8 93 yX8_isMachine, Cond.static yX8_isMachine, Cond.initialized RX8, Cond.code yX8_isMachine cX8_isMachine 1 (some .boolean), Cond.methodLink RX8 207 yX8_isPiece, Cond.instanceMethod yX8_isPiece, Cond.selects RX8 yX8_isPiece yX8_isPiece, Cond.code yX8_isPiece cX8_isPiece 3 (some .boolean), Cond.fieldLink RX8 48 "TwoWays" "theWord" "LTwoWays$Word;", Cond.methodLink RX8 164 yX7_length, Cond.instanceMethod yX7_length, Cond.selects RX7 yX7_length yX7_length, Cond.initialized RX7, Cond.code yX7_length cX7_length 1 (some .int), Cond.fieldLink RX7 15 "TwoWays$Word" "length" "I", Cond.methodLink RX8 111 yX0_at, Cond.instanceMethod yX0_at, Cond.selects RX0 yX0_at yX0_at, Cond.initialized RX0, Cond.code yX0_at cX0_at 2 (some (.object "TwoWays$Machine")), Cond.fieldLink RX0 10 "TwoWays$Both" "zero" "LTwoWays$Machine;"]
def wsX8_alike_r2 : List Cond := [Cond.fieldLink RX0 16 "TwoWays$Both" "one" "LTwoWays$Machine;", Cond.methodLink RX8 119 yX3_size, Cond.instanceMethod yX3_size, Cond.selects RX3 yX3_size yX3_size, Cond.initialized RX3, Cond.code yX3_size cX3_size 1 (some .int), Cond.fieldLink RX3 15 "TwoWays$Machine" "size" "I", Cond.methodLink RX8 211 yX8_goOffPiece, Cond.instanceMethod yX8_goOffPiece, Cond.selects RX8 yX8_goOffPiece yX8_goOffPiece, Cond.code yX8_goOffPiece cX8_goOffPiece 10 (some .int), Cond.methodLink RX8 275 yX7_letterAt, Cond.instanceMethod yX7_letterAt, Cond.selects RX7 yX7_letterAt yX7_letterAt, Cond.code yX7_letterAt cX7_letterAt 2 (some .int), Cond.fieldLink RX7 9 "TwoWays$Word" "letters" "[I", Cond.methodLink RX8 136 yX3_at, Cond.instanceMethod yX3_at, Cond.selects RX3 yX3_at yX3_at, Cond.code yX3_at cX3_at 3 (some .int), Cond.fieldLink RX3 9 "TwoWays$Machine" "moves" "[I", Cond.static yX8_isSign, Cond.code yX8_isSign cX8_isSign 1 (some .boolean), Cond.methodLink RX8 278 yX8_stateOf]
def wsX8_alike_r3 : List Cond := [Cond.static yX8_stateOf, Cond.code yX8_stateOf cX8_stateOf 1 (some .int), Cond.methodLink RX8 281 yX8_shift, Cond.static yX8_shift, Cond.code yX8_shift cX8_shift 1 (some .int), Cond.methodLink RX8 259 yX8_sideOf, Cond.static yX8_sideOf, Cond.code yX8_sideOf cX8_sideOf 1 (some .int)]
def wsX8_alike : List Cond := .code yX8_alike cX8_alike 9 (some .int) :: ((wsX8_alike_r1 ++ (wsX8_alike_r2 ++ wsX8_alike_r3)) ++ wsX80 ++ wsX70 ++ wsX00 ++ wsX30)
def wsX8_oneWayFor_r1 : List Cond := [Cond.fieldLink RX8 65 "TwoWays" "oneWayOfZero" "LTwoWays$OneWay;", Cond.fieldLink RX8 69 "TwoWays" "oneWayOfOne" "LTwoWays$OneWay;", Cond.fieldLink RX8 12 "TwoWays" "machines" "LTwoWays$Both;", Cond.methodLink RX8 111 yX0_at, Cond.instanceMethod yX0_at, Cond.selects RX0 yX0_at yX0_at, Cond.initialized RX0, Cond.code yX0_at cX0_at 2 (some (.object "TwoWays$Machine")), Cond.fieldLink RX0 10 "TwoWays$Both" "zero" "LTwoWays$Machine;", Cond.fieldLink RX0 16 "TwoWays$Both" "one" "LTwoWays$Machine;", Cond.methodLink RX8 269 yX5_make, Cond.instanceMethod yX5_make, Cond.selects RX5 yX5_make yX5_make, Cond.initialized RX5, Cond.code yX5_make cX5_make 4 none, Cond.fieldLink RX5 53 "TwoWays$OneWay" "made" "Z", Cond.fieldLink RX5 14 "TwoWays$OneWay" "source" "LTwoWays$Machine;", Cond.fieldLink RX5 65 "TwoWays$OneWay" "tooMany" "Z", Cond.fieldLink RX5 68 "TwoWays$OneWay" "size" "I", Cond.fieldLink RX5 72 "TwoWays$OneWay" "least" "I", Cond.fieldLink RX5 25 "TwoWays$OneWay" "numberByCode" "[I", Cond.fieldLink RX5 28 "TwoWays$OneWay" "nexts" "[I", Cond.fieldLink RX5 35 "TwoWays$OneWay" "words" "[I", Cond.methodLink RX5 57 yX3_isLike]
def wsX8_oneWayFor_r2 : List Cond := [Cond.instanceMethod yX3_isLike, Cond.selects RX3 yX3_isLike yX3_isLike, Cond.initialized RX3, Cond.code yX3_isLike cX3_isLike 3 (some .boolean), Cond.fieldLink RX3 9 "TwoWays$Machine" "moves" "[I", Cond.fieldLink RX3 15 "TwoWays$Machine" "size" "I", Cond.methodLink RX5 61 yX3_become, Cond.instanceMethod yX3_become, Cond.selects RX3 yX3_become yX3_become, Cond.code yX3_become cX3_become 2 none, Cond.methodLink RX3 41 arraycopyName, Cond.native arraycopyName, Cond.static arraycopyName, Cond.initialized "java/lang/System", Cond.methodLink RX5 75 yJ7_fill_53178, Cond.static yJ7_fill_53178, Cond.initialized RJ7, Cond.code yJ7_fill_53178 cJ7_fill_53178 4 none, Cond.methodLink RX5 81 yX5_findBehind, Cond.instanceMethod yX5_findBehind, Cond.selects RX5 yX5_findBehind yX5_findBehind, Cond.code yX5_findBehind cX5_findBehind 4 none, Cond.fieldLink RX5 22 "TwoWays$OneWay" "found" "[I", Cond.methodLink RX5 110 yX5_firstOff]
def wsX8_oneWayFor_r3 : List Cond := [Cond.instanceMethod yX5_firstOff, Cond.selects RX5 yX5_firstOff yX5_firstOff, Cond.code yX5_firstOff cX5_firstOff 2 (some .int), Cond.fieldLink RX5 18 "TwoWays$OneWay" "doings" "[I", Cond.methodLink RX5 96 yX5_hasState, Cond.instanceMethod yX5_hasState, Cond.selects RX5 yX5_hasState yX5_hasState, Cond.code yX5_hasState cX5_hasState 2 (some .boolean), Cond.methodLink RX5 113 yX5_goOff, Cond.instanceMethod yX5_goOff, Cond.selects RX5 yX5_goOff yX5_goOff, Cond.code yX5_goOff cX5_goOff 7 (some .int), Cond.methodLink RX5 117 yX3_at, Cond.instanceMethod yX3_at, Cond.selects RX3 yX3_at yX3_at, Cond.code yX3_at cX3_at 3 (some .int), Cond.static yX8_isSign, Cond.initialized RX8, Cond.code yX8_isSign cX8_isSign 1 (some .boolean), Cond.static yX8_sideOf, Cond.code yX8_sideOf cX8_sideOf 1 (some .int), Cond.static yX8_stateOf, Cond.code yX8_stateOf cX8_stateOf 1 (some .int), Cond.methodLink RX5 126 yX5_comesBack]
def wsX8_oneWayFor_r4 : List Cond := [Cond.instanceMethod yX5_comesBack, Cond.selects RX5 yX5_comesBack yX5_comesBack, Cond.code yX5_comesBack cX5_comesBack 4 (some .int), Cond.methodLink RX5 85 yX5_numberOfFound, Cond.instanceMethod yX5_numberOfFound, Cond.selects RX5 yX5_numberOfFound yX5_numberOfFound, Cond.code yX5_numberOfFound cX5_numberOfFound 3 (some .int), Cond.methodLink RX5 129 yX5_codeOfFound, Cond.instanceMethod yX5_codeOfFound, Cond.selects RX5 yX5_codeOfFound yX5_codeOfFound, Cond.code yX5_codeOfFound cX5_codeOfFound 3 (some .int), Cond.methodLink RX5 132 yX5_addFound, Cond.instanceMethod yX5_addFound, Cond.selects RX5 yX5_addFound yX5_addFound, Cond.code yX5_addFound cX5_addFound 3 none, Cond.methodLink RX5 136 arraycopyName, Cond.static yX8_lengthen, Cond.code yX8_lengthen cX8_lengthen 3 (some .int), Cond.constant RX8 165 (33554432), Cond.methodLink RX5 93 yX5_markGoods, Cond.instanceMethod yX5_markGoods, Cond.selects RX5 yX5_markGoods yX5_markGoods, Cond.code yX5_markGoods cX5_markGoods 2 none, Cond.fieldLink RX5 31 "TwoWays$OneWay" "goods" "[Z"]
def wsX8_oneWayFor : List Cond := .code yX8_oneWayFor cX8_oneWayFor 3 (some (.object "TwoWays$OneWay")) :: ((wsX8_oneWayFor_r1 ++ (wsX8_oneWayFor_r2 ++ (wsX8_oneWayFor_r3 ++ wsX8_oneWayFor_r4))) ++ wsX80 ++ wsX00 ++ wsX50 ++ wsX30)
def wsX8_ofMachine_r1 : List Cond := [Cond.constant RX8 96 (-1000000001), Cond.constant RX8 83 (-1000000002), Cond.fieldLink RX8 12 "TwoWays" "machines" "LTwoWays$Both;", Cond.constant RX8 92 (-1000000004), Cond.methodLink RX8 93 yX8_isMachine, Cond.static yX8_isMachine, Cond.initialized RX8, Cond.code yX8_isMachine cX8_isMachine 1 (some .boolean), Cond.methodLink RX8 111 yX0_at, Cond.instanceMethod yX0_at, Cond.selects RX0 yX0_at yX0_at, Cond.initialized RX0, Cond.code yX0_at cX0_at 2 (some (.object "TwoWays$Machine")), Cond.fieldLink RX0 10 "TwoWays$Both" "zero" "LTwoWays$Machine;", Cond.fieldLink RX0 16 "TwoWays$Both" "one" "LTwoWays$Machine;", Cond.methodLink RX8 119 yX3_size, Cond.instanceMethod yX3_size, Cond.selects RX3 yX3_size yX3_size, Cond.initialized RX3, Cond.code yX3_size cX3_size 1 (some .int), Cond.fieldLink RX3 15 "TwoWays$Machine" "size" "I", Cond.methodLink RX8 148 yX3_countMoves, Cond.instanceMethod yX3_countMoves, Cond.selects RX3 yX3_countMoves yX3_countMoves]
def wsX8_ofMachine_r2 : List Cond := [Cond.code yX3_countMoves cX3_countMoves 3 (some .int), Cond.fieldLink RX3 9 "TwoWays$Machine" "moves" "[I", Cond.methodLink RX8 215 yX8_oneWayFor, Cond.instanceMethod yX8_oneWayFor, Cond.selects RX8 yX8_oneWayFor yX8_oneWayFor, Cond.code yX8_oneWayFor cX8_oneWayFor 3 (some (.object "TwoWays$OneWay")), Cond.fieldLink RX8 65 "TwoWays" "oneWayOfZero" "LTwoWays$OneWay;", Cond.fieldLink RX8 69 "TwoWays" "oneWayOfOne" "LTwoWays$OneWay;", Cond.methodLink RX8 269 yX5_make, Cond.instanceMethod yX5_make, Cond.selects RX5 yX5_make yX5_make, Cond.initialized RX5, Cond.code yX5_make cX5_make 4 none, Cond.fieldLink RX5 53 "TwoWays$OneWay" "made" "Z", Cond.fieldLink RX5 14 "TwoWays$OneWay" "source" "LTwoWays$Machine;", Cond.fieldLink RX5 65 "TwoWays$OneWay" "tooMany" "Z", Cond.fieldLink RX5 68 "TwoWays$OneWay" "size" "I", Cond.fieldLink RX5 72 "TwoWays$OneWay" "least" "I", Cond.fieldLink RX5 25 "TwoWays$OneWay" "numberByCode" "[I", Cond.fieldLink RX5 28 "TwoWays$OneWay" "nexts" "[I", Cond.fieldLink RX5 35 "TwoWays$OneWay" "words" "[I", Cond.methodLink RX5 57 yX3_isLike, Cond.instanceMethod yX3_isLike, Cond.selects RX3 yX3_isLike yX3_isLike]
def wsX8_ofMachine_r3 : List Cond := [Cond.code yX3_isLike cX3_isLike 3 (some .boolean), Cond.methodLink RX5 61 yX3_become, Cond.instanceMethod yX3_become, Cond.selects RX3 yX3_become yX3_become, Cond.code yX3_become cX3_become 2 none, Cond.methodLink RX3 41 arraycopyName, Cond.native arraycopyName, Cond.static arraycopyName, Cond.initialized "java/lang/System", Cond.methodLink RX5 75 yJ7_fill_53178, Cond.static yJ7_fill_53178, Cond.initialized RJ7, Cond.code yJ7_fill_53178 cJ7_fill_53178 4 none, Cond.methodLink RX5 81 yX5_findBehind, Cond.instanceMethod yX5_findBehind, Cond.selects RX5 yX5_findBehind yX5_findBehind, Cond.code yX5_findBehind cX5_findBehind 4 none, Cond.fieldLink RX5 22 "TwoWays$OneWay" "found" "[I", Cond.methodLink RX5 110 yX5_firstOff, Cond.instanceMethod yX5_firstOff, Cond.selects RX5 yX5_firstOff yX5_firstOff, Cond.code yX5_firstOff cX5_firstOff 2 (some .int), Cond.fieldLink RX5 18 "TwoWays$OneWay" "doings" "[I", Cond.methodLink RX5 96 yX5_hasState]
def wsX8_ofMachine_r4 : List Cond := [Cond.instanceMethod yX5_hasState, Cond.selects RX5 yX5_hasState yX5_hasState, Cond.code yX5_hasState cX5_hasState 2 (some .boolean), Cond.methodLink RX5 113 yX5_goOff, Cond.instanceMethod yX5_goOff, Cond.selects RX5 yX5_goOff yX5_goOff, Cond.code yX5_goOff cX5_goOff 7 (some .int), Cond.methodLink RX5 117 yX3_at, Cond.instanceMethod yX3_at, Cond.selects RX3 yX3_at yX3_at, Cond.code yX3_at cX3_at 3 (some .int), Cond.static yX8_isSign, Cond.code yX8_isSign cX8_isSign 1 (some .boolean), Cond.static yX8_sideOf, Cond.code yX8_sideOf cX8_sideOf 1 (some .int), Cond.static yX8_stateOf, Cond.code yX8_stateOf cX8_stateOf 1 (some .int), Cond.methodLink RX5 126 yX5_comesBack, Cond.instanceMethod yX5_comesBack, Cond.selects RX5 yX5_comesBack yX5_comesBack, Cond.code yX5_comesBack cX5_comesBack 4 (some .int), Cond.methodLink RX5 85 yX5_numberOfFound, Cond.instanceMethod yX5_numberOfFound, Cond.selects RX5 yX5_numberOfFound yX5_numberOfFound]
def wsX8_ofMachine_r5 : List Cond := [Cond.code yX5_numberOfFound cX5_numberOfFound 3 (some .int), Cond.methodLink RX5 129 yX5_codeOfFound, Cond.instanceMethod yX5_codeOfFound, Cond.selects RX5 yX5_codeOfFound yX5_codeOfFound, Cond.code yX5_codeOfFound cX5_codeOfFound 3 (some .int), Cond.methodLink RX5 132 yX5_addFound, Cond.instanceMethod yX5_addFound, Cond.selects RX5 yX5_addFound yX5_addFound, Cond.code yX5_addFound cX5_addFound 3 none, Cond.methodLink RX5 136 arraycopyName, Cond.static yX8_lengthen, Cond.code yX8_lengthen cX8_lengthen 3 (some .int), Cond.constant RX8 165 (33554432), Cond.methodLink RX5 93 yX5_markGoods, Cond.instanceMethod yX5_markGoods, Cond.selects RX5 yX5_markGoods yX5_markGoods, Cond.code yX5_markGoods cX5_markGoods 2 none, Cond.fieldLink RX5 31 "TwoWays$OneWay" "goods" "[Z", Cond.methodLink RX8 219 yX5_isTooMany, Cond.instanceMethod yX5_isTooMany, Cond.selects RX5 yX5_isTooMany yX5_isTooMany, Cond.code yX5_isTooMany cX5_isTooMany 1 (some .boolean), Cond.methodLink RX8 222 yX5_size, Cond.instanceMethod yX5_size]
def wsX8_ofMachine_r6 : List Cond := [Cond.selects RX5 yX5_size yX5_size, Cond.code yX5_size cX5_size 1 (some .int), Cond.methodLink RX8 223 yX5_leastSize, Cond.instanceMethod yX5_leastSize, Cond.selects RX5 yX5_leastSize yX5_leastSize, Cond.code yX5_leastSize cX5_leastSize 3 (some .int), Cond.methodLink RX5 103 yX5_groupByGoodness, Cond.instanceMethod yX5_groupByGoodness, Cond.selects RX5 yX5_groupByGoodness yX5_groupByGoodness, Cond.code yX5_groupByGoodness cX5_groupByGoodness 2 none, Cond.fieldLink RX5 38 "TwoWays$OneWay" "groups" "[I", Cond.methodLink RX5 106 yX5_splitGroups, Cond.instanceMethod yX5_splitGroups, Cond.selects RX5 yX5_splitGroups yX5_splitGroups, Cond.code yX5_splitGroups cX5_splitGroups 4 (some .int), Cond.fieldLink RX5 44 "TwoWays$OneWay" "leaders" "[I", Cond.fieldLink RX5 41 "TwoWays$OneWay" "finerGroups" "[I", Cond.methodLink RX5 145 yX5_groupAmong, Cond.instanceMethod yX5_groupAmong, Cond.selects RX5 yX5_groupAmong yX5_groupAmong, Cond.code yX5_groupAmong cX5_groupAmong 4 (some .int), Cond.methodLink RX5 148 yX5_goTogether, Cond.instanceMethod yX5_goTogether, Cond.selects RX5 yX5_goTogether yX5_goTogether]
def wsX8_ofMachine_r7 : List Cond := [Cond.code yX5_goTogether cX5_goTogether 3 (some .boolean), Cond.methodLink RX5 152 yX5_groupOf, Cond.instanceMethod yX5_groupOf, Cond.selects RX5 yX5_groupOf yX5_groupOf, Cond.code yX5_groupOf cX5_groupOf 2 (some .int), Cond.methodLink RX5 142 yX5_next, Cond.instanceMethod yX5_next, Cond.selects RX5 yX5_next yX5_next, Cond.code yX5_next cX5_next 3 (some .int), Cond.methodLink RX8 226 yX5_firstWord, Cond.instanceMethod yX5_firstWord, Cond.selects RX5 yX5_firstWord yX5_firstWord, Cond.code yX5_firstWord cX5_firstWord 3 (some .int)]
def wsX8_ofMachine : List Cond := .code yX8_ofMachine cX8_ofMachine 5 (some .int) :: ((wsX8_ofMachine_r1 ++ (wsX8_ofMachine_r2 ++ (wsX8_ofMachine_r3 ++ (wsX8_ofMachine_r4 ++ (wsX8_ofMachine_r5 ++ (wsX8_ofMachine_r6 ++ wsX8_ofMachine_r7)))))) ++ wsX80 ++ wsX00 ++ wsX30 ++ wsX50)
def wsX8_oneWay_r1 : List Cond := [Cond.constant RX8 96 (-1000000001), Cond.constant RX8 92 (-1000000004), Cond.fieldLink RX8 12 "TwoWays" "machines" "LTwoWays$Both;", Cond.constant RX8 83 (-1000000002), Cond.methodLink RX8 93 yX8_isMachine, Cond.static yX8_isMachine, Cond.initialized RX8, Cond.code yX8_isMachine cX8_isMachine 1 (some .boolean), Cond.methodLink RX8 215 yX8_oneWayFor, Cond.instanceMethod yX8_oneWayFor, Cond.selects RX8 yX8_oneWayFor yX8_oneWayFor, Cond.code yX8_oneWayFor cX8_oneWayFor 3 (some (.object "TwoWays$OneWay")), Cond.fieldLink RX8 65 "TwoWays" "oneWayOfZero" "LTwoWays$OneWay;", Cond.fieldLink RX8 69 "TwoWays" "oneWayOfOne" "LTwoWays$OneWay;", Cond.methodLink RX8 111 yX0_at, Cond.instanceMethod yX0_at, Cond.selects RX0 yX0_at yX0_at, Cond.initialized RX0, Cond.code yX0_at cX0_at 2 (some (.object "TwoWays$Machine")), Cond.fieldLink RX0 10 "TwoWays$Both" "zero" "LTwoWays$Machine;", Cond.fieldLink RX0 16 "TwoWays$Both" "one" "LTwoWays$Machine;", Cond.methodLink RX8 269 yX5_make, Cond.instanceMethod yX5_make, Cond.selects RX5 yX5_make yX5_make]
def wsX8_oneWay_r2 : List Cond := [Cond.initialized RX5, Cond.code yX5_make cX5_make 4 none, Cond.fieldLink RX5 53 "TwoWays$OneWay" "made" "Z", Cond.fieldLink RX5 14 "TwoWays$OneWay" "source" "LTwoWays$Machine;", Cond.fieldLink RX5 65 "TwoWays$OneWay" "tooMany" "Z", Cond.fieldLink RX5 68 "TwoWays$OneWay" "size" "I", Cond.fieldLink RX5 72 "TwoWays$OneWay" "least" "I", Cond.fieldLink RX5 25 "TwoWays$OneWay" "numberByCode" "[I", Cond.fieldLink RX5 28 "TwoWays$OneWay" "nexts" "[I", Cond.fieldLink RX5 35 "TwoWays$OneWay" "words" "[I", Cond.methodLink RX5 57 yX3_isLike, Cond.instanceMethod yX3_isLike, Cond.selects RX3 yX3_isLike yX3_isLike, Cond.initialized RX3, Cond.code yX3_isLike cX3_isLike 3 (some .boolean), Cond.fieldLink RX3 9 "TwoWays$Machine" "moves" "[I", Cond.fieldLink RX3 15 "TwoWays$Machine" "size" "I", Cond.methodLink RX5 61 yX3_become, Cond.instanceMethod yX3_become, Cond.selects RX3 yX3_become yX3_become, Cond.code yX3_become cX3_become 2 none, Cond.methodLink RX3 41 arraycopyName, Cond.native arraycopyName, Cond.static arraycopyName]
def wsX8_oneWay_r3 : List Cond := [Cond.initialized "java/lang/System", Cond.methodLink RX5 75 yJ7_fill_53178, Cond.static yJ7_fill_53178, Cond.initialized RJ7, Cond.code yJ7_fill_53178 cJ7_fill_53178 4 none, Cond.methodLink RX5 81 yX5_findBehind, Cond.instanceMethod yX5_findBehind, Cond.selects RX5 yX5_findBehind yX5_findBehind, Cond.code yX5_findBehind cX5_findBehind 4 none, Cond.fieldLink RX5 22 "TwoWays$OneWay" "found" "[I", Cond.methodLink RX5 110 yX5_firstOff, Cond.instanceMethod yX5_firstOff, Cond.selects RX5 yX5_firstOff yX5_firstOff, Cond.code yX5_firstOff cX5_firstOff 2 (some .int), Cond.fieldLink RX5 18 "TwoWays$OneWay" "doings" "[I", Cond.methodLink RX5 96 yX5_hasState, Cond.instanceMethod yX5_hasState, Cond.selects RX5 yX5_hasState yX5_hasState, Cond.code yX5_hasState cX5_hasState 2 (some .boolean), Cond.methodLink RX5 113 yX5_goOff, Cond.instanceMethod yX5_goOff, Cond.selects RX5 yX5_goOff yX5_goOff, Cond.code yX5_goOff cX5_goOff 7 (some .int), Cond.methodLink RX5 117 yX3_at]
def wsX8_oneWay_r4 : List Cond := [Cond.instanceMethod yX3_at, Cond.selects RX3 yX3_at yX3_at, Cond.code yX3_at cX3_at 3 (some .int), Cond.static yX8_isSign, Cond.code yX8_isSign cX8_isSign 1 (some .boolean), Cond.static yX8_sideOf, Cond.code yX8_sideOf cX8_sideOf 1 (some .int), Cond.static yX8_stateOf, Cond.code yX8_stateOf cX8_stateOf 1 (some .int), Cond.methodLink RX5 126 yX5_comesBack, Cond.instanceMethod yX5_comesBack, Cond.selects RX5 yX5_comesBack yX5_comesBack, Cond.code yX5_comesBack cX5_comesBack 4 (some .int), Cond.methodLink RX5 85 yX5_numberOfFound, Cond.instanceMethod yX5_numberOfFound, Cond.selects RX5 yX5_numberOfFound yX5_numberOfFound, Cond.code yX5_numberOfFound cX5_numberOfFound 3 (some .int), Cond.methodLink RX5 129 yX5_codeOfFound, Cond.instanceMethod yX5_codeOfFound, Cond.selects RX5 yX5_codeOfFound yX5_codeOfFound, Cond.code yX5_codeOfFound cX5_codeOfFound 3 (some .int), Cond.methodLink RX5 132 yX5_addFound, Cond.instanceMethod yX5_addFound, Cond.selects RX5 yX5_addFound yX5_addFound]
def wsX8_oneWay_r5 : List Cond := [Cond.code yX5_addFound cX5_addFound 3 none, Cond.methodLink RX5 136 arraycopyName, Cond.static yX8_lengthen, Cond.code yX8_lengthen cX8_lengthen 3 (some .int), Cond.constant RX8 165 (33554432), Cond.methodLink RX5 93 yX5_markGoods, Cond.instanceMethod yX5_markGoods, Cond.selects RX5 yX5_markGoods yX5_markGoods, Cond.code yX5_markGoods cX5_markGoods 2 none, Cond.fieldLink RX5 31 "TwoWays$OneWay" "goods" "[Z", Cond.methodLink RX8 219 yX5_isTooMany, Cond.instanceMethod yX5_isTooMany, Cond.selects RX5 yX5_isTooMany yX5_isTooMany, Cond.code yX5_isTooMany cX5_isTooMany 1 (some .boolean), Cond.methodLink RX8 230 yX5_hasState, Cond.methodLink RX8 119 yX3_size, Cond.instanceMethod yX3_size, Cond.selects RX3 yX3_size yX3_size, Cond.code yX3_size cX3_size 1 (some .int), Cond.methodLink RX8 231 yX5_next, Cond.instanceMethod yX5_next, Cond.selects RX5 yX5_next yX5_next, Cond.code yX5_next cX5_next 3 (some .int), Cond.methodLink RX8 234 yX5_isGood]
def wsX8_oneWay_r6 : List Cond := [Cond.instanceMethod yX5_isGood, Cond.selects RX5 yX5_isGood yX5_isGood, Cond.code yX5_isGood cX5_isGood 2 (some .boolean), Cond.methodLink RX8 237 yX5_firstOff, Cond.methodLink RX8 240 yX5_comesBack]
def wsX8_oneWay : List Cond := .code yX8_oneWay cX8_oneWay 5 (some .int) :: ((wsX8_oneWay_r1 ++ (wsX8_oneWay_r2 ++ (wsX8_oneWay_r3 ++ (wsX8_oneWay_r4 ++ (wsX8_oneWay_r5 ++ wsX8_oneWay_r6))))) ++ wsX80 ++ wsX00 ++ wsX50 ++ wsX30)
def wsX8_taken_r1 : List Cond := [Cond.constant RX8 96 (-1000000001), Cond.constant RX8 83 (-1000000002), Cond.constant RX8 92 (-1000000004), Cond.methodLink RX8 93 yX8_isMachine, Cond.static yX8_isMachine, Cond.initialized RX8, Cond.code yX8_isMachine cX8_isMachine 1 (some .boolean), Cond.methodLink RX8 215 yX8_oneWayFor, Cond.instanceMethod yX8_oneWayFor, Cond.selects RX8 yX8_oneWayFor yX8_oneWayFor, Cond.code yX8_oneWayFor cX8_oneWayFor 3 (some (.object "TwoWays$OneWay")), Cond.fieldLink RX8 65 "TwoWays" "oneWayOfZero" "LTwoWays$OneWay;", Cond.fieldLink RX8 69 "TwoWays" "oneWayOfOne" "LTwoWays$OneWay;", Cond.fieldLink RX8 12 "TwoWays" "machines" "LTwoWays$Both;", Cond.methodLink RX8 111 yX0_at, Cond.instanceMethod yX0_at, Cond.selects RX0 yX0_at yX0_at, Cond.initialized RX0, Cond.code yX0_at cX0_at 2 (some (.object "TwoWays$Machine")), Cond.fieldLink RX0 10 "TwoWays$Both" "zero" "LTwoWays$Machine;", Cond.fieldLink RX0 16 "TwoWays$Both" "one" "LTwoWays$Machine;", Cond.methodLink RX8 269 yX5_make, Cond.instanceMethod yX5_make, Cond.selects RX5 yX5_make yX5_make]
def wsX8_taken_r2 : List Cond := [Cond.initialized RX5, Cond.code yX5_make cX5_make 4 none, Cond.fieldLink RX5 53 "TwoWays$OneWay" "made" "Z", Cond.fieldLink RX5 14 "TwoWays$OneWay" "source" "LTwoWays$Machine;", Cond.fieldLink RX5 65 "TwoWays$OneWay" "tooMany" "Z", Cond.fieldLink RX5 68 "TwoWays$OneWay" "size" "I", Cond.fieldLink RX5 72 "TwoWays$OneWay" "least" "I", Cond.fieldLink RX5 25 "TwoWays$OneWay" "numberByCode" "[I", Cond.fieldLink RX5 28 "TwoWays$OneWay" "nexts" "[I", Cond.fieldLink RX5 35 "TwoWays$OneWay" "words" "[I", Cond.methodLink RX5 57 yX3_isLike, Cond.instanceMethod yX3_isLike, Cond.selects RX3 yX3_isLike yX3_isLike, Cond.initialized RX3, Cond.code yX3_isLike cX3_isLike 3 (some .boolean), Cond.fieldLink RX3 9 "TwoWays$Machine" "moves" "[I", Cond.fieldLink RX3 15 "TwoWays$Machine" "size" "I", Cond.methodLink RX5 61 yX3_become, Cond.instanceMethod yX3_become, Cond.selects RX3 yX3_become yX3_become, Cond.code yX3_become cX3_become 2 none, Cond.methodLink RX3 41 arraycopyName, Cond.native arraycopyName, Cond.static arraycopyName]
def wsX8_taken_r3 : List Cond := [Cond.initialized "java/lang/System", Cond.methodLink RX5 75 yJ7_fill_53178, Cond.static yJ7_fill_53178, Cond.initialized RJ7, Cond.code yJ7_fill_53178 cJ7_fill_53178 4 none, Cond.methodLink RX5 81 yX5_findBehind, Cond.instanceMethod yX5_findBehind, Cond.selects RX5 yX5_findBehind yX5_findBehind, Cond.code yX5_findBehind cX5_findBehind 4 none, Cond.fieldLink RX5 22 "TwoWays$OneWay" "found" "[I", Cond.methodLink RX5 110 yX5_firstOff, Cond.instanceMethod yX5_firstOff, Cond.selects RX5 yX5_firstOff yX5_firstOff, Cond.code yX5_firstOff cX5_firstOff 2 (some .int), Cond.fieldLink RX5 18 "TwoWays$OneWay" "doings" "[I", Cond.methodLink RX5 96 yX5_hasState, Cond.instanceMethod yX5_hasState, Cond.selects RX5 yX5_hasState yX5_hasState, Cond.code yX5_hasState cX5_hasState 2 (some .boolean), Cond.methodLink RX5 113 yX5_goOff, Cond.instanceMethod yX5_goOff, Cond.selects RX5 yX5_goOff yX5_goOff, Cond.code yX5_goOff cX5_goOff 7 (some .int), Cond.methodLink RX5 117 yX3_at]
def wsX8_taken_r4 : List Cond := [Cond.instanceMethod yX3_at, Cond.selects RX3 yX3_at yX3_at, Cond.code yX3_at cX3_at 3 (some .int), Cond.static yX8_isSign, Cond.code yX8_isSign cX8_isSign 1 (some .boolean), Cond.static yX8_sideOf, Cond.code yX8_sideOf cX8_sideOf 1 (some .int), Cond.static yX8_stateOf, Cond.code yX8_stateOf cX8_stateOf 1 (some .int), Cond.methodLink RX5 126 yX5_comesBack, Cond.instanceMethod yX5_comesBack, Cond.selects RX5 yX5_comesBack yX5_comesBack, Cond.code yX5_comesBack cX5_comesBack 4 (some .int), Cond.methodLink RX5 85 yX5_numberOfFound, Cond.instanceMethod yX5_numberOfFound, Cond.selects RX5 yX5_numberOfFound yX5_numberOfFound, Cond.code yX5_numberOfFound cX5_numberOfFound 3 (some .int), Cond.methodLink RX5 129 yX5_codeOfFound, Cond.instanceMethod yX5_codeOfFound, Cond.selects RX5 yX5_codeOfFound yX5_codeOfFound, Cond.code yX5_codeOfFound cX5_codeOfFound 3 (some .int), Cond.methodLink RX5 132 yX5_addFound, Cond.instanceMethod yX5_addFound, Cond.selects RX5 yX5_addFound yX5_addFound]
def wsX8_taken_r5 : List Cond := [Cond.code yX5_addFound cX5_addFound 3 none, Cond.methodLink RX5 136 arraycopyName, Cond.static yX8_lengthen, Cond.code yX8_lengthen cX8_lengthen 3 (some .int), Cond.constant RX8 165 (33554432), Cond.methodLink RX5 93 yX5_markGoods, Cond.instanceMethod yX5_markGoods, Cond.selects RX5 yX5_markGoods yX5_markGoods, Cond.code yX5_markGoods cX5_markGoods 2 none, Cond.fieldLink RX5 31 "TwoWays$OneWay" "goods" "[Z", Cond.methodLink RX8 219 yX5_isTooMany, Cond.instanceMethod yX5_isTooMany, Cond.selects RX5 yX5_isTooMany yX5_isTooMany, Cond.code yX5_isTooMany cX5_isTooMany 1 (some .boolean), Cond.methodLink RX8 243 yX5_countWords, Cond.instanceMethod yX5_countWords, Cond.selects RX5 yX5_countWords yX5_countWords, Cond.code yX5_countWords cX5_countWords 4 (some .int), Cond.fieldLink RX5 47 "TwoWays$OneWay" "ways" "[I", Cond.methodLink RX5 100 yX5_countOneLetterMore, Cond.instanceMethod yX5_countOneLetterMore, Cond.selects RX5 yX5_countOneLetterMore yX5_countOneLetterMore, Cond.code yX5_countOneLetterMore cX5_countOneLetterMore 4 none, Cond.fieldLink RX5 50 "TwoWays$OneWay" "longerWays" "[I"]
def wsX8_taken_r6 : List Cond := [Cond.methodLink RX5 142 yX5_next, Cond.instanceMethod yX5_next, Cond.selects RX5 yX5_next yX5_next, Cond.code yX5_next cX5_next 3 (some .int)]
def wsX8_taken : List Cond := .code yX8_taken cX8_taken 4 (some .int) :: ((wsX8_taken_r1 ++ (wsX8_taken_r2 ++ (wsX8_taken_r3 ++ (wsX8_taken_r4 ++ (wsX8_taken_r5 ++ wsX8_taken_r6))))) ++ wsX80 ++ wsX00 ++ wsX50 ++ wsX30)
def wsX8_first_r1 : List Cond := [Cond.constant RX8 96 (-1000000001), Cond.methodLink RX8 171 yX8_firstByRule, Cond.instanceMethod yX8_firstByRule, Cond.selects RX8 yX8_firstByRule yX8_firstByRule, Cond.initialized RX8, Cond.code yX8_firstByRule cX8_firstByRule 3 (some .int), Cond.fieldLink RX8 65 "TwoWays" "oneWayOfZero" "LTwoWays$OneWay;", Cond.fieldLink RX8 12 "TwoWays" "machines" "LTwoWays$Both;", Cond.fieldLink RX8 69 "TwoWays" "oneWayOfOne" "LTwoWays$OneWay;", Cond.constant RX8 92 (-1000000004), Cond.fieldLink RX8 75 "TwoWays" "meeting" "LTwoWays$Meeting;", Cond.methodLink RX8 111 yX0_at, Cond.instanceMethod yX0_at, Cond.selects RX0 yX0_at yX0_at, Cond.initialized RX0, Cond.code yX0_at cX0_at 2 (some (.object "TwoWays$Machine")), Cond.fieldLink RX0 10 "TwoWays$Both" "zero" "LTwoWays$Machine;", Cond.fieldLink RX0 16 "TwoWays$Both" "one" "LTwoWays$Machine;", Cond.methodLink RX8 269 yX5_make, Cond.instanceMethod yX5_make, Cond.selects RX5 yX5_make yX5_make, Cond.initialized RX5, Cond.code yX5_make cX5_make 4 none, Cond.fieldLink RX5 53 "TwoWays$OneWay" "made" "Z"]
def wsX8_first_r2 : List Cond := [Cond.fieldLink RX5 14 "TwoWays$OneWay" "source" "LTwoWays$Machine;", Cond.fieldLink RX5 65 "TwoWays$OneWay" "tooMany" "Z", Cond.fieldLink RX5 68 "TwoWays$OneWay" "size" "I", Cond.fieldLink RX5 72 "TwoWays$OneWay" "least" "I", Cond.fieldLink RX5 25 "TwoWays$OneWay" "numberByCode" "[I", Cond.fieldLink RX5 28 "TwoWays$OneWay" "nexts" "[I", Cond.fieldLink RX5 35 "TwoWays$OneWay" "words" "[I", Cond.methodLink RX5 57 yX3_isLike, Cond.instanceMethod yX3_isLike, Cond.selects RX3 yX3_isLike yX3_isLike, Cond.initialized RX3, Cond.code yX3_isLike cX3_isLike 3 (some .boolean), Cond.fieldLink RX3 9 "TwoWays$Machine" "moves" "[I", Cond.fieldLink RX3 15 "TwoWays$Machine" "size" "I", Cond.methodLink RX5 61 yX3_become, Cond.instanceMethod yX3_become, Cond.selects RX3 yX3_become yX3_become, Cond.code yX3_become cX3_become 2 none, Cond.methodLink RX3 41 arraycopyName, Cond.native arraycopyName, Cond.static arraycopyName, Cond.initialized "java/lang/System", Cond.methodLink RX5 75 yJ7_fill_53178, Cond.static yJ7_fill_53178]
def wsX8_first_r3 : List Cond := [Cond.initialized RJ7, Cond.code yJ7_fill_53178 cJ7_fill_53178 4 none, Cond.methodLink RX5 81 yX5_findBehind, Cond.instanceMethod yX5_findBehind, Cond.selects RX5 yX5_findBehind yX5_findBehind, Cond.code yX5_findBehind cX5_findBehind 4 none, Cond.fieldLink RX5 22 "TwoWays$OneWay" "found" "[I", Cond.methodLink RX5 110 yX5_firstOff, Cond.instanceMethod yX5_firstOff, Cond.selects RX5 yX5_firstOff yX5_firstOff, Cond.code yX5_firstOff cX5_firstOff 2 (some .int), Cond.fieldLink RX5 18 "TwoWays$OneWay" "doings" "[I", Cond.methodLink RX5 96 yX5_hasState, Cond.instanceMethod yX5_hasState, Cond.selects RX5 yX5_hasState yX5_hasState, Cond.code yX5_hasState cX5_hasState 2 (some .boolean), Cond.methodLink RX5 113 yX5_goOff, Cond.instanceMethod yX5_goOff, Cond.selects RX5 yX5_goOff yX5_goOff, Cond.code yX5_goOff cX5_goOff 7 (some .int), Cond.methodLink RX5 117 yX3_at, Cond.instanceMethod yX3_at, Cond.selects RX3 yX3_at yX3_at, Cond.code yX3_at cX3_at 3 (some .int)]
def wsX8_first_r4 : List Cond := [Cond.static yX8_isSign, Cond.code yX8_isSign cX8_isSign 1 (some .boolean), Cond.static yX8_sideOf, Cond.code yX8_sideOf cX8_sideOf 1 (some .int), Cond.static yX8_stateOf, Cond.code yX8_stateOf cX8_stateOf 1 (some .int), Cond.methodLink RX5 126 yX5_comesBack, Cond.instanceMethod yX5_comesBack, Cond.selects RX5 yX5_comesBack yX5_comesBack, Cond.code yX5_comesBack cX5_comesBack 4 (some .int), Cond.methodLink RX5 85 yX5_numberOfFound, Cond.instanceMethod yX5_numberOfFound, Cond.selects RX5 yX5_numberOfFound yX5_numberOfFound, Cond.code yX5_numberOfFound cX5_numberOfFound 3 (some .int), Cond.methodLink RX5 129 yX5_codeOfFound, Cond.instanceMethod yX5_codeOfFound, Cond.selects RX5 yX5_codeOfFound yX5_codeOfFound, Cond.code yX5_codeOfFound cX5_codeOfFound 3 (some .int), Cond.methodLink RX5 132 yX5_addFound, Cond.instanceMethod yX5_addFound, Cond.selects RX5 yX5_addFound yX5_addFound, Cond.code yX5_addFound cX5_addFound 3 none, Cond.methodLink RX5 136 arraycopyName, Cond.static yX8_lengthen]
def wsX8_first_r5 : List Cond := [Cond.code yX8_lengthen cX8_lengthen 3 (some .int), Cond.constant RX8 165 (33554432), Cond.methodLink RX5 93 yX5_markGoods, Cond.instanceMethod yX5_markGoods, Cond.selects RX5 yX5_markGoods yX5_markGoods, Cond.code yX5_markGoods cX5_markGoods 2 none, Cond.fieldLink RX5 31 "TwoWays$OneWay" "goods" "[Z", Cond.methodLink RX8 219 yX5_isTooMany, Cond.instanceMethod yX5_isTooMany, Cond.selects RX5 yX5_isTooMany yX5_isTooMany, Cond.code yX5_isTooMany cX5_isTooMany 1 (some .boolean), Cond.methodLink RX8 272 yX4_firstWord, Cond.instanceMethod yX4_firstWord, Cond.selects RX4 yX4_firstWord yX4_firstWord, Cond.initialized RX4, Cond.code yX4_firstWord cX4_firstWord 9 (some .int), Cond.fieldLink RX4 15 "TwoWays$Meeting" "met" "[I", Cond.fieldLink RX4 25 "TwoWays$Meeting" "waiting" "I", Cond.fieldLink RX4 11 "TwoWays$Meeting" "queue" "[J", Cond.constantLong RX4 33 (32767), Cond.methodLink RX4 19 yJ7_fill_53178, Cond.methodLink RX4 29 yX4_meet, Cond.instanceMethod yX4_meet, Cond.selects RX4 yX4_meet yX4_meet]
def wsX8_first_r6 : List Cond := [Cond.code yX4_meet cX4_meet 5 none, Cond.methodLink RX4 52 yX4_isMet, Cond.instanceMethod yX4_isMet, Cond.selects RX4 yX4_isMet yX4_isMet, Cond.code yX4_isMet cX4_isMet 2 (some .boolean), Cond.methodLink RX4 35 yX5_isGood, Cond.instanceMethod yX5_isGood, Cond.selects RX5 yX5_isGood yX5_isGood, Cond.code yX5_isGood cX5_isGood 2 (some .boolean), Cond.methodLink RX4 41 yX4_fits, Cond.static yX4_fits, Cond.code yX4_fits cX4_fits 3 (some .boolean), Cond.methodLink RX4 45 yX5_next, Cond.instanceMethod yX5_next, Cond.selects RX5 yX5_next yX5_next, Cond.code yX5_next cX5_next 3 (some .int)]
def wsX8_first : List Cond := .code yX8_first cX8_first 2 (some .int) :: ((wsX8_first_r1 ++ (wsX8_first_r2 ++ (wsX8_first_r3 ++ (wsX8_first_r4 ++ (wsX8_first_r5 ++ wsX8_first_r6))))) ++ wsX80 ++ wsX00 ++ wsX50 ++ wsX30 ++ wsX40)
def wsX8_isTakenBothWays_r1 : List Cond := [Cond.fieldLink RX8 52 "TwoWays" "trial" "LTwoWays$Word;", Cond.fieldLink RX8 58 "TwoWays" "course" "LTwoWays$Course;", Cond.methodLink RX8 166 yX7_become, Cond.instanceMethod yX7_become, Cond.selects RX7 yX7_become yX7_become, Cond.initialized RX7, Cond.code yX7_become cX7_become 5 none, Cond.fieldLink RX7 15 "TwoWays$Word" "length" "I", Cond.methodLink RX7 23 yX7_add, Cond.instanceMethod yX7_add, Cond.selects RX7 yX7_add yX7_add, Cond.code yX7_add cX7_add 2 (some .boolean), Cond.fieldLink RX7 9 "TwoWays$Word" "letters" "[I", Cond.methodLink RX8 178 yX1_follow, Cond.instanceMethod yX1_follow, Cond.selects RX1 yX1_follow yX1_follow, Cond.initialized RX1, Cond.code yX1_follow cX1_follow 4 none, Cond.fieldLink RX1 11 "TwoWays$Course" "statesSeen" "[I", Cond.fieldLink RX1 27 "TwoWays$Course" "steps" "I", Cond.fieldLink RX1 31 "TwoWays$Course" "state" "I", Cond.fieldLink RX1 34 "TwoWays$Course" "place" "I", Cond.fieldLink RX1 37 "TwoWays$Course" "ending" "I", Cond.methodLink RX1 21 yJ7_fill_53178]
def wsX8_isTakenBothWays_r2 : List Cond := [Cond.static yJ7_fill_53178, Cond.initialized RJ7, Cond.code yJ7_fill_53178 cJ7_fill_53178 4 none, Cond.methodLink RX1 40 yX1_arrive, Cond.instanceMethod yX1_arrive, Cond.selects RX1 yX1_arrive yX1_arrive, Cond.code yX1_arrive cX1_arrive 2 none, Cond.methodLink RX1 78 yX7_length, Cond.instanceMethod yX7_length, Cond.selects RX7 yX7_length yX7_length, Cond.code yX7_length cX7_length 1 (some .int), Cond.methodLink RX1 44 yX1_step, Cond.instanceMethod yX1_step, Cond.selects RX1 yX1_step yX1_step, Cond.code yX1_step cX1_step 5 none, Cond.methodLink RX1 69 Lib.Math.min.name, Cond.static Lib.Math.min.name, Cond.initialized "java/lang/Math", Cond.code Lib.Math.min.name Lib.Math.min.code 2 (some .int), Cond.methodLink RX1 52 yX7_signAt, Cond.instanceMethod yX7_signAt, Cond.selects RX7 yX7_signAt yX7_signAt, Cond.code yX7_signAt cX7_signAt 2 (some .int), Cond.methodLink RX7 19 yX7_letterAt]
def wsX8_isTakenBothWays_r3 : List Cond := [Cond.instanceMethod yX7_letterAt, Cond.selects RX7 yX7_letterAt yX7_letterAt, Cond.code yX7_letterAt cX7_letterAt 2 (some .int), Cond.methodLink RX1 57 yX3_at, Cond.instanceMethod yX3_at, Cond.selects RX3 yX3_at yX3_at, Cond.initialized RX3, Cond.code yX3_at cX3_at 3 (some .int), Cond.fieldLink RX3 15 "TwoWays$Machine" "size" "I", Cond.fieldLink RX3 9 "TwoWays$Machine" "moves" "[I", Cond.static yX8_isSign, Cond.initialized RX8, Cond.code yX8_isSign cX8_isSign 1 (some .boolean), Cond.static yX8_stateOf, Cond.code yX8_stateOf cX8_stateOf 1 (some .int), Cond.static yX8_shift, Cond.code yX8_shift cX8_shift 1 (some .int), Cond.methodLink RX8 259 yX8_sideOf, Cond.static yX8_sideOf, Cond.code yX8_sideOf cX8_sideOf 1 (some .int), Cond.methodLink RX1 74 yX1_note, Cond.instanceMethod yX1_note, Cond.selects RX1 yX1_note yX1_note, Cond.code yX1_note cX1_note 2 none]
def wsX8_isTakenBothWays_r4 : List Cond := [Cond.fieldLink RX1 15 "TwoWays$Course" "gaps" "[I", Cond.fieldLink RX1 18 "TwoWays$Course" "states" "[I", Cond.methodLink RX8 182 yX1_isTaken, Cond.instanceMethod yX1_isTaken, Cond.selects RX1 yX1_isTaken yX1_isTaken, Cond.code yX1_isTaken cX1_isTaken 1 (some .boolean), Cond.methodLink RX8 284 yX7_turn, Cond.instanceMethod yX7_turn, Cond.selects RX7 yX7_turn yX7_turn, Cond.code yX7_turn cX7_turn 4 none]
def wsX8_isTakenBothWays : List Cond := .code yX8_isTakenBothWays cX8_isTakenBothWays 3 (some .boolean) :: ((wsX8_isTakenBothWays_r1 ++ (wsX8_isTakenBothWays_r2 ++ (wsX8_isTakenBothWays_r3 ++ wsX8_isTakenBothWays_r4))) ++ wsX80 ++ wsX70 ++ wsX10 ++ wsX30)
def wsX8_turned_r1 : List Cond := [Cond.constant RX8 96 (-1000000001), Cond.constant RX8 83 (-1000000002), Cond.fieldLink RX8 12 "TwoWays" "machines" "LTwoWays$Both;", Cond.methodLink RX8 93 yX8_isMachine, Cond.static yX8_isMachine, Cond.initialized RX8, Cond.code yX8_isMachine cX8_isMachine 1 (some .boolean), Cond.methodLink RX8 111 yX0_at, Cond.instanceMethod yX0_at, Cond.selects RX0 yX0_at yX0_at, Cond.initialized RX0, Cond.code yX0_at cX0_at 2 (some (.object "TwoWays$Machine")), Cond.fieldLink RX0 10 "TwoWays$Both" "zero" "LTwoWays$Machine;", Cond.fieldLink RX0 16 "TwoWays$Both" "one" "LTwoWays$Machine;", Cond.methodLink RX8 246 yX8_isTakenBothWays, Cond.instanceMethod yX8_isTakenBothWays, Cond.selects RX8 yX8_isTakenBothWays yX8_isTakenBothWays, Cond.code yX8_isTakenBothWays cX8_isTakenBothWays 3 (some .boolean), Cond.fieldLink RX8 52 "TwoWays" "trial" "LTwoWays$Word;", Cond.fieldLink RX8 58 "TwoWays" "course" "LTwoWays$Course;", Cond.methodLink RX8 166 yX7_become, Cond.instanceMethod yX7_become, Cond.selects RX7 yX7_become yX7_become, Cond.initialized RX7]
def wsX8_turned_r2 : List Cond := [Cond.code yX7_become cX7_become 5 none, Cond.fieldLink RX7 15 "TwoWays$Word" "length" "I", Cond.methodLink RX7 23 yX7_add, Cond.instanceMethod yX7_add, Cond.selects RX7 yX7_add yX7_add, Cond.code yX7_add cX7_add 2 (some .boolean), Cond.fieldLink RX7 9 "TwoWays$Word" "letters" "[I", Cond.methodLink RX8 178 yX1_follow, Cond.instanceMethod yX1_follow, Cond.selects RX1 yX1_follow yX1_follow, Cond.initialized RX1, Cond.code yX1_follow cX1_follow 4 none, Cond.fieldLink RX1 11 "TwoWays$Course" "statesSeen" "[I", Cond.fieldLink RX1 27 "TwoWays$Course" "steps" "I", Cond.fieldLink RX1 31 "TwoWays$Course" "state" "I", Cond.fieldLink RX1 34 "TwoWays$Course" "place" "I", Cond.fieldLink RX1 37 "TwoWays$Course" "ending" "I", Cond.methodLink RX1 21 yJ7_fill_53178, Cond.static yJ7_fill_53178, Cond.initialized RJ7, Cond.code yJ7_fill_53178 cJ7_fill_53178 4 none, Cond.methodLink RX1 40 yX1_arrive, Cond.instanceMethod yX1_arrive, Cond.selects RX1 yX1_arrive yX1_arrive]
def wsX8_turned_r3 : List Cond := [Cond.code yX1_arrive cX1_arrive 2 none, Cond.methodLink RX1 78 yX7_length, Cond.instanceMethod yX7_length, Cond.selects RX7 yX7_length yX7_length, Cond.code yX7_length cX7_length 1 (some .int), Cond.methodLink RX1 44 yX1_step, Cond.instanceMethod yX1_step, Cond.selects RX1 yX1_step yX1_step, Cond.code yX1_step cX1_step 5 none, Cond.methodLink RX1 69 Lib.Math.min.name, Cond.static Lib.Math.min.name, Cond.initialized "java/lang/Math", Cond.code Lib.Math.min.name Lib.Math.min.code 2 (some .int), Cond.methodLink RX1 52 yX7_signAt, Cond.instanceMethod yX7_signAt, Cond.selects RX7 yX7_signAt yX7_signAt, Cond.code yX7_signAt cX7_signAt 2 (some .int), Cond.methodLink RX7 19 yX7_letterAt, Cond.instanceMethod yX7_letterAt, Cond.selects RX7 yX7_letterAt yX7_letterAt, Cond.code yX7_letterAt cX7_letterAt 2 (some .int), Cond.methodLink RX1 57 yX3_at, Cond.instanceMethod yX3_at, Cond.selects RX3 yX3_at yX3_at]
def wsX8_turned_r4 : List Cond := [Cond.initialized RX3, Cond.code yX3_at cX3_at 3 (some .int), Cond.fieldLink RX3 15 "TwoWays$Machine" "size" "I", Cond.fieldLink RX3 9 "TwoWays$Machine" "moves" "[I", Cond.static yX8_isSign, Cond.code yX8_isSign cX8_isSign 1 (some .boolean), Cond.static yX8_stateOf, Cond.code yX8_stateOf cX8_stateOf 1 (some .int), Cond.static yX8_shift, Cond.code yX8_shift cX8_shift 1 (some .int), Cond.methodLink RX8 259 yX8_sideOf, Cond.static yX8_sideOf, Cond.code yX8_sideOf cX8_sideOf 1 (some .int), Cond.methodLink RX1 74 yX1_note, Cond.instanceMethod yX1_note, Cond.selects RX1 yX1_note yX1_note, Cond.code yX1_note cX1_note 2 none, Cond.fieldLink RX1 15 "TwoWays$Course" "gaps" "[I", Cond.fieldLink RX1 18 "TwoWays$Course" "states" "[I", Cond.methodLink RX8 182 yX1_isTaken, Cond.instanceMethod yX1_isTaken, Cond.selects RX1 yX1_isTaken yX1_isTaken, Cond.code yX1_isTaken cX1_isTaken 1 (some .boolean), Cond.methodLink RX8 284 yX7_turn]
def wsX8_turned_r5 : List Cond := [Cond.instanceMethod yX7_turn, Cond.selects RX7 yX7_turn yX7_turn, Cond.code yX7_turn cX7_turn 4 none]
def wsX8_turned : List Cond := .code yX8_turned cX8_turned 5 (some .int) :: ((wsX8_turned_r1 ++ (wsX8_turned_r2 ++ (wsX8_turned_r3 ++ (wsX8_turned_r4 ++ wsX8_turned_r5)))) ++ wsX80 ++ wsX00 ++ wsX70 ++ wsX10 ++ wsX30)
def wsX8_imageAt : List Cond := .code yX8_imageAt cX8_imageAt 2 (some (.object "TwoWays$Both")) :: ([.fieldLink RX8 23 "TwoWays" "images" "[LTwoWays$Both;"] ++ wsX80)
def wsX8_keep_r1 : List Cond := [Cond.constant RX8 96 (-1000000001), Cond.fieldLink RX8 12 "TwoWays" "machines" "LTwoWays$Both;", Cond.fieldLink RX8 27 "TwoWays" "imageKept" "[Z", Cond.fieldLink RX8 19 "TwoWays" "history" "LTwoWays$History;", Cond.methodLink RX8 250 yX8_imageAt, Cond.instanceMethod yX8_imageAt, Cond.selects RX8 yX8_imageAt yX8_imageAt, Cond.initialized RX8, Cond.code yX8_imageAt cX8_imageAt 2 (some (.object "TwoWays$Both")), Cond.fieldLink RX8 23 "TwoWays" "images" "[LTwoWays$Both;", Cond.methodLink RX8 254 yX0_become, Cond.instanceMethod yX0_become, Cond.selects RX0 yX0_become yX0_become, Cond.initialized RX0, Cond.code yX0_become cX0_become 2 none, Cond.fieldLink RX0 10 "TwoWays$Both" "zero" "LTwoWays$Machine;", Cond.fieldLink RX0 16 "TwoWays$Both" "one" "LTwoWays$Machine;", Cond.methodLink RX0 19 yX3_become, Cond.instanceMethod yX3_become, Cond.selects RX3 yX3_become yX3_become, Cond.initialized RX3, Cond.code yX3_become cX3_become 2 none, Cond.fieldLink RX3 15 "TwoWays$Machine" "size" "I", Cond.fieldLink RX3 9 "TwoWays$Machine" "moves" "[I"]
def wsX8_keep_r2 : List Cond := [Cond.methodLink RX3 41 arraycopyName, Cond.native arraycopyName, Cond.static arraycopyName, Cond.initialized "java/lang/System", Cond.methodLink RX8 256 yX2_forget, Cond.instanceMethod yX2_forget, Cond.selects RX2 yX2_forget yX2_forget, Cond.initialized RX2, Cond.code yX2_forget cX2_forget 1 none, Cond.fieldLink RX2 18 "TwoWays$History" "size" "I"]
def wsX8_keep : List Cond := .code yX8_keep cX8_keep 3 (some .int) :: ((wsX8_keep_r1 ++ wsX8_keep_r2) ++ wsX80 ++ wsX00 ++ wsX30 ++ wsX20)
def wsX8_goBack_r1 : List Cond := [Cond.constant RX8 96 (-1000000001), Cond.fieldLink RX8 27 "TwoWays" "imageKept" "[Z", Cond.constant RX8 139 (-1000000003), Cond.fieldLink RX8 12 "TwoWays" "machines" "LTwoWays$Both;", Cond.fieldLink RX8 19 "TwoWays" "history" "LTwoWays$History;", Cond.methodLink RX8 250 yX8_imageAt, Cond.instanceMethod yX8_imageAt, Cond.selects RX8 yX8_imageAt yX8_imageAt, Cond.initialized RX8, Cond.code yX8_imageAt cX8_imageAt 2 (some (.object "TwoWays$Both")), Cond.fieldLink RX8 23 "TwoWays" "images" "[LTwoWays$Both;", Cond.methodLink RX8 254 yX0_become, Cond.instanceMethod yX0_become, Cond.selects RX0 yX0_become yX0_become, Cond.initialized RX0, Cond.code yX0_become cX0_become 2 none, Cond.fieldLink RX0 10 "TwoWays$Both" "zero" "LTwoWays$Machine;", Cond.fieldLink RX0 16 "TwoWays$Both" "one" "LTwoWays$Machine;", Cond.methodLink RX0 19 yX3_become, Cond.instanceMethod yX3_become, Cond.selects RX3 yX3_become yX3_become, Cond.initialized RX3, Cond.code yX3_become cX3_become 2 none, Cond.fieldLink RX3 15 "TwoWays$Machine" "size" "I"]
def wsX8_goBack_r2 : List Cond := [Cond.fieldLink RX3 9 "TwoWays$Machine" "moves" "[I", Cond.methodLink RX3 41 arraycopyName, Cond.native arraycopyName, Cond.static arraycopyName, Cond.initialized "java/lang/System", Cond.methodLink RX8 256 yX2_forget, Cond.instanceMethod yX2_forget, Cond.selects RX2 yX2_forget yX2_forget, Cond.initialized RX2, Cond.code yX2_forget cX2_forget 1 none, Cond.fieldLink RX2 18 "TwoWays$History" "size" "I"]
def wsX8_goBack : List Cond := .code yX8_goBack cX8_goBack 3 (some .int) :: ((wsX8_goBack_r1 ++ wsX8_goBack_r2) ++ wsX80 ++ wsX00 ++ wsX30 ++ wsX20)
def wsX9_in : List Cond := .code yX9_in cX9_in 6 (some .boolean) :: ([])
def wsX9_wipes : List Cond := .code yX9_wipes cX9_wipes 4 none :: ([.fieldLink RX9 7 "TwoWaysModel" "now" "[I"] ++ wsX90)
def wsX9_init_r1 : List Cond := [Cond.methodLink RX9 1 objectInit, Cond.instanceMethod objectInit, Cond.code objectInit ⟨#[0xb1]⟩ 1 none, Cond.arrayClass .int, Cond.fieldLink RX9 7 "TwoWaysModel" "now" "[I", Cond.fieldLink RX9 13 "TwoWaysModel" "text" "[I", Cond.fieldLink RX9 16 "TwoWaysModel" "faultAt" "I", Cond.fieldLink RX9 20 "TwoWaysModel" "read" "[I", Cond.fieldLink RX9 23 "TwoWaysModel" "ahead" "[I", Cond.fieldLink RX9 26 "TwoWaysModel" "word" "[I", Cond.fieldLink RX9 29 "TwoWaysModel" "been" "[I", Cond.fieldLink RX9 32 "TwoWaysModel" "gaps" "[I", Cond.fieldLink RX9 35 "TwoWaysModel" "into" "[I", Cond.fieldLink RX9 38 "TwoWaysModel" "found" "[I", Cond.fieldLink RX9 41 "TwoWaysModel" "does" "[I", Cond.fieldLink RX9 44 "TwoWaysModel" "next" "[I", Cond.fieldLink RX9 47 "TwoWaysModel" "good" "[I", Cond.fieldLink RX9 50 "TwoWaysModel" "from" "[I", Cond.fieldLink RX9 53 "TwoWaysModel" "tried" "[I", Cond.fieldLink RX9 56 "TwoWaysModel" "sort" "[I", Cond.fieldLink RX9 59 "TwoWaysModel" "then" "[I", Cond.fieldLink RX9 62 "TwoWaysModel" "ways" "[I", Cond.fieldLink RX9 65 "TwoWaysModel" "wayThen" "[I", Cond.fieldLink RX9 68 "TwoWaysModel" "pairs" "[I"]
def wsX9_init_r2 : List Cond := [Cond.fieldLink RX9 71 "TwoWaysModel" "pairFrom" "[I", Cond.fieldLink RX9 74 "TwoWaysModel" "isFound" "[I", Cond.fieldLink RX9 77 "TwoWaysModel" "aside" "[I", Cond.fieldLink RX9 80 "TwoWaysModel" "kept" "[I", Cond.methodLink RX9 83 yX9_wipes, Cond.instanceMethod yX9_wipes, Cond.selects RX9 yX9_wipes yX9_wipes, Cond.initialized RX9, Cond.code yX9_wipes cX9_wipes 4 none]
def wsX9_init : List Cond := .code yX9_init cX9_init 1 none :: ((wsX9_init_r1 ++ wsX9_init_r2) ++ wsX90)
def wsX9_isMachine : List Cond := .code yX9_isMachine cX9_isMachine 1 (some .boolean) :: ([.methodLink RX9 87 yX9_in, .static yX9_in, .initialized RX9, .code yX9_in cX9_in 6 (some .boolean)])
def wsX9_states0 : List Cond := .code yX9_states0 cX9_states0 2 (some .int) :: ([.fieldLink RX9 7 "TwoWaysModel" "now" "[I"] ++ wsX90)
def wsX9_isState : List Cond := .code yX9_isState cX9_isState 3 (some .boolean) :: ([.methodLink RX9 91 yX9_states0, .instanceMethod yX9_states0, .selects RX9 yX9_states0 yX9_states0, .initialized RX9, .code yX9_states0 cX9_states0 2 (some .int), .fieldLink RX9 7 "TwoWaysModel" "now" "[I", .methodLink RX9 87 yX9_in, .static yX9_in, .code yX9_in cX9_in 6 (some .boolean)] ++ wsX90)
def wsX9_moveAt : List Cond := .code yX9_moveAt cX9_moveAt 4 (some .int) :: ([.fieldLink RX9 7 "TwoWaysModel" "now" "[I"] ++ wsX90)
def wsX9_feed : List Cond := .code yX9_feed cX9_feed 2 (some .int) :: ([.constantLong RX9 95 (255), .constant RX9 97 (-1000000002), .fieldLink RX9 98 "TwoWaysModel" "fed" "I", .constant RX9 101 (-1000000004), .fieldLink RX9 13 "TwoWaysModel" "text" "[I", .methodLink RX9 87 yX9_in, .static yX9_in, .initialized RX9, .code yX9_in cX9_in 6 (some .boolean)] ++ wsX90)
def wsX9_here : List Cond := .code yX9_here cX9_here 1 (some .int) :: ([.fieldLink RX9 102 "TwoWaysModel" "place" "I", .fieldLink RX9 98 "TwoWaysModel" "fed" "I", .fieldLink RX9 13 "TwoWaysModel" "text" "[I"] ++ wsX90)
def wsX9_wrong : List Cond := .code yX9_wrong cX9_wrong 2 (some .boolean) :: ([.fieldLink RX9 105 "TwoWaysModel" "why" "I"] ++ wsX90)
def wsX9_must : List Cond := .code yX9_must cX9_must 2 (some .boolean) :: ([.fieldLink RX9 102 "TwoWaysModel" "place" "I", .methodLink RX9 108 yX9_here, .instanceMethod yX9_here, .selects RX9 yX9_here yX9_here, .initialized RX9, .code yX9_here cX9_here 1 (some .int), .fieldLink RX9 98 "TwoWaysModel" "fed" "I", .fieldLink RX9 13 "TwoWaysModel" "text" "[I", .methodLink RX9 112 yX9_wrong, .instanceMethod yX9_wrong, .selects RX9 yX9_wrong yX9_wrong, .code yX9_wrong cX9_wrong 2 (some .boolean), .fieldLink RX9 105 "TwoWaysModel" "why" "I"] ++ wsX90)
def wsX9_isFigure : List Cond := .code yX9_isFigure cX9_isFigure 3 (some .boolean) :: ([.fieldLink RX9 116 "TwoWaysModel" "figure" "I", .constantLong RX9 119 (9), .fieldLink RX9 102 "TwoWaysModel" "place" "I", .methodLink RX9 108 yX9_here, .instanceMethod yX9_here, .selects RX9 yX9_here yX9_here, .initialized RX9, .code yX9_here cX9_here 1 (some .int), .fieldLink RX9 98 "TwoWaysModel" "fed" "I", .fieldLink RX9 13 "TwoWaysModel" "text" "[I", .methodLink RX9 87 yX9_in, .static yX9_in, .code yX9_in cX9_in 6 (some .boolean), .methodLink RX9 112 yX9_wrong, .instanceMethod yX9_wrong, .selects RX9 yX9_wrong yX9_wrong, .code yX9_wrong cX9_wrong 2 (some .boolean), .fieldLink RX9 105 "TwoWaysModel" "why" "I"] ++ wsX90)
def wsX9_signOf : List Cond := .code yX9_signOf cX9_signOf 1 (some .int) :: ([])
def wsX9_readsMove_r1 : List Cond := [Cond.fieldLink RX9 102 "TwoWaysModel" "place" "I", Cond.fieldLink RX9 20 "TwoWaysModel" "read" "[I", Cond.fieldLink RX9 116 "TwoWaysModel" "figure" "I", Cond.methodLink RX9 121 yX9_isFigure, Cond.instanceMethod yX9_isFigure, Cond.selects RX9 yX9_isFigure yX9_isFigure, Cond.initialized RX9, Cond.code yX9_isFigure cX9_isFigure 3 (some .boolean), Cond.constantLong RX9 119 (9), Cond.methodLink RX9 108 yX9_here, Cond.instanceMethod yX9_here, Cond.selects RX9 yX9_here yX9_here, Cond.code yX9_here cX9_here 1 (some .int), Cond.fieldLink RX9 98 "TwoWaysModel" "fed" "I", Cond.fieldLink RX9 13 "TwoWaysModel" "text" "[I", Cond.methodLink RX9 87 yX9_in, Cond.static yX9_in, Cond.code yX9_in cX9_in 6 (some .boolean), Cond.methodLink RX9 112 yX9_wrong, Cond.instanceMethod yX9_wrong, Cond.selects RX9 yX9_wrong yX9_wrong, Cond.code yX9_wrong cX9_wrong 2 (some .boolean), Cond.fieldLink RX9 105 "TwoWaysModel" "why" "I", Cond.methodLink RX9 125 yX9_signOf]
def wsX9_readsMove_r2 : List Cond := [Cond.static yX9_signOf, Cond.code yX9_signOf cX9_signOf 1 (some .int), Cond.methodLink RX9 128 yX9_must, Cond.instanceMethod yX9_must, Cond.selects RX9 yX9_must yX9_must, Cond.code yX9_must cX9_must 2 (some .boolean)]
def wsX9_readsMove : List Cond := .code yX9_readsMove cX9_readsMove 6 (some .boolean) :: ((wsX9_readsMove_r1 ++ wsX9_readsMove_r2) ++ wsX90)
def wsX9_reads_r1 : List Cond := [Cond.fieldLink RX9 20 "TwoWaysModel" "read" "[I", Cond.fieldLink RX9 116 "TwoWaysModel" "figure" "I", Cond.methodLink RX9 108 yX9_here, Cond.instanceMethod yX9_here, Cond.selects RX9 yX9_here yX9_here, Cond.initialized RX9, Cond.code yX9_here cX9_here 1 (some .int), Cond.fieldLink RX9 102 "TwoWaysModel" "place" "I", Cond.fieldLink RX9 98 "TwoWaysModel" "fed" "I", Cond.fieldLink RX9 13 "TwoWaysModel" "text" "[I", Cond.methodLink RX9 128 yX9_must, Cond.instanceMethod yX9_must, Cond.selects RX9 yX9_must yX9_must, Cond.code yX9_must cX9_must 2 (some .boolean), Cond.methodLink RX9 112 yX9_wrong, Cond.instanceMethod yX9_wrong, Cond.selects RX9 yX9_wrong yX9_wrong, Cond.code yX9_wrong cX9_wrong 2 (some .boolean), Cond.fieldLink RX9 105 "TwoWaysModel" "why" "I", Cond.methodLink RX9 121 yX9_isFigure, Cond.instanceMethod yX9_isFigure, Cond.selects RX9 yX9_isFigure yX9_isFigure, Cond.code yX9_isFigure cX9_isFigure 3 (some .boolean), Cond.constantLong RX9 119 (9)]
def wsX9_reads_r2 : List Cond := [Cond.methodLink RX9 87 yX9_in, Cond.static yX9_in, Cond.code yX9_in cX9_in 6 (some .boolean), Cond.methodLink RX9 131 yX9_readsMove, Cond.instanceMethod yX9_readsMove, Cond.selects RX9 yX9_readsMove yX9_readsMove, Cond.code yX9_readsMove cX9_readsMove 6 (some .boolean), Cond.methodLink RX9 125 yX9_signOf, Cond.static yX9_signOf, Cond.code yX9_signOf cX9_signOf 1 (some .int)]
def wsX9_reads : List Cond := .code yX9_reads cX9_reads 2 (some .boolean) :: ((wsX9_reads_r1 ++ wsX9_reads_r2) ++ wsX90)
def wsX9_notes : List Cond := .code yX9_notes cX9_notes 2 none :: ([.fieldLink RX9 145 "TwoWaysModel" "undos" "I", .fieldLink RX9 23 "TwoWaysModel" "ahead" "[I", .fieldLink RX9 7 "TwoWaysModel" "now" "[I"] ++ wsX90)
def wsX9_machine_r1 : List Cond := [Cond.constant RX9 138 (-1000000001), Cond.fieldLink RX9 102 "TwoWaysModel" "place" "I", Cond.fieldLink RX9 98 "TwoWaysModel" "fed" "I", Cond.fieldLink RX9 16 "TwoWaysModel" "faultAt" "I", Cond.fieldLink RX9 105 "TwoWaysModel" "why" "I", Cond.fieldLink RX9 7 "TwoWaysModel" "now" "[I", Cond.fieldLink RX9 20 "TwoWaysModel" "read" "[I", Cond.methodLink RX9 135 yX9_isMachine, Cond.static yX9_isMachine, Cond.initialized RX9, Cond.code yX9_isMachine cX9_isMachine 1 (some .boolean), Cond.methodLink RX9 87 yX9_in, Cond.static yX9_in, Cond.code yX9_in cX9_in 6 (some .boolean), Cond.methodLink RX9 139 yX9_reads, Cond.instanceMethod yX9_reads, Cond.selects RX9 yX9_reads yX9_reads, Cond.code yX9_reads cX9_reads 2 (some .boolean), Cond.fieldLink RX9 116 "TwoWaysModel" "figure" "I", Cond.methodLink RX9 108 yX9_here, Cond.instanceMethod yX9_here, Cond.selects RX9 yX9_here yX9_here, Cond.code yX9_here cX9_here 1 (some .int), Cond.fieldLink RX9 13 "TwoWaysModel" "text" "[I"]
def wsX9_machine_r2 : List Cond := [Cond.methodLink RX9 128 yX9_must, Cond.instanceMethod yX9_must, Cond.selects RX9 yX9_must yX9_must, Cond.code yX9_must cX9_must 2 (some .boolean), Cond.methodLink RX9 112 yX9_wrong, Cond.instanceMethod yX9_wrong, Cond.selects RX9 yX9_wrong yX9_wrong, Cond.code yX9_wrong cX9_wrong 2 (some .boolean), Cond.methodLink RX9 121 yX9_isFigure, Cond.instanceMethod yX9_isFigure, Cond.selects RX9 yX9_isFigure yX9_isFigure, Cond.code yX9_isFigure cX9_isFigure 3 (some .boolean), Cond.constantLong RX9 119 (9), Cond.methodLink RX9 131 yX9_readsMove, Cond.instanceMethod yX9_readsMove, Cond.selects RX9 yX9_readsMove yX9_readsMove, Cond.code yX9_readsMove cX9_readsMove 6 (some .boolean), Cond.methodLink RX9 125 yX9_signOf, Cond.static yX9_signOf, Cond.code yX9_signOf cX9_signOf 1 (some .int), Cond.methodLink RX9 142 yX9_notes, Cond.instanceMethod yX9_notes, Cond.selects RX9 yX9_notes yX9_notes, Cond.code yX9_notes cX9_notes 2 none]
def wsX9_machine_r3 : List Cond := [Cond.fieldLink RX9 145 "TwoWaysModel" "undos" "I", Cond.fieldLink RX9 23 "TwoWaysModel" "ahead" "[I"]
def wsX9_machine : List Cond := .code yX9_machine cX9_machine 5 (some .int) :: ((wsX9_machine_r1 ++ (wsX9_machine_r2 ++ wsX9_machine_r3)) ++ wsX90)
def wsX9_fault : List Cond := .code yX9_fault cX9_fault 1 (some .int) :: ([.fieldLink RX9 16 "TwoWaysModel" "faultAt" "I"] ++ wsX90)
def wsX9_isSpot : List Cond := .code yX9_isSpot cX9_isSpot 4 (some .boolean) :: ([.constantLong RX9 151 (3), .methodLink RX9 135 yX9_isMachine, .static yX9_isMachine, .initialized RX9, .code yX9_isMachine cX9_isMachine 1 (some .boolean), .methodLink RX9 87 yX9_in, .static yX9_in, .code yX9_in cX9_in 6 (some .boolean), .methodLink RX9 148 yX9_isState, .instanceMethod yX9_isState, .selects RX9 yX9_isState yX9_isState, .code yX9_isState cX9_isState 3 (some .boolean), .methodLink RX9 91 yX9_states0, .instanceMethod yX9_states0, .selects RX9 yX9_states0 yX9_states0, .code yX9_states0 cX9_states0 2 (some .int), .fieldLink RX9 7 "TwoWaysModel" "now" "[I"] ++ wsX90)
def wsX9_move_r1 : List Cond := [Cond.constant RX9 138 (-1000000001), Cond.constant RX9 97 (-1000000002), Cond.fieldLink RX9 7 "TwoWaysModel" "now" "[I", Cond.methodLink RX9 153 yX9_isSpot, Cond.instanceMethod yX9_isSpot, Cond.selects RX9 yX9_isSpot yX9_isSpot, Cond.initialized RX9, Cond.code yX9_isSpot cX9_isSpot 4 (some .boolean), Cond.constantLong RX9 151 (3), Cond.methodLink RX9 135 yX9_isMachine, Cond.static yX9_isMachine, Cond.code yX9_isMachine cX9_isMachine 1 (some .boolean), Cond.methodLink RX9 87 yX9_in, Cond.static yX9_in, Cond.code yX9_in cX9_in 6 (some .boolean), Cond.methodLink RX9 148 yX9_isState, Cond.instanceMethod yX9_isState, Cond.selects RX9 yX9_isState yX9_isState, Cond.code yX9_isState cX9_isState 3 (some .boolean), Cond.methodLink RX9 91 yX9_states0, Cond.instanceMethod yX9_states0, Cond.selects RX9 yX9_states0 yX9_states0, Cond.code yX9_states0 cX9_states0 2 (some .int), Cond.methodLink RX9 157 yX9_moveAt]
def wsX9_move_r2 : List Cond := [Cond.instanceMethod yX9_moveAt, Cond.selects RX9 yX9_moveAt yX9_moveAt, Cond.code yX9_moveAt cX9_moveAt 4 (some .int), Cond.methodLink RX9 142 yX9_notes, Cond.instanceMethod yX9_notes, Cond.selects RX9 yX9_notes yX9_notes, Cond.code yX9_notes cX9_notes 2 none, Cond.fieldLink RX9 145 "TwoWaysModel" "undos" "I", Cond.fieldLink RX9 23 "TwoWaysModel" "ahead" "[I"]
def wsX9_move : List Cond := .code yX9_move cX9_move 7 (some .int) :: ((wsX9_move_r1 ++ wsX9_move_r2) ++ wsX90)
def wsX9_none_r1 : List Cond := [Cond.constant RX9 138 (-1000000001), Cond.constant RX9 161 (-1000000003), Cond.fieldLink RX9 7 "TwoWaysModel" "now" "[I", Cond.methodLink RX9 153 yX9_isSpot, Cond.instanceMethod yX9_isSpot, Cond.selects RX9 yX9_isSpot yX9_isSpot, Cond.initialized RX9, Cond.code yX9_isSpot cX9_isSpot 4 (some .boolean), Cond.constantLong RX9 151 (3), Cond.methodLink RX9 135 yX9_isMachine, Cond.static yX9_isMachine, Cond.code yX9_isMachine cX9_isMachine 1 (some .boolean), Cond.methodLink RX9 87 yX9_in, Cond.static yX9_in, Cond.code yX9_in cX9_in 6 (some .boolean), Cond.methodLink RX9 148 yX9_isState, Cond.instanceMethod yX9_isState, Cond.selects RX9 yX9_isState yX9_isState, Cond.code yX9_isState cX9_isState 3 (some .boolean), Cond.methodLink RX9 91 yX9_states0, Cond.instanceMethod yX9_states0, Cond.selects RX9 yX9_states0 yX9_states0, Cond.code yX9_states0 cX9_states0 2 (some .int), Cond.methodLink RX9 157 yX9_moveAt]
def wsX9_none_r2 : List Cond := [Cond.instanceMethod yX9_moveAt, Cond.selects RX9 yX9_moveAt yX9_moveAt, Cond.code yX9_moveAt cX9_moveAt 4 (some .int), Cond.methodLink RX9 142 yX9_notes, Cond.instanceMethod yX9_notes, Cond.selects RX9 yX9_notes yX9_notes, Cond.code yX9_notes cX9_notes 2 none, Cond.fieldLink RX9 145 "TwoWaysModel" "undos" "I", Cond.fieldLink RX9 23 "TwoWaysModel" "ahead" "[I"]
def wsX9_none : List Cond := .code yX9_none cX9_none 5 (some .int) :: ((wsX9_none_r1 ++ wsX9_none_r2) ++ wsX90)
def wsX9_states_r1 : List Cond := [Cond.constant RX9 138 (-1000000001), Cond.constantLong RX9 162 (4), Cond.constant RX9 97 (-1000000002), Cond.methodLink RX9 135 yX9_isMachine, Cond.static yX9_isMachine, Cond.initialized RX9, Cond.code yX9_isMachine cX9_isMachine 1 (some .boolean), Cond.methodLink RX9 87 yX9_in, Cond.static yX9_in, Cond.code yX9_in cX9_in 6 (some .boolean), Cond.methodLink RX9 142 yX9_notes, Cond.instanceMethod yX9_notes, Cond.selects RX9 yX9_notes yX9_notes, Cond.code yX9_notes cX9_notes 2 none, Cond.fieldLink RX9 145 "TwoWaysModel" "undos" "I", Cond.fieldLink RX9 23 "TwoWaysModel" "ahead" "[I", Cond.fieldLink RX9 7 "TwoWaysModel" "now" "[I", Cond.methodLink RX9 91 yX9_states0, Cond.instanceMethod yX9_states0, Cond.selects RX9 yX9_states0 yX9_states0, Cond.code yX9_states0 cX9_states0 2 (some .int), Cond.methodLink RX9 83 yX9_wipes, Cond.instanceMethod yX9_wipes, Cond.selects RX9 yX9_wipes yX9_wipes]
def wsX9_states_r2 : List Cond := [Cond.code yX9_wipes cX9_wipes 4 none]
def wsX9_states : List Cond := .code yX9_states cX9_states 4 (some .int) :: ((wsX9_states_r1 ++ wsX9_states_r2) ++ wsX90)
def wsX9_lots : List Cond := .code yX9_lots cX9_lots 2 (some .int) :: ([.fieldLink RX9 164 "TwoWaysModel" "lot" "J", .constantLong RX9 168 (16807), .constantLong RX9 170 (2147483647)] ++ wsX90)
def wsX9_movesOf : List Cond := .code yX9_movesOf cX9_movesOf 4 (some .int) :: ([.fieldLink RX9 7 "TwoWaysModel" "now" "[I"] ++ wsX90)
def wsX9_drift_r1 : List Cond := [Cond.constant RX9 138 (-1000000001), Cond.constantLong RX9 172 (999999), Cond.constant RX9 97 (-1000000002), Cond.fieldLink RX9 164 "TwoWaysModel" "lot" "J", Cond.fieldLink RX9 7 "TwoWaysModel" "now" "[I", Cond.methodLink RX9 135 yX9_isMachine, Cond.static yX9_isMachine, Cond.initialized RX9, Cond.code yX9_isMachine cX9_isMachine 1 (some .boolean), Cond.methodLink RX9 87 yX9_in, Cond.static yX9_in, Cond.code yX9_in cX9_in 6 (some .boolean), Cond.methodLink RX9 142 yX9_notes, Cond.instanceMethod yX9_notes, Cond.selects RX9 yX9_notes yX9_notes, Cond.code yX9_notes cX9_notes 2 none, Cond.fieldLink RX9 145 "TwoWaysModel" "undos" "I", Cond.fieldLink RX9 23 "TwoWaysModel" "ahead" "[I", Cond.methodLink RX9 91 yX9_states0, Cond.instanceMethod yX9_states0, Cond.selects RX9 yX9_states0 yX9_states0, Cond.code yX9_states0 cX9_states0 2 (some .int), Cond.methodLink RX9 174 yX9_lots, Cond.instanceMethod yX9_lots]
def wsX9_drift_r2 : List Cond := [Cond.selects RX9 yX9_lots yX9_lots, Cond.code yX9_lots cX9_lots 2 (some .int), Cond.constantLong RX9 168 (16807), Cond.constantLong RX9 170 (2147483647), Cond.methodLink RX9 177 yX9_movesOf, Cond.instanceMethod yX9_movesOf, Cond.selects RX9 yX9_movesOf yX9_movesOf, Cond.code yX9_movesOf cX9_movesOf 4 (some .int)]
def wsX9_drift : List Cond := .code yX9_drift cX9_drift 7 (some .int) :: ((wsX9_drift_r1 ++ wsX9_drift_r2) ++ wsX90)
def wsX9_swap : List Cond := .code yX9_swap cX9_swap 4 (some .int) :: ([.fieldLink RX9 7 "TwoWaysModel" "now" "[I", .methodLink RX9 142 yX9_notes, .instanceMethod yX9_notes, .selects RX9 yX9_notes yX9_notes, .initialized RX9, .code yX9_notes cX9_notes 2 none, .fieldLink RX9 145 "TwoWaysModel" "undos" "I", .fieldLink RX9 23 "TwoWaysModel" "ahead" "[I"] ++ wsX90)
def wsX9_undo : List Cond := .code yX9_undo cX9_undo 2 (some .int) :: ([.fieldLink RX9 145 "TwoWaysModel" "undos" "I", .constant RX9 161 (-1000000003), .fieldLink RX9 7 "TwoWaysModel" "now" "[I", .fieldLink RX9 23 "TwoWaysModel" "ahead" "[I"] ++ wsX90)
def wsX9_moveOf_r1 : List Cond := [Cond.constant RX9 138 (-1000000001), Cond.methodLink RX9 153 yX9_isSpot, Cond.instanceMethod yX9_isSpot, Cond.selects RX9 yX9_isSpot yX9_isSpot, Cond.initialized RX9, Cond.code yX9_isSpot cX9_isSpot 4 (some .boolean), Cond.constantLong RX9 151 (3), Cond.methodLink RX9 135 yX9_isMachine, Cond.static yX9_isMachine, Cond.code yX9_isMachine cX9_isMachine 1 (some .boolean), Cond.methodLink RX9 87 yX9_in, Cond.static yX9_in, Cond.code yX9_in cX9_in 6 (some .boolean), Cond.methodLink RX9 148 yX9_isState, Cond.instanceMethod yX9_isState, Cond.selects RX9 yX9_isState yX9_isState, Cond.code yX9_isState cX9_isState 3 (some .boolean), Cond.methodLink RX9 91 yX9_states0, Cond.instanceMethod yX9_states0, Cond.selects RX9 yX9_states0 yX9_states0, Cond.code yX9_states0 cX9_states0 2 (some .int), Cond.fieldLink RX9 7 "TwoWaysModel" "now" "[I", Cond.methodLink RX9 157 yX9_moveAt, Cond.instanceMethod yX9_moveAt]
def wsX9_moveOf_r2 : List Cond := [Cond.selects RX9 yX9_moveAt yX9_moveAt, Cond.code yX9_moveAt cX9_moveAt 4 (some .int)]
def wsX9_moveOf : List Cond := .code yX9_moveOf cX9_moveOf 4 (some .int) :: ((wsX9_moveOf_r1 ++ wsX9_moveOf_r2) ++ wsX90)
def wsX9_letter : List Cond := .code yX9_letter cX9_letter 2 (some .int) :: ([.constantLong RX9 180 (97), .constantLong RX9 182 (98), .constant RX9 97 (-1000000002), .fieldLink RX9 184 "TwoWaysModel" "letters" "I", .constant RX9 101 (-1000000004), .fieldLink RX9 26 "TwoWaysModel" "word" "[I", .methodLink RX9 87 yX9_in, .static yX9_in, .initialized RX9, .code yX9_in cX9_in 6 (some .boolean)] ++ wsX90)
def wsX9_word : List Cond := .code yX9_word cX9_word 4 (some .int) :: ([.constantLong RX9 187 (33554431), .constant RX9 97 (-1000000002), .fieldLink RX9 184 "TwoWaysModel" "letters" "I", .fieldLink RX9 26 "TwoWaysModel" "word" "[I", .methodLink RX9 87 yX9_in, .static yX9_in, .initialized RX9, .code yX9_in cX9_in 6 (some .boolean)] ++ wsX90)
def wsX9_wipe : List Cond := .code yX9_wipe cX9_wipe 2 (some .int) :: ([.fieldLink RX9 184 "TwoWaysModel" "letters" "I"] ++ wsX90)
def wsX9_numberOf : List Cond := .code yX9_numberOf cX9_numberOf 3 (some .int) :: ([.fieldLink RX9 184 "TwoWaysModel" "letters" "I", .fieldLink RX9 26 "TwoWaysModel" "word" "[I"] ++ wsX90)
def wsX9_offRight : List Cond := .code yX9_offRight cX9_offRight 8 (some .int) :: ([.fieldLink RX9 41 "TwoWaysModel" "does" "[I", .methodLink RX9 157 yX9_moveAt, .instanceMethod yX9_moveAt, .selects RX9 yX9_moveAt yX9_moveAt, .initialized RX9, .code yX9_moveAt cX9_moveAt 4 (some .int), .fieldLink RX9 7 "TwoWaysModel" "now" "[I"] ++ wsX90)
def wsX9_tries : List Cond := .code yX9_tries cX9_tries 6 none :: ([.fieldLink RX9 53 "TwoWaysModel" "tried" "[I", .methodLink RX9 233 yX9_offRight, .instanceMethod yX9_offRight, .selects RX9 yX9_offRight yX9_offRight, .initialized RX9, .code yX9_offRight cX9_offRight 8 (some .int), .fieldLink RX9 41 "TwoWaysModel" "does" "[I", .methodLink RX9 157 yX9_moveAt, .instanceMethod yX9_moveAt, .selects RX9 yX9_moveAt yX9_moveAt, .code yX9_moveAt cX9_moveAt 4 (some .int), .fieldLink RX9 7 "TwoWaysModel" "now" "[I", .methodLink RX9 148 yX9_isState, .instanceMethod yX9_isState, .selects RX9 yX9_isState yX9_isState, .code yX9_isState cX9_isState 3 (some .boolean), .methodLink RX9 91 yX9_states0, .instanceMethod yX9_states0, .selects RX9 yX9_states0 yX9_states0, .code yX9_states0 cX9_states0 2 (some .int), .methodLink RX9 87 yX9_in, .static yX9_in, .code yX9_in cX9_in 6 (some .boolean)] ++ wsX90)
def wsX9_at : List Cond := .code yX9_at cX9_at 3 (some .int) :: ([])
def wsX9_findsTried : List Cond := .code yX9_findsTried cX9_findsTried 6 (some .int) :: ([.fieldLink RX9 38 "TwoWaysModel" "found" "[I", .fieldLink RX9 41 "TwoWaysModel" "does" "[I", .fieldLink RX9 53 "TwoWaysModel" "tried" "[I", .methodLink RX9 229 yX9_at, .instanceMethod yX9_at, .selects RX9 yX9_at yX9_at, .initialized RX9, .code yX9_at cX9_at 3 (some .int)] ++ wsX90)
def wsX9_isGood : List Cond := .code yX9_isGood cX9_isGood 6 (some .boolean) :: ([.fieldLink RX9 41 "TwoWaysModel" "does" "[I", .methodLink RX9 229 yX9_at, .instanceMethod yX9_at, .selects RX9 yX9_at yX9_at, .initialized RX9, .code yX9_at cX9_at 3 (some .int), .methodLink RX9 157 yX9_moveAt, .instanceMethod yX9_moveAt, .selects RX9 yX9_moveAt yX9_moveAt, .code yX9_moveAt cX9_moveAt 4 (some .int), .fieldLink RX9 7 "TwoWaysModel" "now" "[I"] ++ wsX90)
def wsX9_lays_r1 : List Cond := [Cond.fieldLink RX9 38 "TwoWaysModel" "found" "[I", Cond.fieldLink RX9 50 "TwoWaysModel" "from" "[I", Cond.fieldLink RX9 41 "TwoWaysModel" "does" "[I", Cond.fieldLink RX9 44 "TwoWaysModel" "next" "[I", Cond.fieldLink RX9 47 "TwoWaysModel" "good" "[I", Cond.methodLink RX9 237 yX9_tries, Cond.instanceMethod yX9_tries, Cond.selects RX9 yX9_tries yX9_tries, Cond.initialized RX9, Cond.code yX9_tries cX9_tries 6 none, Cond.fieldLink RX9 53 "TwoWaysModel" "tried" "[I", Cond.methodLink RX9 233 yX9_offRight, Cond.instanceMethod yX9_offRight, Cond.selects RX9 yX9_offRight yX9_offRight, Cond.code yX9_offRight cX9_offRight 8 (some .int), Cond.methodLink RX9 157 yX9_moveAt, Cond.instanceMethod yX9_moveAt, Cond.selects RX9 yX9_moveAt yX9_moveAt, Cond.code yX9_moveAt cX9_moveAt 4 (some .int), Cond.fieldLink RX9 7 "TwoWaysModel" "now" "[I", Cond.methodLink RX9 148 yX9_isState, Cond.instanceMethod yX9_isState, Cond.selects RX9 yX9_isState yX9_isState, Cond.code yX9_isState cX9_isState 3 (some .boolean)]
def wsX9_lays_r2 : List Cond := [Cond.methodLink RX9 91 yX9_states0, Cond.instanceMethod yX9_states0, Cond.selects RX9 yX9_states0 yX9_states0, Cond.code yX9_states0 cX9_states0 2 (some .int), Cond.methodLink RX9 87 yX9_in, Cond.static yX9_in, Cond.code yX9_in cX9_in 6 (some .boolean), Cond.methodLink RX9 241 yX9_findsTried, Cond.instanceMethod yX9_findsTried, Cond.selects RX9 yX9_findsTried yX9_findsTried, Cond.code yX9_findsTried cX9_findsTried 6 (some .int), Cond.methodLink RX9 229 yX9_at, Cond.instanceMethod yX9_at, Cond.selects RX9 yX9_at yX9_at, Cond.code yX9_at cX9_at 3 (some .int), Cond.methodLink RX9 244 yX9_isGood, Cond.instanceMethod yX9_isGood, Cond.selects RX9 yX9_isGood yX9_isGood, Cond.code yX9_isGood cX9_isGood 6 (some .boolean)]
def wsX9_lays : List Cond := .code yX9_lays cX9_lays 6 (some .boolean) :: ((wsX9_lays_r1 ++ wsX9_lays_r2) ++ wsX90)
def wsX9_laysBoth_r1 : List Cond := [Cond.methodLink RX9 247 yX9_lays, Cond.instanceMethod yX9_lays, Cond.selects RX9 yX9_lays yX9_lays, Cond.initialized RX9, Cond.code yX9_lays cX9_lays 6 (some .boolean), Cond.fieldLink RX9 38 "TwoWaysModel" "found" "[I", Cond.fieldLink RX9 50 "TwoWaysModel" "from" "[I", Cond.fieldLink RX9 41 "TwoWaysModel" "does" "[I", Cond.fieldLink RX9 44 "TwoWaysModel" "next" "[I", Cond.fieldLink RX9 47 "TwoWaysModel" "good" "[I", Cond.methodLink RX9 237 yX9_tries, Cond.instanceMethod yX9_tries, Cond.selects RX9 yX9_tries yX9_tries, Cond.code yX9_tries cX9_tries 6 none, Cond.fieldLink RX9 53 "TwoWaysModel" "tried" "[I", Cond.methodLink RX9 233 yX9_offRight, Cond.instanceMethod yX9_offRight, Cond.selects RX9 yX9_offRight yX9_offRight, Cond.code yX9_offRight cX9_offRight 8 (some .int), Cond.methodLink RX9 157 yX9_moveAt, Cond.instanceMethod yX9_moveAt, Cond.selects RX9 yX9_moveAt yX9_moveAt, Cond.code yX9_moveAt cX9_moveAt 4 (some .int), Cond.fieldLink RX9 7 "TwoWaysModel" "now" "[I"]
def wsX9_laysBoth_r2 : List Cond := [Cond.methodLink RX9 148 yX9_isState, Cond.instanceMethod yX9_isState, Cond.selects RX9 yX9_isState yX9_isState, Cond.code yX9_isState cX9_isState 3 (some .boolean), Cond.methodLink RX9 91 yX9_states0, Cond.instanceMethod yX9_states0, Cond.selects RX9 yX9_states0 yX9_states0, Cond.code yX9_states0 cX9_states0 2 (some .int), Cond.methodLink RX9 87 yX9_in, Cond.static yX9_in, Cond.code yX9_in cX9_in 6 (some .boolean), Cond.methodLink RX9 241 yX9_findsTried, Cond.instanceMethod yX9_findsTried, Cond.selects RX9 yX9_findsTried yX9_findsTried, Cond.code yX9_findsTried cX9_findsTried 6 (some .int), Cond.methodLink RX9 229 yX9_at, Cond.instanceMethod yX9_at, Cond.selects RX9 yX9_at yX9_at, Cond.code yX9_at cX9_at 3 (some .int), Cond.methodLink RX9 244 yX9_isGood, Cond.instanceMethod yX9_isGood, Cond.selects RX9 yX9_isGood yX9_isGood, Cond.code yX9_isGood cX9_isGood 6 (some .boolean)]
def wsX9_laysBoth : List Cond := .code yX9_laysBoth cX9_laysBoth 2 (some .boolean) :: ((wsX9_laysBoth_r1 ++ wsX9_laysBoth_r2) ++ wsX90)
def wsX9_isBy : List Cond := .code yX9_isBy cX9_isBy 3 (some .boolean) :: ([])
def wsX9_wordTo : List Cond := .code yX9_wordTo cX9_wordTo 8 (some .int) :: ([.fieldLink RX9 71 "TwoWaysModel" "pairFrom" "[I", .constantLong RX9 253 (2)] ++ wsX90)
def wsX9_firstBy : List Cond := .code yX9_firstBy cX9_firstBy 8 (some .int) :: ([.fieldLink RX9 74 "TwoWaysModel" "isFound" "[I", .fieldLink RX9 68 "TwoWaysModel" "pairs" "[I", .fieldLink RX9 71 "TwoWaysModel" "pairFrom" "[I", .fieldLink RX9 47 "TwoWaysModel" "good" "[I", .fieldLink RX9 44 "TwoWaysModel" "next" "[I", .methodLink RX9 229 yX9_at, .instanceMethod yX9_at, .selects RX9 yX9_at yX9_at, .initialized RX9, .code yX9_at cX9_at 3 (some .int), .methodLink RX9 263 yX9_isBy, .static yX9_isBy, .code yX9_isBy cX9_isBy 3 (some .boolean), .methodLink RX9 266 yX9_wordTo, .instanceMethod yX9_wordTo, .selects RX9 yX9_wordTo yX9_wordTo, .code yX9_wordTo cX9_wordTo 8 (some .int), .constantLong RX9 253 (2)] ++ wsX90)
def wsX9_told_r1 : List Cond := [Cond.fieldLink RX9 184 "TwoWaysModel" "letters" "I", Cond.fieldLink RX9 98 "TwoWaysModel" "fed" "I", Cond.fieldLink RX9 145 "TwoWaysModel" "undos" "I", Cond.constant RX9 101 (-1000000004), Cond.constant RX9 97 (-1000000002), Cond.methodLink RX9 189 yX9_numberOf, Cond.instanceMethod yX9_numberOf, Cond.selects RX9 yX9_numberOf yX9_numberOf, Cond.initialized RX9, Cond.code yX9_numberOf cX9_numberOf 3 (some .int), Cond.fieldLink RX9 26 "TwoWaysModel" "word" "[I", Cond.methodLink RX9 192 yX9_laysBoth, Cond.instanceMethod yX9_laysBoth, Cond.selects RX9 yX9_laysBoth yX9_laysBoth, Cond.code yX9_laysBoth cX9_laysBoth 2 (some .boolean), Cond.methodLink RX9 247 yX9_lays, Cond.instanceMethod yX9_lays, Cond.selects RX9 yX9_lays yX9_lays, Cond.code yX9_lays cX9_lays 6 (some .boolean), Cond.fieldLink RX9 38 "TwoWaysModel" "found" "[I", Cond.fieldLink RX9 50 "TwoWaysModel" "from" "[I", Cond.fieldLink RX9 41 "TwoWaysModel" "does" "[I", Cond.fieldLink RX9 44 "TwoWaysModel" "next" "[I", Cond.fieldLink RX9 47 "TwoWaysModel" "good" "[I"]
def wsX9_told_r2 : List Cond := [Cond.methodLink RX9 237 yX9_tries, Cond.instanceMethod yX9_tries, Cond.selects RX9 yX9_tries yX9_tries, Cond.code yX9_tries cX9_tries 6 none, Cond.fieldLink RX9 53 "TwoWaysModel" "tried" "[I", Cond.methodLink RX9 233 yX9_offRight, Cond.instanceMethod yX9_offRight, Cond.selects RX9 yX9_offRight yX9_offRight, Cond.code yX9_offRight cX9_offRight 8 (some .int), Cond.methodLink RX9 157 yX9_moveAt, Cond.instanceMethod yX9_moveAt, Cond.selects RX9 yX9_moveAt yX9_moveAt, Cond.code yX9_moveAt cX9_moveAt 4 (some .int), Cond.fieldLink RX9 7 "TwoWaysModel" "now" "[I", Cond.methodLink RX9 148 yX9_isState, Cond.instanceMethod yX9_isState, Cond.selects RX9 yX9_isState yX9_isState, Cond.code yX9_isState cX9_isState 3 (some .boolean), Cond.methodLink RX9 91 yX9_states0, Cond.instanceMethod yX9_states0, Cond.selects RX9 yX9_states0 yX9_states0, Cond.code yX9_states0 cX9_states0 2 (some .int), Cond.methodLink RX9 87 yX9_in, Cond.static yX9_in]
def wsX9_told_r3 : List Cond := [Cond.code yX9_in cX9_in 6 (some .boolean), Cond.methodLink RX9 241 yX9_findsTried, Cond.instanceMethod yX9_findsTried, Cond.selects RX9 yX9_findsTried yX9_findsTried, Cond.code yX9_findsTried cX9_findsTried 6 (some .int), Cond.methodLink RX9 229 yX9_at, Cond.instanceMethod yX9_at, Cond.selects RX9 yX9_at yX9_at, Cond.code yX9_at cX9_at 3 (some .int), Cond.methodLink RX9 244 yX9_isGood, Cond.instanceMethod yX9_isGood, Cond.selects RX9 yX9_isGood yX9_isGood, Cond.code yX9_isGood cX9_isGood 6 (some .boolean), Cond.methodLink RX9 195 yX9_firstBy, Cond.instanceMethod yX9_firstBy, Cond.selects RX9 yX9_firstBy yX9_firstBy, Cond.code yX9_firstBy cX9_firstBy 8 (some .int), Cond.fieldLink RX9 74 "TwoWaysModel" "isFound" "[I", Cond.fieldLink RX9 68 "TwoWaysModel" "pairs" "[I", Cond.fieldLink RX9 71 "TwoWaysModel" "pairFrom" "[I", Cond.methodLink RX9 263 yX9_isBy, Cond.static yX9_isBy, Cond.code yX9_isBy cX9_isBy 3 (some .boolean), Cond.methodLink RX9 266 yX9_wordTo]
def wsX9_told_r4 : List Cond := [Cond.instanceMethod yX9_wordTo, Cond.selects RX9 yX9_wordTo yX9_wordTo, Cond.code yX9_wordTo cX9_wordTo 8 (some .int), Cond.constantLong RX9 253 (2)]
def wsX9_told : List Cond := .code yX9_told cX9_told 2 (some .int) :: ((wsX9_told_r1 ++ (wsX9_told_r2 ++ (wsX9_told_r3 ++ wsX9_told_r4))) ++ wsX90)
def wsX9_signAt : List Cond := .code yX9_signAt cX9_signAt 2 (some .int) :: ([.fieldLink RX9 184 "TwoWaysModel" "letters" "I", .fieldLink RX9 26 "TwoWaysModel" "word" "[I"] ++ wsX90)
def wsX9_runs : List Cond := .code yX9_runs cX9_runs 5 none :: ([.fieldLink RX9 29 "TwoWaysModel" "been" "[I", .fieldLink RX9 198 "TwoWaysModel" "steps" "I", .fieldLink RX9 201 "TwoWaysModel" "crossings" "I", .fieldLink RX9 204 "TwoWaysModel" "lastState" "I", .fieldLink RX9 207 "TwoWaysModel" "ended" "I", .fieldLink RX9 184 "TwoWaysModel" "letters" "I", .fieldLink RX9 32 "TwoWaysModel" "gaps" "[I", .fieldLink RX9 35 "TwoWaysModel" "into" "[I", .methodLink RX9 210 yX9_signAt, .instanceMethod yX9_signAt, .selects RX9 yX9_signAt yX9_signAt, .initialized RX9, .code yX9_signAt cX9_signAt 2 (some .int), .fieldLink RX9 26 "TwoWaysModel" "word" "[I", .methodLink RX9 157 yX9_moveAt, .instanceMethod yX9_moveAt, .selects RX9 yX9_moveAt yX9_moveAt, .code yX9_moveAt cX9_moveAt 4 (some .int), .fieldLink RX9 7 "TwoWaysModel" "now" "[I"] ++ wsX90)
def wsX9_oftenOver : List Cond := .code yX9_oftenOver cX9_oftenOver 4 (some .int) :: ([.fieldLink RX9 201 "TwoWaysModel" "crossings" "I", .fieldLink RX9 32 "TwoWaysModel" "gaps" "[I"] ++ wsX90)
def wsX9_run_r1 : List Cond := [Cond.constant RX9 138 (-1000000001), Cond.constantLong RX9 213 (5), Cond.constant RX9 97 (-1000000002), Cond.fieldLink RX9 184 "TwoWaysModel" "letters" "I", Cond.fieldLink RX9 207 "TwoWaysModel" "ended" "I", Cond.fieldLink RX9 198 "TwoWaysModel" "steps" "I", Cond.fieldLink RX9 204 "TwoWaysModel" "lastState" "I", Cond.methodLink RX9 135 yX9_isMachine, Cond.static yX9_isMachine, Cond.initialized RX9, Cond.code yX9_isMachine cX9_isMachine 1 (some .boolean), Cond.methodLink RX9 87 yX9_in, Cond.static yX9_in, Cond.code yX9_in cX9_in 6 (some .boolean), Cond.methodLink RX9 215 yX9_runs, Cond.instanceMethod yX9_runs, Cond.selects RX9 yX9_runs yX9_runs, Cond.code yX9_runs cX9_runs 5 none, Cond.fieldLink RX9 29 "TwoWaysModel" "been" "[I", Cond.fieldLink RX9 201 "TwoWaysModel" "crossings" "I", Cond.fieldLink RX9 32 "TwoWaysModel" "gaps" "[I", Cond.fieldLink RX9 35 "TwoWaysModel" "into" "[I", Cond.methodLink RX9 210 yX9_signAt, Cond.instanceMethod yX9_signAt]
def wsX9_run_r2 : List Cond := [Cond.selects RX9 yX9_signAt yX9_signAt, Cond.code yX9_signAt cX9_signAt 2 (some .int), Cond.fieldLink RX9 26 "TwoWaysModel" "word" "[I", Cond.methodLink RX9 157 yX9_moveAt, Cond.instanceMethod yX9_moveAt, Cond.selects RX9 yX9_moveAt yX9_moveAt, Cond.code yX9_moveAt cX9_moveAt 4 (some .int), Cond.fieldLink RX9 7 "TwoWaysModel" "now" "[I", Cond.methodLink RX9 219 yX9_oftenOver, Cond.instanceMethod yX9_oftenOver, Cond.selects RX9 yX9_oftenOver yX9_oftenOver, Cond.code yX9_oftenOver cX9_oftenOver 4 (some .int)]
def wsX9_run : List Cond := .code yX9_run cX9_run 8 (some .int) :: ((wsX9_run_r1 ++ wsX9_run_r2) ++ wsX90)
def wsX9_crossed_r1 : List Cond := [Cond.constant RX9 138 (-1000000001), Cond.fieldLink RX9 184 "TwoWaysModel" "letters" "I", Cond.constant RX9 97 (-1000000002), Cond.fieldLink RX9 201 "TwoWaysModel" "crossings" "I", Cond.fieldLink RX9 32 "TwoWaysModel" "gaps" "[I", Cond.fieldLink RX9 35 "TwoWaysModel" "into" "[I", Cond.methodLink RX9 135 yX9_isMachine, Cond.static yX9_isMachine, Cond.initialized RX9, Cond.code yX9_isMachine cX9_isMachine 1 (some .boolean), Cond.methodLink RX9 87 yX9_in, Cond.static yX9_in, Cond.code yX9_in cX9_in 6 (some .boolean), Cond.methodLink RX9 215 yX9_runs, Cond.instanceMethod yX9_runs, Cond.selects RX9 yX9_runs yX9_runs, Cond.code yX9_runs cX9_runs 5 none, Cond.fieldLink RX9 29 "TwoWaysModel" "been" "[I", Cond.fieldLink RX9 198 "TwoWaysModel" "steps" "I", Cond.fieldLink RX9 204 "TwoWaysModel" "lastState" "I", Cond.fieldLink RX9 207 "TwoWaysModel" "ended" "I", Cond.methodLink RX9 210 yX9_signAt, Cond.instanceMethod yX9_signAt, Cond.selects RX9 yX9_signAt yX9_signAt]
def wsX9_crossed_r2 : List Cond := [Cond.code yX9_signAt cX9_signAt 2 (some .int), Cond.fieldLink RX9 26 "TwoWaysModel" "word" "[I", Cond.methodLink RX9 157 yX9_moveAt, Cond.instanceMethod yX9_moveAt, Cond.selects RX9 yX9_moveAt yX9_moveAt, Cond.code yX9_moveAt cX9_moveAt 4 (some .int), Cond.fieldLink RX9 7 "TwoWaysModel" "now" "[I", Cond.methodLink RX9 219 yX9_oftenOver, Cond.instanceMethod yX9_oftenOver, Cond.selects RX9 yX9_oftenOver yX9_oftenOver, Cond.code yX9_oftenOver cX9_oftenOver 4 (some .int)]
def wsX9_crossed : List Cond := .code yX9_crossed cX9_crossed 7 (some .int) :: ((wsX9_crossed_r1 ++ wsX9_crossed_r2) ++ wsX90)
def wsX9_goesOff : List Cond := .code yX9_goesOff cX9_goesOff 9 (some .int) :: ([.fieldLink RX9 29 "TwoWaysModel" "been" "[I", .fieldLink RX9 26 "TwoWaysModel" "word" "[I", .methodLink RX9 157 yX9_moveAt, .instanceMethod yX9_moveAt, .selects RX9 yX9_moveAt yX9_moveAt, .initialized RX9, .code yX9_moveAt cX9_moveAt 4 (some .int), .fieldLink RX9 7 "TwoWaysModel" "now" "[I"] ++ wsX90)
def wsX9_isPiece : List Cond := .code yX9_isPiece cX9_isPiece 3 (some .boolean) :: ([.fieldLink RX9 184 "TwoWaysModel" "letters" "I", .methodLink RX9 87 yX9_in, .static yX9_in, .initialized RX9, .code yX9_in cX9_in 6 (some .boolean)] ++ wsX90)
def wsX9_table_r1 : List Cond := [Cond.constant RX9 138 (-1000000001), Cond.constant RX9 97 (-1000000002), Cond.methodLink RX9 135 yX9_isMachine, Cond.static yX9_isMachine, Cond.initialized RX9, Cond.code yX9_isMachine cX9_isMachine 1 (some .boolean), Cond.methodLink RX9 87 yX9_in, Cond.static yX9_in, Cond.code yX9_in cX9_in 6 (some .boolean), Cond.methodLink RX9 148 yX9_isState, Cond.instanceMethod yX9_isState, Cond.selects RX9 yX9_isState yX9_isState, Cond.code yX9_isState cX9_isState 3 (some .boolean), Cond.methodLink RX9 91 yX9_states0, Cond.instanceMethod yX9_states0, Cond.selects RX9 yX9_states0 yX9_states0, Cond.code yX9_states0 cX9_states0 2 (some .int), Cond.fieldLink RX9 7 "TwoWaysModel" "now" "[I", Cond.methodLink RX9 222 yX9_isPiece, Cond.instanceMethod yX9_isPiece, Cond.selects RX9 yX9_isPiece yX9_isPiece, Cond.code yX9_isPiece cX9_isPiece 3 (some .boolean), Cond.fieldLink RX9 184 "TwoWaysModel" "letters" "I", Cond.methodLink RX9 225 yX9_goesOff]
def wsX9_table_r2 : List Cond := [Cond.instanceMethod yX9_goesOff, Cond.selects RX9 yX9_goesOff yX9_goesOff, Cond.code yX9_goesOff cX9_goesOff 9 (some .int), Cond.fieldLink RX9 29 "TwoWaysModel" "been" "[I", Cond.fieldLink RX9 26 "TwoWaysModel" "word" "[I", Cond.methodLink RX9 157 yX9_moveAt, Cond.instanceMethod yX9_moveAt, Cond.selects RX9 yX9_moveAt yX9_moveAt, Cond.code yX9_moveAt cX9_moveAt 4 (some .int)]
def wsX9_table : List Cond := .code yX9_table cX9_table 6 (some .int) :: ((wsX9_table_r1 ++ wsX9_table_r2) ++ wsX90)
def wsX9_alike_r1 : List Cond := [Cond.constant RX9 138 (-1000000001), Cond.constant RX9 97 (-1000000002), Cond.methodLink RX9 135 yX9_isMachine, Cond.static yX9_isMachine, Cond.initialized RX9, Cond.code yX9_isMachine cX9_isMachine 1 (some .boolean), Cond.methodLink RX9 87 yX9_in, Cond.static yX9_in, Cond.code yX9_in cX9_in 6 (some .boolean), Cond.methodLink RX9 222 yX9_isPiece, Cond.instanceMethod yX9_isPiece, Cond.selects RX9 yX9_isPiece yX9_isPiece, Cond.code yX9_isPiece cX9_isPiece 3 (some .boolean), Cond.fieldLink RX9 184 "TwoWaysModel" "letters" "I", Cond.methodLink RX9 91 yX9_states0, Cond.instanceMethod yX9_states0, Cond.selects RX9 yX9_states0 yX9_states0, Cond.code yX9_states0 cX9_states0 2 (some .int), Cond.fieldLink RX9 7 "TwoWaysModel" "now" "[I", Cond.methodLink RX9 225 yX9_goesOff, Cond.instanceMethod yX9_goesOff, Cond.selects RX9 yX9_goesOff yX9_goesOff, Cond.code yX9_goesOff cX9_goesOff 9 (some .int), Cond.fieldLink RX9 29 "TwoWaysModel" "been" "[I"]
def wsX9_alike_r2 : List Cond := [Cond.fieldLink RX9 26 "TwoWaysModel" "word" "[I", Cond.methodLink RX9 157 yX9_moveAt, Cond.instanceMethod yX9_moveAt, Cond.selects RX9 yX9_moveAt yX9_moveAt, Cond.code yX9_moveAt cX9_moveAt 4 (some .int)]
def wsX9_alike : List Cond := .code yX9_alike cX9_alike 8 (some .int) :: ((wsX9_alike_r1 ++ wsX9_alike_r2) ++ wsX90)
def wsX9_isLike : List Cond := .code yX9_isLike cX9_isLike 6 (some .boolean) :: ([.fieldLink RX9 56 "TwoWaysModel" "sort" "[I", .fieldLink RX9 44 "TwoWaysModel" "next" "[I", .methodLink RX9 229 yX9_at, .instanceMethod yX9_at, .selects RX9 yX9_at yX9_at, .initialized RX9, .code yX9_at cX9_at 3 (some .int)] ++ wsX90)
def wsX9_least : List Cond := .code yX9_least cX9_least 7 (some .int) :: ([.fieldLink RX9 38 "TwoWaysModel" "found" "[I", .fieldLink RX9 56 "TwoWaysModel" "sort" "[I", .fieldLink RX9 47 "TwoWaysModel" "good" "[I", .fieldLink RX9 59 "TwoWaysModel" "then" "[I", .methodLink RX9 229 yX9_at, .instanceMethod yX9_at, .selects RX9 yX9_at yX9_at, .initialized RX9, .code yX9_at cX9_at 3 (some .int), .methodLink RX9 250 yX9_isLike, .instanceMethod yX9_isLike, .selects RX9 yX9_isLike yX9_isLike, .code yX9_isLike cX9_isLike 6 (some .boolean), .fieldLink RX9 44 "TwoWaysModel" "next" "[I"] ++ wsX90)
def wsX9_firstOf : List Cond := .code yX9_firstOf cX9_firstOf 10 (some .int) :: ([.fieldLink RX9 38 "TwoWaysModel" "found" "[I", .fieldLink RX9 47 "TwoWaysModel" "good" "[I", .fieldLink RX9 50 "TwoWaysModel" "from" "[I", .constantLong RX9 253 (2), .methodLink RX9 229 yX9_at, .instanceMethod yX9_at, .selects RX9 yX9_at yX9_at, .initialized RX9, .code yX9_at cX9_at 3 (some .int)] ++ wsX90)
def wsX9_ofMachine_r1 : List Cond := [Cond.constant RX9 138 (-1000000001), Cond.constantLong RX9 213 (5), Cond.constant RX9 97 (-1000000002), Cond.constant RX9 101 (-1000000004), Cond.fieldLink RX9 38 "TwoWaysModel" "found" "[I", Cond.methodLink RX9 135 yX9_isMachine, Cond.static yX9_isMachine, Cond.initialized RX9, Cond.code yX9_isMachine cX9_isMachine 1 (some .boolean), Cond.methodLink RX9 87 yX9_in, Cond.static yX9_in, Cond.code yX9_in cX9_in 6 (some .boolean), Cond.methodLink RX9 91 yX9_states0, Cond.instanceMethod yX9_states0, Cond.selects RX9 yX9_states0 yX9_states0, Cond.code yX9_states0 cX9_states0 2 (some .int), Cond.fieldLink RX9 7 "TwoWaysModel" "now" "[I", Cond.methodLink RX9 177 yX9_movesOf, Cond.instanceMethod yX9_movesOf, Cond.selects RX9 yX9_movesOf yX9_movesOf, Cond.code yX9_movesOf cX9_movesOf 4 (some .int), Cond.methodLink RX9 247 yX9_lays, Cond.instanceMethod yX9_lays, Cond.selects RX9 yX9_lays yX9_lays]
def wsX9_ofMachine_r2 : List Cond := [Cond.code yX9_lays cX9_lays 6 (some .boolean), Cond.fieldLink RX9 50 "TwoWaysModel" "from" "[I", Cond.fieldLink RX9 41 "TwoWaysModel" "does" "[I", Cond.fieldLink RX9 44 "TwoWaysModel" "next" "[I", Cond.fieldLink RX9 47 "TwoWaysModel" "good" "[I", Cond.methodLink RX9 237 yX9_tries, Cond.instanceMethod yX9_tries, Cond.selects RX9 yX9_tries yX9_tries, Cond.code yX9_tries cX9_tries 6 none, Cond.fieldLink RX9 53 "TwoWaysModel" "tried" "[I", Cond.methodLink RX9 233 yX9_offRight, Cond.instanceMethod yX9_offRight, Cond.selects RX9 yX9_offRight yX9_offRight, Cond.code yX9_offRight cX9_offRight 8 (some .int), Cond.methodLink RX9 157 yX9_moveAt, Cond.instanceMethod yX9_moveAt, Cond.selects RX9 yX9_moveAt yX9_moveAt, Cond.code yX9_moveAt cX9_moveAt 4 (some .int), Cond.methodLink RX9 148 yX9_isState, Cond.instanceMethod yX9_isState, Cond.selects RX9 yX9_isState yX9_isState, Cond.code yX9_isState cX9_isState 3 (some .boolean), Cond.methodLink RX9 241 yX9_findsTried, Cond.instanceMethod yX9_findsTried]
def wsX9_ofMachine_r3 : List Cond := [Cond.selects RX9 yX9_findsTried yX9_findsTried, Cond.code yX9_findsTried cX9_findsTried 6 (some .int), Cond.methodLink RX9 229 yX9_at, Cond.instanceMethod yX9_at, Cond.selects RX9 yX9_at yX9_at, Cond.code yX9_at cX9_at 3 (some .int), Cond.methodLink RX9 244 yX9_isGood, Cond.instanceMethod yX9_isGood, Cond.selects RX9 yX9_isGood yX9_isGood, Cond.code yX9_isGood cX9_isGood 6 (some .boolean), Cond.methodLink RX9 255 yX9_least, Cond.instanceMethod yX9_least, Cond.selects RX9 yX9_least yX9_least, Cond.code yX9_least cX9_least 7 (some .int), Cond.fieldLink RX9 56 "TwoWaysModel" "sort" "[I", Cond.fieldLink RX9 59 "TwoWaysModel" "then" "[I", Cond.methodLink RX9 250 yX9_isLike, Cond.instanceMethod yX9_isLike, Cond.selects RX9 yX9_isLike yX9_isLike, Cond.code yX9_isLike cX9_isLike 6 (some .boolean), Cond.methodLink RX9 258 yX9_firstOf, Cond.instanceMethod yX9_firstOf, Cond.selects RX9 yX9_firstOf yX9_firstOf, Cond.code yX9_firstOf cX9_firstOf 10 (some .int)]
def wsX9_ofMachine_r4 : List Cond := [Cond.constantLong RX9 253 (2)]
def wsX9_ofMachine : List Cond := .code yX9_ofMachine cX9_ofMachine 3 (some .int) :: ((wsX9_ofMachine_r1 ++ (wsX9_ofMachine_r2 ++ (wsX9_ofMachine_r3 ++ wsX9_ofMachine_r4))) ++ wsX90)
def wsX9_oneWay_r1 : List Cond := [Cond.constant RX9 138 (-1000000001), Cond.constant RX9 101 (-1000000004), Cond.fieldLink RX9 38 "TwoWaysModel" "found" "[I", Cond.constant RX9 97 (-1000000002), Cond.fieldLink RX9 44 "TwoWaysModel" "next" "[I", Cond.fieldLink RX9 47 "TwoWaysModel" "good" "[I", Cond.fieldLink RX9 41 "TwoWaysModel" "does" "[I", Cond.methodLink RX9 135 yX9_isMachine, Cond.static yX9_isMachine, Cond.initialized RX9, Cond.code yX9_isMachine cX9_isMachine 1 (some .boolean), Cond.methodLink RX9 87 yX9_in, Cond.static yX9_in, Cond.code yX9_in cX9_in 6 (some .boolean), Cond.methodLink RX9 247 yX9_lays, Cond.instanceMethod yX9_lays, Cond.selects RX9 yX9_lays yX9_lays, Cond.code yX9_lays cX9_lays 6 (some .boolean), Cond.fieldLink RX9 50 "TwoWaysModel" "from" "[I", Cond.methodLink RX9 237 yX9_tries, Cond.instanceMethod yX9_tries, Cond.selects RX9 yX9_tries yX9_tries, Cond.code yX9_tries cX9_tries 6 none, Cond.fieldLink RX9 53 "TwoWaysModel" "tried" "[I"]
def wsX9_oneWay_r2 : List Cond := [Cond.methodLink RX9 233 yX9_offRight, Cond.instanceMethod yX9_offRight, Cond.selects RX9 yX9_offRight yX9_offRight, Cond.code yX9_offRight cX9_offRight 8 (some .int), Cond.methodLink RX9 157 yX9_moveAt, Cond.instanceMethod yX9_moveAt, Cond.selects RX9 yX9_moveAt yX9_moveAt, Cond.code yX9_moveAt cX9_moveAt 4 (some .int), Cond.fieldLink RX9 7 "TwoWaysModel" "now" "[I", Cond.methodLink RX9 148 yX9_isState, Cond.instanceMethod yX9_isState, Cond.selects RX9 yX9_isState yX9_isState, Cond.code yX9_isState cX9_isState 3 (some .boolean), Cond.methodLink RX9 91 yX9_states0, Cond.instanceMethod yX9_states0, Cond.selects RX9 yX9_states0 yX9_states0, Cond.code yX9_states0 cX9_states0 2 (some .int), Cond.methodLink RX9 241 yX9_findsTried, Cond.instanceMethod yX9_findsTried, Cond.selects RX9 yX9_findsTried yX9_findsTried, Cond.code yX9_findsTried cX9_findsTried 6 (some .int), Cond.methodLink RX9 229 yX9_at, Cond.instanceMethod yX9_at, Cond.selects RX9 yX9_at yX9_at]
def wsX9_oneWay_r3 : List Cond := [Cond.code yX9_at cX9_at 3 (some .int), Cond.methodLink RX9 244 yX9_isGood, Cond.instanceMethod yX9_isGood, Cond.selects RX9 yX9_isGood yX9_isGood, Cond.code yX9_isGood cX9_isGood 6 (some .boolean)]
def wsX9_oneWay : List Cond := .code yX9_oneWay cX9_oneWay 4 (some .int) :: ((wsX9_oneWay_r1 ++ (wsX9_oneWay_r2 ++ wsX9_oneWay_r3)) ++ wsX90)
def wsX9_taken_r1 : List Cond := [Cond.constant RX9 138 (-1000000001), Cond.constantLong RX9 261 (24), Cond.constant RX9 97 (-1000000002), Cond.constant RX9 101 (-1000000004), Cond.fieldLink RX9 38 "TwoWaysModel" "found" "[I", Cond.fieldLink RX9 62 "TwoWaysModel" "ways" "[I", Cond.fieldLink RX9 65 "TwoWaysModel" "wayThen" "[I", Cond.fieldLink RX9 44 "TwoWaysModel" "next" "[I", Cond.fieldLink RX9 47 "TwoWaysModel" "good" "[I", Cond.methodLink RX9 135 yX9_isMachine, Cond.static yX9_isMachine, Cond.initialized RX9, Cond.code yX9_isMachine cX9_isMachine 1 (some .boolean), Cond.methodLink RX9 87 yX9_in, Cond.static yX9_in, Cond.code yX9_in cX9_in 6 (some .boolean), Cond.methodLink RX9 247 yX9_lays, Cond.instanceMethod yX9_lays, Cond.selects RX9 yX9_lays yX9_lays, Cond.code yX9_lays cX9_lays 6 (some .boolean), Cond.fieldLink RX9 50 "TwoWaysModel" "from" "[I", Cond.fieldLink RX9 41 "TwoWaysModel" "does" "[I", Cond.methodLink RX9 237 yX9_tries, Cond.instanceMethod yX9_tries]
def wsX9_taken_r2 : List Cond := [Cond.selects RX9 yX9_tries yX9_tries, Cond.code yX9_tries cX9_tries 6 none, Cond.fieldLink RX9 53 "TwoWaysModel" "tried" "[I", Cond.methodLink RX9 233 yX9_offRight, Cond.instanceMethod yX9_offRight, Cond.selects RX9 yX9_offRight yX9_offRight, Cond.code yX9_offRight cX9_offRight 8 (some .int), Cond.methodLink RX9 157 yX9_moveAt, Cond.instanceMethod yX9_moveAt, Cond.selects RX9 yX9_moveAt yX9_moveAt, Cond.code yX9_moveAt cX9_moveAt 4 (some .int), Cond.fieldLink RX9 7 "TwoWaysModel" "now" "[I", Cond.methodLink RX9 148 yX9_isState, Cond.instanceMethod yX9_isState, Cond.selects RX9 yX9_isState yX9_isState, Cond.code yX9_isState cX9_isState 3 (some .boolean), Cond.methodLink RX9 91 yX9_states0, Cond.instanceMethod yX9_states0, Cond.selects RX9 yX9_states0 yX9_states0, Cond.code yX9_states0 cX9_states0 2 (some .int), Cond.methodLink RX9 241 yX9_findsTried, Cond.instanceMethod yX9_findsTried, Cond.selects RX9 yX9_findsTried yX9_findsTried, Cond.code yX9_findsTried cX9_findsTried 6 (some .int)]
def wsX9_taken_r3 : List Cond := [Cond.methodLink RX9 229 yX9_at, Cond.instanceMethod yX9_at, Cond.selects RX9 yX9_at yX9_at, Cond.code yX9_at cX9_at 3 (some .int), Cond.methodLink RX9 244 yX9_isGood, Cond.instanceMethod yX9_isGood, Cond.selects RX9 yX9_isGood yX9_isGood, Cond.code yX9_isGood cX9_isGood 6 (some .boolean)]
def wsX9_taken : List Cond := .code yX9_taken cX9_taken 5 (some .int) :: ((wsX9_taken_r1 ++ (wsX9_taken_r2 ++ wsX9_taken_r3)) ++ wsX90)
def wsX9_first_r1 : List Cond := [Cond.constantLong RX9 151 (3), Cond.constant RX9 138 (-1000000001), Cond.constant RX9 101 (-1000000004), Cond.methodLink RX9 87 yX9_in, Cond.static yX9_in, Cond.initialized RX9, Cond.code yX9_in cX9_in 6 (some .boolean), Cond.methodLink RX9 192 yX9_laysBoth, Cond.instanceMethod yX9_laysBoth, Cond.selects RX9 yX9_laysBoth yX9_laysBoth, Cond.code yX9_laysBoth cX9_laysBoth 2 (some .boolean), Cond.methodLink RX9 247 yX9_lays, Cond.instanceMethod yX9_lays, Cond.selects RX9 yX9_lays yX9_lays, Cond.code yX9_lays cX9_lays 6 (some .boolean), Cond.fieldLink RX9 38 "TwoWaysModel" "found" "[I", Cond.fieldLink RX9 50 "TwoWaysModel" "from" "[I", Cond.fieldLink RX9 41 "TwoWaysModel" "does" "[I", Cond.fieldLink RX9 44 "TwoWaysModel" "next" "[I", Cond.fieldLink RX9 47 "TwoWaysModel" "good" "[I", Cond.methodLink RX9 237 yX9_tries, Cond.instanceMethod yX9_tries, Cond.selects RX9 yX9_tries yX9_tries, Cond.code yX9_tries cX9_tries 6 none]
def wsX9_first_r2 : List Cond := [Cond.fieldLink RX9 53 "TwoWaysModel" "tried" "[I", Cond.methodLink RX9 233 yX9_offRight, Cond.instanceMethod yX9_offRight, Cond.selects RX9 yX9_offRight yX9_offRight, Cond.code yX9_offRight cX9_offRight 8 (some .int), Cond.methodLink RX9 157 yX9_moveAt, Cond.instanceMethod yX9_moveAt, Cond.selects RX9 yX9_moveAt yX9_moveAt, Cond.code yX9_moveAt cX9_moveAt 4 (some .int), Cond.fieldLink RX9 7 "TwoWaysModel" "now" "[I", Cond.methodLink RX9 148 yX9_isState, Cond.instanceMethod yX9_isState, Cond.selects RX9 yX9_isState yX9_isState, Cond.code yX9_isState cX9_isState 3 (some .boolean), Cond.methodLink RX9 91 yX9_states0, Cond.instanceMethod yX9_states0, Cond.selects RX9 yX9_states0 yX9_states0, Cond.code yX9_states0 cX9_states0 2 (some .int), Cond.methodLink RX9 241 yX9_findsTried, Cond.instanceMethod yX9_findsTried, Cond.selects RX9 yX9_findsTried yX9_findsTried, Cond.code yX9_findsTried cX9_findsTried 6 (some .int), Cond.methodLink RX9 229 yX9_at, Cond.instanceMethod yX9_at]
def wsX9_first_r3 : List Cond := [Cond.selects RX9 yX9_at yX9_at, Cond.code yX9_at cX9_at 3 (some .int), Cond.methodLink RX9 244 yX9_isGood, Cond.instanceMethod yX9_isGood, Cond.selects RX9 yX9_isGood yX9_isGood, Cond.code yX9_isGood cX9_isGood 6 (some .boolean), Cond.methodLink RX9 195 yX9_firstBy, Cond.instanceMethod yX9_firstBy, Cond.selects RX9 yX9_firstBy yX9_firstBy, Cond.code yX9_firstBy cX9_firstBy 8 (some .int), Cond.fieldLink RX9 74 "TwoWaysModel" "isFound" "[I", Cond.fieldLink RX9 68 "TwoWaysModel" "pairs" "[I", Cond.fieldLink RX9 71 "TwoWaysModel" "pairFrom" "[I", Cond.methodLink RX9 263 yX9_isBy, Cond.static yX9_isBy, Cond.code yX9_isBy cX9_isBy 3 (some .boolean), Cond.methodLink RX9 266 yX9_wordTo, Cond.instanceMethod yX9_wordTo, Cond.selects RX9 yX9_wordTo yX9_wordTo, Cond.code yX9_wordTo cX9_wordTo 8 (some .int), Cond.constantLong RX9 253 (2)]
def wsX9_first : List Cond := .code yX9_first cX9_first 2 (some .int) :: ((wsX9_first_r1 ++ (wsX9_first_r2 ++ wsX9_first_r3)) ++ wsX90)
def wsX9_turned_r1 : List Cond := [Cond.constant RX9 138 (-1000000001), Cond.constantLong RX9 269 (6), Cond.constant RX9 97 (-1000000002), Cond.fieldLink RX9 184 "TwoWaysModel" "letters" "I", Cond.fieldLink RX9 77 "TwoWaysModel" "aside" "[I", Cond.fieldLink RX9 26 "TwoWaysModel" "word" "[I", Cond.fieldLink RX9 207 "TwoWaysModel" "ended" "I", Cond.methodLink RX9 135 yX9_isMachine, Cond.static yX9_isMachine, Cond.initialized RX9, Cond.code yX9_isMachine cX9_isMachine 1 (some .boolean), Cond.methodLink RX9 87 yX9_in, Cond.static yX9_in, Cond.code yX9_in cX9_in 6 (some .boolean), Cond.methodLink RX9 215 yX9_runs, Cond.instanceMethod yX9_runs, Cond.selects RX9 yX9_runs yX9_runs, Cond.code yX9_runs cX9_runs 5 none, Cond.fieldLink RX9 29 "TwoWaysModel" "been" "[I", Cond.fieldLink RX9 198 "TwoWaysModel" "steps" "I", Cond.fieldLink RX9 201 "TwoWaysModel" "crossings" "I", Cond.fieldLink RX9 204 "TwoWaysModel" "lastState" "I", Cond.fieldLink RX9 32 "TwoWaysModel" "gaps" "[I", Cond.fieldLink RX9 35 "TwoWaysModel" "into" "[I"]
def wsX9_turned_r2 : List Cond := [Cond.methodLink RX9 210 yX9_signAt, Cond.instanceMethod yX9_signAt, Cond.selects RX9 yX9_signAt yX9_signAt, Cond.code yX9_signAt cX9_signAt 2 (some .int), Cond.methodLink RX9 157 yX9_moveAt, Cond.instanceMethod yX9_moveAt, Cond.selects RX9 yX9_moveAt yX9_moveAt, Cond.code yX9_moveAt cX9_moveAt 4 (some .int), Cond.fieldLink RX9 7 "TwoWaysModel" "now" "[I"]
def wsX9_turned : List Cond := .code yX9_turned cX9_turned 8 (some .int) :: ((wsX9_turned_r1 ++ wsX9_turned_r2) ++ wsX90)
def wsX9_keep : List Cond := .code yX9_keep cX9_keep 3 (some .int) :: ([.constant RX9 138 (-1000000001), .fieldLink RX9 80 "TwoWaysModel" "kept" "[I", .fieldLink RX9 7 "TwoWaysModel" "now" "[I", .fieldLink RX9 271 "TwoWaysModel" "keptSet" "I", .fieldLink RX9 145 "TwoWaysModel" "undos" "I", .methodLink RX9 87 yX9_in, .static yX9_in, .initialized RX9, .code yX9_in cX9_in 6 (some .boolean)] ++ wsX90)
def wsX9_goBack : List Cond := .code yX9_goBack cX9_goBack 3 (some .int) :: ([.constant RX9 138 (-1000000001), .fieldLink RX9 271 "TwoWaysModel" "keptSet" "I", .constant RX9 161 (-1000000003), .fieldLink RX9 7 "TwoWaysModel" "now" "[I", .fieldLink RX9 80 "TwoWaysModel" "kept" "[I", .fieldLink RX9 145 "TwoWaysModel" "undos" "I", .methodLink RX9 87 yX9_in, .static yX9_in, .initialized RX9, .code yX9_in cX9_in 6 (some .boolean)] ++ wsX90)
def wsJ9_max_7cf53 : List Cond := .code yJ9_max_7cf53 cJ9_max_7cf53 2 (some .int) :: ([])
def wsJ9_min_7cf53 : List Cond := .code yJ9_min_7cf53 cJ9_min_7cf53 2 (some .int) :: ([])
def wsL_law_r1 : List Cond := [Cond.classLink RL 7 RX8, Cond.instantiable RX8 13, Cond.initialized RX8, Cond.classLink RL 10 RX9, Cond.instantiable RX9 36, Cond.initialized RX9, Cond.methodLink RL 9 yX8_init, Cond.instanceMethod yX8_init, Cond.code yX8_init cX8_init 2 none, Cond.methodLink RX8 3 objectInit, Cond.instanceMethod objectInit, Cond.code objectInit ⟨#[0xb1]⟩ 1 none, Cond.classLink RX8 9 RX0, Cond.instantiable RX0 2, Cond.initialized RX0, Cond.fieldLink RX8 12 "TwoWays" "machines" "LTwoWays$Both;", Cond.classLink RX8 16 RX2, Cond.instantiable RX2 3, Cond.initialized RX2, Cond.fieldLink RX8 19 "TwoWays" "history" "LTwoWays$History;", Cond.fieldLink RX8 23 "TwoWays" "images" "[LTwoWays$Both;", Cond.arrayClass .boolean, Cond.fieldLink RX8 27 "TwoWays" "imageKept" "[Z", Cond.classLink RX8 31 RX6]
def wsL_law_r2 : List Cond := [Cond.instantiable RX6 4, Cond.initialized RX6, Cond.fieldLink RX8 34 "TwoWays" "text" "LTwoWays$Text;", Cond.classLink RX8 38 RX3, Cond.instantiable RX3 3, Cond.initialized RX3, Cond.fieldLink RX8 41 "TwoWays" "draft" "LTwoWays$Machine;", Cond.classLink RX8 45 RX7, Cond.instantiable RX7 2, Cond.initialized RX7, Cond.fieldLink RX8 48 "TwoWays" "theWord" "LTwoWays$Word;", Cond.fieldLink RX8 52 "TwoWays" "trial" "LTwoWays$Word;", Cond.classLink RX8 55 RX1, Cond.instantiable RX1 7, Cond.initialized RX1, Cond.fieldLink RX8 58 "TwoWays" "course" "LTwoWays$Course;", Cond.classLink RX8 62 RX5, Cond.instantiable RX5 16, Cond.initialized RX5, Cond.fieldLink RX8 65 "TwoWays" "oneWayOfZero" "LTwoWays$OneWay;", Cond.fieldLink RX8 69 "TwoWays" "oneWayOfOne" "LTwoWays$OneWay;", Cond.classLink RX8 72 RX4, Cond.instantiable RX4 3, Cond.initialized RX4]
def wsL_law_r3 : List Cond := [Cond.fieldLink RX8 75 "TwoWays" "meeting" "LTwoWays$Meeting;", Cond.fieldLink RX8 79 "TwoWays" "faultPlace" "I", Cond.instanceMethod yX0_init, Cond.code yX0_init cX0_init 1 none, Cond.methodLink RX0 1 objectInit, Cond.classLink RX0 7 RX3, Cond.fieldLink RX0 10 "TwoWays$Both" "zero" "LTwoWays$Machine;", Cond.fieldLink RX0 16 "TwoWays$Both" "one" "LTwoWays$Machine;", Cond.methodLink RX0 9 yX3_init, Cond.instanceMethod yX3_init, Cond.code yX3_init cX3_init 1 none, Cond.methodLink RX3 3 objectInit, Cond.arrayClass .int, Cond.fieldLink RX3 9 "TwoWays$Machine" "moves" "[I", Cond.fieldLink RX3 15 "TwoWays$Machine" "size" "I", Cond.methodLink RX3 19 yJ7_fill_53178, Cond.static yJ7_fill_53178, Cond.initialized RJ7, Cond.code yJ7_fill_53178 cJ7_fill_53178 4 none, Cond.methodLink RX8 18 yX2_init, Cond.instanceMethod yX2_init, Cond.code yX2_init cX2_init 2 none, Cond.methodLink RX2 3 objectInit, Cond.classLink RX2 9 RX0]
def wsL_law_r4 : List Cond := [Cond.fieldLink RX2 11 "TwoWays$History" "ring" "[LTwoWays$Both;", Cond.instanceMethod yX6_init, Cond.code yX6_init cX6_init 1 none, Cond.methodLink RX6 3 objectInit, Cond.fieldLink RX6 9 "TwoWays$Text" "letters" "[I", Cond.methodLink RX8 40 yX3_init, Cond.instanceMethod yX7_init, Cond.code yX7_init cX7_init 1 none, Cond.methodLink RX7 3 objectInit, Cond.fieldLink RX7 9 "TwoWays$Word" "letters" "[I", Cond.instanceMethod yX1_init, Cond.code yX1_init cX1_init 1 none, Cond.methodLink RX1 5 objectInit, Cond.fieldLink RX1 11 "TwoWays$Course" "statesSeen" "[I", Cond.fieldLink RX1 15 "TwoWays$Course" "gaps" "[I", Cond.fieldLink RX1 18 "TwoWays$Course" "states" "[I", Cond.instanceMethod yX5_init, Cond.code yX5_init cX5_init 1 none, Cond.methodLink RX5 5 objectInit, Cond.classLink RX5 11 RX3, Cond.fieldLink RX5 14 "TwoWays$OneWay" "source" "LTwoWays$Machine;", Cond.fieldLink RX5 18 "TwoWays$OneWay" "doings" "[I", Cond.fieldLink RX5 22 "TwoWays$OneWay" "found" "[I", Cond.fieldLink RX5 25 "TwoWays$OneWay" "numberByCode" "[I"]
def wsL_law_r5 : List Cond := [Cond.fieldLink RX5 28 "TwoWays$OneWay" "nexts" "[I", Cond.fieldLink RX5 31 "TwoWays$OneWay" "goods" "[Z", Cond.fieldLink RX5 35 "TwoWays$OneWay" "words" "[I", Cond.fieldLink RX5 38 "TwoWays$OneWay" "groups" "[I", Cond.fieldLink RX5 41 "TwoWays$OneWay" "finerGroups" "[I", Cond.fieldLink RX5 44 "TwoWays$OneWay" "leaders" "[I", Cond.fieldLink RX5 47 "TwoWays$OneWay" "ways" "[I", Cond.fieldLink RX5 50 "TwoWays$OneWay" "longerWays" "[I", Cond.methodLink RX5 13 yX3_init, Cond.instanceMethod yX4_init, Cond.code yX4_init cX4_init 1 none, Cond.methodLink RX4 5 objectInit, Cond.arrayClass .long, Cond.fieldLink RX4 11 "TwoWays$Meeting" "queue" "[J", Cond.fieldLink RX4 15 "TwoWays$Meeting" "met" "[I", Cond.methodLink RL 12 yX9_init, Cond.instanceMethod yX9_init, Cond.code yX9_init cX9_init 1 none, Cond.methodLink RX9 1 objectInit, Cond.fieldLink RX9 7 "TwoWaysModel" "now" "[I", Cond.fieldLink RX9 13 "TwoWaysModel" "text" "[I", Cond.fieldLink RX9 16 "TwoWaysModel" "faultAt" "I", Cond.fieldLink RX9 20 "TwoWaysModel" "read" "[I", Cond.fieldLink RX9 23 "TwoWaysModel" "ahead" "[I"]
def wsL_law_r6 : List Cond := [Cond.fieldLink RX9 26 "TwoWaysModel" "word" "[I", Cond.fieldLink RX9 29 "TwoWaysModel" "been" "[I", Cond.fieldLink RX9 32 "TwoWaysModel" "gaps" "[I", Cond.fieldLink RX9 35 "TwoWaysModel" "into" "[I", Cond.fieldLink RX9 38 "TwoWaysModel" "found" "[I", Cond.fieldLink RX9 41 "TwoWaysModel" "does" "[I", Cond.fieldLink RX9 44 "TwoWaysModel" "next" "[I", Cond.fieldLink RX9 47 "TwoWaysModel" "good" "[I", Cond.fieldLink RX9 50 "TwoWaysModel" "from" "[I", Cond.fieldLink RX9 53 "TwoWaysModel" "tried" "[I", Cond.fieldLink RX9 56 "TwoWaysModel" "sort" "[I", Cond.fieldLink RX9 59 "TwoWaysModel" "then" "[I", Cond.fieldLink RX9 62 "TwoWaysModel" "ways" "[I", Cond.fieldLink RX9 65 "TwoWaysModel" "wayThen" "[I", Cond.fieldLink RX9 68 "TwoWaysModel" "pairs" "[I", Cond.fieldLink RX9 71 "TwoWaysModel" "pairFrom" "[I", Cond.fieldLink RX9 74 "TwoWaysModel" "isFound" "[I", Cond.fieldLink RX9 77 "TwoWaysModel" "aside" "[I", Cond.fieldLink RX9 80 "TwoWaysModel" "kept" "[I", Cond.methodLink RX9 83 yX9_wipes, Cond.instanceMethod yX9_wipes, Cond.selects RX9 yX9_wipes yX9_wipes, Cond.code yX9_wipes cX9_wipes 4 none, Cond.methodLink RL 13 yX8_feed]
def wsL_law_r7 : List Cond := [Cond.instanceMethod yX8_feed, Cond.selects RX8 yX8_feed yX8_feed, Cond.code yX8_feed cX8_feed 2 (some .int), Cond.constant RX8 83 (-1000000002), Cond.constant RX8 92 (-1000000004), Cond.methodLink RX8 84 yX6_add, Cond.instanceMethod yX6_add, Cond.selects RX6 yX6_add yX6_add, Cond.code yX6_add cX6_add 2 (some .boolean), Cond.fieldLink RX6 15 "TwoWays$Text" "length" "I", Cond.methodLink RX8 88 yX6_length, Cond.instanceMethod yX6_length, Cond.selects RX6 yX6_length yX6_length, Cond.code yX6_length cX6_length 1 (some .int), Cond.methodLink RL 17 yX9_feed, Cond.instanceMethod yX9_feed, Cond.selects RX9 yX9_feed yX9_feed, Cond.code yX9_feed cX9_feed 2 (some .int), Cond.constantLong RX9 95 (255), Cond.constant RX9 97 (-1000000002), Cond.fieldLink RX9 98 "TwoWaysModel" "fed" "I", Cond.constant RX9 101 (-1000000004), Cond.methodLink RX9 87 yX9_in, Cond.static yX9_in]
def wsL_law_r8 : List Cond := [Cond.code yX9_in cX9_in 6 (some .boolean), Cond.methodLink RL 18 yX8_machine, Cond.instanceMethod yX8_machine, Cond.selects RX8 yX8_machine yX8_machine, Cond.code yX8_machine cX8_machine 3 (some .int), Cond.constant RX8 96 (-1000000001), Cond.methodLink RX8 93 yX8_isMachine, Cond.static yX8_isMachine, Cond.code yX8_isMachine cX8_isMachine 1 (some .boolean), Cond.methodLink RX8 97 yX6_readInto, Cond.instanceMethod yX6_readInto, Cond.selects RX6 yX6_readInto yX6_readInto, Cond.code yX6_readInto cX6_readInto 3 (some .int), Cond.fieldLink RX6 19 "TwoWays$Text" "place" "I", Cond.fieldLink RX6 22 "TwoWays$Text" "fault" "I", Cond.methodLink RX6 25 yX3_empty, Cond.instanceMethod yX3_empty, Cond.selects RX3 yX3_empty yX3_empty, Cond.code yX3_empty cX3_empty 2 none, Cond.methodLink RX3 32 Lib.Math.max.name, Cond.static Lib.Math.max.name, Cond.initialized "java/lang/Math", Cond.code Lib.Math.max.name Lib.Math.max.code 2 (some .int), Cond.methodLink RX3 38 Lib.Math.min.name]
def wsL_law_r9 : List Cond := [Cond.static Lib.Math.min.name, Cond.code Lib.Math.min.name Lib.Math.min.code 2 (some .int), Cond.methodLink RX6 31 yX6_upcoming, Cond.instanceMethod yX6_upcoming, Cond.selects RX6 yX6_upcoming yX6_upcoming, Cond.code yX6_upcoming cX6_upcoming 1 (some .int), Cond.methodLink RX6 35 yX6_readSize, Cond.instanceMethod yX6_readSize, Cond.selects RX6 yX6_readSize yX6_readSize, Cond.code yX6_readSize cX6_readSize 3 none, Cond.methodLink RX6 42 yX6_takeLetter, Cond.instanceMethod yX6_takeLetter, Cond.selects RX6 yX6_takeLetter yX6_takeLetter, Cond.code yX6_takeLetter cX6_takeLetter 2 none, Cond.methodLink RX6 66 yX6_passIf, Cond.instanceMethod yX6_passIf, Cond.selects RX6 yX6_passIf yX6_passIf, Cond.code yX6_passIf cX6_passIf 2 none, Cond.methodLink RX6 49 yX6_blame, Cond.instanceMethod yX6_blame, Cond.selects RX6 yX6_blame yX6_blame, Cond.code yX6_blame cX6_blame 2 none, Cond.methodLink RX6 45 yX6_takeFigure, Cond.instanceMethod yX6_takeFigure]
def wsL_law_r10 : List Cond := [Cond.selects RX6 yX6_takeFigure yX6_takeFigure, Cond.code yX6_takeFigure cX6_takeFigure 5 (some .int), Cond.methodLink RX6 39 yX6_readMove, Cond.instanceMethod yX6_readMove, Cond.selects RX6 yX6_readMove yX6_readMove, Cond.code yX6_readMove cX6_readMove 6 none, Cond.methodLink RX6 52 yX3_size, Cond.instanceMethod yX3_size, Cond.selects RX3 yX3_size yX3_size, Cond.code yX3_size cX3_size 1 (some .int), Cond.methodLink RX6 55 yX6_takeSign, Cond.instanceMethod yX6_takeSign, Cond.selects RX6 yX6_takeSign yX6_takeSign, Cond.code yX6_takeSign cX6_takeSign 4 (some .int), Cond.methodLink RX6 70 yX6_signOf, Cond.static yX6_signOf, Cond.code yX6_signOf cX6_signOf 1 (some .int), Cond.methodLink RX6 74 yX3_at, Cond.instanceMethod yX3_at, Cond.selects RX3 yX3_at yX3_at, Cond.code yX3_at cX3_at 3 (some .int), Cond.static yX8_isSign, Cond.code yX8_isSign cX8_isSign 1 (some .boolean), Cond.methodLink RX6 59 yX6_takeSide]
def wsL_law_r11 : List Cond := [Cond.instanceMethod yX6_takeSide, Cond.selects RX6 yX6_takeSide yX6_takeSide, Cond.code yX6_takeSide cX6_takeSide 2 (some .int), Cond.methodLink RX6 62 yX3_put, Cond.instanceMethod yX3_put, Cond.selects RX3 yX3_put yX3_put, Cond.code yX3_put cX3_put 4 none, Cond.methodLink RX3 29 yX3_hasState, Cond.instanceMethod yX3_hasState, Cond.selects RX3 yX3_hasState yX3_hasState, Cond.code yX3_hasState cX3_hasState 2 (some .boolean), Cond.methodLink RX8 101 yX6_place, Cond.instanceMethod yX6_place, Cond.selects RX6 yX6_place yX6_place, Cond.code yX6_place cX6_place 1 (some .int), Cond.methodLink RX8 104 yX6_clear, Cond.instanceMethod yX6_clear, Cond.selects RX6 yX6_clear yX6_clear, Cond.code yX6_clear cX6_clear 1 none, Cond.methodLink RX8 107 yX2_remember, Cond.instanceMethod yX2_remember, Cond.selects RX2 yX2_remember yX2_remember, Cond.code yX2_remember cX2_remember 3 none, Cond.fieldLink RX2 22 "TwoWays$History" "free" "I"]
def wsL_law_r12 : List Cond := [Cond.fieldLink RX2 18 "TwoWays$History" "size" "I", Cond.methodLink RX2 33 Lib.Math.min.name, Cond.methodLink RX2 25 yX2_slotAt, Cond.instanceMethod yX2_slotAt, Cond.selects RX2 yX2_slotAt yX2_slotAt, Cond.code yX2_slotAt cX2_slotAt 2 (some (.object "TwoWays$Both")), Cond.methodLink RX2 29 yX0_become, Cond.instanceMethod yX0_become, Cond.selects RX0 yX0_become yX0_become, Cond.code yX0_become cX0_become 2 none, Cond.methodLink RX0 19 yX3_become, Cond.instanceMethod yX3_become, Cond.selects RX3 yX3_become yX3_become, Cond.code yX3_become cX3_become 2 none, Cond.methodLink RX3 41 arraycopyName, Cond.native arraycopyName, Cond.static arraycopyName, Cond.initialized "java/lang/System", Cond.methodLink RX8 111 yX0_at, Cond.instanceMethod yX0_at, Cond.selects RX0 yX0_at yX0_at, Cond.code yX0_at cX0_at 2 (some (.object "TwoWays$Machine")), Cond.methodLink RX8 115 yX3_become, Cond.methodLink RX8 119 yX3_size]
def wsL_law_r13 : List Cond := [Cond.methodLink RL 21 yX9_machine, Cond.instanceMethod yX9_machine, Cond.selects RX9 yX9_machine yX9_machine, Cond.code yX9_machine cX9_machine 5 (some .int), Cond.constant RX9 138 (-1000000001), Cond.fieldLink RX9 102 "TwoWaysModel" "place" "I", Cond.fieldLink RX9 105 "TwoWaysModel" "why" "I", Cond.methodLink RX9 135 yX9_isMachine, Cond.static yX9_isMachine, Cond.code yX9_isMachine cX9_isMachine 1 (some .boolean), Cond.methodLink RX9 139 yX9_reads, Cond.instanceMethod yX9_reads, Cond.selects RX9 yX9_reads yX9_reads, Cond.code yX9_reads cX9_reads 2 (some .boolean), Cond.fieldLink RX9 116 "TwoWaysModel" "figure" "I", Cond.methodLink RX9 108 yX9_here, Cond.instanceMethod yX9_here, Cond.selects RX9 yX9_here yX9_here, Cond.code yX9_here cX9_here 1 (some .int), Cond.methodLink RX9 128 yX9_must, Cond.instanceMethod yX9_must, Cond.selects RX9 yX9_must yX9_must, Cond.code yX9_must cX9_must 2 (some .boolean), Cond.methodLink RX9 112 yX9_wrong]
def wsL_law_r14 : List Cond := [Cond.instanceMethod yX9_wrong, Cond.selects RX9 yX9_wrong yX9_wrong, Cond.code yX9_wrong cX9_wrong 2 (some .boolean), Cond.methodLink RX9 121 yX9_isFigure, Cond.instanceMethod yX9_isFigure, Cond.selects RX9 yX9_isFigure yX9_isFigure, Cond.code yX9_isFigure cX9_isFigure 3 (some .boolean), Cond.constantLong RX9 119 (9), Cond.methodLink RX9 131 yX9_readsMove, Cond.instanceMethod yX9_readsMove, Cond.selects RX9 yX9_readsMove yX9_readsMove, Cond.code yX9_readsMove cX9_readsMove 6 (some .boolean), Cond.methodLink RX9 125 yX9_signOf, Cond.static yX9_signOf, Cond.code yX9_signOf cX9_signOf 1 (some .int), Cond.methodLink RX9 142 yX9_notes, Cond.instanceMethod yX9_notes, Cond.selects RX9 yX9_notes yX9_notes, Cond.code yX9_notes cX9_notes 2 none, Cond.fieldLink RX9 145 "TwoWaysModel" "undos" "I", Cond.methodLink RL 22 yX8_fault, Cond.instanceMethod yX8_fault, Cond.selects RX8 yX8_fault yX8_fault, Cond.code yX8_fault cX8_fault 1 (some .int)]
def wsL_law_r15 : List Cond := [Cond.methodLink RL 26 yX9_fault, Cond.instanceMethod yX9_fault, Cond.selects RX9 yX9_fault yX9_fault, Cond.code yX9_fault cX9_fault 1 (some .int), Cond.methodLink RL 27 yX8_move, Cond.instanceMethod yX8_move, Cond.selects RX8 yX8_move yX8_move, Cond.code yX8_move cX8_move 6 (some .int), Cond.methodLink RX8 122 yX8_hasMoveOf, Cond.instanceMethod yX8_hasMoveOf, Cond.selects RX8 yX8_hasMoveOf yX8_hasMoveOf, Cond.code yX8_hasMoveOf cX8_hasMoveOf 4 (some .boolean), Cond.methodLink RX8 126 yX3_hasState, Cond.methodLink RX8 262 yX8_isSign, Cond.methodLink RX8 129 yX8_isSide, Cond.static yX8_isSide, Cond.code yX8_isSide cX8_isSide 1 (some .boolean), Cond.methodLink RX8 132 yX8_change, Cond.instanceMethod yX8_change, Cond.selects RX8 yX8_change yX8_change, Cond.code yX8_change cX8_change 6 (some .int), Cond.methodLink RX8 136 yX3_at, Cond.methodLink RX8 265 yX3_put, Cond.methodLink RL 31 yX9_move]
def wsL_law_r16 : List Cond := [Cond.instanceMethod yX9_move, Cond.selects RX9 yX9_move yX9_move, Cond.code yX9_move cX9_move 7 (some .int), Cond.methodLink RX9 153 yX9_isSpot, Cond.instanceMethod yX9_isSpot, Cond.selects RX9 yX9_isSpot yX9_isSpot, Cond.code yX9_isSpot cX9_isSpot 4 (some .boolean), Cond.constantLong RX9 151 (3), Cond.methodLink RX9 148 yX9_isState, Cond.instanceMethod yX9_isState, Cond.selects RX9 yX9_isState yX9_isState, Cond.code yX9_isState cX9_isState 3 (some .boolean), Cond.methodLink RX9 91 yX9_states0, Cond.instanceMethod yX9_states0, Cond.selects RX9 yX9_states0 yX9_states0, Cond.code yX9_states0 cX9_states0 2 (some .int), Cond.methodLink RX9 157 yX9_moveAt, Cond.instanceMethod yX9_moveAt, Cond.selects RX9 yX9_moveAt yX9_moveAt, Cond.code yX9_moveAt cX9_moveAt 4 (some .int), Cond.methodLink RL 32 yX8_none, Cond.instanceMethod yX8_none, Cond.selects RX8 yX8_none yX8_none, Cond.code yX8_none cX8_none 4 (some .int)]
def wsL_law_r17 : List Cond := [Cond.constant RX8 139 (-1000000003), Cond.methodLink RL 36 yX9_none, Cond.instanceMethod yX9_none, Cond.selects RX9 yX9_none yX9_none, Cond.code yX9_none cX9_none 5 (some .int), Cond.constant RX9 161 (-1000000003), Cond.methodLink RL 37 yX8_states, Cond.instanceMethod yX8_states, Cond.selects RX8 yX8_states yX8_states, Cond.code yX8_states cX8_states 4 (some .int), Cond.methodLink RX8 140 yX3_empty, Cond.methodLink RL 41 yX9_states, Cond.instanceMethod yX9_states, Cond.selects RX9 yX9_states yX9_states, Cond.code yX9_states cX9_states 4 (some .int), Cond.constantLong RX9 162 (4), Cond.methodLink RL 42 yX8_drift, Cond.instanceMethod yX8_drift, Cond.selects RX8 yX8_drift yX8_drift, Cond.code yX8_drift cX8_drift 3 (some .int), Cond.constant RX8 144 (999999), Cond.methodLink RX8 145 yX3_drawLots, Cond.instanceMethod yX3_drawLots, Cond.selects RX3 yX3_drawLots yX3_drawLots]
def wsL_law_r18 : List Cond := [Cond.code yX3_drawLots cX3_drawLots 4 none, Cond.fieldLink RX3 47 "TwoWays$Machine" "lot" "J", Cond.methodLink RX3 51 yX3_drawLot, Cond.instanceMethod yX3_drawLot, Cond.selects RX3 yX3_drawLot yX3_drawLot, Cond.code yX3_drawLot cX3_drawLot 2 (some .int), Cond.constantLong RX3 63 (16807), Cond.constantLong RX3 65 (2147483647), Cond.methodLink RX3 55 yX3_drawMove, Cond.instanceMethod yX3_drawMove, Cond.selects RX3 yX3_drawMove yX3_drawMove, Cond.code yX3_drawMove cX3_drawMove 2 (some .int), Cond.methodLink RX3 59 yX3_put, Cond.methodLink RX8 148 yX3_countMoves, Cond.instanceMethod yX3_countMoves, Cond.selects RX3 yX3_countMoves yX3_countMoves, Cond.code yX3_countMoves cX3_countMoves 3 (some .int), Cond.methodLink RL 45 yX9_drift, Cond.instanceMethod yX9_drift, Cond.selects RX9 yX9_drift yX9_drift, Cond.code yX9_drift cX9_drift 7 (some .int), Cond.constantLong RX9 172 (999999), Cond.fieldLink RX9 164 "TwoWaysModel" "lot" "J", Cond.methodLink RX9 174 yX9_lots]
def wsL_law_r19 : List Cond := [Cond.instanceMethod yX9_lots, Cond.selects RX9 yX9_lots yX9_lots, Cond.code yX9_lots cX9_lots 2 (some .int), Cond.constantLong RX9 168 (16807), Cond.constantLong RX9 170 (2147483647), Cond.methodLink RX9 177 yX9_movesOf, Cond.instanceMethod yX9_movesOf, Cond.selects RX9 yX9_movesOf yX9_movesOf, Cond.code yX9_movesOf cX9_movesOf 4 (some .int), Cond.methodLink RL 46 yX8_swap, Cond.instanceMethod yX8_swap, Cond.selects RX8 yX8_swap yX8_swap, Cond.code yX8_swap cX8_swap 2 (some .int), Cond.methodLink RX8 151 yX3_isLike, Cond.instanceMethod yX3_isLike, Cond.selects RX3 yX3_isLike yX3_isLike, Cond.code yX3_isLike cX3_isLike 3 (some .boolean), Cond.methodLink RX8 155 yX0_changePlaces, Cond.instanceMethod yX0_changePlaces, Cond.selects RX0 yX0_changePlaces yX0_changePlaces, Cond.code yX0_changePlaces cX0_changePlaces 2 none, Cond.methodLink RL 49 yX9_swap, Cond.instanceMethod yX9_swap, Cond.selects RX9 yX9_swap yX9_swap]
def wsL_law_r20 : List Cond := [Cond.code yX9_swap cX9_swap 4 (some .int), Cond.methodLink RL 50 yX8_undo, Cond.instanceMethod yX8_undo, Cond.selects RX8 yX8_undo yX8_undo, Cond.code yX8_undo cX8_undo 1 (some .int), Cond.methodLink RX8 158 yX2_stepBack, Cond.instanceMethod yX2_stepBack, Cond.selects RX2 yX2_stepBack yX2_stepBack, Cond.code yX2_stepBack cX2_stepBack 3 (some .boolean), Cond.methodLink RX8 162 yX2_size, Cond.instanceMethod yX2_size, Cond.selects RX2 yX2_size yX2_size, Cond.code yX2_size cX2_size 1 (some .int), Cond.methodLink RL 53 yX9_undo, Cond.instanceMethod yX9_undo, Cond.selects RX9 yX9_undo yX9_undo, Cond.code yX9_undo cX9_undo 2 (some .int), Cond.methodLink RL 54 yX8_moveOf, Cond.instanceMethod yX8_moveOf, Cond.selects RX8 yX8_moveOf yX8_moveOf, Cond.code yX8_moveOf cX8_moveOf 4 (some .int), Cond.methodLink RL 57 yX9_moveOf, Cond.instanceMethod yX9_moveOf, Cond.selects RX9 yX9_moveOf yX9_moveOf]
def wsL_law_r21 : List Cond := [Cond.code yX9_moveOf cX9_moveOf 4 (some .int), Cond.methodLink RL 58 yX8_letter, Cond.instanceMethod yX8_letter, Cond.selects RX8 yX8_letter yX8_letter, Cond.code yX8_letter cX8_letter 2 (some .int), Cond.methodLink RX8 163 yX7_add, Cond.instanceMethod yX7_add, Cond.selects RX7 yX7_add yX7_add, Cond.code yX7_add cX7_add 2 (some .boolean), Cond.fieldLink RX7 15 "TwoWays$Word" "length" "I", Cond.methodLink RX8 164 yX7_length, Cond.instanceMethod yX7_length, Cond.selects RX7 yX7_length yX7_length, Cond.code yX7_length cX7_length 1 (some .int), Cond.methodLink RL 61 yX9_letter, Cond.instanceMethod yX9_letter, Cond.selects RX9 yX9_letter yX9_letter, Cond.code yX9_letter cX9_letter 2 (some .int), Cond.constantLong RX9 180 (97), Cond.constantLong RX9 182 (98), Cond.fieldLink RX9 184 "TwoWaysModel" "letters" "I", Cond.methodLink RL 62 yX8_word, Cond.instanceMethod yX8_word, Cond.selects RX8 yX8_word yX8_word]
def wsL_law_r22 : List Cond := [Cond.code yX8_word cX8_word 2 (some .int), Cond.constant RX8 165 (33554432), Cond.methodLink RX8 166 yX7_become, Cond.instanceMethod yX7_become, Cond.selects RX7 yX7_become yX7_become, Cond.code yX7_become cX7_become 5 none, Cond.methodLink RX7 23 yX7_add, Cond.methodLink RL 65 yX9_word, Cond.instanceMethod yX9_word, Cond.selects RX9 yX9_word yX9_word, Cond.code yX9_word cX9_word 4 (some .int), Cond.constantLong RX9 187 (33554431), Cond.methodLink RL 66 yX8_wipe, Cond.instanceMethod yX8_wipe, Cond.selects RX8 yX8_wipe yX8_wipe, Cond.code yX8_wipe cX8_wipe 2 (some .int), Cond.methodLink RL 69 yX9_wipe, Cond.instanceMethod yX9_wipe, Cond.selects RX9 yX9_wipe yX9_wipe, Cond.code yX9_wipe cX9_wipe 2 (some .int), Cond.methodLink RL 70 yX8_told, Cond.instanceMethod yX8_told, Cond.selects RX8 yX8_told yX8_told, Cond.code yX8_told cX8_told 2 (some .int)]
def wsL_law_r23 : List Cond := [Cond.methodLink RX8 168 yX7_number, Cond.instanceMethod yX7_number, Cond.selects RX7 yX7_number yX7_number, Cond.code yX7_number cX7_number 3 (some .int), Cond.methodLink RX7 19 yX7_letterAt, Cond.instanceMethod yX7_letterAt, Cond.selects RX7 yX7_letterAt yX7_letterAt, Cond.code yX7_letterAt cX7_letterAt 2 (some .int), Cond.methodLink RX8 171 yX8_firstByRule, Cond.instanceMethod yX8_firstByRule, Cond.selects RX8 yX8_firstByRule yX8_firstByRule, Cond.code yX8_firstByRule cX8_firstByRule 3 (some .int), Cond.methodLink RX8 269 yX5_make, Cond.instanceMethod yX5_make, Cond.selects RX5 yX5_make yX5_make, Cond.code yX5_make cX5_make 4 none, Cond.fieldLink RX5 53 "TwoWays$OneWay" "made" "Z", Cond.fieldLink RX5 65 "TwoWays$OneWay" "tooMany" "Z", Cond.fieldLink RX5 68 "TwoWays$OneWay" "size" "I", Cond.fieldLink RX5 72 "TwoWays$OneWay" "least" "I", Cond.methodLink RX5 57 yX3_isLike, Cond.methodLink RX5 61 yX3_become, Cond.methodLink RX5 75 yJ7_fill_53178, Cond.methodLink RX5 81 yX5_findBehind]
def wsL_law_r24 : List Cond := [Cond.instanceMethod yX5_findBehind, Cond.selects RX5 yX5_findBehind yX5_findBehind, Cond.code yX5_findBehind cX5_findBehind 4 none, Cond.methodLink RX5 110 yX5_firstOff, Cond.instanceMethod yX5_firstOff, Cond.selects RX5 yX5_firstOff yX5_firstOff, Cond.code yX5_firstOff cX5_firstOff 2 (some .int), Cond.methodLink RX5 96 yX5_hasState, Cond.instanceMethod yX5_hasState, Cond.selects RX5 yX5_hasState yX5_hasState, Cond.code yX5_hasState cX5_hasState 2 (some .boolean), Cond.methodLink RX5 113 yX5_goOff, Cond.instanceMethod yX5_goOff, Cond.selects RX5 yX5_goOff yX5_goOff, Cond.code yX5_goOff cX5_goOff 7 (some .int), Cond.methodLink RX5 117 yX3_at, Cond.static yX8_sideOf, Cond.code yX8_sideOf cX8_sideOf 1 (some .int), Cond.static yX8_stateOf, Cond.code yX8_stateOf cX8_stateOf 1 (some .int), Cond.methodLink RX5 126 yX5_comesBack, Cond.instanceMethod yX5_comesBack, Cond.selects RX5 yX5_comesBack yX5_comesBack, Cond.code yX5_comesBack cX5_comesBack 4 (some .int)]
def wsL_law_r25 : List Cond := [Cond.methodLink RX5 85 yX5_numberOfFound, Cond.instanceMethod yX5_numberOfFound, Cond.selects RX5 yX5_numberOfFound yX5_numberOfFound, Cond.code yX5_numberOfFound cX5_numberOfFound 3 (some .int), Cond.methodLink RX5 129 yX5_codeOfFound, Cond.instanceMethod yX5_codeOfFound, Cond.selects RX5 yX5_codeOfFound yX5_codeOfFound, Cond.code yX5_codeOfFound cX5_codeOfFound 3 (some .int), Cond.methodLink RX5 132 yX5_addFound, Cond.instanceMethod yX5_addFound, Cond.selects RX5 yX5_addFound yX5_addFound, Cond.code yX5_addFound cX5_addFound 3 none, Cond.methodLink RX5 136 arraycopyName, Cond.static yX8_lengthen, Cond.code yX8_lengthen cX8_lengthen 3 (some .int), Cond.methodLink RX5 93 yX5_markGoods, Cond.instanceMethod yX5_markGoods, Cond.selects RX5 yX5_markGoods yX5_markGoods, Cond.code yX5_markGoods cX5_markGoods 2 none, Cond.methodLink RX8 219 yX5_isTooMany, Cond.instanceMethod yX5_isTooMany, Cond.selects RX5 yX5_isTooMany yX5_isTooMany, Cond.code yX5_isTooMany cX5_isTooMany 1 (some .boolean), Cond.methodLink RX8 272 yX4_firstWord]
def wsL_law_r26 : List Cond := [Cond.instanceMethod yX4_firstWord, Cond.selects RX4 yX4_firstWord yX4_firstWord, Cond.code yX4_firstWord cX4_firstWord 9 (some .int), Cond.fieldLink RX4 25 "TwoWays$Meeting" "waiting" "I", Cond.constantLong RX4 33 (32767), Cond.methodLink RX4 19 yJ7_fill_53178, Cond.methodLink RX4 29 yX4_meet, Cond.instanceMethod yX4_meet, Cond.selects RX4 yX4_meet yX4_meet, Cond.code yX4_meet cX4_meet 5 none, Cond.methodLink RX4 52 yX4_isMet, Cond.instanceMethod yX4_isMet, Cond.selects RX4 yX4_isMet yX4_isMet, Cond.code yX4_isMet cX4_isMet 2 (some .boolean), Cond.methodLink RX4 35 yX5_isGood, Cond.instanceMethod yX5_isGood, Cond.selects RX5 yX5_isGood yX5_isGood, Cond.code yX5_isGood cX5_isGood 2 (some .boolean), Cond.methodLink RX4 41 yX4_fits, Cond.static yX4_fits, Cond.code yX4_fits cX4_fits 3 (some .boolean), Cond.methodLink RX4 45 yX5_next, Cond.instanceMethod yX5_next, Cond.selects RX5 yX5_next yX5_next]
def wsL_law_r27 : List Cond := [Cond.code yX5_next cX5_next 3 (some .int), Cond.methodLink RX8 175 yX8_tellWhetherNone, Cond.static yX8_tellWhetherNone, Cond.code yX8_tellWhetherNone cX8_tellWhetherNone 1 (some .int), Cond.methodLink RL 73 yX9_told, Cond.instanceMethod yX9_told, Cond.selects RX9 yX9_told yX9_told, Cond.code yX9_told cX9_told 2 (some .int), Cond.methodLink RX9 189 yX9_numberOf, Cond.instanceMethod yX9_numberOf, Cond.selects RX9 yX9_numberOf yX9_numberOf, Cond.code yX9_numberOf cX9_numberOf 3 (some .int), Cond.methodLink RX9 192 yX9_laysBoth, Cond.instanceMethod yX9_laysBoth, Cond.selects RX9 yX9_laysBoth yX9_laysBoth, Cond.code yX9_laysBoth cX9_laysBoth 2 (some .boolean), Cond.methodLink RX9 247 yX9_lays, Cond.instanceMethod yX9_lays, Cond.selects RX9 yX9_lays yX9_lays, Cond.code yX9_lays cX9_lays 6 (some .boolean), Cond.methodLink RX9 237 yX9_tries, Cond.instanceMethod yX9_tries, Cond.selects RX9 yX9_tries yX9_tries, Cond.code yX9_tries cX9_tries 6 none]
def wsL_law_r28 : List Cond := [Cond.methodLink RX9 233 yX9_offRight, Cond.instanceMethod yX9_offRight, Cond.selects RX9 yX9_offRight yX9_offRight, Cond.code yX9_offRight cX9_offRight 8 (some .int), Cond.methodLink RX9 241 yX9_findsTried, Cond.instanceMethod yX9_findsTried, Cond.selects RX9 yX9_findsTried yX9_findsTried, Cond.code yX9_findsTried cX9_findsTried 6 (some .int), Cond.methodLink RX9 229 yX9_at, Cond.instanceMethod yX9_at, Cond.selects RX9 yX9_at yX9_at, Cond.code yX9_at cX9_at 3 (some .int), Cond.methodLink RX9 244 yX9_isGood, Cond.instanceMethod yX9_isGood, Cond.selects RX9 yX9_isGood yX9_isGood, Cond.code yX9_isGood cX9_isGood 6 (some .boolean), Cond.methodLink RX9 195 yX9_firstBy, Cond.instanceMethod yX9_firstBy, Cond.selects RX9 yX9_firstBy yX9_firstBy, Cond.code yX9_firstBy cX9_firstBy 8 (some .int), Cond.methodLink RX9 263 yX9_isBy, Cond.static yX9_isBy, Cond.code yX9_isBy cX9_isBy 3 (some .boolean), Cond.methodLink RX9 266 yX9_wordTo]
def wsL_law_r29 : List Cond := [Cond.instanceMethod yX9_wordTo, Cond.selects RX9 yX9_wordTo yX9_wordTo, Cond.code yX9_wordTo cX9_wordTo 8 (some .int), Cond.constantLong RX9 253 (2), Cond.methodLink RL 74 yX8_run, Cond.instanceMethod yX8_run, Cond.selects RX8 yX8_run yX8_run, Cond.code yX8_run cX8_run 3 (some .int), Cond.methodLink RX8 178 yX1_follow, Cond.instanceMethod yX1_follow, Cond.selects RX1 yX1_follow yX1_follow, Cond.code yX1_follow cX1_follow 4 none, Cond.fieldLink RX1 27 "TwoWays$Course" "steps" "I", Cond.fieldLink RX1 31 "TwoWays$Course" "state" "I", Cond.fieldLink RX1 34 "TwoWays$Course" "place" "I", Cond.fieldLink RX1 37 "TwoWays$Course" "ending" "I", Cond.methodLink RX1 21 yJ7_fill_53178, Cond.methodLink RX1 40 yX1_arrive, Cond.instanceMethod yX1_arrive, Cond.selects RX1 yX1_arrive yX1_arrive, Cond.code yX1_arrive cX1_arrive 2 none, Cond.methodLink RX1 78 yX7_length, Cond.methodLink RX1 44 yX1_step, Cond.instanceMethod yX1_step]
def wsL_law_r30 : List Cond := [Cond.selects RX1 yX1_step yX1_step, Cond.code yX1_step cX1_step 5 none, Cond.methodLink RX1 69 Lib.Math.min.name, Cond.methodLink RX1 52 yX7_signAt, Cond.instanceMethod yX7_signAt, Cond.selects RX7 yX7_signAt yX7_signAt, Cond.code yX7_signAt cX7_signAt 2 (some .int), Cond.methodLink RX1 57 yX3_at, Cond.static yX8_shift, Cond.code yX8_shift cX8_shift 1 (some .int), Cond.methodLink RX8 259 yX8_sideOf, Cond.methodLink RX1 74 yX1_note, Cond.instanceMethod yX1_note, Cond.selects RX1 yX1_note yX1_note, Cond.code yX1_note cX1_note 2 none, Cond.methodLink RX8 182 yX1_isTaken, Cond.instanceMethod yX1_isTaken, Cond.selects RX1 yX1_isTaken yX1_isTaken, Cond.code yX1_isTaken cX1_isTaken 1 (some .boolean), Cond.methodLink RX8 186 yX1_ending, Cond.instanceMethod yX1_ending, Cond.selects RX1 yX1_ending yX1_ending, Cond.code yX1_ending cX1_ending 1 (some .int), Cond.methodLink RX8 189 yX1_steps]
def wsL_law_r31 : List Cond := [Cond.instanceMethod yX1_steps, Cond.selects RX1 yX1_steps yX1_steps, Cond.code yX1_steps cX1_steps 1 (some .int), Cond.methodLink RX8 192 yX1_lastState, Cond.instanceMethod yX1_lastState, Cond.selects RX1 yX1_lastState yX1_lastState, Cond.code yX1_lastState cX1_lastState 1 (some .int), Cond.methodLink RX8 195 yX1_countGaps, Cond.instanceMethod yX1_countGaps, Cond.selects RX1 yX1_countGaps yX1_countGaps, Cond.code yX1_countGaps cX1_countGaps 4 (some .int), Cond.methodLink RX1 48 yX1_howOften, Cond.instanceMethod yX1_howOften, Cond.selects RX1 yX1_howOften yX1_howOften, Cond.code yX1_howOften cX1_howOften 4 (some .int), Cond.methodLink RX8 198 yX1_busiestGap, Cond.instanceMethod yX1_busiestGap, Cond.selects RX1 yX1_busiestGap yX1_busiestGap, Cond.code yX1_busiestGap cX1_busiestGap 6 (some .int), Cond.methodLink RL 77 yX9_run, Cond.instanceMethod yX9_run, Cond.selects RX9 yX9_run yX9_run, Cond.code yX9_run cX9_run 8 (some .int), Cond.constantLong RX9 213 (5)]
def wsL_law_r32 : List Cond := [Cond.fieldLink RX9 207 "TwoWaysModel" "ended" "I", Cond.fieldLink RX9 198 "TwoWaysModel" "steps" "I", Cond.fieldLink RX9 204 "TwoWaysModel" "lastState" "I", Cond.methodLink RX9 215 yX9_runs, Cond.instanceMethod yX9_runs, Cond.selects RX9 yX9_runs yX9_runs, Cond.code yX9_runs cX9_runs 5 none, Cond.fieldLink RX9 201 "TwoWaysModel" "crossings" "I", Cond.methodLink RX9 210 yX9_signAt, Cond.instanceMethod yX9_signAt, Cond.selects RX9 yX9_signAt yX9_signAt, Cond.code yX9_signAt cX9_signAt 2 (some .int), Cond.methodLink RX9 219 yX9_oftenOver, Cond.instanceMethod yX9_oftenOver, Cond.selects RX9 yX9_oftenOver yX9_oftenOver, Cond.code yX9_oftenOver cX9_oftenOver 4 (some .int), Cond.methodLink RL 78 yX8_crossed, Cond.instanceMethod yX8_crossed, Cond.selects RX8 yX8_crossed yX8_crossed, Cond.code yX8_crossed cX8_crossed 4 (some .int), Cond.methodLink RX8 201 yX1_howOften, Cond.methodLink RX8 204 yX1_stateAt, Cond.instanceMethod yX1_stateAt, Cond.selects RX1 yX1_stateAt yX1_stateAt]
def wsL_law_r33 : List Cond := [Cond.code yX1_stateAt cX1_stateAt 5 (some .int), Cond.methodLink RL 81 yX9_crossed, Cond.instanceMethod yX9_crossed, Cond.selects RX9 yX9_crossed yX9_crossed, Cond.code yX9_crossed cX9_crossed 7 (some .int), Cond.methodLink RL 82 yX8_table, Cond.instanceMethod yX8_table, Cond.selects RX8 yX8_table yX8_table, Cond.code yX8_table cX8_table 6 (some .int), Cond.methodLink RX8 207 yX8_isPiece, Cond.instanceMethod yX8_isPiece, Cond.selects RX8 yX8_isPiece yX8_isPiece, Cond.code yX8_isPiece cX8_isPiece 3 (some .boolean), Cond.methodLink RX8 211 yX8_goOffPiece, Cond.instanceMethod yX8_goOffPiece, Cond.selects RX8 yX8_goOffPiece yX8_goOffPiece, Cond.code yX8_goOffPiece cX8_goOffPiece 10 (some .int), Cond.methodLink RX8 275 yX7_letterAt, Cond.methodLink RX8 278 yX8_stateOf, Cond.methodLink RX8 281 yX8_shift, Cond.methodLink RL 85 yX9_table, Cond.instanceMethod yX9_table, Cond.selects RX9 yX9_table yX9_table, Cond.code yX9_table cX9_table 6 (some .int)]
def wsL_law_r34 : List Cond := [Cond.methodLink RX9 222 yX9_isPiece, Cond.instanceMethod yX9_isPiece, Cond.selects RX9 yX9_isPiece yX9_isPiece, Cond.code yX9_isPiece cX9_isPiece 3 (some .boolean), Cond.methodLink RX9 225 yX9_goesOff, Cond.instanceMethod yX9_goesOff, Cond.selects RX9 yX9_goesOff yX9_goesOff, Cond.code yX9_goesOff cX9_goesOff 9 (some .int), Cond.methodLink RL 86 yX8_alike, Cond.instanceMethod yX8_alike, Cond.selects RX8 yX8_alike yX8_alike, Cond.code yX8_alike cX8_alike 9 (some .int), Cond.methodLink RL 89 yX9_alike, Cond.instanceMethod yX9_alike, Cond.selects RX9 yX9_alike yX9_alike, Cond.code yX9_alike cX9_alike 8 (some .int), Cond.methodLink RL 90 yX8_ofMachine, Cond.instanceMethod yX8_ofMachine, Cond.selects RX8 yX8_ofMachine yX8_ofMachine, Cond.code yX8_ofMachine cX8_ofMachine 5 (some .int), Cond.methodLink RX8 215 yX8_oneWayFor, Cond.instanceMethod yX8_oneWayFor, Cond.selects RX8 yX8_oneWayFor yX8_oneWayFor, Cond.code yX8_oneWayFor cX8_oneWayFor 3 (some (.object "TwoWays$OneWay"))]
def wsL_law_r35 : List Cond := [Cond.methodLink RX8 222 yX5_size, Cond.instanceMethod yX5_size, Cond.selects RX5 yX5_size yX5_size, Cond.code yX5_size cX5_size 1 (some .int), Cond.methodLink RX8 223 yX5_leastSize, Cond.instanceMethod yX5_leastSize, Cond.selects RX5 yX5_leastSize yX5_leastSize, Cond.code yX5_leastSize cX5_leastSize 3 (some .int), Cond.methodLink RX5 103 yX5_groupByGoodness, Cond.instanceMethod yX5_groupByGoodness, Cond.selects RX5 yX5_groupByGoodness yX5_groupByGoodness, Cond.code yX5_groupByGoodness cX5_groupByGoodness 2 none, Cond.methodLink RX5 106 yX5_splitGroups, Cond.instanceMethod yX5_splitGroups, Cond.selects RX5 yX5_splitGroups yX5_splitGroups, Cond.code yX5_splitGroups cX5_splitGroups 4 (some .int), Cond.methodLink RX5 145 yX5_groupAmong, Cond.instanceMethod yX5_groupAmong, Cond.selects RX5 yX5_groupAmong yX5_groupAmong, Cond.code yX5_groupAmong cX5_groupAmong 4 (some .int), Cond.methodLink RX5 148 yX5_goTogether, Cond.instanceMethod yX5_goTogether, Cond.selects RX5 yX5_goTogether yX5_goTogether, Cond.code yX5_goTogether cX5_goTogether 3 (some .boolean)]
def wsL_law_r36 : List Cond := [Cond.methodLink RX5 152 yX5_groupOf, Cond.instanceMethod yX5_groupOf, Cond.selects RX5 yX5_groupOf yX5_groupOf, Cond.code yX5_groupOf cX5_groupOf 2 (some .int), Cond.methodLink RX5 142 yX5_next, Cond.methodLink RX8 226 yX5_firstWord, Cond.instanceMethod yX5_firstWord, Cond.selects RX5 yX5_firstWord yX5_firstWord, Cond.code yX5_firstWord cX5_firstWord 3 (some .int), Cond.methodLink RL 93 yX9_ofMachine, Cond.instanceMethod yX9_ofMachine, Cond.selects RX9 yX9_ofMachine yX9_ofMachine, Cond.code yX9_ofMachine cX9_ofMachine 3 (some .int), Cond.methodLink RX9 255 yX9_least, Cond.instanceMethod yX9_least, Cond.selects RX9 yX9_least yX9_least, Cond.code yX9_least cX9_least 7 (some .int), Cond.methodLink RX9 250 yX9_isLike, Cond.instanceMethod yX9_isLike, Cond.selects RX9 yX9_isLike yX9_isLike, Cond.code yX9_isLike cX9_isLike 6 (some .boolean), Cond.methodLink RX9 258 yX9_firstOf, Cond.instanceMethod yX9_firstOf, Cond.selects RX9 yX9_firstOf yX9_firstOf]
def wsL_law_r37 : List Cond := [Cond.code yX9_firstOf cX9_firstOf 10 (some .int), Cond.methodLink RL 94 yX8_oneWay, Cond.instanceMethod yX8_oneWay, Cond.selects RX8 yX8_oneWay yX8_oneWay, Cond.code yX8_oneWay cX8_oneWay 5 (some .int), Cond.methodLink RX8 230 yX5_hasState, Cond.methodLink RX8 231 yX5_next, Cond.methodLink RX8 234 yX5_isGood, Cond.methodLink RX8 237 yX5_firstOff, Cond.methodLink RX8 240 yX5_comesBack, Cond.methodLink RL 97 yX9_oneWay, Cond.instanceMethod yX9_oneWay, Cond.selects RX9 yX9_oneWay yX9_oneWay, Cond.code yX9_oneWay cX9_oneWay 4 (some .int), Cond.methodLink RL 98 yX8_taken, Cond.instanceMethod yX8_taken, Cond.selects RX8 yX8_taken yX8_taken, Cond.code yX8_taken cX8_taken 4 (some .int), Cond.methodLink RX8 243 yX5_countWords, Cond.instanceMethod yX5_countWords, Cond.selects RX5 yX5_countWords yX5_countWords, Cond.code yX5_countWords cX5_countWords 4 (some .int), Cond.methodLink RX5 100 yX5_countOneLetterMore, Cond.instanceMethod yX5_countOneLetterMore]
def wsL_law_r38 : List Cond := [Cond.selects RX5 yX5_countOneLetterMore yX5_countOneLetterMore, Cond.code yX5_countOneLetterMore cX5_countOneLetterMore 4 none, Cond.methodLink RL 101 yX9_taken, Cond.instanceMethod yX9_taken, Cond.selects RX9 yX9_taken yX9_taken, Cond.code yX9_taken cX9_taken 5 (some .int), Cond.constantLong RX9 261 (24), Cond.methodLink RL 102 yX8_first, Cond.instanceMethod yX8_first, Cond.selects RX8 yX8_first yX8_first, Cond.code yX8_first cX8_first 2 (some .int), Cond.methodLink RL 105 yX9_first, Cond.instanceMethod yX9_first, Cond.selects RX9 yX9_first yX9_first, Cond.code yX9_first cX9_first 2 (some .int), Cond.methodLink RL 106 yX8_turned, Cond.instanceMethod yX8_turned, Cond.selects RX8 yX8_turned yX8_turned, Cond.code yX8_turned cX8_turned 5 (some .int), Cond.methodLink RX8 246 yX8_isTakenBothWays, Cond.instanceMethod yX8_isTakenBothWays, Cond.selects RX8 yX8_isTakenBothWays yX8_isTakenBothWays, Cond.code yX8_isTakenBothWays cX8_isTakenBothWays 3 (some .boolean), Cond.methodLink RX8 284 yX7_turn]
def wsL_law_r39 : List Cond := [Cond.instanceMethod yX7_turn, Cond.selects RX7 yX7_turn yX7_turn, Cond.code yX7_turn cX7_turn 4 none, Cond.methodLink RL 109 yX9_turned, Cond.instanceMethod yX9_turned, Cond.selects RX9 yX9_turned yX9_turned, Cond.code yX9_turned cX9_turned 8 (some .int), Cond.constantLong RX9 269 (6), Cond.methodLink RL 110 yX8_keep, Cond.instanceMethod yX8_keep, Cond.selects RX8 yX8_keep yX8_keep, Cond.code yX8_keep cX8_keep 3 (some .int), Cond.methodLink RX8 250 yX8_imageAt, Cond.instanceMethod yX8_imageAt, Cond.selects RX8 yX8_imageAt yX8_imageAt, Cond.code yX8_imageAt cX8_imageAt 2 (some (.object "TwoWays$Both")), Cond.methodLink RX8 254 yX0_become, Cond.methodLink RX8 256 yX2_forget, Cond.instanceMethod yX2_forget, Cond.selects RX2 yX2_forget yX2_forget, Cond.code yX2_forget cX2_forget 1 none, Cond.methodLink RL 113 yX9_keep, Cond.instanceMethod yX9_keep, Cond.selects RX9 yX9_keep yX9_keep]
def wsL_law_r40 : List Cond := [Cond.code yX9_keep cX9_keep 3 (some .int), Cond.fieldLink RX9 271 "TwoWaysModel" "keptSet" "I", Cond.methodLink RL 114 yX8_goBack, Cond.instanceMethod yX8_goBack, Cond.selects RX8 yX8_goBack yX8_goBack, Cond.code yX8_goBack cX8_goBack 3 (some .int), Cond.methodLink RL 117 yX9_goBack, Cond.instanceMethod yX9_goBack, Cond.selects RX9 yX9_goBack yX9_goBack, Cond.code yX9_goBack cX9_goBack 3 (some .int)]
def wsL_law : List Cond := (wsL_law_r1 ++ (wsL_law_r2 ++ (wsL_law_r3 ++ (wsL_law_r4 ++ (wsL_law_r5 ++ (wsL_law_r6 ++ (wsL_law_r7 ++ (wsL_law_r8 ++ (wsL_law_r9 ++ (wsL_law_r10 ++ (wsL_law_r11 ++ (wsL_law_r12 ++ (wsL_law_r13 ++ (wsL_law_r14 ++ (wsL_law_r15 ++ (wsL_law_r16 ++ (wsL_law_r17 ++ (wsL_law_r18 ++ (wsL_law_r19 ++ (wsL_law_r20 ++ (wsL_law_r21 ++ (wsL_law_r22 ++ (wsL_law_r23 ++ (wsL_law_r24 ++ (wsL_law_r25 ++ (wsL_law_r26 ++ (wsL_law_r27 ++ (wsL_law_r28 ++ (wsL_law_r29 ++ (wsL_law_r30 ++ (wsL_law_r31 ++ (wsL_law_r32 ++ (wsL_law_r33 ++ (wsL_law_r34 ++ (wsL_law_r35 ++ (wsL_law_r36 ++ (wsL_law_r37 ++ (wsL_law_r38 ++ (wsL_law_r39 ++ wsL_law_r40))))))))))))))))))))))))))))))))))))))) ++ wsX80 ++ wsX90 ++ wsX00 ++ wsX20 ++ wsX60 ++ wsX30 ++ wsX70 ++ wsX10 ++ wsX50 ++ wsX40 ++ ([] : List Cond)
abbrev vwCl : List vw_C := [(RX0, TX0, 2), (RX1, TX1, 7), (RX2, TX2, 3), (RX3, TX3, 3), (RX4, TX4, 3), (RX5, TX5, 16), (RX6, TX6, 4), (RX7, TX7, 2), (RX8, TX8, 13), (RX9, TX9, 36)]
end
section
/-! the state of the pool: ints and longs of objects by address and slot, rows of ints (booleans too) and of longs by address -/
abbrev tw_S : Type := (Nat → Nat → Int32) × (Nat → Nat → Int64) × (Nat → Nat → Int32) × (Nat → Nat → Int64)
def tw_I (σ : tw_S) (a k : Nat) : Int32 := σ.1 a k
def tw_J (σ : tw_S) (a k : Nat) : Int64 := σ.2.1 a k
def tw_A (σ : tw_S) (a : Nat) : Nat → Int32 := σ.2.2.1 a
def tw_B (σ : tw_S) (a : Nat) : Nat → Int64 := σ.2.2.2 a
def tw_u {α : Type} (f : Nat → Nat → α) (a k : Nat) (v : α) : Nat → Nat → α := fun b j => if b = a then (if j = k then v else f b j) else f b j
def tw_sI (σ : tw_S) (a k : Nat) (v : Int32) : tw_S := (tw_u σ.1 a k v, σ.2)
def tw_sJ (σ : tw_S) (a k : Nat) (v : Int64) : tw_S := (σ.1, tw_u σ.2.1 a k v, σ.2.2)
def tw_sA (σ : tw_S) (a : Nat) (f : Nat → Int32) : tw_S := (σ.1, σ.2.1, va_up σ.2.2.1 a f, σ.2.2.2)
def tw_sB (σ : tw_S) (a : Nat) (f : Nat → Int64) : tw_S := (σ.1, σ.2.1, σ.2.2.1, va_up σ.2.2.2 a f)
theorem tw_I_sI (σ : tw_S) (a k b j : Nat) (v : Int32) : tw_I (tw_sI σ a k v) b j = if b = a then (if j = k then v else tw_I σ b j) else tw_I σ b j := rfl
theorem tw_I_sJ (σ : tw_S) (a k b j : Nat) (v : Int64) : tw_I (tw_sJ σ a k v) b j = tw_I σ b j := rfl
theorem tw_I_sA (σ : tw_S) (a b j : Nat) (f : Nat → Int32) : tw_I (tw_sA σ a f) b j = tw_I σ b j := rfl
theorem tw_I_sB (σ : tw_S) (a b j : Nat) (f : Nat → Int64) : tw_I (tw_sB σ a f) b j = tw_I σ b j := rfl
theorem tw_J_sI (σ : tw_S) (a k b j : Nat) (v : Int32) : tw_J (tw_sI σ a k v) b j = tw_J σ b j := rfl
theorem tw_J_sJ (σ : tw_S) (a k b j : Nat) (v : Int64) : tw_J (tw_sJ σ a k v) b j = if b = a then (if j = k then v else tw_J σ b j) else tw_J σ b j := rfl
theorem tw_J_sA (σ : tw_S) (a b j : Nat) (f : Nat → Int32) : tw_J (tw_sA σ a f) b j = tw_J σ b j := rfl
theorem tw_J_sB (σ : tw_S) (a b j : Nat) (f : Nat → Int64) : tw_J (tw_sB σ a f) b j = tw_J σ b j := rfl
theorem tw_A_sI (σ : tw_S) (a k b : Nat) (v : Int32) : tw_A (tw_sI σ a k v) b = tw_A σ b := rfl
theorem tw_A_sJ (σ : tw_S) (a k b : Nat) (v : Int64) : tw_A (tw_sJ σ a k v) b = tw_A σ b := rfl
theorem tw_A_sA (σ : tw_S) (a b : Nat) (f : Nat → Int32) : tw_A (tw_sA σ a f) b = if b = a then f else tw_A σ b := rfl
theorem tw_A_sB (σ : tw_S) (a b : Nat) (f : Nat → Int64) : tw_A (tw_sB σ a f) b = tw_A σ b := rfl
theorem tw_B_sI (σ : tw_S) (a k b : Nat) (v : Int32) : tw_B (tw_sI σ a k v) b = tw_B σ b := rfl
theorem tw_B_sJ (σ : tw_S) (a k b : Nat) (v : Int64) : tw_B (tw_sJ σ a k v) b = tw_B σ b := rfl
theorem tw_B_sA (σ : tw_S) (a b : Nat) (f : Nat → Int32) : tw_B (tw_sA σ a f) b = tw_B σ b := rfl
theorem tw_B_sB (σ : tw_S) (a b : Nat) (f : Nat → Int64) : tw_B (tw_sB σ a f) b = if b = a then f else tw_B σ b := rfl
/-! the pool's shape, which no method changes once the constructors are through: addresses, kinds, references, lengths, rows of references, array classes -/
abbrev tw_G : Type := List Nat × (Nat → Nat) × (Nat → Nat → Nat) × (Nat → Nat) × (Nat → Nat → Nat) × (Nat → ClassId)
def tw_L (g : tw_G) : List Nat := g.1
def tw_K (g : tw_G) (a : Nat) : Nat := g.2.1 a
def tw_R (g : tw_G) (a k : Nat) : Nat := g.2.2.1 a k
def tw_N (g : tw_G) (a : Nat) : Nat := g.2.2.2.1 a
def tw_E (g : tw_G) (a j : Nat) : Nat := g.2.2.2.2.1 a j
def tw_C (g : tw_G) (i : Nat) : ClassId := g.2.2.2.2.2 i
def tw_is (g : tw_G) (c a : Nat) : Prop := a ∈ tw_L g ∧ tw_K g a = c
def tw_fl (g : tw_G) (σ : tw_S) (a : Nat) (c : Nat) : List Value := match c with
  | 0 => [.ref (tw_R g a 0), .ref (tw_R g a 1)]
  | 1 => [.ref (tw_R g a 0), .ref (tw_R g a 1), .ref (tw_R g a 2), .int (tw_I σ a 3), .int (tw_I σ a 4), .int (tw_I σ a 5), .int (tw_I σ a 6)]
  | 2 => [.ref (tw_R g a 0), .int (tw_I σ a 1), .int (tw_I σ a 2)]
  | 3 => [.ref (tw_R g a 0), .int (tw_I σ a 1), .long (tw_J σ a 2)]
  | 4 => [.ref (tw_R g a 0), .ref (tw_R g a 1), .int (tw_I σ a 2)]
  | 5 => [.ref (tw_R g a 0), .ref (tw_R g a 1), .ref (tw_R g a 2), .ref (tw_R g a 3), .ref (tw_R g a 4), .ref (tw_R g a 5), .ref (tw_R g a 6), .ref (tw_R g a 7), .ref (tw_R g a 8), .ref (tw_R g a 9), .ref (tw_R g a 10), .ref (tw_R g a 11), .int (tw_I σ a 12), .int (tw_I σ a 13), .int (tw_I σ a 14), .int (tw_I σ a 15)]
  | 6 => [.ref (tw_R g a 0), .int (tw_I σ a 1), .int (tw_I σ a 2), .int (tw_I σ a 3)]
  | 7 => [.ref (tw_R g a 0), .int (tw_I σ a 1)]
  | 8 => [.ref (tw_R g a 0), .ref (tw_R g a 1), .ref (tw_R g a 2), .ref (tw_R g a 3), .ref (tw_R g a 4), .ref (tw_R g a 5), .ref (tw_R g a 6), .ref (tw_R g a 7), .ref (tw_R g a 8), .ref (tw_R g a 9), .ref (tw_R g a 10), .ref (tw_R g a 11), .int (tw_I σ a 12)]
  | _ => [.ref (tw_R g a 0), .ref (tw_R g a 1), .int (tw_I σ a 2), .int (tw_I σ a 3), .int (tw_I σ a 4), .int (tw_I σ a 5), .ref (tw_R g a 6), .int (tw_I σ a 7), .ref (tw_R g a 8), .int (tw_I σ a 9), .long (tw_J σ a 10), .ref (tw_R g a 11), .int (tw_I σ a 12), .ref (tw_R g a 13), .int (tw_I σ a 14), .int (tw_I σ a 15), .int (tw_I σ a 16), .ref (tw_R g a 17), .ref (tw_R g a 18), .int (tw_I σ a 19), .ref (tw_R g a 20), .ref (tw_R g a 21), .ref (tw_R g a 22), .ref (tw_R g a 23), .ref (tw_R g a 24), .ref (tw_R g a 25), .ref (tw_R g a 26), .ref (tw_R g a 27), .ref (tw_R g a 28), .ref (tw_R g a 29), .ref (tw_R g a 30), .ref (tw_R g a 31), .ref (tw_R g a 32), .ref (tw_R g a 33), .ref (tw_R g a 34), .int (tw_I σ a 35)]
def tw_e (g : tw_G) (σ : tw_S) (a : Nat) : va_E :=
  if tw_K g a < 10 then .inr (tw_K g a, tw_fl g σ a (tw_K g a)) else if tw_K g a = 10 then .inl (tw_C g 0, tw_N g a, .inl (tw_A σ a)) else if tw_K g a = 11 then .inl (tw_C g 1, tw_N g a, .inr (.inl (tw_B σ a))) else if tw_K g a = 12 then .inl (tw_C g 2, tw_N g a, .inl (tw_A σ a)) else .inl (tw_C g 3, tw_N g a, .inr (.inr (.inr (.inr (fun j => some (tw_E g a j))))))
def tw_pl (g : tw_G) (σ : tw_S) : va_W := va_pl (tw_L g) (tw_e g σ)
def tw_ty (g : tw_G) : List (ClassId × FieldType) := [(tw_C g 0, .int), (tw_C g 1, .long), (tw_C g 2, .boolean), (tw_C g 3, .object "TwoWays$Both")]
theorem tw_e_o {g : tw_G} {σ : tw_S} {a c : Nat} (h : tw_is g c a) (hc : c < 10) : tw_e g σ a = .inr (c, tw_fl g σ a c) := by
  obtain ⟨-, rfl⟩ := h
  simp [tw_e, hc]
theorem tw_e_i {g : tw_G} {σ : tw_S} {a : Nat} (h : tw_is g 10 a) : tw_e g σ a = .inl (tw_C g 0, tw_N g a, .inl (tw_A σ a)) := by simp [tw_e, h.2]
theorem tw_e_j {g : tw_G} {σ : tw_S} {a : Nat} (h : tw_is g 11 a) : tw_e g σ a = .inl (tw_C g 1, tw_N g a, .inr (.inl (tw_B σ a))) := by simp [tw_e, h.2]
theorem tw_e_z {g : tw_G} {σ : tw_S} {a : Nat} (h : tw_is g 12 a) : tw_e g σ a = .inl (tw_C g 2, tw_N g a, .inl (tw_A σ a)) := by simp [tw_e, h.2]
theorem tw_e_r {g : tw_G} {σ : tw_S} {a : Nat} (h : tw_is g 13 a) : tw_e g σ a = .inl (tw_C g 3, tw_N g a, .inr (.inr (.inr (.inr (fun j => some (tw_E g a j)))))) := by simp [tw_e, h.2]
theorem tw_fl_same {g : tw_G} {σ τ : tw_S} {a : Nat} (h1 : ∀ k, tw_I τ a k = tw_I σ a k) (h2 : ∀ k, tw_J τ a k = tw_J σ a k) (c : Nat) : tw_fl g τ a c = tw_fl g σ a c := by
  simp only [tw_fl, h1, h2]
theorem tw_e_same {g : tw_G} {σ τ : tw_S} {a : Nat} (h1 : ∀ k, tw_I τ a k = tw_I σ a k) (h2 : ∀ k, tw_J τ a k = tw_J σ a k) (h3 : tw_A τ a = tw_A σ a) (h4 : tw_B τ a = tw_B σ a) : tw_e g τ a = tw_e g σ a := by
  simp only [tw_e, tw_fl_same h1 h2, h3, h4]
theorem tw_at {g : tw_G} {σ : tw_S} {a c : Nat} (h : tw_is g c a) : ∃ k : Nat, (tw_pl g σ)[k]? = some (a, tw_e g σ a) := va_pl_get (X := []) h.1
theorem tw_set {g : tw_G} {σ τ : tw_S} {A : Nat → Prop} {a c k : Nat} {e : va_E} (hD : va_D A (tw_pl g σ)) (h : tw_is g c a) (hk : (tw_pl g σ)[k]? = some (a, tw_e g σ a)) (he : tw_e g τ a = e) (ho : ∀ b, b ≠ a → tw_e g τ b = tw_e g σ b) : (tw_pl g σ).set k (a, e) = tw_pl g τ := by
  have h1 := va_pl_set (X := []) (e := e) hD h.1 hk
  refine h1.trans (va_pl_congr fun b => ?_)
  by_cases hb : b = a
  · rw [hb, va_up_self, he]
  · rw [va_up_ne _ _ hb, ho b hb]
theorem tw_o_sI {g : tw_G} {σ : tw_S} {a k : Nat} {v : Int32} : ∀ b, b ≠ a → tw_e g (tw_sI σ a k v) b = tw_e g σ b := fun b hb => tw_e_same (fun j => by rw [tw_I_sI, if_neg hb]) (fun j => rfl) rfl rfl
theorem tw_o_sJ {g : tw_G} {σ : tw_S} {a k : Nat} {v : Int64} : ∀ b, b ≠ a → tw_e g (tw_sJ σ a k v) b = tw_e g σ b := fun b hb => tw_e_same (fun j => rfl) (fun j => by rw [tw_J_sJ, if_neg hb]) rfl rfl
theorem tw_o_sA {g : tw_G} {σ : tw_S} {a : Nat} {f : Nat → Int32} : ∀ b, b ≠ a → tw_e g (tw_sA σ a f) b = tw_e g σ b := fun b hb => tw_e_same (fun j => rfl) (fun j => rfl) (by rw [tw_A_sA, if_neg hb]) rfl
theorem tw_o_sB {g : tw_G} {σ : tw_S} {a : Nat} {f : Nat → Int64} : ∀ b, b ≠ a → tw_e g (tw_sB σ a f) b = tw_e g σ b := fun b hb => tw_e_same (fun j => rfl) (fun j => rfl) rfl (by rw [tw_B_sB, if_neg hb])
theorem tw_f_1_3 (g : tw_G) (σ : tw_S) (a : Nat) (v : Int32) : tw_fl g (tw_sI σ a 3 v) a 1 = (tw_fl g σ a 1).set 3 (.int v) := by simp [tw_fl, tw_I_sI, tw_I_sJ, tw_J_sI, tw_J_sJ]
theorem tw_f_1_4 (g : tw_G) (σ : tw_S) (a : Nat) (v : Int32) : tw_fl g (tw_sI σ a 4 v) a 1 = (tw_fl g σ a 1).set 4 (.int v) := by simp [tw_fl, tw_I_sI, tw_I_sJ, tw_J_sI, tw_J_sJ]
theorem tw_f_1_5 (g : tw_G) (σ : tw_S) (a : Nat) (v : Int32) : tw_fl g (tw_sI σ a 5 v) a 1 = (tw_fl g σ a 1).set 5 (.int v) := by simp [tw_fl, tw_I_sI, tw_I_sJ, tw_J_sI, tw_J_sJ]
theorem tw_f_1_6 (g : tw_G) (σ : tw_S) (a : Nat) (v : Int32) : tw_fl g (tw_sI σ a 6 v) a 1 = (tw_fl g σ a 1).set 6 (.int v) := by simp [tw_fl, tw_I_sI, tw_I_sJ, tw_J_sI, tw_J_sJ]
theorem tw_f_2_1 (g : tw_G) (σ : tw_S) (a : Nat) (v : Int32) : tw_fl g (tw_sI σ a 1 v) a 2 = (tw_fl g σ a 2).set 1 (.int v) := by simp [tw_fl, tw_I_sI, tw_I_sJ, tw_J_sI, tw_J_sJ]
theorem tw_f_2_2 (g : tw_G) (σ : tw_S) (a : Nat) (v : Int32) : tw_fl g (tw_sI σ a 2 v) a 2 = (tw_fl g σ a 2).set 2 (.int v) := by simp [tw_fl, tw_I_sI, tw_I_sJ, tw_J_sI, tw_J_sJ]
theorem tw_f_3_1 (g : tw_G) (σ : tw_S) (a : Nat) (v : Int32) : tw_fl g (tw_sI σ a 1 v) a 3 = (tw_fl g σ a 3).set 1 (.int v) := by simp [tw_fl, tw_I_sI, tw_I_sJ, tw_J_sI, tw_J_sJ]
theorem tw_f_3_2 (g : tw_G) (σ : tw_S) (a : Nat) (v : Int64) : tw_fl g (tw_sJ σ a 2 v) a 3 = (tw_fl g σ a 3).set 2 (.long v) := by simp [tw_fl, tw_I_sI, tw_I_sJ, tw_J_sI, tw_J_sJ]
theorem tw_f_4_2 (g : tw_G) (σ : tw_S) (a : Nat) (v : Int32) : tw_fl g (tw_sI σ a 2 v) a 4 = (tw_fl g σ a 4).set 2 (.int v) := by simp [tw_fl, tw_I_sI, tw_I_sJ, tw_J_sI, tw_J_sJ]
theorem tw_f_5_12 (g : tw_G) (σ : tw_S) (a : Nat) (v : Int32) : tw_fl g (tw_sI σ a 12 v) a 5 = (tw_fl g σ a 5).set 12 (.int v) := by simp [tw_fl, tw_I_sI, tw_I_sJ, tw_J_sI, tw_J_sJ]
theorem tw_f_5_13 (g : tw_G) (σ : tw_S) (a : Nat) (v : Int32) : tw_fl g (tw_sI σ a 13 v) a 5 = (tw_fl g σ a 5).set 13 (.int v) := by simp [tw_fl, tw_I_sI, tw_I_sJ, tw_J_sI, tw_J_sJ]
theorem tw_f_5_14 (g : tw_G) (σ : tw_S) (a : Nat) (v : Int32) : tw_fl g (tw_sI σ a 14 v) a 5 = (tw_fl g σ a 5).set 14 (.int v) := by simp [tw_fl, tw_I_sI, tw_I_sJ, tw_J_sI, tw_J_sJ]
theorem tw_f_5_15 (g : tw_G) (σ : tw_S) (a : Nat) (v : Int32) : tw_fl g (tw_sI σ a 15 v) a 5 = (tw_fl g σ a 5).set 15 (.int v) := by simp [tw_fl, tw_I_sI, tw_I_sJ, tw_J_sI, tw_J_sJ]
theorem tw_f_6_1 (g : tw_G) (σ : tw_S) (a : Nat) (v : Int32) : tw_fl g (tw_sI σ a 1 v) a 6 = (tw_fl g σ a 6).set 1 (.int v) := by simp [tw_fl, tw_I_sI, tw_I_sJ, tw_J_sI, tw_J_sJ]
theorem tw_f_6_2 (g : tw_G) (σ : tw_S) (a : Nat) (v : Int32) : tw_fl g (tw_sI σ a 2 v) a 6 = (tw_fl g σ a 6).set 2 (.int v) := by simp [tw_fl, tw_I_sI, tw_I_sJ, tw_J_sI, tw_J_sJ]
theorem tw_f_6_3 (g : tw_G) (σ : tw_S) (a : Nat) (v : Int32) : tw_fl g (tw_sI σ a 3 v) a 6 = (tw_fl g σ a 6).set 3 (.int v) := by simp [tw_fl, tw_I_sI, tw_I_sJ, tw_J_sI, tw_J_sJ]
theorem tw_f_7_1 (g : tw_G) (σ : tw_S) (a : Nat) (v : Int32) : tw_fl g (tw_sI σ a 1 v) a 7 = (tw_fl g σ a 7).set 1 (.int v) := by simp [tw_fl, tw_I_sI, tw_I_sJ, tw_J_sI, tw_J_sJ]
theorem tw_f_8_12 (g : tw_G) (σ : tw_S) (a : Nat) (v : Int32) : tw_fl g (tw_sI σ a 12 v) a 8 = (tw_fl g σ a 8).set 12 (.int v) := by simp [tw_fl, tw_I_sI, tw_I_sJ, tw_J_sI, tw_J_sJ]
theorem tw_f_9_2 (g : tw_G) (σ : tw_S) (a : Nat) (v : Int32) : tw_fl g (tw_sI σ a 2 v) a 9 = (tw_fl g σ a 9).set 2 (.int v) := by simp [tw_fl, tw_I_sI, tw_I_sJ, tw_J_sI, tw_J_sJ]
theorem tw_f_9_3 (g : tw_G) (σ : tw_S) (a : Nat) (v : Int32) : tw_fl g (tw_sI σ a 3 v) a 9 = (tw_fl g σ a 9).set 3 (.int v) := by simp [tw_fl, tw_I_sI, tw_I_sJ, tw_J_sI, tw_J_sJ]
theorem tw_f_9_4 (g : tw_G) (σ : tw_S) (a : Nat) (v : Int32) : tw_fl g (tw_sI σ a 4 v) a 9 = (tw_fl g σ a 9).set 4 (.int v) := by simp [tw_fl, tw_I_sI, tw_I_sJ, tw_J_sI, tw_J_sJ]
theorem tw_f_9_5 (g : tw_G) (σ : tw_S) (a : Nat) (v : Int32) : tw_fl g (tw_sI σ a 5 v) a 9 = (tw_fl g σ a 9).set 5 (.int v) := by simp [tw_fl, tw_I_sI, tw_I_sJ, tw_J_sI, tw_J_sJ]
theorem tw_f_9_7 (g : tw_G) (σ : tw_S) (a : Nat) (v : Int32) : tw_fl g (tw_sI σ a 7 v) a 9 = (tw_fl g σ a 9).set 7 (.int v) := by simp [tw_fl, tw_I_sI, tw_I_sJ, tw_J_sI, tw_J_sJ]
theorem tw_f_9_9 (g : tw_G) (σ : tw_S) (a : Nat) (v : Int32) : tw_fl g (tw_sI σ a 9 v) a 9 = (tw_fl g σ a 9).set 9 (.int v) := by simp [tw_fl, tw_I_sI, tw_I_sJ, tw_J_sI, tw_J_sJ]
theorem tw_f_9_10 (g : tw_G) (σ : tw_S) (a : Nat) (v : Int64) : tw_fl g (tw_sJ σ a 10 v) a 9 = (tw_fl g σ a 9).set 10 (.long v) := by simp [tw_fl, tw_I_sI, tw_I_sJ, tw_J_sI, tw_J_sJ]
theorem tw_f_9_12 (g : tw_G) (σ : tw_S) (a : Nat) (v : Int32) : tw_fl g (tw_sI σ a 12 v) a 9 = (tw_fl g σ a 9).set 12 (.int v) := by simp [tw_fl, tw_I_sI, tw_I_sJ, tw_J_sI, tw_J_sJ]
theorem tw_f_9_14 (g : tw_G) (σ : tw_S) (a : Nat) (v : Int32) : tw_fl g (tw_sI σ a 14 v) a 9 = (tw_fl g σ a 9).set 14 (.int v) := by simp [tw_fl, tw_I_sI, tw_I_sJ, tw_J_sI, tw_J_sJ]
theorem tw_f_9_15 (g : tw_G) (σ : tw_S) (a : Nat) (v : Int32) : tw_fl g (tw_sI σ a 15 v) a 9 = (tw_fl g σ a 9).set 15 (.int v) := by simp [tw_fl, tw_I_sI, tw_I_sJ, tw_J_sI, tw_J_sJ]
theorem tw_f_9_16 (g : tw_G) (σ : tw_S) (a : Nat) (v : Int32) : tw_fl g (tw_sI σ a 16 v) a 9 = (tw_fl g σ a 9).set 16 (.int v) := by simp [tw_fl, tw_I_sI, tw_I_sJ, tw_J_sI, tw_J_sJ]
theorem tw_f_9_19 (g : tw_G) (σ : tw_S) (a : Nat) (v : Int32) : tw_fl g (tw_sI σ a 19 v) a 9 = (tw_fl g σ a 9).set 19 (.int v) := by simp [tw_fl, tw_I_sI, tw_I_sJ, tw_J_sI, tw_J_sJ]
theorem tw_f_9_35 (g : tw_G) (σ : tw_S) (a : Nat) (v : Int32) : tw_fl g (tw_sI σ a 35 v) a 9 = (tw_fl g σ a 9).set 35 (.int v) := by simp [tw_fl, tw_I_sI, tw_I_sJ, tw_J_sI, tw_J_sJ]
/-! what the references of the pool are: kinds, and lengths of rows -/
def tw_tl : List (Nat × Nat × Nat × Nat) := [(0, 0, 3, 0), (0, 1, 3, 0), (1, 0, 10, 26), (1, 1, 10, 104), (1, 2, 10, 104), (2, 0, 13, 8), (3, 0, 10, 16), (4, 0, 11, 22500), (4, 1, 10, 704), (5, 0, 3, 0), (5, 1, 10, 750), (5, 2, 10, 5), (5, 3, 10, 3125), (5, 4, 10, 300), (5, 5, 12, 150), (5, 6, 10, 150), (5, 7, 10, 150), (5, 8, 10, 150), (5, 9, 10, 150), (5, 10, 10, 150), (5, 11, 10, 150), (6, 0, 10, 240), (7, 0, 10, 24), (8, 0, 0, 0), (8, 1, 2, 0), (8, 2, 13, 2), (8, 3, 12, 2), (8, 4, 6, 0), (8, 5, 3, 0), (8, 6, 7, 0), (8, 7, 7, 0), (8, 8, 1, 0), (8, 9, 5, 0), (8, 10, 5, 0), (8, 11, 4, 0), (9, 0, 10, 34), (9, 1, 10, 240), (9, 6, 10, 17), (9, 8, 10, 272), (9, 11, 10, 24), (9, 13, 10, 26), (9, 17, 10, 128), (9, 18, 10, 128), (9, 20, 10, 2), (9, 21, 10, 1510), (9, 22, 10, 604), (9, 23, 10, 302), (9, 24, 10, 302), (9, 25, 10, 5), (9, 26, 10, 151), (9, 27, 10, 151), (9, 28, 10, 151), (9, 29, 10, 151), (9, 30, 10, 22500), (9, 31, 10, 22500), (9, 32, 10, 22500), (9, 33, 10, 24), (9, 34, 10, 68)]
def tw_T (g : tw_G) : Prop := (∀ q ∈ tw_tl, ∀ a, tw_is g q.1 a → tw_is g q.2.2.1 (tw_R g a q.2.1) ∧ (q.2.2.2 ≠ 0 → tw_N g (tw_R g a q.2.1) = q.2.2.2)) ∧ ∀ a j, tw_is g 13 a → j < tw_N g a → tw_is g 0 (tw_E g a j)
theorem tw_t_0_0 {g : tw_G} (h : tw_T g) {a : Nat} (ha : tw_is g 0 a) : tw_is g 3 (tw_R g a 0) := (h.1 (0, 0, 3, 0) (List.mem_of_getElem? (i := 0) rfl) a ha).1
theorem tw_t_0_1 {g : tw_G} (h : tw_T g) {a : Nat} (ha : tw_is g 0 a) : tw_is g 3 (tw_R g a 1) := (h.1 (0, 1, 3, 0) (List.mem_of_getElem? (i := 1) rfl) a ha).1
theorem tw_t_1_0 {g : tw_G} (h : tw_T g) {a : Nat} (ha : tw_is g 1 a) : tw_is g 10 (tw_R g a 0) := (h.1 (1, 0, 10, 26) (List.mem_of_getElem? (i := 2) rfl) a ha).1
theorem tw_n_1_0 {g : tw_G} (h : tw_T g) {a : Nat} (ha : tw_is g 1 a) : tw_N g (tw_R g a 0) = 26 := (h.1 (1, 0, 10, 26) (List.mem_of_getElem? (i := 2) rfl) a ha).2 (by decide)
theorem tw_t_1_1 {g : tw_G} (h : tw_T g) {a : Nat} (ha : tw_is g 1 a) : tw_is g 10 (tw_R g a 1) := (h.1 (1, 1, 10, 104) (List.mem_of_getElem? (i := 3) rfl) a ha).1
theorem tw_n_1_1 {g : tw_G} (h : tw_T g) {a : Nat} (ha : tw_is g 1 a) : tw_N g (tw_R g a 1) = 104 := (h.1 (1, 1, 10, 104) (List.mem_of_getElem? (i := 3) rfl) a ha).2 (by decide)
theorem tw_t_1_2 {g : tw_G} (h : tw_T g) {a : Nat} (ha : tw_is g 1 a) : tw_is g 10 (tw_R g a 2) := (h.1 (1, 2, 10, 104) (List.mem_of_getElem? (i := 4) rfl) a ha).1
theorem tw_n_1_2 {g : tw_G} (h : tw_T g) {a : Nat} (ha : tw_is g 1 a) : tw_N g (tw_R g a 2) = 104 := (h.1 (1, 2, 10, 104) (List.mem_of_getElem? (i := 4) rfl) a ha).2 (by decide)
theorem tw_t_2_0 {g : tw_G} (h : tw_T g) {a : Nat} (ha : tw_is g 2 a) : tw_is g 13 (tw_R g a 0) := (h.1 (2, 0, 13, 8) (List.mem_of_getElem? (i := 5) rfl) a ha).1
theorem tw_n_2_0 {g : tw_G} (h : tw_T g) {a : Nat} (ha : tw_is g 2 a) : tw_N g (tw_R g a 0) = 8 := (h.1 (2, 0, 13, 8) (List.mem_of_getElem? (i := 5) rfl) a ha).2 (by decide)
theorem tw_t_3_0 {g : tw_G} (h : tw_T g) {a : Nat} (ha : tw_is g 3 a) : tw_is g 10 (tw_R g a 0) := (h.1 (3, 0, 10, 16) (List.mem_of_getElem? (i := 6) rfl) a ha).1
theorem tw_n_3_0 {g : tw_G} (h : tw_T g) {a : Nat} (ha : tw_is g 3 a) : tw_N g (tw_R g a 0) = 16 := (h.1 (3, 0, 10, 16) (List.mem_of_getElem? (i := 6) rfl) a ha).2 (by decide)
theorem tw_t_4_0 {g : tw_G} (h : tw_T g) {a : Nat} (ha : tw_is g 4 a) : tw_is g 11 (tw_R g a 0) := (h.1 (4, 0, 11, 22500) (List.mem_of_getElem? (i := 7) rfl) a ha).1
theorem tw_n_4_0 {g : tw_G} (h : tw_T g) {a : Nat} (ha : tw_is g 4 a) : tw_N g (tw_R g a 0) = 22500 := (h.1 (4, 0, 11, 22500) (List.mem_of_getElem? (i := 7) rfl) a ha).2 (by decide)
theorem tw_t_4_1 {g : tw_G} (h : tw_T g) {a : Nat} (ha : tw_is g 4 a) : tw_is g 10 (tw_R g a 1) := (h.1 (4, 1, 10, 704) (List.mem_of_getElem? (i := 8) rfl) a ha).1
theorem tw_n_4_1 {g : tw_G} (h : tw_T g) {a : Nat} (ha : tw_is g 4 a) : tw_N g (tw_R g a 1) = 704 := (h.1 (4, 1, 10, 704) (List.mem_of_getElem? (i := 8) rfl) a ha).2 (by decide)
theorem tw_t_5_0 {g : tw_G} (h : tw_T g) {a : Nat} (ha : tw_is g 5 a) : tw_is g 3 (tw_R g a 0) := (h.1 (5, 0, 3, 0) (List.mem_of_getElem? (i := 9) rfl) a ha).1
theorem tw_t_5_1 {g : tw_G} (h : tw_T g) {a : Nat} (ha : tw_is g 5 a) : tw_is g 10 (tw_R g a 1) := (h.1 (5, 1, 10, 750) (List.mem_of_getElem? (i := 10) rfl) a ha).1
theorem tw_n_5_1 {g : tw_G} (h : tw_T g) {a : Nat} (ha : tw_is g 5 a) : tw_N g (tw_R g a 1) = 750 := (h.1 (5, 1, 10, 750) (List.mem_of_getElem? (i := 10) rfl) a ha).2 (by decide)
theorem tw_t_5_2 {g : tw_G} (h : tw_T g) {a : Nat} (ha : tw_is g 5 a) : tw_is g 10 (tw_R g a 2) := (h.1 (5, 2, 10, 5) (List.mem_of_getElem? (i := 11) rfl) a ha).1
theorem tw_n_5_2 {g : tw_G} (h : tw_T g) {a : Nat} (ha : tw_is g 5 a) : tw_N g (tw_R g a 2) = 5 := (h.1 (5, 2, 10, 5) (List.mem_of_getElem? (i := 11) rfl) a ha).2 (by decide)
theorem tw_t_5_3 {g : tw_G} (h : tw_T g) {a : Nat} (ha : tw_is g 5 a) : tw_is g 10 (tw_R g a 3) := (h.1 (5, 3, 10, 3125) (List.mem_of_getElem? (i := 12) rfl) a ha).1
theorem tw_n_5_3 {g : tw_G} (h : tw_T g) {a : Nat} (ha : tw_is g 5 a) : tw_N g (tw_R g a 3) = 3125 := (h.1 (5, 3, 10, 3125) (List.mem_of_getElem? (i := 12) rfl) a ha).2 (by decide)
theorem tw_t_5_4 {g : tw_G} (h : tw_T g) {a : Nat} (ha : tw_is g 5 a) : tw_is g 10 (tw_R g a 4) := (h.1 (5, 4, 10, 300) (List.mem_of_getElem? (i := 13) rfl) a ha).1
theorem tw_n_5_4 {g : tw_G} (h : tw_T g) {a : Nat} (ha : tw_is g 5 a) : tw_N g (tw_R g a 4) = 300 := (h.1 (5, 4, 10, 300) (List.mem_of_getElem? (i := 13) rfl) a ha).2 (by decide)
theorem tw_t_5_5 {g : tw_G} (h : tw_T g) {a : Nat} (ha : tw_is g 5 a) : tw_is g 12 (tw_R g a 5) := (h.1 (5, 5, 12, 150) (List.mem_of_getElem? (i := 14) rfl) a ha).1
theorem tw_n_5_5 {g : tw_G} (h : tw_T g) {a : Nat} (ha : tw_is g 5 a) : tw_N g (tw_R g a 5) = 150 := (h.1 (5, 5, 12, 150) (List.mem_of_getElem? (i := 14) rfl) a ha).2 (by decide)
theorem tw_t_5_6 {g : tw_G} (h : tw_T g) {a : Nat} (ha : tw_is g 5 a) : tw_is g 10 (tw_R g a 6) := (h.1 (5, 6, 10, 150) (List.mem_of_getElem? (i := 15) rfl) a ha).1
theorem tw_n_5_6 {g : tw_G} (h : tw_T g) {a : Nat} (ha : tw_is g 5 a) : tw_N g (tw_R g a 6) = 150 := (h.1 (5, 6, 10, 150) (List.mem_of_getElem? (i := 15) rfl) a ha).2 (by decide)
theorem tw_t_5_7 {g : tw_G} (h : tw_T g) {a : Nat} (ha : tw_is g 5 a) : tw_is g 10 (tw_R g a 7) := (h.1 (5, 7, 10, 150) (List.mem_of_getElem? (i := 16) rfl) a ha).1
theorem tw_n_5_7 {g : tw_G} (h : tw_T g) {a : Nat} (ha : tw_is g 5 a) : tw_N g (tw_R g a 7) = 150 := (h.1 (5, 7, 10, 150) (List.mem_of_getElem? (i := 16) rfl) a ha).2 (by decide)
theorem tw_t_5_8 {g : tw_G} (h : tw_T g) {a : Nat} (ha : tw_is g 5 a) : tw_is g 10 (tw_R g a 8) := (h.1 (5, 8, 10, 150) (List.mem_of_getElem? (i := 17) rfl) a ha).1
theorem tw_n_5_8 {g : tw_G} (h : tw_T g) {a : Nat} (ha : tw_is g 5 a) : tw_N g (tw_R g a 8) = 150 := (h.1 (5, 8, 10, 150) (List.mem_of_getElem? (i := 17) rfl) a ha).2 (by decide)
theorem tw_t_5_9 {g : tw_G} (h : tw_T g) {a : Nat} (ha : tw_is g 5 a) : tw_is g 10 (tw_R g a 9) := (h.1 (5, 9, 10, 150) (List.mem_of_getElem? (i := 18) rfl) a ha).1
theorem tw_n_5_9 {g : tw_G} (h : tw_T g) {a : Nat} (ha : tw_is g 5 a) : tw_N g (tw_R g a 9) = 150 := (h.1 (5, 9, 10, 150) (List.mem_of_getElem? (i := 18) rfl) a ha).2 (by decide)
theorem tw_t_5_10 {g : tw_G} (h : tw_T g) {a : Nat} (ha : tw_is g 5 a) : tw_is g 10 (tw_R g a 10) := (h.1 (5, 10, 10, 150) (List.mem_of_getElem? (i := 19) rfl) a ha).1
theorem tw_n_5_10 {g : tw_G} (h : tw_T g) {a : Nat} (ha : tw_is g 5 a) : tw_N g (tw_R g a 10) = 150 := (h.1 (5, 10, 10, 150) (List.mem_of_getElem? (i := 19) rfl) a ha).2 (by decide)
theorem tw_t_5_11 {g : tw_G} (h : tw_T g) {a : Nat} (ha : tw_is g 5 a) : tw_is g 10 (tw_R g a 11) := (h.1 (5, 11, 10, 150) (List.mem_of_getElem? (i := 20) rfl) a ha).1
theorem tw_n_5_11 {g : tw_G} (h : tw_T g) {a : Nat} (ha : tw_is g 5 a) : tw_N g (tw_R g a 11) = 150 := (h.1 (5, 11, 10, 150) (List.mem_of_getElem? (i := 20) rfl) a ha).2 (by decide)
theorem tw_t_6_0 {g : tw_G} (h : tw_T g) {a : Nat} (ha : tw_is g 6 a) : tw_is g 10 (tw_R g a 0) := (h.1 (6, 0, 10, 240) (List.mem_of_getElem? (i := 21) rfl) a ha).1
theorem tw_n_6_0 {g : tw_G} (h : tw_T g) {a : Nat} (ha : tw_is g 6 a) : tw_N g (tw_R g a 0) = 240 := (h.1 (6, 0, 10, 240) (List.mem_of_getElem? (i := 21) rfl) a ha).2 (by decide)
theorem tw_t_7_0 {g : tw_G} (h : tw_T g) {a : Nat} (ha : tw_is g 7 a) : tw_is g 10 (tw_R g a 0) := (h.1 (7, 0, 10, 24) (List.mem_of_getElem? (i := 22) rfl) a ha).1
theorem tw_n_7_0 {g : tw_G} (h : tw_T g) {a : Nat} (ha : tw_is g 7 a) : tw_N g (tw_R g a 0) = 24 := (h.1 (7, 0, 10, 24) (List.mem_of_getElem? (i := 22) rfl) a ha).2 (by decide)
theorem tw_t_8_0 {g : tw_G} (h : tw_T g) {a : Nat} (ha : tw_is g 8 a) : tw_is g 0 (tw_R g a 0) := (h.1 (8, 0, 0, 0) (List.mem_of_getElem? (i := 23) rfl) a ha).1
theorem tw_t_8_1 {g : tw_G} (h : tw_T g) {a : Nat} (ha : tw_is g 8 a) : tw_is g 2 (tw_R g a 1) := (h.1 (8, 1, 2, 0) (List.mem_of_getElem? (i := 24) rfl) a ha).1
theorem tw_t_8_2 {g : tw_G} (h : tw_T g) {a : Nat} (ha : tw_is g 8 a) : tw_is g 13 (tw_R g a 2) := (h.1 (8, 2, 13, 2) (List.mem_of_getElem? (i := 25) rfl) a ha).1
theorem tw_n_8_2 {g : tw_G} (h : tw_T g) {a : Nat} (ha : tw_is g 8 a) : tw_N g (tw_R g a 2) = 2 := (h.1 (8, 2, 13, 2) (List.mem_of_getElem? (i := 25) rfl) a ha).2 (by decide)
theorem tw_t_8_3 {g : tw_G} (h : tw_T g) {a : Nat} (ha : tw_is g 8 a) : tw_is g 12 (tw_R g a 3) := (h.1 (8, 3, 12, 2) (List.mem_of_getElem? (i := 26) rfl) a ha).1
theorem tw_n_8_3 {g : tw_G} (h : tw_T g) {a : Nat} (ha : tw_is g 8 a) : tw_N g (tw_R g a 3) = 2 := (h.1 (8, 3, 12, 2) (List.mem_of_getElem? (i := 26) rfl) a ha).2 (by decide)
theorem tw_t_8_4 {g : tw_G} (h : tw_T g) {a : Nat} (ha : tw_is g 8 a) : tw_is g 6 (tw_R g a 4) := (h.1 (8, 4, 6, 0) (List.mem_of_getElem? (i := 27) rfl) a ha).1
theorem tw_t_8_5 {g : tw_G} (h : tw_T g) {a : Nat} (ha : tw_is g 8 a) : tw_is g 3 (tw_R g a 5) := (h.1 (8, 5, 3, 0) (List.mem_of_getElem? (i := 28) rfl) a ha).1
theorem tw_t_8_6 {g : tw_G} (h : tw_T g) {a : Nat} (ha : tw_is g 8 a) : tw_is g 7 (tw_R g a 6) := (h.1 (8, 6, 7, 0) (List.mem_of_getElem? (i := 29) rfl) a ha).1
theorem tw_t_8_7 {g : tw_G} (h : tw_T g) {a : Nat} (ha : tw_is g 8 a) : tw_is g 7 (tw_R g a 7) := (h.1 (8, 7, 7, 0) (List.mem_of_getElem? (i := 30) rfl) a ha).1
theorem tw_t_8_8 {g : tw_G} (h : tw_T g) {a : Nat} (ha : tw_is g 8 a) : tw_is g 1 (tw_R g a 8) := (h.1 (8, 8, 1, 0) (List.mem_of_getElem? (i := 31) rfl) a ha).1
theorem tw_t_8_9 {g : tw_G} (h : tw_T g) {a : Nat} (ha : tw_is g 8 a) : tw_is g 5 (tw_R g a 9) := (h.1 (8, 9, 5, 0) (List.mem_of_getElem? (i := 32) rfl) a ha).1
theorem tw_t_8_10 {g : tw_G} (h : tw_T g) {a : Nat} (ha : tw_is g 8 a) : tw_is g 5 (tw_R g a 10) := (h.1 (8, 10, 5, 0) (List.mem_of_getElem? (i := 33) rfl) a ha).1
theorem tw_t_8_11 {g : tw_G} (h : tw_T g) {a : Nat} (ha : tw_is g 8 a) : tw_is g 4 (tw_R g a 11) := (h.1 (8, 11, 4, 0) (List.mem_of_getElem? (i := 34) rfl) a ha).1
theorem tw_t_9_0 {g : tw_G} (h : tw_T g) {a : Nat} (ha : tw_is g 9 a) : tw_is g 10 (tw_R g a 0) := (h.1 (9, 0, 10, 34) (List.mem_of_getElem? (i := 35) rfl) a ha).1
theorem tw_n_9_0 {g : tw_G} (h : tw_T g) {a : Nat} (ha : tw_is g 9 a) : tw_N g (tw_R g a 0) = 34 := (h.1 (9, 0, 10, 34) (List.mem_of_getElem? (i := 35) rfl) a ha).2 (by decide)
theorem tw_t_9_1 {g : tw_G} (h : tw_T g) {a : Nat} (ha : tw_is g 9 a) : tw_is g 10 (tw_R g a 1) := (h.1 (9, 1, 10, 240) (List.mem_of_getElem? (i := 36) rfl) a ha).1
theorem tw_n_9_1 {g : tw_G} (h : tw_T g) {a : Nat} (ha : tw_is g 9 a) : tw_N g (tw_R g a 1) = 240 := (h.1 (9, 1, 10, 240) (List.mem_of_getElem? (i := 36) rfl) a ha).2 (by decide)
theorem tw_t_9_6 {g : tw_G} (h : tw_T g) {a : Nat} (ha : tw_is g 9 a) : tw_is g 10 (tw_R g a 6) := (h.1 (9, 6, 10, 17) (List.mem_of_getElem? (i := 37) rfl) a ha).1
theorem tw_n_9_6 {g : tw_G} (h : tw_T g) {a : Nat} (ha : tw_is g 9 a) : tw_N g (tw_R g a 6) = 17 := (h.1 (9, 6, 10, 17) (List.mem_of_getElem? (i := 37) rfl) a ha).2 (by decide)
theorem tw_t_9_8 {g : tw_G} (h : tw_T g) {a : Nat} (ha : tw_is g 9 a) : tw_is g 10 (tw_R g a 8) := (h.1 (9, 8, 10, 272) (List.mem_of_getElem? (i := 38) rfl) a ha).1
theorem tw_n_9_8 {g : tw_G} (h : tw_T g) {a : Nat} (ha : tw_is g 9 a) : tw_N g (tw_R g a 8) = 272 := (h.1 (9, 8, 10, 272) (List.mem_of_getElem? (i := 38) rfl) a ha).2 (by decide)
theorem tw_t_9_11 {g : tw_G} (h : tw_T g) {a : Nat} (ha : tw_is g 9 a) : tw_is g 10 (tw_R g a 11) := (h.1 (9, 11, 10, 24) (List.mem_of_getElem? (i := 39) rfl) a ha).1
theorem tw_n_9_11 {g : tw_G} (h : tw_T g) {a : Nat} (ha : tw_is g 9 a) : tw_N g (tw_R g a 11) = 24 := (h.1 (9, 11, 10, 24) (List.mem_of_getElem? (i := 39) rfl) a ha).2 (by decide)
theorem tw_t_9_13 {g : tw_G} (h : tw_T g) {a : Nat} (ha : tw_is g 9 a) : tw_is g 10 (tw_R g a 13) := (h.1 (9, 13, 10, 26) (List.mem_of_getElem? (i := 40) rfl) a ha).1
theorem tw_n_9_13 {g : tw_G} (h : tw_T g) {a : Nat} (ha : tw_is g 9 a) : tw_N g (tw_R g a 13) = 26 := (h.1 (9, 13, 10, 26) (List.mem_of_getElem? (i := 40) rfl) a ha).2 (by decide)
theorem tw_t_9_17 {g : tw_G} (h : tw_T g) {a : Nat} (ha : tw_is g 9 a) : tw_is g 10 (tw_R g a 17) := (h.1 (9, 17, 10, 128) (List.mem_of_getElem? (i := 41) rfl) a ha).1
theorem tw_n_9_17 {g : tw_G} (h : tw_T g) {a : Nat} (ha : tw_is g 9 a) : tw_N g (tw_R g a 17) = 128 := (h.1 (9, 17, 10, 128) (List.mem_of_getElem? (i := 41) rfl) a ha).2 (by decide)
theorem tw_t_9_18 {g : tw_G} (h : tw_T g) {a : Nat} (ha : tw_is g 9 a) : tw_is g 10 (tw_R g a 18) := (h.1 (9, 18, 10, 128) (List.mem_of_getElem? (i := 42) rfl) a ha).1
theorem tw_n_9_18 {g : tw_G} (h : tw_T g) {a : Nat} (ha : tw_is g 9 a) : tw_N g (tw_R g a 18) = 128 := (h.1 (9, 18, 10, 128) (List.mem_of_getElem? (i := 42) rfl) a ha).2 (by decide)
theorem tw_t_9_20 {g : tw_G} (h : tw_T g) {a : Nat} (ha : tw_is g 9 a) : tw_is g 10 (tw_R g a 20) := (h.1 (9, 20, 10, 2) (List.mem_of_getElem? (i := 43) rfl) a ha).1
theorem tw_n_9_20 {g : tw_G} (h : tw_T g) {a : Nat} (ha : tw_is g 9 a) : tw_N g (tw_R g a 20) = 2 := (h.1 (9, 20, 10, 2) (List.mem_of_getElem? (i := 43) rfl) a ha).2 (by decide)
theorem tw_t_9_21 {g : tw_G} (h : tw_T g) {a : Nat} (ha : tw_is g 9 a) : tw_is g 10 (tw_R g a 21) := (h.1 (9, 21, 10, 1510) (List.mem_of_getElem? (i := 44) rfl) a ha).1
theorem tw_n_9_21 {g : tw_G} (h : tw_T g) {a : Nat} (ha : tw_is g 9 a) : tw_N g (tw_R g a 21) = 1510 := (h.1 (9, 21, 10, 1510) (List.mem_of_getElem? (i := 44) rfl) a ha).2 (by decide)
theorem tw_t_9_22 {g : tw_G} (h : tw_T g) {a : Nat} (ha : tw_is g 9 a) : tw_is g 10 (tw_R g a 22) := (h.1 (9, 22, 10, 604) (List.mem_of_getElem? (i := 45) rfl) a ha).1
theorem tw_n_9_22 {g : tw_G} (h : tw_T g) {a : Nat} (ha : tw_is g 9 a) : tw_N g (tw_R g a 22) = 604 := (h.1 (9, 22, 10, 604) (List.mem_of_getElem? (i := 45) rfl) a ha).2 (by decide)
theorem tw_t_9_23 {g : tw_G} (h : tw_T g) {a : Nat} (ha : tw_is g 9 a) : tw_is g 10 (tw_R g a 23) := (h.1 (9, 23, 10, 302) (List.mem_of_getElem? (i := 46) rfl) a ha).1
theorem tw_n_9_23 {g : tw_G} (h : tw_T g) {a : Nat} (ha : tw_is g 9 a) : tw_N g (tw_R g a 23) = 302 := (h.1 (9, 23, 10, 302) (List.mem_of_getElem? (i := 46) rfl) a ha).2 (by decide)
theorem tw_t_9_24 {g : tw_G} (h : tw_T g) {a : Nat} (ha : tw_is g 9 a) : tw_is g 10 (tw_R g a 24) := (h.1 (9, 24, 10, 302) (List.mem_of_getElem? (i := 47) rfl) a ha).1
theorem tw_n_9_24 {g : tw_G} (h : tw_T g) {a : Nat} (ha : tw_is g 9 a) : tw_N g (tw_R g a 24) = 302 := (h.1 (9, 24, 10, 302) (List.mem_of_getElem? (i := 47) rfl) a ha).2 (by decide)
theorem tw_t_9_25 {g : tw_G} (h : tw_T g) {a : Nat} (ha : tw_is g 9 a) : tw_is g 10 (tw_R g a 25) := (h.1 (9, 25, 10, 5) (List.mem_of_getElem? (i := 48) rfl) a ha).1
theorem tw_n_9_25 {g : tw_G} (h : tw_T g) {a : Nat} (ha : tw_is g 9 a) : tw_N g (tw_R g a 25) = 5 := (h.1 (9, 25, 10, 5) (List.mem_of_getElem? (i := 48) rfl) a ha).2 (by decide)
theorem tw_t_9_26 {g : tw_G} (h : tw_T g) {a : Nat} (ha : tw_is g 9 a) : tw_is g 10 (tw_R g a 26) := (h.1 (9, 26, 10, 151) (List.mem_of_getElem? (i := 49) rfl) a ha).1
theorem tw_n_9_26 {g : tw_G} (h : tw_T g) {a : Nat} (ha : tw_is g 9 a) : tw_N g (tw_R g a 26) = 151 := (h.1 (9, 26, 10, 151) (List.mem_of_getElem? (i := 49) rfl) a ha).2 (by decide)
theorem tw_t_9_27 {g : tw_G} (h : tw_T g) {a : Nat} (ha : tw_is g 9 a) : tw_is g 10 (tw_R g a 27) := (h.1 (9, 27, 10, 151) (List.mem_of_getElem? (i := 50) rfl) a ha).1
theorem tw_n_9_27 {g : tw_G} (h : tw_T g) {a : Nat} (ha : tw_is g 9 a) : tw_N g (tw_R g a 27) = 151 := (h.1 (9, 27, 10, 151) (List.mem_of_getElem? (i := 50) rfl) a ha).2 (by decide)
theorem tw_t_9_28 {g : tw_G} (h : tw_T g) {a : Nat} (ha : tw_is g 9 a) : tw_is g 10 (tw_R g a 28) := (h.1 (9, 28, 10, 151) (List.mem_of_getElem? (i := 51) rfl) a ha).1
theorem tw_n_9_28 {g : tw_G} (h : tw_T g) {a : Nat} (ha : tw_is g 9 a) : tw_N g (tw_R g a 28) = 151 := (h.1 (9, 28, 10, 151) (List.mem_of_getElem? (i := 51) rfl) a ha).2 (by decide)
theorem tw_t_9_29 {g : tw_G} (h : tw_T g) {a : Nat} (ha : tw_is g 9 a) : tw_is g 10 (tw_R g a 29) := (h.1 (9, 29, 10, 151) (List.mem_of_getElem? (i := 52) rfl) a ha).1
theorem tw_n_9_29 {g : tw_G} (h : tw_T g) {a : Nat} (ha : tw_is g 9 a) : tw_N g (tw_R g a 29) = 151 := (h.1 (9, 29, 10, 151) (List.mem_of_getElem? (i := 52) rfl) a ha).2 (by decide)
theorem tw_t_9_30 {g : tw_G} (h : tw_T g) {a : Nat} (ha : tw_is g 9 a) : tw_is g 10 (tw_R g a 30) := (h.1 (9, 30, 10, 22500) (List.mem_of_getElem? (i := 53) rfl) a ha).1
theorem tw_n_9_30 {g : tw_G} (h : tw_T g) {a : Nat} (ha : tw_is g 9 a) : tw_N g (tw_R g a 30) = 22500 := (h.1 (9, 30, 10, 22500) (List.mem_of_getElem? (i := 53) rfl) a ha).2 (by decide)
theorem tw_t_9_31 {g : tw_G} (h : tw_T g) {a : Nat} (ha : tw_is g 9 a) : tw_is g 10 (tw_R g a 31) := (h.1 (9, 31, 10, 22500) (List.mem_of_getElem? (i := 54) rfl) a ha).1
theorem tw_n_9_31 {g : tw_G} (h : tw_T g) {a : Nat} (ha : tw_is g 9 a) : tw_N g (tw_R g a 31) = 22500 := (h.1 (9, 31, 10, 22500) (List.mem_of_getElem? (i := 54) rfl) a ha).2 (by decide)
theorem tw_t_9_32 {g : tw_G} (h : tw_T g) {a : Nat} (ha : tw_is g 9 a) : tw_is g 10 (tw_R g a 32) := (h.1 (9, 32, 10, 22500) (List.mem_of_getElem? (i := 55) rfl) a ha).1
theorem tw_n_9_32 {g : tw_G} (h : tw_T g) {a : Nat} (ha : tw_is g 9 a) : tw_N g (tw_R g a 32) = 22500 := (h.1 (9, 32, 10, 22500) (List.mem_of_getElem? (i := 55) rfl) a ha).2 (by decide)
theorem tw_t_9_33 {g : tw_G} (h : tw_T g) {a : Nat} (ha : tw_is g 9 a) : tw_is g 10 (tw_R g a 33) := (h.1 (9, 33, 10, 24) (List.mem_of_getElem? (i := 56) rfl) a ha).1
theorem tw_n_9_33 {g : tw_G} (h : tw_T g) {a : Nat} (ha : tw_is g 9 a) : tw_N g (tw_R g a 33) = 24 := (h.1 (9, 33, 10, 24) (List.mem_of_getElem? (i := 56) rfl) a ha).2 (by decide)
theorem tw_t_9_34 {g : tw_G} (h : tw_T g) {a : Nat} (ha : tw_is g 9 a) : tw_is g 10 (tw_R g a 34) := (h.1 (9, 34, 10, 68) (List.mem_of_getElem? (i := 57) rfl) a ha).1
theorem tw_n_9_34 {g : tw_G} (h : tw_T g) {a : Nat} (ha : tw_is g 9 a) : tw_N g (tw_R g a 34) = 68 := (h.1 (9, 34, 10, 68) (List.mem_of_getElem? (i := 57) rfl) a ha).2 (by decide)
theorem tw_t_13 {g : tw_G} (h : tw_T g) {a j : Nat} (ha : tw_is g 13 a) (hj : j < tw_N g a) : tw_is g 0 (tw_E g a j) := h.2 a j ha hj
/-! the words of nest links (they are no good words: they go from a caller to its callee by the contract's start) -/
def tw_nl : List (String × Nat × MethodName) := [(RX8, 11, yX0_init), (RX8, 33, yX6_init), (RX8, 47, yX7_init), (RX8, 57, yX1_init), (RX8, 64, yX5_init), (RX8, 74, yX4_init), (RX1, 63, yX8_stateOf), (RX1, 66, yX8_shift), (RX2, 17, yX0_init), (RX3, 25, yX8_isSign), (RX4, 49, yX8_lengthen), (RX5, 120, yX8_sideOf), (RX5, 123, yX8_stateOf), (RX5, 89, yX8_lengthen)]
def tw_k (D : va_G) (g : tw_G) (U : State) : Prop := va_K D vwCl (tw_ty g) U ∧ ∀ q ∈ tw_nl, va_Nw (.methodLinkNest q.1 q.2.1 q.2.2 "TwoWays") U
theorem tw_k.moved {D : va_G} {g : tw_G} {s U : State} (hW : s.WarmedH U.vm) (h : tw_k D g s) : tw_k D g U := ⟨va_K.moved hW.alike h.1, fun q hq => va_Nw.warmM hW (h.2 q hq)⟩
theorem tw_k.call {D : va_G} {g : tw_G} {U : State} {f : JFrame} {mk : MethodId} {a : Array Value} (h : tw_k D g U) : tw_k D g (U.calling f mk a) := ⟨va_K.moved (u := U) (U := U.calling f mk a) (Vm.Alike.refl U.vm) h.1, fun q hq => va_Nw.same rfl (u := U) (U := U.calling f mk a) rfl (h.2 q hq)⟩
/-! the world in a walk: the pool in the heap, apart; nothing else written since the start -/
def tw_w (D : va_G) (g : tw_G) (A : Nat → Prop) (s : State) (σ : tw_S) (H : Heap) (locs : List Loc) : Prop := va_P D vwCl (tw_pl g σ) H ∧ va_D A (tw_pl g σ) ∧ va_S A s.heap H locs ∧ ∀ q : Nat, s.heap.size ≤ q → A q
def tw_F (g : tw_G) (sz : Nat) : Nat → Prop := fun q => q ∈ tw_L g ∨ sz ≤ q
/-- what a contract's start asks of the state -/
def tw_b (D : va_G) (g : tw_G) (sz : Nat) (σ : tw_S) (U : State) : Prop := U.heap.size = sz ∧ va_P D vwCl (tw_pl g σ) U.heap ∧ tw_k D g U ∧ va_D (fun _ => True) (tw_pl g σ)
/-- what a contract's end says of it -/
def tw_z (D : va_G) (g : tw_G) (sz : Nat) (σ : tw_S) (t : State) : Prop := va_P D vwCl (tw_pl g σ) t.heap ∧ va_D (tw_F g sz) (tw_pl g σ)
abbrev tw_Mi (l : Launch) (y : MethodName) (ws : List Cond) (rm : Room) (D : va_G) (g : tw_G) (sz : Nat) (σ : tw_S) (av : List Value) (Q : Int32 → tw_S → Prop) : Prop := Met l y ws rm (va_Pc av (tw_b D g sz σ)) (va_Qi Q (tw_z D g sz) (tw_F g sz)) 0 0 (tw_F g sz)
abbrev tw_Mv (l : Launch) (y : MethodName) (ws : List Cond) (rm : Room) (D : va_G) (g : tw_G) (sz : Nat) (σ : tw_S) (av : List Value) (Q : tw_S → Prop) : Prop := Met l y ws rm (va_Pc av (tw_b D g sz σ)) (va_Qv Q (tw_z D g sz) (tw_F g sz)) 0 0 (tw_F g sz)
abbrev tw_Mq (l : Launch) (y : MethodName) (ws : List Cond) (rm : Room) (D : va_G) (g : tw_G) (sz : Nat) (σ : tw_S) (av : List Value) (Q : Option Nat → tw_S → Prop) : Prop := Met l y ws rm (va_Pc av (tw_b D g sz σ)) (va_Qq Q (tw_z D g sz) (tw_F g sz)) 0 0 (tw_F g sz)
theorem tw_D_in {g : tw_G} {σ : tw_S} {A : Nat → Prop} (h : va_D A (tw_pl g σ)) {a : Nat} (ha : a ∈ tw_L g) : A a := by
  obtain ⟨k, hk⟩ := va_pl_get (X := []) (f := tw_e g σ) ha
  exact h.2 k _ hk
theorem tw_pl_in {g : tw_G} {σ : tw_S} {k : Nat} {q : Nat × va_E} (h : (tw_pl g σ)[k]? = some q) : q.1 ∈ tw_L g := by
  have h1 := List.mem_of_getElem? h
  simp only [tw_pl, va_pl, List.mem_map] at h1
  obtain ⟨a, ha, rfl⟩ := h1
  exact ha
theorem tw_w0 {D : va_G} {g : tw_G} {s : State} {σ : tw_S} (hP : va_P D vwCl (tw_pl g σ) s.heap) (hD : va_D (fun _ => True) (tw_pl g σ)) : tw_w D g (tw_F g s.heap.size) s σ s.heap [] :=
  ⟨hP, hD.weaken (fun k q hk _ => Or.inl (tw_pl_in hk)), va_S.rf, fun _ h => Or.inr h⟩
section TWR
variable {p : Program} {l : Launch} {e : Env} {R : Room} {s : State} {m : MethodId} {args : Array Value} {below : List Frame} {meth : Method} {c : Code} {H : Heap} {locs : List Loc} {cells slots : Nat} {Q : State → Prop} {cc : ByteArray} {nL : Nat} {Ts : List Cond} {own : String} {D : va_G} {g : tw_G} {A : Nat → Prop} {σ : tw_S} {pc : Nat} {ls : Array Slot} {rest : List Value} {a : Nat}
theorem tw_get (X : CallFix p m c cc nL s args Ts own) (hK : tw_k D g s) (w : tw_w D g A s σ H locs) {C : String} {T : u_T} {N index : Nat} (ci : Nat) (hin : ∀ w ∈ u_ws C T N, w ∈ Ts) (ha : tw_is g ci a) (h10 : ci < 10) (hc : vwCl[ci]? = some (C, T, N)) (k : Nat) (hk : k < N) (hlink : Cond.fieldLink own index (T k).1 (T k).2.1 (T k).2.2.1 ∈ Ts) {v : Value} (hv : (tw_fl g σ a ci)[k]? = some v) (hdg : decode cc pc = .ok (.getfield index, 3))
    (kk : W p l e R s m args below meth c H locs cells slots Q (F0 m (pc + 3) ls (v :: rest))) : W p l e R s m args below meth c H locs cells slots Q (F0 m pc ls (.ref a :: rest)) := by
  obtain ⟨hx, hb, hml, hown, hts⟩ := X
  obtain ⟨q0, h0⟩ := tw_at (σ := σ) ha
  rw [tw_e_o ha h10] at h0
  exact va_get hx hb hts hin hown hK.1 w.1 q0 h0 hc k hk (hts _ hlink) (fun _ h => h) hv hdg kk
theorem tw_putI (X : CallFix p m c cc nL s args Ts own) (hK : tw_k D g s) (w : tw_w D g A s σ H locs) {C : String} {T : u_T} {N index : Nat} (ci : Nat) (hin : ∀ w ∈ u_ws C T N, w ∈ Ts) (ty0 : Nat → FieldType) (hty : ∀ k, k < N → parseFieldDescriptor (T k).2.2.1 = some (ty0 k)) (hnm : ∀ a, a < N → ∀ b, b < N → a ≠ b → (T a).2.1 ≠ (T b).2.1) (ha : tw_is g ci a) (h10 : ci < 10) (hc : vwCl[ci]? = some (C, T, N)) (k : Nat) (hk : k < N) (hlink : Cond.fieldLink own index (T k).1 (T k).2.1 (T k).2.2.1 ∈ Ts) (hfin : (T k).2.2.2 = false) {ty : FieldType} {v : Int32} (hd : parseFieldDescriptor (T k).2.2.1 = some ty) (hn : narrow ty (.int v) = .int v) (hfit : fits ty (.int v) = true) (hl : k < (tw_fl g σ a ci).length) (hf : tw_fl g (tw_sI σ a k v) a ci = (tw_fl g σ a ci).set k (.int v)) (hdg : decode cc pc = .ok (.putfield index, 3))
    (kk : ∀ (τ : tw_S) (H : Heap) (locs : List Loc), τ = tw_sI σ a k v → tw_w D g A s τ H locs → W p l e R s m args below meth c H locs cells slots Q (F0 m (pc + 3) ls rest)) : W p l e R s m args below meth c H locs cells slots Q (F0 m pc ls (.int v :: .ref a :: rest)) := by
  obtain ⟨hx, hb, hml, hown, hts⟩ := X
  obtain ⟨hP, hD, hS, hA⟩ := w
  obtain ⟨q0, h0⟩ := tw_at (σ := σ) ha
  have he := tw_set (τ := tw_sI σ a k v) (e := .inr (ci, (tw_fl g σ a ci).set k (.int v))) hD ha h0 (by rw [tw_e_o ha h10, hf]) tw_o_sI
  rw [tw_e_o ha h10] at h0
  refine va_put hx hb hts hin ty0 hty hnm hown hK.1 hP hD hS q0 h0 hc k hk (hts _ hlink) (fun _ h => h) hfin hd hn hfit hl hdg fun H1 locs1 hP1 hD1 hS1 => ?_
  rw [he] at hP1 hD1
  exact kk _ H1 locs1 rfl ⟨hP1, hD1, hS1, hA⟩
theorem tw_putJ (X : CallFix p m c cc nL s args Ts own) (hK : tw_k D g s) (w : tw_w D g A s σ H locs) {C : String} {T : u_T} {N index : Nat} (ci : Nat) (hin : ∀ w ∈ u_ws C T N, w ∈ Ts) (ty0 : Nat → FieldType) (hty : ∀ k, k < N → parseFieldDescriptor (T k).2.2.1 = some (ty0 k)) (hnm : ∀ a, a < N → ∀ b, b < N → a ≠ b → (T a).2.1 ≠ (T b).2.1) (ha : tw_is g ci a) (h10 : ci < 10) (hc : vwCl[ci]? = some (C, T, N)) (k : Nat) (hk : k < N) (hlink : Cond.fieldLink own index (T k).1 (T k).2.1 (T k).2.2.1 ∈ Ts) (hfin : (T k).2.2.2 = false) {ty : FieldType} {v : Int64} (hd : parseFieldDescriptor (T k).2.2.1 = some ty) (hn : narrow ty (.long v) = .long v) (hfit : fits ty (.long v) = true) (hl : k < (tw_fl g σ a ci).length) (hf : tw_fl g (tw_sJ σ a k v) a ci = (tw_fl g σ a ci).set k (.long v)) (hdg : decode cc pc = .ok (.putfield index, 3))
    (kk : ∀ (τ : tw_S) (H : Heap) (locs : List Loc), τ = tw_sJ σ a k v → tw_w D g A s τ H locs → W p l e R s m args below meth c H locs cells slots Q (F0 m (pc + 3) ls rest)) : W p l e R s m args below meth c H locs cells slots Q (F0 m pc ls (.long v :: .ref a :: rest)) := by
  obtain ⟨hx, hb, hml, hown, hts⟩ := X
  obtain ⟨hP, hD, hS, hA⟩ := w
  obtain ⟨q0, h0⟩ := tw_at (σ := σ) ha
  have he := tw_set (τ := tw_sJ σ a k v) (e := .inr (ci, (tw_fl g σ a ci).set k (.long v))) hD ha h0 (by rw [tw_e_o ha h10, hf]) tw_o_sJ
  rw [tw_e_o ha h10] at h0
  refine va_put hx hb hts hin ty0 hty hnm hown hK.1 hP hD hS q0 h0 hc k hk (hts _ hlink) (fun _ h => h) hfin hd hn hfit hl hdg fun H1 locs1 hP1 hD1 hS1 => ?_
  rw [he] at hP1 hD1
  exact kk _ H1 locs1 rfl ⟨hP1, hD1, hS1, hA⟩
theorem tw_iald (X : CallFix p m c cc nL s args Ts own) (hK : tw_k D g s) (w : tw_w D g A s σ H locs) (ha : tw_is g 10 a) {n : Nat} (hn : tw_N g a = n) {i : Int32} (hi : vp_in i n) (hdg : decode cc pc = .ok (.iaload, 1))
    (kk : W p l e R s m args below meth c H locs cells slots Q (F0 m (pc + 1) ls (.int (tw_A σ a i.toNatClampNeg) :: rest))) : W p l e R s m args below meth c H locs cells slots Q (F0 m pc ls (.int i :: .ref a :: rest)) := by
  obtain ⟨hx, hb, hml, hown, hts⟩ := X
  obtain ⟨q0, h0⟩ := tw_at (σ := σ) ha
  rw [tw_e_i ha, hn] at h0
  exact va_iald hx hb hK.1 w.1 q0 0 h0 rfl hi hdg kk
theorem tw_zald (X : CallFix p m c cc nL s args Ts own) (hK : tw_k D g s) (w : tw_w D g A s σ H locs) (ha : tw_is g 12 a) {n : Nat} (hn : tw_N g a = n) {i : Int32} (hi : vp_in i n) (hdg : decode cc pc = .ok (.baload, 1))
    (kk : W p l e R s m args below meth c H locs cells slots Q (F0 m (pc + 1) ls (.int (tw_A σ a i.toNatClampNeg) :: rest))) : W p l e R s m args below meth c H locs cells slots Q (F0 m pc ls (.int i :: .ref a :: rest)) := by
  obtain ⟨hx, hb, hml, hown, hts⟩ := X
  obtain ⟨q0, h0⟩ := tw_at (σ := σ) ha
  rw [tw_e_z ha, hn] at h0
  exact va_zald hx hb hK.1 w.1 q0 2 h0 rfl hi hdg kk
theorem tw_lald (X : CallFix p m c cc nL s args Ts own) (hK : tw_k D g s) (w : tw_w D g A s σ H locs) (ha : tw_is g 11 a) {n : Nat} (hn : tw_N g a = n) {i : Int32} (hi : vp_in i n) (hdg : decode cc pc = .ok (.laload, 1))
    (kk : W p l e R s m args below meth c H locs cells slots Q (F0 m (pc + 1) ls (.long (tw_B σ a i.toNatClampNeg) :: rest))) : W p l e R s m args below meth c H locs cells slots Q (F0 m pc ls (.int i :: .ref a :: rest)) := by
  obtain ⟨hx, hb, hml, hown, hts⟩ := X
  obtain ⟨q0, h0⟩ := tw_at (σ := σ) ha
  rw [tw_e_j ha, hn] at h0
  exact va_lald hx hb hK.1 w.1 q0 1 h0 rfl hi hdg kk
theorem tw_aald (X : CallFix p m c cc nL s args Ts own) (hK : tw_k D g s) (w : tw_w D g A s σ H locs) (ha : tw_is g 13 a) {n : Nat} (hn : tw_N g a = n) {i : Int32} (hi : vp_in i n) (hdg : decode cc pc = .ok (.aaload, 1))
    (kk : W p l e R s m args below meth c H locs cells slots Q (F0 m (pc + 1) ls (.ref (tw_E g a i.toNatClampNeg) :: rest))) : W p l e R s m args below meth c H locs cells slots Q (F0 m pc ls (.int i :: .ref a :: rest)) := by
  obtain ⟨hx, hb, hml, hown, hts⟩ := X
  obtain ⟨q0, h0⟩ := tw_at (σ := σ) ha
  rw [tw_e_r ha, hn] at h0
  exact va_aldq hx hb hK.1 w.1 q0 3 h0 rfl hi hdg kk
theorem tw_iast (X : CallFix p m c cc nL s args Ts own) (hK : tw_k D g s) (w : tw_w D g A s σ H locs) (ha : tw_is g 10 a) {n : Nat} (hn : tw_N g a = n) {i x : Int32} (hi : vp_in i n) (hdg : decode cc pc = .ok (.iastore, 1))
    (kk : ∀ (τ : tw_S) (H : Heap) (locs : List Loc), τ = tw_sA σ a (upd (tw_A σ a) i.toNatClampNeg x) → tw_w D g A s τ H locs → W p l e R s m args below meth c H locs cells slots Q (F0 m (pc + 1) ls rest)) : W p l e R s m args below meth c H locs cells slots Q (F0 m pc ls (.int x :: .int i :: .ref a :: rest)) := by
  obtain ⟨hx, hb, hml, hown, hts⟩ := X
  obtain ⟨hP, hD, hS, hA⟩ := w
  obtain ⟨q0, h0⟩ := tw_at (σ := σ) ha
  have he := tw_set (τ := tw_sA σ a (upd (tw_A σ a) i.toNatClampNeg x)) (e := .inl (tw_C g 0, tw_N g a, .inl (upd (tw_A σ a) i.toNatClampNeg x))) hD ha h0 (by rw [tw_e_i ha, tw_A_sA, if_pos rfl]) tw_o_sA
  rw [tw_e_i ha] at h0
  refine va_iast hx hb hK.1 hP hD hS q0 0 h0 rfl (by rw [hn]; exact hi) hdg fun H1 locs1 hP1 hD1 hS1 => ?_
  rw [he] at hP1 hD1
  exact kk _ H1 locs1 rfl ⟨hP1, hD1, hS1, hA⟩
theorem tw_zast (X : CallFix p m c cc nL s args Ts own) (hK : tw_k D g s) (w : tw_w D g A s σ H locs) (ha : tw_is g 12 a) {n : Nat} (hn : tw_N g a = n) {i x : Int32} (hi : vp_in i n) (hdg : decode cc pc = .ok (.bastore, 1))
    (kk : ∀ (τ : tw_S) (H : Heap) (locs : List Loc), τ = tw_sA σ a (upd (tw_A σ a) i.toNatClampNeg (vp_nar .boolean x)) → tw_w D g A s τ H locs → W p l e R s m args below meth c H locs cells slots Q (F0 m (pc + 1) ls rest)) : W p l e R s m args below meth c H locs cells slots Q (F0 m pc ls (.int x :: .int i :: .ref a :: rest)) := by
  obtain ⟨hx, hb, hml, hown, hts⟩ := X
  obtain ⟨hP, hD, hS, hA⟩ := w
  obtain ⟨q0, h0⟩ := tw_at (σ := σ) ha
  have he := tw_set (τ := tw_sA σ a (upd (tw_A σ a) i.toNatClampNeg (vp_nar .boolean x))) (e := .inl (tw_C g 2, tw_N g a, .inl (upd (tw_A σ a) i.toNatClampNeg (vp_nar .boolean x)))) hD ha h0 (by rw [tw_e_z ha, tw_A_sA, if_pos rfl]) tw_o_sA
  rw [tw_e_z ha] at h0
  refine va_zast hx hb hK.1 hP hD hS q0 2 h0 rfl (by rw [hn]; exact hi) hdg fun H1 locs1 hP1 hD1 hS1 => ?_
  rw [he] at hP1 hD1
  exact kk _ H1 locs1 rfl ⟨hP1, hD1, hS1, hA⟩
theorem tw_last (X : CallFix p m c cc nL s args Ts own) (hK : tw_k D g s) (w : tw_w D g A s σ H locs) (ha : tw_is g 11 a) {n : Nat} (hn : tw_N g a = n) {i : Int32} {x : Int64} (hi : vp_in i n) (hdg : decode cc pc = .ok (.lastore, 1))
    (kk : ∀ (τ : tw_S) (H : Heap) (locs : List Loc), τ = tw_sB σ a (vp_updL (tw_B σ a) i.toNatClampNeg x) → tw_w D g A s τ H locs → W p l e R s m args below meth c H locs cells slots Q (F0 m (pc + 1) ls rest)) : W p l e R s m args below meth c H locs cells slots Q (F0 m pc ls (.long x :: .int i :: .ref a :: rest)) := by
  obtain ⟨hx, hb, hml, hown, hts⟩ := X
  obtain ⟨hP, hD, hS, hA⟩ := w
  obtain ⟨q0, h0⟩ := tw_at (σ := σ) ha
  have he := tw_set (τ := tw_sB σ a (vp_updL (tw_B σ a) i.toNatClampNeg x)) (e := .inl (tw_C g 1, tw_N g a, .inr (.inl (vp_updL (tw_B σ a) i.toNatClampNeg x)))) hD ha h0 (by rw [tw_e_j ha, tw_B_sB, if_pos rfl]) tw_o_sB
  rw [tw_e_j ha] at h0
  refine va_last hx hb hK.1 hP hD hS q0 1 h0 rfl (by rw [hn]; exact hi) hdg fun H1 locs1 hP1 hD1 hS1 => ?_
  rw [he] at hP1 hD1
  exact kk _ H1 locs1 rfl ⟨hP1, hD1, hS1, hA⟩
theorem tw_alen (X : CallFix p m c cc nL s args Ts own) (hK : tw_k D g s) (w : tw_w D g A s σ H locs) (ha : tw_is g 10 a) {n : Nat} (hn : tw_N g a = n) {v : Int32} (hv : nI n = v) (hdg : decode cc pc = .ok (.arraylength, 1))
    (kk : W p l e R s m args below meth c H locs cells slots Q (F0 m (pc + 1) ls (.int v :: rest))) : W p l e R s m args below meth c H locs cells slots Q (F0 m pc ls (.ref a :: rest)) := by
  obtain ⟨hx, hb, hml, hown, hts⟩ := X
  obtain ⟨q0, h0⟩ := tw_at (σ := σ) ha
  rw [tw_e_i ha, hn] at h0
  exact va_alen hx hb hK.1 w.1 q0 0 h0 rfl hv hdg kk
theorem tw_copy (X : CallFix p m c cc nL s args Ts own) (hK : tw_k D g s) (w : tw_w D g A s σ H locs) (hsz : ls.size = nL) {index : Nat} (hlink : Cond.methodLink own index arraycopyName ∈ Ts) (hnat : Cond.native arraycopyName ∈ Ts) (hstat : Cond.static arraycopyName ∈ Ts) (hini : Cond.initialized "java/lang/System" ∈ Ts)
    {a0 n0 n1 : Nat} (ha0 : tw_is g 10 a0) (hn0 : tw_N g a0 = n0) (ha1 : tw_is g 10 a) (hn1 : tw_N g a = n1) {sp dp n : Int32} (h1 : ¬ sp < 0) (h2 : ¬ dp < 0) (h3 : ¬ n < 0) (h4 : sp.toNatClampNeg + n.toNatClampNeg ≤ n0) (h5 : dp.toNatClampNeg + n.toNatClampNeg ≤ n1)
    (hframes : 1 ≤ R.frames) (hlocals : (rest.map fun v => v.category).sum + (nativeFrameWords "java/lang/System" "arraycopy" 5 + 11) ≤ R.locals) (hdg : decode cc pc = .ok (.invokestatic index, 3))
    (kk : ∀ (τ : tw_S) (H : Heap) (locs : List Loc), τ = tw_sA σ a (va_cpy (tw_A σ a0) (tw_A σ a) sp.toNatClampNeg dp.toNatClampNeg n.toNatClampNeg) → tw_w D g A s τ H locs → W p l e R s m args below meth c H locs cells slots Q (F0 m (pc + 3) ls rest)) : W p l e R s m args below meth c H locs cells slots Q (F0 m pc ls (.int n :: .int dp :: .ref a :: .int sp :: .ref a0 :: rest)) := by
  obtain ⟨hx, hb, hml, hown, hts⟩ := X
  obtain ⟨hP, hD, hS, hA⟩ := w
  obtain ⟨q0, h0⟩ := tw_at (σ := σ) ha0
  obtain ⟨q1, hq1⟩ := tw_at (σ := σ) ha1
  have he := tw_set (τ := tw_sA σ a (va_cpy (tw_A σ a0) (tw_A σ a) sp.toNatClampNeg dp.toNatClampNeg n.toNatClampNeg)) (e := .inl (tw_C g 0, tw_N g a, .inl (va_cpy (tw_A σ a0) (tw_A σ a) sp.toNatClampNeg dp.toNatClampNeg n.toNatClampNeg))) hD ha1 hq1 (by rw [tw_e_i ha1, tw_A_sA, if_pos rfl]) tw_o_sA
  rw [tw_e_i ha0] at h0
  rw [tw_e_i ha1] at hq1
  refine va_copyi hx hb (hml.trans hsz.symm) hown (hts _ hlink) (hts _ hnat) (hts _ hstat) (hts _ hini) hK.1 hP hD hS q0 q1 0 0 h0 hq1 rfl rfl rfl h1 h2 h3 (by rw [hn0]; exact h4) (by rw [hn1]; exact h5) (fun _ _ => rfl) hframes hlocals hdg fun H1 locs1 hP1 hD1 hS1 => ?_
  rw [he] at hP1 hD1
  exact kk _ H1 locs1 rfl ⟨hP1, hD1, hS1, hA⟩
/-! what a call needs of the world, and what it leaves -/
theorem tw_blind {av : List Value} {sz : Nat} : FrameBlind (va_Pc av (tw_b D g sz σ)) := by
  intro v U f mk q
  obtain ⟨q0, q1, qP, qK, qD⟩ := q
  exact ⟨q0, q1, qP, qK.call, qD⟩
theorem tw_pre (hK : tw_k D g s) (w : tw_w D g A s σ H locs) (av : List Value) : PreS s H (va_Pc av (tw_b D g H.size σ)) av :=
  ⟨tw_blind, fun U hU hW => ⟨rfl, by rw [hU], by rw [hU]; exact w.1, hK.moved hW, w.2.1.weaken (fun _ _ _ _ => trivial)⟩⟩
theorem tw_preV (hK : tw_k D g s) (w : tw_w D g A s σ H locs) {ci : Nat} {q : vw_C} (ha : tw_is g ci a) (h10 : ci < 10) (hc : vwCl[ci]? = some q) (av : List Value) : PreV s H q.1 a (va_Pc (.ref a :: av) (tw_b D g H.size σ)) av := by
  obtain ⟨q0, h0⟩ := tw_at (σ := σ) ha
  rw [tw_e_o ha h10] at h0
  exact ⟨tw_blind, va_recv hK.1 w.1 hc h0, (tw_pre hK w (.ref a :: av)).2⟩
theorem tw_fr (w : tw_w D g A s σ H locs) : ∀ q, tw_F g H.size q → A q := fun q h => h.elim (fun h => tw_D_in w.2.1 h) (fun h => w.2.2.2 q (Nat.le_trans w.2.2.1.1 h))
theorem tw_back {σ1 : tw_S} {H1 : Heap} {locs1 : List Loc} {t : State} (w : tw_w D g A s σ H locs) (ht : t.heap = H1) (hz : tw_z D g H.size σ1 t) (hS : va_S A s.heap H1 locs1) : tw_w D g A s σ1 H1 locs1 :=
  ⟨by rw [← ht]; exact hz.1, hz.2.weaken (fun k q hk _ => tw_D_in w.2.1 (tw_pl_in hk)), hS, w.2.2.2⟩
theorem tw_ci {Qi : Int32 → tw_S → Prop} {st0 : List Value} {av : Array Value} (w : tw_w D g A s σ H locs) (hr : va_Run p l e R s m args below meth c H locs cells slots 0 0 (F0 m pc ls st0) rest (va_Qi Qi (tw_z D g H.size) (tw_F g H.size) av) (tw_F g H.size))
    (kk : ∀ (r : Int32) (σ : tw_S) (H : Heap) (locs : List Loc), Qi r σ → tw_w D g A s σ H locs → W p l e R s m args below meth c H locs cells slots Q (F0 m (pc + 3) ls (.int r :: rest))) : W p l e R s m args below meth c H locs cells slots Q (F0 m pc ls st0) :=
  va_calli hr w.2.2.1 (fun q _ h => tw_fr w q h) (tw_fr w) fun r u t H1 locs1 ht _ hp hz _ _ hS => kk r u H1 locs1 hp (tw_back w ht hz hS)
theorem tw_cv {Qi : tw_S → Prop} {st0 : List Value} {av : Array Value} (w : tw_w D g A s σ H locs) (hr : va_Run p l e R s m args below meth c H locs cells slots 0 0 (F0 m pc ls st0) rest (va_Qv Qi (tw_z D g H.size) (tw_F g H.size) av) (tw_F g H.size))
    (kk : ∀ (σ : tw_S) (H : Heap) (locs : List Loc), Qi σ → tw_w D g A s σ H locs → W p l e R s m args below meth c H locs cells slots Q (F0 m (pc + 3) ls rest)) : W p l e R s m args below meth c H locs cells slots Q (F0 m pc ls st0) :=
  va_callv hr w.2.2.1 (fun q _ h => tw_fr w q h) (tw_fr w) fun u t H1 locs1 ht _ hp hz _ _ hS => kk u H1 locs1 hp (tw_back w ht hz hS)
theorem tw_cq {Qi : Option Nat → tw_S → Prop} {kd : Nat} {st0 : List Value} {av : Array Value} (w : tw_w D g A s σ H locs) (hr : va_Run p l e R s m args below meth c H locs cells slots 0 0 (F0 m pc ls st0) rest (va_Qq (fun r σ => (∀ y, r = some y → tw_is g kd y) ∧ Qi r σ) (tw_z D g H.size) (tw_F g H.size) av) (tw_F g H.size))
    (kn : ∀ (σ : tw_S) (H : Heap) (locs : List Loc), Qi none σ → tw_w D g A s σ H locs → W p l e R s m args below meth c H locs cells slots Q (F0 m (pc + 3) ls (.null :: rest)))
    (ks : ∀ (y : Nat) (σ : tw_S) (H : Heap) (locs : List Loc), tw_is g kd y → Qi (some y) σ → tw_w D g A s σ H locs → W p l e R s m args below meth c H locs cells slots Q (F0 m (pc + 3) ls (.ref y :: rest))) : W p l e R s m args below meth c H locs cells slots Q (F0 m pc ls st0) :=
  va_callq hr w.2.2.1 (fun q _ h => tw_fr w q h) (tw_fr w) fun r u t H1 locs1 ht _ hp hz _ _ hS => by
    cases r with
    | none => exact kn u H1 locs1 hp.2 (tw_back w ht hz hS)
    | some y => exact ks y u H1 locs1 (hp.1 y rfl) hp.2 (tw_back w ht hz hS)
theorem tw_cr {Qi : Nat → tw_S → Prop} {kd : Nat} {st0 : List Value} {av : Array Value} (w : tw_w D g A s σ H locs) (hr : va_Run p l e R s m args below meth c H locs cells slots 0 0 (F0 m pc ls st0) rest (va_Qq (fun r σ => ∃ y, r = some y ∧ tw_is g kd y ∧ Qi y σ) (tw_z D g H.size) (tw_F g H.size) av) (tw_F g H.size))
    (kk : ∀ (y : Nat) (σ : tw_S) (H : Heap) (locs : List Loc), tw_is g kd y → Qi y σ → tw_w D g A s σ H locs → W p l e R s m args below meth c H locs cells slots Q (F0 m (pc + 3) ls (.ref y :: rest))) : W p l e R s m args below meth c H locs cells slots Q (F0 m pc ls st0) :=
  va_callq hr w.2.2.1 (fun q _ h => tw_fr w q h) (tw_fr w) fun r u t H1 locs1 ht _ hp hz _ _ hS => by
    obtain ⟨y, rfl, hy, hp⟩ := hp
    exact kk y u H1 locs1 hy hp (tw_back w ht hz hS)
theorem tw_lt {i : Int32} {n : Nat} (hi : vp_in i n) (hn : tw_N g a = n) : i.toNatClampNeg < tw_N g a := by
  rw [hn]
  exact Nat.not_le.mp fun q => hi (Or.inr q)
/-! ends -/
abbrev tw_Qi (Qi : Int32 → tw_S → Prop) (D : va_G) (g : tw_G) (below : List Frame) (args : Array Value) (s : State) : State → Prop := MQ below (va_Qi Qi (tw_z D g s.heap.size) (tw_F g s.heap.size)) args s 0 0 (tw_F g s.heap.size)
abbrev tw_Qv (Qi : tw_S → Prop) (D : va_G) (g : tw_G) (below : List Frame) (args : Array Value) (s : State) : State → Prop := MQ below (va_Qv Qi (tw_z D g s.heap.size) (tw_F g s.heap.size)) args s 0 0 (tw_F g s.heap.size)
abbrev tw_Qq (Qi : Option Nat → tw_S → Prop) (D : va_G) (g : tw_G) (below : List Frame) (args : Array Value) (s : State) : State → Prop := MQ below (va_Qq Qi (tw_z D g s.heap.size) (tw_F g s.heap.size)) args s 0 0 (tw_F g s.heap.size)
theorem tw_iret {Qi : Int32 → tw_S → Prop} {v : Int32} (X : CallFix p m c cc nL s args Ts own) (hr : meth.sig.returnType = some .int) (hlk : meth.locks = false) (w : tw_w D g (tw_F g s.heap.size) s σ H locs) (h : Qi v σ) (hdg : decode cc pc = .ok (.ireturn, 1)) : W p l e R s m args below meth c H locs 0 0 (tw_Qi Qi D g below args s) (F0 m pc ls [.int v]) :=
  W.iret X.1 X.2.1 hr (fun t ht _ => ⟨⟨v, σ, rfl, h, by rw [ht]; exact w.1, w.2.1⟩, w.2.2.1.F ht⟩) w.2.2.1.2.2 hdg hlk
theorem tw_zret {Qi : Int32 → tw_S → Prop} {v : Int32} (X : CallFix p m c cc nL s args Ts own) (hr : meth.sig.returnType = some .boolean) (hlk : meth.locks = false) (w : tw_w D g (tw_F g s.heap.size) s σ H locs) (hn : narrow .boolean (.int v) = .int v) (h : Qi v σ) (hdg : decode cc pc = .ok (.ireturn, 1)) : W p l e R s m args below meth c H locs 0 0 (tw_Qi Qi D g below args s) (F0 m pc ls [.int v]) :=
  W.zret X.1 X.2.1 hr hn (fun t ht _ => ⟨⟨v, σ, rfl, h, by rw [ht]; exact w.1, w.2.1⟩, w.2.2.1.F ht⟩) w.2.2.1.2.2 hdg hlk
theorem tw_vret {Qi : tw_S → Prop} (X : CallFix p m c cc nL s args Ts own) (hr : meth.sig.returnType = none) (hlk : meth.locks = false) (w : tw_w D g (tw_F g s.heap.size) s σ H locs) (h : Qi σ) (hdg : decode cc pc = .ok (.return_, 1)) : W p l e R s m args below meth c H locs 0 0 (tw_Qv Qi D g below args s) (F0 m pc ls []) :=
  W.vret X.1 X.2.1 hr (fun t ht _ => ⟨⟨σ, rfl, h, by rw [ht]; exact w.1, w.2.1⟩, w.2.2.1.F ht⟩) w.2.2.1.2.2 hdg hlk
theorem tw_qret {Qi : Option Nat → tw_S → Prop} {v : Option Nat} {C : String} (X : CallFix p m c cc nL s args Ts own) (hr : meth.sig.returnType = some (.object C)) (hlk : meth.locks = false) (w : tw_w D g (tw_F g s.heap.size) s σ H locs) (h : Qi v σ) (hdg : decode cc pc = .ok (.areturn, 1)) : W p l e R s m args below meth c H locs 0 0 (tw_Qq Qi D g below args s) (F0 m pc ls [va_rf v]) :=
  W.aret X.1 X.2.1 hr (Or.inl ⟨C, rfl⟩) (by cases v with | none => exact Or.inl rfl | some a => exact Or.inr ⟨a, rfl⟩) (fun t ht _ => ⟨⟨v, σ, rfl, h, by rw [ht]; exact w.1, w.2.1⟩, w.2.2.1.F ht⟩) w.2.2.1.2.2 hdg hlk
end TWR
end
section
set_option maxRecDepth 20000 in
theorem ggX3_at_X8_isSign : GoodIn wsX3_at wsX8_isSign := goodIn_r _ [5] (by decide +kernel) (by decide +kernel)
set_option maxRecDepth 20000 in
theorem gX3_at_X8_isSign_n25 : GoodIn wsX3_at (wsX8_isSign) := ggX3_at_X8_isSign
theorem dX3_at_0 : decode cX3_at 0 = .ok (.iload_n 1, 1) := by decide +kernel
theorem dX3_at_1 : decode cX3_at 1 = .ok (.ifCond .lt 31, 3) := by decide +kernel
theorem dX3_at_4 : decode cX3_at 4 = .ok (.iload_n 1, 1) := by decide +kernel
theorem dX3_at_5 : decode cX3_at 5 = .ok (.aload_n 0, 1) := by decide +kernel
theorem dX3_at_6 : decode cX3_at 6 = .ok (.getfield 15, 3) := by decide +kernel
theorem dX3_at_9 : decode cX3_at 9 = .ok (.if_icmp .ge 23, 3) := by decide +kernel
theorem dX3_at_12 : decode cX3_at 12 = .ok (.iload_n 2, 1) := by decide +kernel
theorem dX3_at_13 : decode cX3_at 13 = .ok (.invokestatic 25, 3) := by decide +kernel
theorem dX3_at_16 : decode cX3_at 16 = .ok (.ifCond .eq 16, 3) := by decide +kernel
theorem dX3_at_19 : decode cX3_at 19 = .ok (.aload_n 0, 1) := by decide +kernel
theorem dX3_at_20 : decode cX3_at 20 = .ok (.getfield 9, 3) := by decide +kernel
theorem dX3_at_23 : decode cX3_at 23 = .ok (.iconst 4, 1) := by decide +kernel
theorem dX3_at_24 : decode cX3_at 24 = .ok (.iload_n 1, 1) := by decide +kernel
theorem dX3_at_25 : decode cX3_at 25 = .ok (.imul, 1) := by decide +kernel
theorem dX3_at_26 : decode cX3_at 26 = .ok (.iload_n 2, 1) := by decide +kernel
theorem dX3_at_27 : decode cX3_at 27 = .ok (.iadd, 1) := by decide +kernel
theorem dX3_at_28 : decode cX3_at 28 = .ok (.iaload, 1) := by decide +kernel
theorem dX3_at_29 : decode cX3_at 29 = .ok (.goto 4, 3) := by decide +kernel
theorem dX3_at_32 : decode cX3_at 32 = .ok (.iconst (-1), 1) := by decide +kernel
theorem dX3_at_33 : decode cX3_at 33 = .ok (.ireturn, 1) := by decide +kernel
theorem dX4_fits_0 : decode cX4_fits 0 = .ok (.iload_n 0, 1) := by decide +kernel
theorem dX4_fits_1 : decode cX4_fits 1 = .ok (.tableswitch 69 0 2 #[27, 41, 55], 27) := by decide +kernel
theorem dX4_fits_28 : decode cX4_fits 28 = .ok (.iload_n 1, 1) := by decide +kernel
theorem dX4_fits_29 : decode cX4_fits 29 = .ok (.ifCond .eq 11, 3) := by decide +kernel
theorem dX4_fits_32 : decode cX4_fits 32 = .ok (.iload_n 2, 1) := by decide +kernel
theorem dX4_fits_33 : decode cX4_fits 33 = .ok (.ifCond .eq 7, 3) := by decide +kernel
theorem dX4_fits_36 : decode cX4_fits 36 = .ok (.iconst 1, 1) := by decide +kernel
theorem dX4_fits_37 : decode cX4_fits 37 = .ok (.goto 4, 3) := by decide +kernel
theorem dX4_fits_40 : decode cX4_fits 40 = .ok (.iconst 0, 1) := by decide +kernel
theorem dX4_fits_41 : decode cX4_fits 41 = .ok (.ireturn, 1) := by decide +kernel
theorem dX4_fits_42 : decode cX4_fits 42 = .ok (.iload_n 1, 1) := by decide +kernel
theorem dX4_fits_43 : decode cX4_fits 43 = .ok (.ifCond .ne 7, 3) := by decide +kernel
theorem dX4_fits_46 : decode cX4_fits 46 = .ok (.iload_n 2, 1) := by decide +kernel
theorem dX4_fits_47 : decode cX4_fits 47 = .ok (.ifCond .eq 7, 3) := by decide +kernel
theorem dX4_fits_50 : decode cX4_fits 50 = .ok (.iconst 1, 1) := by decide +kernel
theorem dX4_fits_51 : decode cX4_fits 51 = .ok (.goto 4, 3) := by decide +kernel
theorem dX4_fits_54 : decode cX4_fits 54 = .ok (.iconst 0, 1) := by decide +kernel
theorem dX4_fits_55 : decode cX4_fits 55 = .ok (.ireturn, 1) := by decide +kernel
theorem dX4_fits_56 : decode cX4_fits 56 = .ok (.iload_n 1, 1) := by decide +kernel
theorem dX4_fits_57 : decode cX4_fits 57 = .ok (.ifCond .eq 11, 3) := by decide +kernel
theorem dX4_fits_60 : decode cX4_fits 60 = .ok (.iload_n 2, 1) := by decide +kernel
theorem dX4_fits_61 : decode cX4_fits 61 = .ok (.ifCond .ne 7, 3) := by decide +kernel
theorem dX4_fits_64 : decode cX4_fits 64 = .ok (.iconst 1, 1) := by decide +kernel
theorem dX4_fits_65 : decode cX4_fits 65 = .ok (.goto 4, 3) := by decide +kernel
theorem dX4_fits_68 : decode cX4_fits 68 = .ok (.iconst 0, 1) := by decide +kernel
theorem dX4_fits_69 : decode cX4_fits 69 = .ok (.ireturn, 1) := by decide +kernel
theorem dX4_fits_70 : decode cX4_fits 70 = .ok (.iload_n 1, 1) := by decide +kernel
theorem dX4_fits_71 : decode cX4_fits 71 = .ok (.iload_n 2, 1) := by decide +kernel
theorem dX4_fits_72 : decode cX4_fits 72 = .ok (.if_icmp .eq 7, 3) := by decide +kernel
theorem dX4_fits_75 : decode cX4_fits 75 = .ok (.iconst 1, 1) := by decide +kernel
theorem dX4_fits_76 : decode cX4_fits 76 = .ok (.goto 4, 3) := by decide +kernel
theorem dX4_fits_79 : decode cX4_fits 79 = .ok (.iconst 0, 1) := by decide +kernel
theorem dX4_fits_80 : decode cX4_fits 80 = .ok (.ireturn, 1) := by decide +kernel
theorem dX5_hasState_0 : decode cX5_hasState 0 = .ok (.iload_n 1, 1) := by decide +kernel
theorem dX5_hasState_1 : decode cX5_hasState 1 = .ok (.ifCond .lt 22, 3) := by decide +kernel
theorem dX5_hasState_4 : decode cX5_hasState 4 = .ok (.iload_n 1, 1) := by decide +kernel
theorem dX5_hasState_5 : decode cX5_hasState 5 = .ok (.aload_n 0, 1) := by decide +kernel
theorem dX5_hasState_6 : decode cX5_hasState 6 = .ok (.getfield 68, 3) := by decide +kernel
theorem dX5_hasState_9 : decode cX5_hasState 9 = .ok (.if_icmp .ge 14, 3) := by decide +kernel
theorem dX5_hasState_12 : decode cX5_hasState 12 = .ok (.iload_n 1, 1) := by decide +kernel
theorem dX5_hasState_13 : decode cX5_hasState 13 = .ok (.sipush 150, 3) := by decide +kernel
theorem dX5_hasState_16 : decode cX5_hasState 16 = .ok (.if_icmp .ge 7, 3) := by decide +kernel
theorem dX5_hasState_19 : decode cX5_hasState 19 = .ok (.iconst 1, 1) := by decide +kernel
theorem dX5_hasState_20 : decode cX5_hasState 20 = .ok (.goto 4, 3) := by decide +kernel
theorem dX5_hasState_23 : decode cX5_hasState 23 = .ok (.iconst 0, 1) := by decide +kernel
theorem dX5_hasState_24 : decode cX5_hasState 24 = .ok (.ireturn, 1) := by decide +kernel
set_option maxRecDepth 20000 in
theorem ggX5_firstOff_X5_hasState : GoodIn wsX5_firstOff wsX5_hasState := goodIn_r _ [6, 7, 8, 9, 10, 11, 12, 13, 14, 15, 16, 17, 18, 19, 20, 21, 22, 23] (by decide +kernel) (by decide +kernel)
set_option maxRecDepth 20000 in
theorem gX5_firstOff_X5_hasState : GoodIn wsX5_firstOff (wsV RX5 96 RX5 yX5_hasState wsX5_hasState) := goodIn_app (goodIn_of _ (by decide +kernel)) ggX5_firstOff_X5_hasState
theorem dX5_firstOff_0 : decode cX5_firstOff 0 = .ok (.aload_n 0, 1) := by decide +kernel
theorem dX5_firstOff_1 : decode cX5_firstOff 1 = .ok (.iload_n 1, 1) := by decide +kernel
theorem dX5_firstOff_2 : decode cX5_firstOff 2 = .ok (.invokevirtual 96, 3) := by decide +kernel
theorem dX5_firstOff_5 : decode cX5_firstOff 5 = .ok (.ifCond .eq 14, 3) := by decide +kernel
theorem dX5_firstOff_8 : decode cX5_firstOff 8 = .ok (.aload_n 0, 1) := by decide +kernel
theorem dX5_firstOff_9 : decode cX5_firstOff 9 = .ok (.getfield 18, 3) := by decide +kernel
theorem dX5_firstOff_12 : decode cX5_firstOff 12 = .ok (.iconst 5, 1) := by decide +kernel
theorem dX5_firstOff_13 : decode cX5_firstOff 13 = .ok (.iload_n 1, 1) := by decide +kernel
theorem dX5_firstOff_14 : decode cX5_firstOff 14 = .ok (.imul, 1) := by decide +kernel
theorem dX5_firstOff_15 : decode cX5_firstOff 15 = .ok (.iaload, 1) := by decide +kernel
theorem dX5_firstOff_16 : decode cX5_firstOff 16 = .ok (.goto 4, 3) := by decide +kernel
theorem dX5_firstOff_19 : decode cX5_firstOff 19 = .ok (.iconst (-1), 1) := by decide +kernel
theorem dX5_firstOff_20 : decode cX5_firstOff 20 = .ok (.ireturn, 1) := by decide +kernel
set_option maxRecDepth 20000 in
theorem ggX5_comesBack_X5_hasState : GoodIn wsX5_comesBack wsX5_hasState := goodIn_r _ [6, 7, 8, 9, 10, 11, 12, 13, 14, 15, 16, 17, 18, 19, 20, 21, 22, 23] (by decide +kernel) (by decide +kernel)
set_option maxRecDepth 20000 in
theorem gX5_comesBack_X5_hasState : GoodIn wsX5_comesBack (wsV RX5 96 RX5 yX5_hasState wsX5_hasState) := goodIn_app (goodIn_of _ (by decide +kernel)) ggX5_comesBack_X5_hasState
theorem dX5_comesBack_0 : decode cX5_comesBack 0 = .ok (.aload_n 0, 1) := by decide +kernel
theorem dX5_comesBack_1 : decode cX5_comesBack 1 = .ok (.iload_n 1, 1) := by decide +kernel
theorem dX5_comesBack_2 : decode cX5_comesBack 2 = .ok (.invokevirtual 96, 3) := by decide +kernel
theorem dX5_comesBack_5 : decode cX5_comesBack 5 = .ok (.ifCond .eq 16, 3) := by decide +kernel
theorem dX5_comesBack_8 : decode cX5_comesBack 8 = .ok (.iload_n 2, 1) := by decide +kernel
theorem dX5_comesBack_9 : decode cX5_comesBack 9 = .ok (.ifCond .lt 12, 3) := by decide +kernel
theorem dX5_comesBack_12 : decode cX5_comesBack 12 = .ok (.iload_n 2, 1) := by decide +kernel
theorem dX5_comesBack_13 : decode cX5_comesBack 13 = .ok (.iconst 4, 1) := by decide +kernel
theorem dX5_comesBack_14 : decode cX5_comesBack 14 = .ok (.if_icmp .ge 7, 3) := by decide +kernel
theorem dX5_comesBack_17 : decode cX5_comesBack 17 = .ok (.iconst 1, 1) := by decide +kernel
theorem dX5_comesBack_18 : decode cX5_comesBack 18 = .ok (.goto 4, 3) := by decide +kernel
theorem dX5_comesBack_21 : decode cX5_comesBack 21 = .ok (.iconst 0, 1) := by decide +kernel
theorem dX5_comesBack_22 : decode cX5_comesBack 22 = .ok (.istore_n 3, 1) := by decide +kernel
theorem dX5_comesBack_23 : decode cX5_comesBack 23 = .ok (.iload_n 3, 1) := by decide +kernel
theorem dX5_comesBack_24 : decode cX5_comesBack 24 = .ok (.ifCond .eq 18, 3) := by decide +kernel
theorem dX5_comesBack_27 : decode cX5_comesBack 27 = .ok (.aload_n 0, 1) := by decide +kernel
theorem dX5_comesBack_28 : decode cX5_comesBack 28 = .ok (.getfield 18, 3) := by decide +kernel
theorem dX5_comesBack_31 : decode cX5_comesBack 31 = .ok (.iconst 5, 1) := by decide +kernel
theorem dX5_comesBack_32 : decode cX5_comesBack 32 = .ok (.iload_n 1, 1) := by decide +kernel
theorem dX5_comesBack_33 : decode cX5_comesBack 33 = .ok (.imul, 1) := by decide +kernel
theorem dX5_comesBack_34 : decode cX5_comesBack 34 = .ok (.iconst 1, 1) := by decide +kernel
theorem dX5_comesBack_35 : decode cX5_comesBack 35 = .ok (.iadd, 1) := by decide +kernel
theorem dX5_comesBack_36 : decode cX5_comesBack 36 = .ok (.iload_n 2, 1) := by decide +kernel
theorem dX5_comesBack_37 : decode cX5_comesBack 37 = .ok (.iadd, 1) := by decide +kernel
theorem dX5_comesBack_38 : decode cX5_comesBack 38 = .ok (.iaload, 1) := by decide +kernel
theorem dX5_comesBack_39 : decode cX5_comesBack 39 = .ok (.goto 4, 3) := by decide +kernel
theorem dX5_comesBack_42 : decode cX5_comesBack 42 = .ok (.iconst (-1), 1) := by decide +kernel
theorem dX5_comesBack_43 : decode cX5_comesBack 43 = .ok (.ireturn, 1) := by decide +kernel
set_option maxRecDepth 20000 in
theorem ggX5_findBehind_X5_firstOff : GoodIn wsX5_findBehind wsX5_firstOff := goodIn_r _ [6, 7, 8, 9, 10, 5, 11, 12, 36, 37, 38, 39, 40, 41, 42, 43, 44, 45, 46, 47, 48, 49, 50, 51] (by decide +kernel) (by decide +kernel)
set_option maxRecDepth 20000 in
theorem gX5_findBehind_X5_firstOff : GoodIn wsX5_findBehind (wsV RX5 110 RX5 yX5_firstOff wsX5_firstOff) := goodIn_app (goodIn_of _ (by decide +kernel)) ggX5_findBehind_X5_firstOff
set_option maxRecDepth 20000 in
theorem ggX5_findBehind_X5_goOff : GoodIn wsX5_findBehind wsX5_goOff := goodIn_r _ [16, 17, 18, 19, 20, 21, 22, 23, 24, 25, 26, 27, 28, 29, 30, 31, 32, 33, 34, 5, 35, 7, 8, 9, 10, 11, 12, 36, 37, 38, 39, 40, 41, 42, 43, 44, 45, 46, 47, 48, 49, 50, 51, 52, 53, 54] (by decide +kernel) (by decide +kernel)
set_option maxRecDepth 20000 in
theorem gX5_findBehind_X5_goOff : GoodIn wsX5_findBehind (wsV RX5 113 RX5 yX5_goOff wsX5_goOff) := goodIn_app (goodIn_of _ (by decide +kernel)) ggX5_findBehind_X5_goOff
theorem dX5_findBehind_0 : decode cX5_findBehind 0 = .ok (.aload_n 0, 1) := by decide +kernel
theorem dX5_findBehind_1 : decode cX5_findBehind 1 = .ok (.getfield 22, 3) := by decide +kernel
theorem dX5_findBehind_4 : decode cX5_findBehind 4 = .ok (.iconst 0, 1) := by decide +kernel
theorem dX5_findBehind_5 : decode cX5_findBehind 5 = .ok (.aload_n 0, 1) := by decide +kernel
theorem dX5_findBehind_6 : decode cX5_findBehind 6 = .ok (.iload_n 1, 1) := by decide +kernel
theorem dX5_findBehind_7 : decode cX5_findBehind 7 = .ok (.iload_n 2, 1) := by decide +kernel
theorem dX5_findBehind_8 : decode cX5_findBehind 8 = .ok (.iload_n 1, 1) := by decide +kernel
theorem dX5_findBehind_9 : decode cX5_findBehind 9 = .ok (.iconst (-1), 1) := by decide +kernel
theorem dX5_findBehind_10 : decode cX5_findBehind 10 = .ok (.if_icmp .ne 7, 3) := by decide +kernel
theorem dX5_findBehind_13 : decode cX5_findBehind 13 = .ok (.iconst 0, 1) := by decide +kernel
theorem dX5_findBehind_14 : decode cX5_findBehind 14 = .ok (.goto 8, 3) := by decide +kernel
theorem dX5_findBehind_17 : decode cX5_findBehind 17 = .ok (.aload_n 0, 1) := by decide +kernel
theorem dX5_findBehind_18 : decode cX5_findBehind 18 = .ok (.iload_n 1, 1) := by decide +kernel
theorem dX5_findBehind_19 : decode cX5_findBehind 19 = .ok (.invokevirtual 110, 3) := by decide +kernel
theorem dX5_findBehind_22 : decode cX5_findBehind 22 = .ok (.invokevirtual 113, 3) := by decide +kernel
theorem dX5_findBehind_25 : decode cX5_findBehind 25 = .ok (.iastore, 1) := by decide +kernel
theorem dX5_findBehind_26 : decode cX5_findBehind 26 = .ok (.iconst 1, 1) := by decide +kernel
theorem dX5_findBehind_27 : decode cX5_findBehind 27 = .ok (.istore_n 3, 1) := by decide +kernel
theorem dX5_findBehind_28 : decode cX5_findBehind 28 = .ok (.iload_n 3, 1) := by decide +kernel
theorem dX5_findBehind_29 : decode cX5_findBehind 29 = .ok (.iconst 5, 1) := by decide +kernel
theorem dX5_findBehind_30 : decode cX5_findBehind 30 = .ok (.if_icmp .ge 24, 3) := by decide +kernel
theorem dX5_findBehind_33 : decode cX5_findBehind 33 = .ok (.aload_n 0, 1) := by decide +kernel
theorem dX5_findBehind_34 : decode cX5_findBehind 34 = .ok (.getfield 22, 3) := by decide +kernel
theorem dX5_findBehind_37 : decode cX5_findBehind 37 = .ok (.iload_n 3, 1) := by decide +kernel
theorem dX5_findBehind_38 : decode cX5_findBehind 38 = .ok (.aload_n 0, 1) := by decide +kernel
theorem dX5_findBehind_39 : decode cX5_findBehind 39 = .ok (.iload_n 1, 1) := by decide +kernel
theorem dX5_findBehind_40 : decode cX5_findBehind 40 = .ok (.iload_n 2, 1) := by decide +kernel
theorem dX5_findBehind_41 : decode cX5_findBehind 41 = .ok (.iload_n 3, 1) := by decide +kernel
theorem dX5_findBehind_42 : decode cX5_findBehind 42 = .ok (.iconst 1, 1) := by decide +kernel
theorem dX5_findBehind_43 : decode cX5_findBehind 43 = .ok (.isub, 1) := by decide +kernel
theorem dX5_findBehind_44 : decode cX5_findBehind 44 = .ok (.invokevirtual 113, 3) := by decide +kernel
theorem dX5_findBehind_47 : decode cX5_findBehind 47 = .ok (.iastore, 1) := by decide +kernel
theorem dX5_findBehind_48 : decode cX5_findBehind 48 = .ok (.iinc 3 1, 3) := by decide +kernel
theorem dX5_findBehind_51 : decode cX5_findBehind 51 = .ok (.goto (-23), 3) := by decide +kernel
theorem dX5_findBehind_54 : decode cX5_findBehind 54 = .ok (.return_, 1) := by decide +kernel
set_option maxRecDepth 20000 in
theorem ggX5_goOff_X3_at : GoodIn wsX5_goOff wsX3_at := goodIn_r _ [6, 7, 8, 9, 10, 11, 43, 44, 45] (by decide +kernel) (by decide +kernel)
set_option maxRecDepth 20000 in
theorem gX5_goOff_X3_at : GoodIn wsX5_goOff (wsV RX5 117 RX3 yX3_at wsX3_at) := goodIn_app (goodIn_of _ (by decide +kernel)) ggX5_goOff_X3_at
set_option maxRecDepth 20000 in
theorem ggX5_goOff_X8_sideOf : GoodIn wsX5_goOff wsX8_sideOf := goodIn_r _ [13] (by decide +kernel) (by decide +kernel)
set_option maxRecDepth 20000 in
theorem gX5_goOff_X8_sideOf_n120 : GoodIn wsX5_goOff (wsX8_sideOf) := ggX5_goOff_X8_sideOf
set_option maxRecDepth 20000 in
theorem ggX5_goOff_X8_stateOf : GoodIn wsX5_goOff wsX8_stateOf := goodIn_r _ [15] (by decide +kernel) (by decide +kernel)
set_option maxRecDepth 20000 in
theorem gX5_goOff_X8_stateOf_n123 : GoodIn wsX5_goOff (wsX8_stateOf) := ggX5_goOff_X8_stateOf
set_option maxRecDepth 20000 in
theorem ggX5_goOff_X5_comesBack : GoodIn wsX5_goOff wsX5_comesBack := goodIn_r _ [20, 21, 22, 23, 24, 19, 25, 26, 27, 28, 29, 30, 31, 32, 33, 34, 35, 36, 37, 38, 39, 40, 41, 42] (by decide +kernel) (by decide +kernel)
set_option maxRecDepth 20000 in
theorem gX5_goOff_X5_comesBack : GoodIn wsX5_goOff (wsV RX5 126 RX5 yX5_comesBack wsX5_comesBack) := goodIn_app (goodIn_of _ (by decide +kernel)) ggX5_goOff_X5_comesBack
theorem dX5_goOff_0 : decode cX5_goOff 0 = .ok (.iload_n 3, 1) := by decide +kernel
theorem dX5_goOff_1 : decode cX5_goOff 1 = .ok (.istore 4, 2) := by decide +kernel
theorem dX5_goOff_3 : decode cX5_goOff 3 = .ok (.iconst 0, 1) := by decide +kernel
theorem dX5_goOff_4 : decode cX5_goOff 4 = .ok (.istore 5, 2) := by decide +kernel
theorem dX5_goOff_6 : decode cX5_goOff 6 = .ok (.iload 5, 2) := by decide +kernel
theorem dX5_goOff_8 : decode cX5_goOff 8 = .ok (.iconst 4, 1) := by decide +kernel
theorem dX5_goOff_9 : decode cX5_goOff 9 = .ok (.if_icmp .ge 62, 3) := by decide +kernel
theorem dX5_goOff_12 : decode cX5_goOff 12 = .ok (.iload 4, 2) := by decide +kernel
theorem dX5_goOff_14 : decode cX5_goOff 14 = .ok (.iconst (-1), 1) := by decide +kernel
theorem dX5_goOff_15 : decode cX5_goOff 15 = .ok (.if_icmp .eq 56, 3) := by decide +kernel
theorem dX5_goOff_18 : decode cX5_goOff 18 = .ok (.aload_n 0, 1) := by decide +kernel
theorem dX5_goOff_19 : decode cX5_goOff 19 = .ok (.getfield 14, 3) := by decide +kernel
theorem dX5_goOff_22 : decode cX5_goOff 22 = .ok (.iload 4, 2) := by decide +kernel
theorem dX5_goOff_24 : decode cX5_goOff 24 = .ok (.iload_n 2, 1) := by decide +kernel
theorem dX5_goOff_25 : decode cX5_goOff 25 = .ok (.invokevirtual 117, 3) := by decide +kernel
theorem dX5_goOff_28 : decode cX5_goOff 28 = .ok (.istore 6, 2) := by decide +kernel
theorem dX5_goOff_30 : decode cX5_goOff 30 = .ok (.iload 6, 2) := by decide +kernel
theorem dX5_goOff_32 : decode cX5_goOff 32 = .ok (.iconst (-1), 1) := by decide +kernel
theorem dX5_goOff_33 : decode cX5_goOff 33 = .ok (.if_icmp .ne 5, 3) := by decide +kernel
theorem dX5_goOff_36 : decode cX5_goOff 36 = .ok (.iconst (-1), 1) := by decide +kernel
theorem dX5_goOff_37 : decode cX5_goOff 37 = .ok (.ireturn, 1) := by decide +kernel
theorem dX5_goOff_38 : decode cX5_goOff 38 = .ok (.iload 6, 2) := by decide +kernel
theorem dX5_goOff_40 : decode cX5_goOff 40 = .ok (.invokestatic 120, 3) := by decide +kernel
theorem dX5_goOff_43 : decode cX5_goOff 43 = .ok (.iconst 1, 1) := by decide +kernel
theorem dX5_goOff_44 : decode cX5_goOff 44 = .ok (.if_icmp .ne 9, 3) := by decide +kernel
theorem dX5_goOff_47 : decode cX5_goOff 47 = .ok (.iload 6, 2) := by decide +kernel
theorem dX5_goOff_49 : decode cX5_goOff 49 = .ok (.invokestatic 123, 3) := by decide +kernel
theorem dX5_goOff_52 : decode cX5_goOff 52 = .ok (.ireturn, 1) := by decide +kernel
theorem dX5_goOff_53 : decode cX5_goOff 53 = .ok (.aload_n 0, 1) := by decide +kernel
theorem dX5_goOff_54 : decode cX5_goOff 54 = .ok (.iload_n 1, 1) := by decide +kernel
theorem dX5_goOff_55 : decode cX5_goOff 55 = .ok (.iload 6, 2) := by decide +kernel
theorem dX5_goOff_57 : decode cX5_goOff 57 = .ok (.invokestatic 123, 3) := by decide +kernel
theorem dX5_goOff_60 : decode cX5_goOff 60 = .ok (.invokevirtual 126, 3) := by decide +kernel
theorem dX5_goOff_63 : decode cX5_goOff 63 = .ok (.istore 4, 2) := by decide +kernel
theorem dX5_goOff_65 : decode cX5_goOff 65 = .ok (.iinc 5 1, 3) := by decide +kernel
theorem dX5_goOff_68 : decode cX5_goOff 68 = .ok (.goto (-62), 3) := by decide +kernel
theorem dX5_goOff_71 : decode cX5_goOff 71 = .ok (.iconst (-1), 1) := by decide +kernel
theorem dX5_goOff_72 : decode cX5_goOff 72 = .ok (.ireturn, 1) := by decide +kernel
theorem dX6_signOf_0 : decode cX6_signOf 0 = .ok (.iload_n 0, 1) := by decide +kernel
theorem dX6_signOf_1 : decode cX6_signOf 1 = .ok (.lookupswitch 51 #[(40, 47), (41, 49), (97, 43), (98, 45)], 43) := by decide +kernel
theorem dX6_signOf_44 : decode cX6_signOf 44 = .ok (.iconst 0, 1) := by decide +kernel
theorem dX6_signOf_45 : decode cX6_signOf 45 = .ok (.ireturn, 1) := by decide +kernel
theorem dX6_signOf_46 : decode cX6_signOf 46 = .ok (.iconst 1, 1) := by decide +kernel
theorem dX6_signOf_47 : decode cX6_signOf 47 = .ok (.ireturn, 1) := by decide +kernel
theorem dX6_signOf_48 : decode cX6_signOf 48 = .ok (.iconst 2, 1) := by decide +kernel
theorem dX6_signOf_49 : decode cX6_signOf 49 = .ok (.ireturn, 1) := by decide +kernel
theorem dX6_signOf_50 : decode cX6_signOf 50 = .ok (.iconst 3, 1) := by decide +kernel
theorem dX6_signOf_51 : decode cX6_signOf 51 = .ok (.ireturn, 1) := by decide +kernel
theorem dX6_signOf_52 : decode cX6_signOf 52 = .ok (.iconst (-1), 1) := by decide +kernel
theorem dX6_signOf_53 : decode cX6_signOf 53 = .ok (.ireturn, 1) := by decide +kernel
theorem dX8_isSign_0 : decode cX8_isSign 0 = .ok (.iload_n 0, 1) := by decide +kernel
theorem dX8_isSign_1 : decode cX8_isSign 1 = .ok (.ifCond .lt 12, 3) := by decide +kernel
theorem dX8_isSign_4 : decode cX8_isSign 4 = .ok (.iload_n 0, 1) := by decide +kernel
theorem dX8_isSign_5 : decode cX8_isSign 5 = .ok (.iconst 4, 1) := by decide +kernel
theorem dX8_isSign_6 : decode cX8_isSign 6 = .ok (.if_icmp .ge 7, 3) := by decide +kernel
theorem dX8_isSign_9 : decode cX8_isSign 9 = .ok (.iconst 1, 1) := by decide +kernel
theorem dX8_isSign_10 : decode cX8_isSign 10 = .ok (.goto 4, 3) := by decide +kernel
theorem dX8_isSign_13 : decode cX8_isSign 13 = .ok (.iconst 0, 1) := by decide +kernel
theorem dX8_isSign_14 : decode cX8_isSign 14 = .ok (.ireturn, 1) := by decide +kernel
theorem dX8_stateOf_0 : decode cX8_stateOf 0 = .ok (.iload_n 0, 1) := by decide +kernel
theorem dX8_stateOf_1 : decode cX8_stateOf 1 = .ok (.iconst 1, 1) := by decide +kernel
theorem dX8_stateOf_2 : decode cX8_stateOf 2 = .ok (.ishr, 1) := by decide +kernel
theorem dX8_stateOf_3 : decode cX8_stateOf 3 = .ok (.ireturn, 1) := by decide +kernel
theorem dX8_sideOf_0 : decode cX8_sideOf 0 = .ok (.iload_n 0, 1) := by decide +kernel
theorem dX8_sideOf_1 : decode cX8_sideOf 1 = .ok (.iconst 1, 1) := by decide +kernel
theorem dX8_sideOf_2 : decode cX8_sideOf 2 = .ok (.iand, 1) := by decide +kernel
theorem dX8_sideOf_3 : decode cX8_sideOf 3 = .ok (.ireturn, 1) := by decide +kernel
theorem dX8_lengthen_0 : decode cX8_lengthen 0 = .ok (.iconst 2, 1) := by decide +kernel
theorem dX8_lengthen_1 : decode cX8_lengthen 1 = .ok (.iload_n 0, 1) := by decide +kernel
theorem dX8_lengthen_2 : decode cX8_lengthen 2 = .ok (.imul, 1) := by decide +kernel
theorem dX8_lengthen_3 : decode cX8_lengthen 3 = .ok (.iload_n 1, 1) := by decide +kernel
theorem dX8_lengthen_4 : decode cX8_lengthen 4 = .ok (.iadd, 1) := by decide +kernel
theorem dX8_lengthen_5 : decode cX8_lengthen 5 = .ok (.istore_n 2, 1) := by decide +kernel
theorem dX8_lengthen_6 : decode cX8_lengthen 6 = .ok (.iload_n 0, 1) := by decide +kernel
theorem dX8_lengthen_7 : decode cX8_lengthen 7 = .ok (.ifCond .eq 9, 3) := by decide +kernel
theorem dX8_lengthen_10 : decode cX8_lengthen 10 = .ok (.iload_n 2, 1) := by decide +kernel
theorem dX8_lengthen_11 : decode cX8_lengthen 11 = .ok (.ldc 165, 2) := by decide +kernel
theorem dX8_lengthen_13 : decode cX8_lengthen 13 = .ok (.if_icmp .lt 7, 3) := by decide +kernel
theorem dX8_lengthen_16 : decode cX8_lengthen 16 = .ok (.iconst 0, 1) := by decide +kernel
theorem dX8_lengthen_17 : decode cX8_lengthen 17 = .ok (.goto 4, 3) := by decide +kernel
theorem dX8_lengthen_20 : decode cX8_lengthen 20 = .ok (.iload_n 2, 1) := by decide +kernel
theorem dX8_lengthen_21 : decode cX8_lengthen 21 = .ok (.ireturn, 1) := by decide +kernel
theorem dX8_imageAt_0 : decode cX8_imageAt 0 = .ok (.iload_n 1, 1) := by decide +kernel
theorem dX8_imageAt_1 : decode cX8_imageAt 1 = .ok (.ifCond .lt 17, 3) := by decide +kernel
theorem dX8_imageAt_4 : decode cX8_imageAt 4 = .ok (.iload_n 1, 1) := by decide +kernel
theorem dX8_imageAt_5 : decode cX8_imageAt 5 = .ok (.iconst 2, 1) := by decide +kernel
theorem dX8_imageAt_6 : decode cX8_imageAt 6 = .ok (.if_icmp .ge 12, 3) := by decide +kernel
theorem dX8_imageAt_9 : decode cX8_imageAt 9 = .ok (.aload_n 0, 1) := by decide +kernel
theorem dX8_imageAt_10 : decode cX8_imageAt 10 = .ok (.getfield 23, 3) := by decide +kernel
theorem dX8_imageAt_13 : decode cX8_imageAt 13 = .ok (.iload_n 1, 1) := by decide +kernel
theorem dX8_imageAt_14 : decode cX8_imageAt 14 = .ok (.aaload, 1) := by decide +kernel
theorem dX8_imageAt_15 : decode cX8_imageAt 15 = .ok (.goto 4, 3) := by decide +kernel
theorem dX8_imageAt_18 : decode cX8_imageAt 18 = .ok (.aconst_null, 1) := by decide +kernel
theorem dX8_imageAt_19 : decode cX8_imageAt 19 = .ok (.areturn, 1) := by decide +kernel
theorem dX9_in_0 : decode cX9_in 0 = .ok (.lload_n 0, 1) := by decide +kernel
theorem dX9_in_1 : decode cX9_in 1 = .ok (.lload_n 2, 1) := by decide +kernel
theorem dX9_in_2 : decode cX9_in 2 = .ok (.lcmp, 1) := by decide +kernel
theorem dX9_in_3 : decode cX9_in 3 = .ok (.ifCond .lt 14, 3) := by decide +kernel
theorem dX9_in_6 : decode cX9_in 6 = .ok (.lload_n 0, 1) := by decide +kernel
theorem dX9_in_7 : decode cX9_in 7 = .ok (.lload 4, 2) := by decide +kernel
theorem dX9_in_9 : decode cX9_in 9 = .ok (.lcmp, 1) := by decide +kernel
theorem dX9_in_10 : decode cX9_in 10 = .ok (.ifCond .gt 7, 3) := by decide +kernel
theorem dX9_in_13 : decode cX9_in 13 = .ok (.iconst 1, 1) := by decide +kernel
theorem dX9_in_14 : decode cX9_in 14 = .ok (.goto 4, 3) := by decide +kernel
theorem dX9_in_17 : decode cX9_in 17 = .ok (.iconst 0, 1) := by decide +kernel
theorem dX9_in_18 : decode cX9_in 18 = .ok (.ireturn, 1) := by decide +kernel
theorem dX9_moveAt_0 : decode cX9_moveAt 0 = .ok (.aload_n 0, 1) := by decide +kernel
theorem dX9_moveAt_1 : decode cX9_moveAt 1 = .ok (.getfield 7, 3) := by decide +kernel
theorem dX9_moveAt_4 : decode cX9_moveAt 4 = .ok (.bipush 17, 2) := by decide +kernel
theorem dX9_moveAt_6 : decode cX9_moveAt 6 = .ok (.iload_n 1, 1) := by decide +kernel
theorem dX9_moveAt_7 : decode cX9_moveAt 7 = .ok (.imul, 1) := by decide +kernel
theorem dX9_moveAt_8 : decode cX9_moveAt 8 = .ok (.iconst 1, 1) := by decide +kernel
theorem dX9_moveAt_9 : decode cX9_moveAt 9 = .ok (.iadd, 1) := by decide +kernel
theorem dX9_moveAt_10 : decode cX9_moveAt 10 = .ok (.iconst 4, 1) := by decide +kernel
theorem dX9_moveAt_11 : decode cX9_moveAt 11 = .ok (.iload_n 2, 1) := by decide +kernel
theorem dX9_moveAt_12 : decode cX9_moveAt 12 = .ok (.imul, 1) := by decide +kernel
theorem dX9_moveAt_13 : decode cX9_moveAt 13 = .ok (.iadd, 1) := by decide +kernel
theorem dX9_moveAt_14 : decode cX9_moveAt 14 = .ok (.iload_n 3, 1) := by decide +kernel
theorem dX9_moveAt_15 : decode cX9_moveAt 15 = .ok (.iadd, 1) := by decide +kernel
theorem dX9_moveAt_16 : decode cX9_moveAt 16 = .ok (.iaload, 1) := by decide +kernel
theorem dX9_moveAt_17 : decode cX9_moveAt 17 = .ok (.ireturn, 1) := by decide +kernel
theorem dX9_here_0 : decode cX9_here 0 = .ok (.aload_n 0, 1) := by decide +kernel
theorem dX9_here_1 : decode cX9_here 1 = .ok (.getfield 102, 3) := by decide +kernel
theorem dX9_here_4 : decode cX9_here 4 = .ok (.aload_n 0, 1) := by decide +kernel
theorem dX9_here_5 : decode cX9_here 5 = .ok (.getfield 98, 3) := by decide +kernel
theorem dX9_here_8 : decode cX9_here 8 = .ok (.if_icmp .ge 30, 3) := by decide +kernel
theorem dX9_here_11 : decode cX9_here 11 = .ok (.aload_n 0, 1) := by decide +kernel
theorem dX9_here_12 : decode cX9_here 12 = .ok (.getfield 13, 3) := by decide +kernel
theorem dX9_here_15 : decode cX9_here 15 = .ok (.aload_n 0, 1) := by decide +kernel
theorem dX9_here_16 : decode cX9_here 16 = .ok (.getfield 102, 3) := by decide +kernel
theorem dX9_here_19 : decode cX9_here 19 = .ok (.iaload, 1) := by decide +kernel
theorem dX9_here_20 : decode cX9_here 20 = .ok (.bipush 32, 2) := by decide +kernel
theorem dX9_here_22 : decode cX9_here 22 = .ok (.if_icmp .ne 16, 3) := by decide +kernel
theorem dX9_here_25 : decode cX9_here 25 = .ok (.aload_n 0, 1) := by decide +kernel
theorem dX9_here_26 : decode cX9_here 26 = .ok (.dup, 1) := by decide +kernel
theorem dX9_here_27 : decode cX9_here 27 = .ok (.getfield 102, 3) := by decide +kernel
theorem dX9_here_30 : decode cX9_here 30 = .ok (.iconst 1, 1) := by decide +kernel
theorem dX9_here_31 : decode cX9_here 31 = .ok (.iadd, 1) := by decide +kernel
theorem dX9_here_32 : decode cX9_here 32 = .ok (.putfield 102, 3) := by decide +kernel
theorem dX9_here_35 : decode cX9_here 35 = .ok (.goto (-35), 3) := by decide +kernel
theorem dX9_here_38 : decode cX9_here 38 = .ok (.aload_n 0, 1) := by decide +kernel
theorem dX9_here_39 : decode cX9_here 39 = .ok (.getfield 102, 3) := by decide +kernel
theorem dX9_here_42 : decode cX9_here 42 = .ok (.aload_n 0, 1) := by decide +kernel
theorem dX9_here_43 : decode cX9_here 43 = .ok (.getfield 98, 3) := by decide +kernel
theorem dX9_here_46 : decode cX9_here 46 = .ok (.if_icmp .ge 15, 3) := by decide +kernel
theorem dX9_here_49 : decode cX9_here 49 = .ok (.aload_n 0, 1) := by decide +kernel
theorem dX9_here_50 : decode cX9_here 50 = .ok (.getfield 13, 3) := by decide +kernel
theorem dX9_here_53 : decode cX9_here 53 = .ok (.aload_n 0, 1) := by decide +kernel
theorem dX9_here_54 : decode cX9_here 54 = .ok (.getfield 102, 3) := by decide +kernel
theorem dX9_here_57 : decode cX9_here 57 = .ok (.iaload, 1) := by decide +kernel
theorem dX9_here_58 : decode cX9_here 58 = .ok (.goto 4, 3) := by decide +kernel
theorem dX9_here_61 : decode cX9_here 61 = .ok (.iconst (-1), 1) := by decide +kernel
theorem dX9_here_62 : decode cX9_here 62 = .ok (.ireturn, 1) := by decide +kernel
theorem dX9_lots_0 : decode cX9_lots 0 = .ok (.aload_n 0, 1) := by decide +kernel
theorem dX9_lots_1 : decode cX9_lots 1 = .ok (.aload_n 0, 1) := by decide +kernel
theorem dX9_lots_2 : decode cX9_lots 2 = .ok (.getfield 164, 3) := by decide +kernel
theorem dX9_lots_5 : decode cX9_lots 5 = .ok (.ldc2_w 168, 3) := by decide +kernel
theorem dX9_lots_8 : decode cX9_lots 8 = .ok (.lmul, 1) := by decide +kernel
theorem dX9_lots_9 : decode cX9_lots 9 = .ok (.ldc2_w 170, 3) := by decide +kernel
theorem dX9_lots_12 : decode cX9_lots 12 = .ok (.lrem, 1) := by decide +kernel
theorem dX9_lots_13 : decode cX9_lots 13 = .ok (.putfield 164, 3) := by decide +kernel
theorem dX9_lots_16 : decode cX9_lots 16 = .ok (.aload_n 0, 1) := by decide +kernel
theorem dX9_lots_17 : decode cX9_lots 17 = .ok (.getfield 164, 3) := by decide +kernel
theorem dX9_lots_20 : decode cX9_lots 20 = .ok (.iload_n 1, 1) := by decide +kernel
theorem dX9_lots_21 : decode cX9_lots 21 = .ok (.i2l, 1) := by decide +kernel
theorem dX9_lots_22 : decode cX9_lots 22 = .ok (.lrem, 1) := by decide +kernel
theorem dX9_lots_23 : decode cX9_lots 23 = .ok (.l2i, 1) := by decide +kernel
theorem dX9_lots_24 : decode cX9_lots 24 = .ok (.ireturn, 1) := by decide +kernel
theorem dX9_signAt_0 : decode cX9_signAt 0 = .ok (.iload_n 1, 1) := by decide +kernel
theorem dX9_signAt_1 : decode cX9_signAt 1 = .ok (.ifCond .ne 7, 3) := by decide +kernel
theorem dX9_signAt_4 : decode cX9_signAt 4 = .ok (.iconst 2, 1) := by decide +kernel
theorem dX9_signAt_5 : decode cX9_signAt 5 = .ok (.goto 25, 3) := by decide +kernel
theorem dX9_signAt_8 : decode cX9_signAt 8 = .ok (.iload_n 1, 1) := by decide +kernel
theorem dX9_signAt_9 : decode cX9_signAt 9 = .ok (.aload_n 0, 1) := by decide +kernel
theorem dX9_signAt_10 : decode cX9_signAt 10 = .ok (.getfield 184, 3) := by decide +kernel
theorem dX9_signAt_13 : decode cX9_signAt 13 = .ok (.iconst 1, 1) := by decide +kernel
theorem dX9_signAt_14 : decode cX9_signAt 14 = .ok (.iadd, 1) := by decide +kernel
theorem dX9_signAt_15 : decode cX9_signAt 15 = .ok (.if_icmp .ne 7, 3) := by decide +kernel
theorem dX9_signAt_18 : decode cX9_signAt 18 = .ok (.iconst 3, 1) := by decide +kernel
theorem dX9_signAt_19 : decode cX9_signAt 19 = .ok (.goto 11, 3) := by decide +kernel
theorem dX9_signAt_22 : decode cX9_signAt 22 = .ok (.aload_n 0, 1) := by decide +kernel
theorem dX9_signAt_23 : decode cX9_signAt 23 = .ok (.getfield 26, 3) := by decide +kernel
theorem dX9_signAt_26 : decode cX9_signAt 26 = .ok (.iload_n 1, 1) := by decide +kernel
theorem dX9_signAt_27 : decode cX9_signAt 27 = .ok (.iconst 1, 1) := by decide +kernel
theorem dX9_signAt_28 : decode cX9_signAt 28 = .ok (.isub, 1) := by decide +kernel
theorem dX9_signAt_29 : decode cX9_signAt 29 = .ok (.iaload, 1) := by decide +kernel
theorem dX9_signAt_30 : decode cX9_signAt 30 = .ok (.ireturn, 1) := by decide +kernel
theorem dX9_at_0 : decode cX9_at 0 = .ok (.sipush 151, 3) := by decide +kernel
theorem dX9_at_3 : decode cX9_at 3 = .ok (.iload_n 1, 1) := by decide +kernel
theorem dX9_at_4 : decode cX9_at 4 = .ok (.imul, 1) := by decide +kernel
theorem dX9_at_5 : decode cX9_at 5 = .ok (.iload_n 2, 1) := by decide +kernel
theorem dX9_at_6 : decode cX9_at 6 = .ok (.iadd, 1) := by decide +kernel
theorem dX9_at_7 : decode cX9_at 7 = .ok (.ireturn, 1) := by decide +kernel
theorem dX9_isBy_0 : decode cX9_isBy 0 = .ok (.iload_n 0, 1) := by decide +kernel
theorem dX9_isBy_1 : decode cX9_isBy 1 = .ok (.ifCond .ne 18, 3) := by decide +kernel
theorem dX9_isBy_4 : decode cX9_isBy 4 = .ok (.iload_n 1, 1) := by decide +kernel
theorem dX9_isBy_5 : decode cX9_isBy 5 = .ok (.iload_n 2, 1) := by decide +kernel
theorem dX9_isBy_6 : decode cX9_isBy 6 = .ok (.iadd, 1) := by decide +kernel
theorem dX9_isBy_7 : decode cX9_isBy 7 = .ok (.iconst 2, 1) := by decide +kernel
theorem dX9_isBy_8 : decode cX9_isBy 8 = .ok (.if_icmp .ne 7, 3) := by decide +kernel
theorem dX9_isBy_11 : decode cX9_isBy 11 = .ok (.iconst 1, 1) := by decide +kernel
theorem dX9_isBy_12 : decode cX9_isBy 12 = .ok (.goto 58, 3) := by decide +kernel
theorem dX9_isBy_15 : decode cX9_isBy 15 = .ok (.iconst 0, 1) := by decide +kernel
theorem dX9_isBy_16 : decode cX9_isBy 16 = .ok (.goto 54, 3) := by decide +kernel
theorem dX9_isBy_19 : decode cX9_isBy 19 = .ok (.iload_n 0, 1) := by decide +kernel
theorem dX9_isBy_20 : decode cX9_isBy 20 = .ok (.iconst 1, 1) := by decide +kernel
theorem dX9_isBy_21 : decode cX9_isBy 21 = .ok (.if_icmp .ne 17, 3) := by decide +kernel
theorem dX9_isBy_24 : decode cX9_isBy 24 = .ok (.iload_n 1, 1) := by decide +kernel
theorem dX9_isBy_25 : decode cX9_isBy 25 = .ok (.iload_n 2, 1) := by decide +kernel
theorem dX9_isBy_26 : decode cX9_isBy 26 = .ok (.iadd, 1) := by decide +kernel
theorem dX9_isBy_27 : decode cX9_isBy 27 = .ok (.ifCond .le 7, 3) := by decide +kernel
theorem dX9_isBy_30 : decode cX9_isBy 30 = .ok (.iconst 1, 1) := by decide +kernel
theorem dX9_isBy_31 : decode cX9_isBy 31 = .ok (.goto 39, 3) := by decide +kernel
theorem dX9_isBy_34 : decode cX9_isBy 34 = .ok (.iconst 0, 1) := by decide +kernel
theorem dX9_isBy_35 : decode cX9_isBy 35 = .ok (.goto 35, 3) := by decide +kernel
theorem dX9_isBy_38 : decode cX9_isBy 38 = .ok (.iload_n 0, 1) := by decide +kernel
theorem dX9_isBy_39 : decode cX9_isBy 39 = .ok (.iconst 2, 1) := by decide +kernel
theorem dX9_isBy_40 : decode cX9_isBy 40 = .ok (.if_icmp .ne 20, 3) := by decide +kernel
theorem dX9_isBy_43 : decode cX9_isBy 43 = .ok (.iload_n 1, 1) := by decide +kernel
theorem dX9_isBy_44 : decode cX9_isBy 44 = .ok (.iconst 1, 1) := by decide +kernel
theorem dX9_isBy_45 : decode cX9_isBy 45 = .ok (.if_icmp .ne 11, 3) := by decide +kernel
theorem dX9_isBy_48 : decode cX9_isBy 48 = .ok (.iload_n 2, 1) := by decide +kernel
theorem dX9_isBy_49 : decode cX9_isBy 49 = .ok (.ifCond .ne 7, 3) := by decide +kernel
theorem dX9_isBy_52 : decode cX9_isBy 52 = .ok (.iconst 1, 1) := by decide +kernel
theorem dX9_isBy_53 : decode cX9_isBy 53 = .ok (.goto 17, 3) := by decide +kernel
theorem dX9_isBy_56 : decode cX9_isBy 56 = .ok (.iconst 0, 1) := by decide +kernel
theorem dX9_isBy_57 : decode cX9_isBy 57 = .ok (.goto 13, 3) := by decide +kernel
theorem dX9_isBy_60 : decode cX9_isBy 60 = .ok (.iload_n 1, 1) := by decide +kernel
theorem dX9_isBy_61 : decode cX9_isBy 61 = .ok (.iload_n 2, 1) := by decide +kernel
theorem dX9_isBy_62 : decode cX9_isBy 62 = .ok (.if_icmp .eq 7, 3) := by decide +kernel
theorem dX9_isBy_65 : decode cX9_isBy 65 = .ok (.iconst 1, 1) := by decide +kernel
theorem dX9_isBy_66 : decode cX9_isBy 66 = .ok (.goto 4, 3) := by decide +kernel
theorem dX9_isBy_69 : decode cX9_isBy 69 = .ok (.iconst 0, 1) := by decide +kernel
theorem dX9_isBy_70 : decode cX9_isBy 70 = .ok (.ireturn, 1) := by decide +kernel
theorem dX9_wordTo_0 : decode cX9_wordTo 0 = .ok (.iload_n 1, 1) := by decide +kernel
theorem dX9_wordTo_1 : decode cX9_wordTo 1 = .ok (.istore_n 2, 1) := by decide +kernel
theorem dX9_wordTo_2 : decode cX9_wordTo 2 = .ok (.lconst 0, 1) := by decide +kernel
theorem dX9_wordTo_3 : decode cX9_wordTo 3 = .ok (.lstore_n 3, 1) := by decide +kernel
theorem dX9_wordTo_4 : decode cX9_wordTo 4 = .ok (.lconst 1, 1) := by decide +kernel
theorem dX9_wordTo_5 : decode cX9_wordTo 5 = .ok (.lstore 5, 2) := by decide +kernel
theorem dX9_wordTo_7 : decode cX9_wordTo 7 = .ok (.iconst 0, 1) := by decide +kernel
theorem dX9_wordTo_8 : decode cX9_wordTo 8 = .ok (.istore 7, 2) := by decide +kernel
theorem dX9_wordTo_10 : decode cX9_wordTo 10 = .ok (.aload_n 0, 1) := by decide +kernel
theorem dX9_wordTo_11 : decode cX9_wordTo 11 = .ok (.getfield 71, 3) := by decide +kernel
theorem dX9_wordTo_14 : decode cX9_wordTo 14 = .ok (.iload_n 2, 1) := by decide +kernel
theorem dX9_wordTo_15 : decode cX9_wordTo 15 = .ok (.iaload, 1) := by decide +kernel
theorem dX9_wordTo_16 : decode cX9_wordTo 16 = .ok (.iconst (-1), 1) := by decide +kernel
theorem dX9_wordTo_17 : decode cX9_wordTo 17 = .ok (.if_icmp .eq 63, 3) := by decide +kernel
theorem dX9_wordTo_20 : decode cX9_wordTo 20 = .ok (.lload_n 3, 1) := by decide +kernel
theorem dX9_wordTo_21 : decode cX9_wordTo 21 = .ok (.iload 7, 2) := by decide +kernel
theorem dX9_wordTo_23 : decode cX9_wordTo 23 = .ok (.bipush 25, 2) := by decide +kernel
theorem dX9_wordTo_25 : decode cX9_wordTo 25 = .ok (.if_icmp .ge 18, 3) := by decide +kernel
theorem dX9_wordTo_28 : decode cX9_wordTo 28 = .ok (.lload 5, 2) := by decide +kernel
theorem dX9_wordTo_30 : decode cX9_wordTo 30 = .ok (.aload_n 0, 1) := by decide +kernel
theorem dX9_wordTo_31 : decode cX9_wordTo 31 = .ok (.getfield 71, 3) := by decide +kernel
theorem dX9_wordTo_34 : decode cX9_wordTo 34 = .ok (.iload_n 2, 1) := by decide +kernel
theorem dX9_wordTo_35 : decode cX9_wordTo 35 = .ok (.iaload, 1) := by decide +kernel
theorem dX9_wordTo_36 : decode cX9_wordTo 36 = .ok (.iconst 2, 1) := by decide +kernel
theorem dX9_wordTo_37 : decode cX9_wordTo 37 = .ok (.irem, 1) := by decide +kernel
theorem dX9_wordTo_38 : decode cX9_wordTo 38 = .ok (.i2l, 1) := by decide +kernel
theorem dX9_wordTo_39 : decode cX9_wordTo 39 = .ok (.lmul, 1) := by decide +kernel
theorem dX9_wordTo_40 : decode cX9_wordTo 40 = .ok (.goto 4, 3) := by decide +kernel
theorem dX9_wordTo_43 : decode cX9_wordTo 43 = .ok (.lconst 0, 1) := by decide +kernel
theorem dX9_wordTo_44 : decode cX9_wordTo 44 = .ok (.ladd, 1) := by decide +kernel
theorem dX9_wordTo_45 : decode cX9_wordTo 45 = .ok (.lstore_n 3, 1) := by decide +kernel
theorem dX9_wordTo_46 : decode cX9_wordTo 46 = .ok (.lload 5, 2) := by decide +kernel
theorem dX9_wordTo_48 : decode cX9_wordTo 48 = .ok (.iload 7, 2) := by decide +kernel
theorem dX9_wordTo_50 : decode cX9_wordTo 50 = .ok (.bipush 25, 2) := by decide +kernel
theorem dX9_wordTo_52 : decode cX9_wordTo 52 = .ok (.if_icmp .ge 9, 3) := by decide +kernel
theorem dX9_wordTo_55 : decode cX9_wordTo 55 = .ok (.ldc2_w 253, 3) := by decide +kernel
theorem dX9_wordTo_58 : decode cX9_wordTo 58 = .ok (.goto 4, 3) := by decide +kernel
theorem dX9_wordTo_61 : decode cX9_wordTo 61 = .ok (.lconst 1, 1) := by decide +kernel
theorem dX9_wordTo_62 : decode cX9_wordTo 62 = .ok (.lmul, 1) := by decide +kernel
theorem dX9_wordTo_63 : decode cX9_wordTo 63 = .ok (.lstore 5, 2) := by decide +kernel
theorem dX9_wordTo_65 : decode cX9_wordTo 65 = .ok (.iinc 7 1, 3) := by decide +kernel
theorem dX9_wordTo_68 : decode cX9_wordTo 68 = .ok (.aload_n 0, 1) := by decide +kernel
theorem dX9_wordTo_69 : decode cX9_wordTo 69 = .ok (.getfield 71, 3) := by decide +kernel
theorem dX9_wordTo_72 : decode cX9_wordTo 72 = .ok (.iload_n 2, 1) := by decide +kernel
theorem dX9_wordTo_73 : decode cX9_wordTo 73 = .ok (.iaload, 1) := by decide +kernel
theorem dX9_wordTo_74 : decode cX9_wordTo 74 = .ok (.iconst 2, 1) := by decide +kernel
theorem dX9_wordTo_75 : decode cX9_wordTo 75 = .ok (.idiv, 1) := by decide +kernel
theorem dX9_wordTo_76 : decode cX9_wordTo 76 = .ok (.istore_n 2, 1) := by decide +kernel
theorem dX9_wordTo_77 : decode cX9_wordTo 77 = .ok (.goto (-67), 3) := by decide +kernel
theorem dX9_wordTo_80 : decode cX9_wordTo 80 = .ok (.iload 7, 2) := by decide +kernel
theorem dX9_wordTo_82 : decode cX9_wordTo 82 = .ok (.bipush 24, 2) := by decide +kernel
theorem dX9_wordTo_84 : decode cX9_wordTo 84 = .ok (.if_icmp .le 7, 3) := by decide +kernel
theorem dX9_wordTo_87 : decode cX9_wordTo 87 = .ok (.iconst 0, 1) := by decide +kernel
theorem dX9_wordTo_88 : decode cX9_wordTo 88 = .ok (.goto 8, 3) := by decide +kernel
theorem dX9_wordTo_91 : decode cX9_wordTo 91 = .ok (.lload_n 3, 1) := by decide +kernel
theorem dX9_wordTo_92 : decode cX9_wordTo 92 = .ok (.lload 5, 2) := by decide +kernel
theorem dX9_wordTo_94 : decode cX9_wordTo 94 = .ok (.ladd, 1) := by decide +kernel
theorem dX9_wordTo_95 : decode cX9_wordTo 95 = .ok (.l2i, 1) := by decide +kernel
theorem dX9_wordTo_96 : decode cX9_wordTo 96 = .ok (.ireturn, 1) := by decide +kernel
set_option maxRecDepth 20000 in
theorem ggX9_keep_X9_in : GoodIn wsX9_keep wsX9_in := goodIn_r _ [9] (by decide +kernel) (by decide +kernel)
set_option maxRecDepth 20000 in
theorem gX9_keep_X9_in : GoodIn wsX9_keep (va_wsS RX9 87 yX9_in wsX9_in) := goodIn_app (goodIn_of _ (by decide +kernel)) ggX9_keep_X9_in
theorem dX9_keep_0 : decode cX9_keep 0 = .ok (.iload_n 1, 1) := by decide +kernel
theorem dX9_keep_1 : decode cX9_keep 1 = .ok (.i2l, 1) := by decide +kernel
theorem dX9_keep_2 : decode cX9_keep 2 = .ok (.lconst 0, 1) := by decide +kernel
theorem dX9_keep_3 : decode cX9_keep 3 = .ok (.lconst 1, 1) := by decide +kernel
theorem dX9_keep_4 : decode cX9_keep 4 = .ok (.invokestatic 87, 3) := by decide +kernel
theorem dX9_keep_7 : decode cX9_keep 7 = .ok (.ifCond .ne 6, 3) := by decide +kernel
theorem dX9_keep_10 : decode cX9_keep 10 = .ok (.ldc 138, 2) := by decide +kernel
theorem dX9_keep_12 : decode cX9_keep 12 = .ok (.ireturn, 1) := by decide +kernel
theorem dX9_keep_13 : decode cX9_keep 13 = .ok (.iconst 0, 1) := by decide +kernel
theorem dX9_keep_14 : decode cX9_keep 14 = .ok (.istore_n 2, 1) := by decide +kernel
theorem dX9_keep_15 : decode cX9_keep 15 = .ok (.iload_n 2, 1) := by decide +kernel
theorem dX9_keep_16 : decode cX9_keep 16 = .ok (.bipush 34, 2) := by decide +kernel
theorem dX9_keep_18 : decode cX9_keep 18 = .ok (.if_icmp .ge 26, 3) := by decide +kernel
theorem dX9_keep_21 : decode cX9_keep 21 = .ok (.aload_n 0, 1) := by decide +kernel
theorem dX9_keep_22 : decode cX9_keep 22 = .ok (.getfield 80, 3) := by decide +kernel
theorem dX9_keep_25 : decode cX9_keep 25 = .ok (.bipush 34, 2) := by decide +kernel
theorem dX9_keep_27 : decode cX9_keep 27 = .ok (.iload_n 1, 1) := by decide +kernel
theorem dX9_keep_28 : decode cX9_keep 28 = .ok (.imul, 1) := by decide +kernel
theorem dX9_keep_29 : decode cX9_keep 29 = .ok (.iload_n 2, 1) := by decide +kernel
theorem dX9_keep_30 : decode cX9_keep 30 = .ok (.iadd, 1) := by decide +kernel
theorem dX9_keep_31 : decode cX9_keep 31 = .ok (.aload_n 0, 1) := by decide +kernel
theorem dX9_keep_32 : decode cX9_keep 32 = .ok (.getfield 7, 3) := by decide +kernel
theorem dX9_keep_35 : decode cX9_keep 35 = .ok (.iload_n 2, 1) := by decide +kernel
theorem dX9_keep_36 : decode cX9_keep 36 = .ok (.iaload, 1) := by decide +kernel
theorem dX9_keep_37 : decode cX9_keep 37 = .ok (.iastore, 1) := by decide +kernel
theorem dX9_keep_38 : decode cX9_keep 38 = .ok (.iinc 2 1, 3) := by decide +kernel
theorem dX9_keep_41 : decode cX9_keep 41 = .ok (.goto (-26), 3) := by decide +kernel
theorem dX9_keep_44 : decode cX9_keep 44 = .ok (.aload_n 0, 1) := by decide +kernel
theorem dX9_keep_45 : decode cX9_keep 45 = .ok (.dup, 1) := by decide +kernel
theorem dX9_keep_46 : decode cX9_keep 46 = .ok (.getfield 271, 3) := by decide +kernel
theorem dX9_keep_49 : decode cX9_keep 49 = .ok (.iconst 1, 1) := by decide +kernel
theorem dX9_keep_50 : decode cX9_keep 50 = .ok (.iload_n 1, 1) := by decide +kernel
theorem dX9_keep_51 : decode cX9_keep 51 = .ok (.ishl, 1) := by decide +kernel
theorem dX9_keep_52 : decode cX9_keep 52 = .ok (.ior, 1) := by decide +kernel
theorem dX9_keep_53 : decode cX9_keep 53 = .ok (.putfield 271, 3) := by decide +kernel
theorem dX9_keep_56 : decode cX9_keep 56 = .ok (.aload_n 0, 1) := by decide +kernel
theorem dX9_keep_57 : decode cX9_keep 57 = .ok (.iconst 0, 1) := by decide +kernel
theorem dX9_keep_58 : decode cX9_keep 58 = .ok (.putfield 145, 3) := by decide +kernel
theorem dX9_keep_61 : decode cX9_keep 61 = .ok (.iconst 1, 1) := by decide +kernel
theorem dX9_keep_62 : decode cX9_keep 62 = .ok (.ireturn, 1) := by decide +kernel
abbrev RM_X6_signOf : Room := { frames := 0, cells := 0, slots := 0, locals := 0 }
def wp_X6_signOf (g : tw_G) (σ : tw_S) (x0 : Int32) (Q : Int32 → tw_S → Prop) : Prop := (x0 = 40 → Q (2 : Int32) σ) ∧ (¬ x0 = 40 → (x0 = 41 → Q (3 : Int32) σ) ∧ (¬ x0 = 41 → (x0 = 97 → Q (0 : Int32) σ) ∧ (¬ x0 = 97 → (x0 = 98 → Q (1 : Int32) σ) ∧ (¬ x0 = 98 → Q (-1 : Int32) σ))))
set_option maxHeartbeats 4000000 in
set_option maxRecDepth 100000 in
theorem ct_X6_signOf (l : Launch) (D : va_G) (g : tw_G) (hT : tw_T g) (sz : Nat) (σ : tw_S) (x0 : Int32) (Q : Int32 → tw_S → Prop) (h : wp_X6_signOf g σ x0 Q) : tw_Mi l yX6_signOf wsX6_signOf RM_X6_signOf D g sz σ [.int x0] Q := by
  refine Met.ofW (cc := cX6_signOf) (maxL := 1) (ret := (some .int)) (by decide) rfl ?_
  intro p e s m args below meth c s₁ B hml hv
  obtain ⟨rfl, hsz, hP, hK, hD0⟩ := hv
  subst hsz
  have hr := B.returns
  have hlk := B.notSynchronized
  have X : CallFix p m c cX6_signOf 1 s _ wsX6_signOf RX6 := ⟨B.exec, B.bytes, hml, findClass_of_methodNamed B.named, atoms_spec (ws := wsX6_signOf) B.pre⟩
  have w := tw_w0 hP hD0
  have hl := lv_entry ([.int x0]) (n := 1) (Nat.le_of_ble_eq_true rfl)
  rw [lg_entry_eq]
  generalize (lg_sl ([.int x0]) ++ List.replicate (1 - (lg_sl ([.int x0])).length) Slot.unset).toArray = ls at hl ⊢
  have hl : lv_has ls 1 [(0, .int x0)] := hl
  unfold wp_X6_signOf at h
  refine lv_iload_n X.1 X.2.1 dX6_signOf_0 rfl (lv_at hl 0 rfl) ?_
  by_cases c1 : x0 = 40
  · have h := h.1 c1
    refine lv_lookup (off := 47) (tgt := 48) X.1 X.2.1 dX6_signOf_1 (by decide) (by rw [c1] <;> decide) (by decide) ?_
    refine lv_iconst (v := 2) X.1 X.2.1 dX6_signOf_48 (by decide) ?_
    exact tw_iret X hr hlk w h dX6_signOf_49
  · have h := h.2 c1
    by_cases c2 : x0 = 41
    · have h := h.1 c2
      refine lv_lookup (off := 49) (tgt := 50) X.1 X.2.1 dX6_signOf_1 (by decide) (by rw [c2] <;> decide) (by decide) ?_
      refine lv_iconst (v := 3) X.1 X.2.1 dX6_signOf_50 (by decide) ?_
      exact tw_iret X hr hlk w h dX6_signOf_51
    · have h := h.2 c2
      by_cases c3 : x0 = 97
      · have h := h.1 c3
        refine lv_lookup (off := 43) (tgt := 44) X.1 X.2.1 dX6_signOf_1 (by decide) (by rw [c3] <;> decide) (by decide) ?_
        refine lv_iconst (v := 0) X.1 X.2.1 dX6_signOf_44 (by decide) ?_
        exact tw_iret X hr hlk w h dX6_signOf_45
      · have h := h.2 c3
        by_cases c4 : x0 = 98
        · have h := h.1 c4
          refine lv_lookup (off := 45) (tgt := 46) X.1 X.2.1 dX6_signOf_1 (by decide) (by rw [c4] <;> decide) (by decide) ?_
          refine lv_iconst (v := 1) X.1 X.2.1 dX6_signOf_46 (by decide) ?_
          exact tw_iret X hr hlk w h dX6_signOf_47
        · have h := h.2 c4
          refine lv_lookup (off := 51) (tgt := 52) X.1 X.2.1 dX6_signOf_1 (by decide) ((lv_osw c1 rfl).trans ((lv_osw c2 rfl).trans ((lv_osw c3 rfl).trans ((lv_osw c4 rfl).trans (rfl))))) (by decide) ?_
          refine lv_iconst (v := -1) X.1 X.2.1 dX6_signOf_52 (by decide) ?_
          exact tw_iret X hr hlk w h dX6_signOf_53

abbrev RM_X4_fits : Room := { frames := 0, cells := 0, slots := 0, locals := 0 }
def wp_X4_fits (g : tw_G) (σ : tw_S) (x0 : Int32) (x1 : Int32) (x2 : Int32) (Q : Int32 → tw_S → Prop) : Prop := (x0 = 0 → ((x1 = 0) → Q (0 : Int32) σ) ∧ (¬ (x1 = 0) → ((x2 = 0) → Q (0 : Int32) σ) ∧ (¬ (x2 = 0) → Q (1 : Int32) σ))) ∧ (¬ x0 = 0 → (x0 = 1 → ((¬ x1 = 0) → Q (1 : Int32) σ) ∧ ((x1 = 0) → ((x2 = 0) → Q (0 : Int32) σ) ∧ (¬ (x2 = 0) → Q (1 : Int32) σ))) ∧ (¬ x0 = 1 → (x0 = 2 → ((x1 = 0) → Q (0 : Int32) σ) ∧ (¬ (x1 = 0) → ((¬ x2 = 0) → Q (0 : Int32) σ) ∧ ((x2 = 0) → Q (1 : Int32) σ))) ∧ (¬ x0 = 2 → ((x1 = x2) → Q (0 : Int32) σ) ∧ (¬ (x1 = x2) → Q (1 : Int32) σ))))
set_option maxHeartbeats 4000000 in
set_option maxRecDepth 100000 in
theorem ct_X4_fits (l : Launch) (D : va_G) (g : tw_G) (hT : tw_T g) (sz : Nat) (σ : tw_S) (x0 : Int32) (x1 : Int32) (x2 : Int32) (Q : Int32 → tw_S → Prop) (h : wp_X4_fits g σ x0 x1 x2 Q) : tw_Mi l yX4_fits wsX4_fits RM_X4_fits D g sz σ [.int x0, .int x1, .int x2] Q := by
  refine Met.ofW (cc := cX4_fits) (maxL := 3) (ret := (some .boolean)) (by decide) rfl ?_
  intro p e s m args below meth c s₁ B hml hv
  obtain ⟨rfl, hsz, hP, hK, hD0⟩ := hv
  subst hsz
  have hr := B.returns
  have hlk := B.notSynchronized
  have X : CallFix p m c cX4_fits 3 s _ wsX4_fits RX4 := ⟨B.exec, B.bytes, hml, findClass_of_methodNamed B.named, atoms_spec (ws := wsX4_fits) B.pre⟩
  have w := tw_w0 hP hD0
  have hl := lv_entry ([.int x0, .int x1, .int x2]) (n := 3) (Nat.le_of_ble_eq_true rfl)
  rw [lg_entry_eq]
  generalize (lg_sl ([.int x0, .int x1, .int x2]) ++ List.replicate (3 - (lg_sl ([.int x0, .int x1, .int x2])).length) Slot.unset).toArray = ls at hl ⊢
  have hl : lv_has ls 3 [(0, .int x0), (1, .int x1), (2, .int x2)] := hl
  unfold wp_X4_fits at h
  refine lv_iload_n X.1 X.2.1 dX4_fits_0 rfl (lv_at hl 0 rfl) ?_
  by_cases c1 : x0 = 0
  · have h := h.1 c1
    refine lv_tableIn (off := 27) (tgt := 28) X.1 X.2.1 dX4_fits_1 (by rw [c1] <;> decide) (by rw [c1] <;> decide) (by rw [c1] <;> decide) (by decide) ?_
    refine lv_iload_n X.1 X.2.1 dX4_fits_28 rfl (lv_at hl 1 rfl) ?_
    refine lv_if_eq (tgt := 40) X.1 X.2.1 dX4_fits_29 (by decide) (fun c2 => ?_) (fun c2 => ?_)
    · have h := h.1 c2
      refine lv_iconst (v := 0) X.1 X.2.1 dX4_fits_40 (by decide) ?_
      exact tw_zret X hr hlk w (by decide) h dX4_fits_41
    · have h := h.2 c2
      refine lv_iload_n X.1 X.2.1 dX4_fits_32 rfl (lv_at hl 2 rfl) ?_
      refine lv_if_eq (tgt := 40) X.1 X.2.1 dX4_fits_33 (by decide) (fun c3 => ?_) (fun c3 => ?_)
      · have h := h.1 c3
        refine lv_iconst (v := 0) X.1 X.2.1 dX4_fits_40 (by decide) ?_
        exact tw_zret X hr hlk w (by decide) h dX4_fits_41
      · have h := h.2 c3
        refine lv_iconst (v := 1) X.1 X.2.1 dX4_fits_36 (by decide) ?_
        refine lv_goto (tgt := 41) X.1 X.2.1 dX4_fits_37 (by decide) ?_
        exact tw_zret X hr hlk w (by decide) h dX4_fits_41
  · have h := h.2 c1
    by_cases c4 : x0 = 1
    · have h := h.1 c4
      refine lv_tableIn (off := 41) (tgt := 42) X.1 X.2.1 dX4_fits_1 (by rw [c4] <;> decide) (by rw [c4] <;> decide) (by rw [c4] <;> decide) (by decide) ?_
      refine lv_iload_n X.1 X.2.1 dX4_fits_42 rfl (lv_at hl 1 rfl) ?_
      refine lv_if_ne (tgt := 50) X.1 X.2.1 dX4_fits_43 (by decide) (fun c5 => ?_) (fun c5 => ?_)
      · have h := h.1 c5
        refine lv_iconst (v := 1) X.1 X.2.1 dX4_fits_50 (by decide) ?_
        refine lv_goto (tgt := 55) X.1 X.2.1 dX4_fits_51 (by decide) ?_
        exact tw_zret X hr hlk w (by decide) h dX4_fits_55
      · have h := h.2 c5
        refine lv_iload_n X.1 X.2.1 dX4_fits_46 rfl (lv_at hl 2 rfl) ?_
        refine lv_if_eq (tgt := 54) X.1 X.2.1 dX4_fits_47 (by decide) (fun c6 => ?_) (fun c6 => ?_)
        · have h := h.1 c6
          refine lv_iconst (v := 0) X.1 X.2.1 dX4_fits_54 (by decide) ?_
          exact tw_zret X hr hlk w (by decide) h dX4_fits_55
        · have h := h.2 c6
          refine lv_iconst (v := 1) X.1 X.2.1 dX4_fits_50 (by decide) ?_
          refine lv_goto (tgt := 55) X.1 X.2.1 dX4_fits_51 (by decide) ?_
          exact tw_zret X hr hlk w (by decide) h dX4_fits_55
    · have h := h.2 c4
      by_cases c7 : x0 = 2
      · have h := h.1 c7
        refine lv_tableIn (off := 55) (tgt := 56) X.1 X.2.1 dX4_fits_1 (by rw [c7] <;> decide) (by rw [c7] <;> decide) (by rw [c7] <;> decide) (by decide) ?_
        refine lv_iload_n X.1 X.2.1 dX4_fits_56 rfl (lv_at hl 1 rfl) ?_
        refine lv_if_eq (tgt := 68) X.1 X.2.1 dX4_fits_57 (by decide) (fun c8 => ?_) (fun c8 => ?_)
        · have h := h.1 c8
          refine lv_iconst (v := 0) X.1 X.2.1 dX4_fits_68 (by decide) ?_
          exact tw_zret X hr hlk w (by decide) h dX4_fits_69
        · have h := h.2 c8
          refine lv_iload_n X.1 X.2.1 dX4_fits_60 rfl (lv_at hl 2 rfl) ?_
          refine lv_if_ne (tgt := 68) X.1 X.2.1 dX4_fits_61 (by decide) (fun c9 => ?_) (fun c9 => ?_)
          · have h := h.1 c9
            refine lv_iconst (v := 0) X.1 X.2.1 dX4_fits_68 (by decide) ?_
            exact tw_zret X hr hlk w (by decide) h dX4_fits_69
          · have h := h.2 c9
            refine lv_iconst (v := 1) X.1 X.2.1 dX4_fits_64 (by decide) ?_
            refine lv_goto (tgt := 69) X.1 X.2.1 dX4_fits_65 (by decide) ?_
            exact tw_zret X hr hlk w (by decide) h dX4_fits_69
      · have h := h.2 c7
        have ec1 := lv_neT (a := 0) c1 rfl
        have ec4 := lv_neT (a := 1) c4 rfl
        have ec7 := lv_neT (a := 2) c7 rfl
        refine lv_tableOut (tgt := 70) X.1 X.2.1 dX4_fits_1 (by omega) (by decide) ?_
        refine lv_iload_n X.1 X.2.1 dX4_fits_70 rfl (lv_at hl 1 rfl) ?_
        refine lv_iload_n X.1 X.2.1 dX4_fits_71 rfl (lv_at hl 2 rfl) ?_
        refine lv_icmp_eq (tgt := 79) X.1 X.2.1 dX4_fits_72 (by decide) (fun c10 => ?_) (fun c10 => ?_)
        · have h := h.1 c10
          refine lv_iconst (v := 0) X.1 X.2.1 dX4_fits_79 (by decide) ?_
          exact tw_zret X hr hlk w (by decide) h dX4_fits_80
        · have h := h.2 c10
          refine lv_iconst (v := 1) X.1 X.2.1 dX4_fits_75 (by decide) ?_
          refine lv_goto (tgt := 80) X.1 X.2.1 dX4_fits_76 (by decide) ?_
          exact tw_zret X hr hlk w (by decide) h dX4_fits_80

abbrev RM_X8_isSign : Room := { frames := 0, cells := 0, slots := 0, locals := 0 }
def wp_X8_isSign (g : tw_G) (σ : tw_S) (x0 : Int32) (Q : Int32 → tw_S → Prop) : Prop := ((x0 < 0) → Q (0 : Int32) σ) ∧ (¬ (x0 < 0) → (((4 : Int32) ≤ x0) → Q (0 : Int32) σ) ∧ (¬ ((4 : Int32) ≤ x0) → Q (1 : Int32) σ))
set_option maxHeartbeats 4000000 in
set_option maxRecDepth 100000 in
theorem ct_X8_isSign (l : Launch) (D : va_G) (g : tw_G) (hT : tw_T g) (sz : Nat) (σ : tw_S) (x0 : Int32) (Q : Int32 → tw_S → Prop) (h : wp_X8_isSign g σ x0 Q) : tw_Mi l yX8_isSign wsX8_isSign RM_X8_isSign D g sz σ [.int x0] Q := by
  refine Met.ofW (cc := cX8_isSign) (maxL := 1) (ret := (some .boolean)) (by decide) rfl ?_
  intro p e s m args below meth c s₁ B hml hv
  obtain ⟨rfl, hsz, hP, hK, hD0⟩ := hv
  subst hsz
  have hr := B.returns
  have hlk := B.notSynchronized
  have X : CallFix p m c cX8_isSign 1 s _ wsX8_isSign RX8 := ⟨B.exec, B.bytes, hml, findClass_of_methodNamed B.named, atoms_spec (ws := wsX8_isSign) B.pre⟩
  have w := tw_w0 hP hD0
  have hl := lv_entry ([.int x0]) (n := 1) (Nat.le_of_ble_eq_true rfl)
  rw [lg_entry_eq]
  generalize (lg_sl ([.int x0]) ++ List.replicate (1 - (lg_sl ([.int x0])).length) Slot.unset).toArray = ls at hl ⊢
  have hl : lv_has ls 1 [(0, .int x0)] := hl
  unfold wp_X8_isSign at h
  refine lv_iload_n X.1 X.2.1 dX8_isSign_0 rfl (lv_at hl 0 rfl) ?_
  refine lv_if_lt (tgt := 13) X.1 X.2.1 dX8_isSign_1 (by decide) (fun c1 => ?_) (fun c1 => ?_)
  · have h := h.1 c1
    refine lv_iconst (v := 0) X.1 X.2.1 dX8_isSign_13 (by decide) ?_
    exact tw_zret X hr hlk w (by decide) h dX8_isSign_14
  · have h := h.2 c1
    refine lv_iload_n X.1 X.2.1 dX8_isSign_4 rfl (lv_at hl 0 rfl) ?_
    refine lv_iconst (v := 4) X.1 X.2.1 dX8_isSign_5 (by decide) ?_
    refine lv_icmp_ge (tgt := 13) X.1 X.2.1 dX8_isSign_6 (by decide) (fun c2 => ?_) (fun c2 => ?_)
    · have h := h.1 c2
      refine lv_iconst (v := 0) X.1 X.2.1 dX8_isSign_13 (by decide) ?_
      exact tw_zret X hr hlk w (by decide) h dX8_isSign_14
    · have h := h.2 c2
      refine lv_iconst (v := 1) X.1 X.2.1 dX8_isSign_9 (by decide) ?_
      refine lv_goto (tgt := 14) X.1 X.2.1 dX8_isSign_10 (by decide) ?_
      exact tw_zret X hr hlk w (by decide) h dX8_isSign_14

abbrev RM_X3_at : Room := { frames := 1, cells := 0, slots := 0, locals := 20 }
theorem iw_X3_at_3 : ∀ w ∈ wsX30, w ∈ wsX3_at := fun w h => List.mem_cons_of_mem _ (List.mem_append_right _ (h))
def wp_X3_at (g : tw_G) (σ : tw_S) (a0 : Nat) (x1 : Int32) (x2 : Int32) (Q : Int32 → tw_S → Prop) : Prop := ((x1 < 0) → Q (-1 : Int32) σ) ∧ (¬ (x1 < 0) → (((tw_I σ a0 1) ≤ x1) → Q (-1 : Int32) σ) ∧ (¬ ((tw_I σ a0 1) ≤ x1) → wp_X8_isSign g σ x2 (fun r4 σ3 => ((r4 = 0) → Q (-1 : Int32) σ3) ∧ (¬ (r4 = 0) → vp_in (((4 : Int32) * x1) + x2) 16 ∧ Q (tw_A σ3 (tw_R g a0 0) (((4 : Int32) * x1) + x2).toNatClampNeg) σ3))))
set_option maxHeartbeats 4000000 in
set_option maxRecDepth 100000 in
theorem ct_X3_at (l : Launch) (D : va_G) (g : tw_G) (hT : tw_T g) (sz : Nat) (σ : tw_S) (a0 : Nat) (h0 : tw_is g 3 a0) (x1 : Int32) (x2 : Int32) (Q : Int32 → tw_S → Prop) (h : wp_X3_at g σ a0 x1 x2 Q) : tw_Mi l yX3_at wsX3_at RM_X3_at D g sz σ [.ref a0, .int x1, .int x2] Q := by
  refine Met.ofW (cc := cX3_at) (maxL := 3) (ret := (some .int)) (by decide) rfl ?_
  intro p e s m args below meth c s₁ B hml hv
  obtain ⟨rfl, hsz, hP, hK, hD0⟩ := hv
  subst hsz
  have hr := B.returns
  have hlk := B.notSynchronized
  have X : CallFix p m c cX3_at 3 s _ wsX3_at RX3 := ⟨B.exec, B.bytes, hml, findClass_of_methodNamed B.named, atoms_spec (ws := wsX3_at) B.pre⟩
  have w := tw_w0 hP hD0
  have hl := lv_entry ([.ref a0, .int x1, .int x2]) (n := 3) (Nat.le_of_ble_eq_true rfl)
  rw [lg_entry_eq]
  generalize (lg_sl ([.ref a0, .int x1, .int x2]) ++ List.replicate (3 - (lg_sl ([.ref a0, .int x1, .int x2])).length) Slot.unset).toArray = ls at hl ⊢
  have hl : lv_has ls 3 [(0, .ref a0), (1, .int x1), (2, .int x2)] := hl
  unfold wp_X3_at at h
  refine lv_iload_n X.1 X.2.1 dX3_at_0 rfl (lv_at hl 1 rfl) ?_
  refine lv_if_lt (tgt := 32) X.1 X.2.1 dX3_at_1 (by decide) (fun c1 => ?_) (fun c1 => ?_)
  · have h := h.1 c1
    refine lv_iconst (v := -1) X.1 X.2.1 dX3_at_32 (by decide) ?_
    exact tw_iret X hr hlk w h dX3_at_33
  · have h := h.2 c1
    refine lv_iload_n X.1 X.2.1 dX3_at_4 rfl (lv_at hl 1 rfl) ?_
    refine lv_aload_n X.1 X.2.1 dX3_at_5 rfl (lv_at hl 0 rfl) ?_
    refine tw_get X hK w 3 iw_X3_at_3 h0 (by decide) rfl 1 (by decide) (List.mem_of_getElem? (i := 1) rfl) rfl dX3_at_6 ?_
    refine lv_icmp_ge (tgt := 32) X.1 X.2.1 dX3_at_9 (by decide) (fun c2 => ?_) (fun c2 => ?_)
    · have h := h.1 c2
      refine lv_iconst (v := -1) X.1 X.2.1 dX3_at_32 (by decide) ?_
      exact tw_iret X hr hlk w h dX3_at_33
    · have h := h.2 c2
      refine lv_iload_n X.1 X.2.1 dX3_at_12 rfl (lv_at hl 2 rfl) ?_
      refine tw_ci w (va_runSN (As := [.int x2]) (rest := []) X (ct_X8_isSign l D g hT _ σ x2 _ h) ⟨va_cnB 1 X.2.2.2.2 gX3_at_X8_isSign_n25 rfl rfl rfl (hK.2 _ (List.mem_of_getElem? (i := 9) rfl)) (X.2.2.2.2 _ (List.mem_of_getElem? (i := 4) rfl)) (by decide +kernel) ⟨Nat.le_of_ble_eq_true rfl, Nat.le_of_ble_eq_true rfl⟩, X.2.2.2.2 _ (List.mem_of_getElem? (i := 3) rfl), trivial⟩ (tw_pre hK w [.int x2]) rfl rfl hl.1 rfl (lv_room (Nat.le_of_ble_eq_true rfl)) dX3_at_13 ⟨Nat.zero_le _, Nat.zero_le _⟩) (fun r4 σ3 H locs h w => ?_)
      refine lv_if_eq (tgt := 32) X.1 X.2.1 dX3_at_16 (by decide) (fun c5 => ?_) (fun c5 => ?_)
      · have h := h.1 c5
        refine lv_iconst (v := -1) X.1 X.2.1 dX3_at_32 (by decide) ?_
        exact tw_iret X hr hlk w h dX3_at_33
      · have h := h.2 c5
        refine lv_aload_n X.1 X.2.1 dX3_at_19 rfl (lv_at hl 0 rfl) ?_
        refine tw_get X hK w 3 iw_X3_at_3 h0 (by decide) rfl 0 (by decide) (List.mem_of_getElem? (i := 2) rfl) rfl dX3_at_20 ?_
        refine lv_iconst (v := 4) X.1 X.2.1 dX3_at_23 (by decide) ?_
        refine lv_iload_n X.1 X.2.1 dX3_at_24 rfl (lv_at hl 1 rfl) ?_
        refine lv_imul X.1 X.2.1 dX3_at_25 ?_
        refine lv_iload_n X.1 X.2.1 dX3_at_26 rfl (lv_at hl 2 rfl) ?_
        refine lv_iadd X.1 X.2.1 dX3_at_27 ?_
        obtain ⟨hi6, h⟩ := h
        refine tw_iald X hK w (tw_t_3_0 hT h0) (tw_n_3_0 hT h0) hi6 dX3_at_28 ?_
        refine lv_goto (tgt := 33) X.1 X.2.1 dX3_at_29 (by decide) ?_
        exact tw_iret X hr hlk w h dX3_at_33

abbrev RM_X8_sideOf : Room := { frames := 0, cells := 0, slots := 0, locals := 0 }
def wp_X8_sideOf (g : tw_G) (σ : tw_S) (x0 : Int32) (Q : Int32 → tw_S → Prop) : Prop := Q (x0 &&& (1 : Int32)) σ
set_option maxHeartbeats 4000000 in
set_option maxRecDepth 100000 in
theorem ct_X8_sideOf (l : Launch) (D : va_G) (g : tw_G) (hT : tw_T g) (sz : Nat) (σ : tw_S) (x0 : Int32) (Q : Int32 → tw_S → Prop) (h : wp_X8_sideOf g σ x0 Q) : tw_Mi l yX8_sideOf wsX8_sideOf RM_X8_sideOf D g sz σ [.int x0] Q := by
  refine Met.ofW (cc := cX8_sideOf) (maxL := 1) (ret := (some .int)) (by decide) rfl ?_
  intro p e s m args below meth c s₁ B hml hv
  obtain ⟨rfl, hsz, hP, hK, hD0⟩ := hv
  subst hsz
  have hr := B.returns
  have hlk := B.notSynchronized
  have X : CallFix p m c cX8_sideOf 1 s _ wsX8_sideOf RX8 := ⟨B.exec, B.bytes, hml, findClass_of_methodNamed B.named, atoms_spec (ws := wsX8_sideOf) B.pre⟩
  have w := tw_w0 hP hD0
  have hl := lv_entry ([.int x0]) (n := 1) (Nat.le_of_ble_eq_true rfl)
  rw [lg_entry_eq]
  generalize (lg_sl ([.int x0]) ++ List.replicate (1 - (lg_sl ([.int x0])).length) Slot.unset).toArray = ls at hl ⊢
  have hl : lv_has ls 1 [(0, .int x0)] := hl
  unfold wp_X8_sideOf at h
  refine lv_iload_n X.1 X.2.1 dX8_sideOf_0 rfl (lv_at hl 0 rfl) ?_
  refine lv_iconst (v := 1) X.1 X.2.1 dX8_sideOf_1 (by decide) ?_
  refine lv_iand X.1 X.2.1 dX8_sideOf_2 ?_
  exact tw_iret X hr hlk w h dX8_sideOf_3

abbrev RM_X8_stateOf : Room := { frames := 0, cells := 0, slots := 0, locals := 0 }
def wp_X8_stateOf (g : tw_G) (σ : tw_S) (x0 : Int32) (Q : Int32 → tw_S → Prop) : Prop := Q (x0 >>> ((1 : Int32) &&& 31)) σ
set_option maxHeartbeats 4000000 in
set_option maxRecDepth 100000 in
theorem ct_X8_stateOf (l : Launch) (D : va_G) (g : tw_G) (hT : tw_T g) (sz : Nat) (σ : tw_S) (x0 : Int32) (Q : Int32 → tw_S → Prop) (h : wp_X8_stateOf g σ x0 Q) : tw_Mi l yX8_stateOf wsX8_stateOf RM_X8_stateOf D g sz σ [.int x0] Q := by
  refine Met.ofW (cc := cX8_stateOf) (maxL := 1) (ret := (some .int)) (by decide) rfl ?_
  intro p e s m args below meth c s₁ B hml hv
  obtain ⟨rfl, hsz, hP, hK, hD0⟩ := hv
  subst hsz
  have hr := B.returns
  have hlk := B.notSynchronized
  have X : CallFix p m c cX8_stateOf 1 s _ wsX8_stateOf RX8 := ⟨B.exec, B.bytes, hml, findClass_of_methodNamed B.named, atoms_spec (ws := wsX8_stateOf) B.pre⟩
  have w := tw_w0 hP hD0
  have hl := lv_entry ([.int x0]) (n := 1) (Nat.le_of_ble_eq_true rfl)
  rw [lg_entry_eq]
  generalize (lg_sl ([.int x0]) ++ List.replicate (1 - (lg_sl ([.int x0])).length) Slot.unset).toArray = ls at hl ⊢
  have hl : lv_has ls 1 [(0, .int x0)] := hl
  unfold wp_X8_stateOf at h
  refine lv_iload_n X.1 X.2.1 dX8_stateOf_0 rfl (lv_at hl 0 rfl) ?_
  refine lv_iconst (v := 1) X.1 X.2.1 dX8_stateOf_1 (by decide) ?_
  refine lv_ishr X.1 X.2.1 dX8_stateOf_2 ?_
  exact tw_iret X hr hlk w h dX8_stateOf_3

abbrev RM_X5_hasState : Room := { frames := 0, cells := 0, slots := 0, locals := 0 }
theorem iw_X5_hasState_5 : ∀ w ∈ wsX50, w ∈ wsX5_hasState := fun w h => List.mem_cons_of_mem _ (List.mem_append_right _ (h))
def wp_X5_hasState (g : tw_G) (σ : tw_S) (a0 : Nat) (x1 : Int32) (Q : Int32 → tw_S → Prop) : Prop := ((x1 < 0) → Q (0 : Int32) σ) ∧ (¬ (x1 < 0) → (((tw_I σ a0 14) ≤ x1) → Q (0 : Int32) σ) ∧ (¬ ((tw_I σ a0 14) ≤ x1) → (((150 : Int32) ≤ x1) → Q (0 : Int32) σ) ∧ (¬ ((150 : Int32) ≤ x1) → Q (1 : Int32) σ)))
set_option maxHeartbeats 4000000 in
set_option maxRecDepth 100000 in
theorem ct_X5_hasState (l : Launch) (D : va_G) (g : tw_G) (hT : tw_T g) (sz : Nat) (σ : tw_S) (a0 : Nat) (h0 : tw_is g 5 a0) (x1 : Int32) (Q : Int32 → tw_S → Prop) (h : wp_X5_hasState g σ a0 x1 Q) : tw_Mi l yX5_hasState wsX5_hasState RM_X5_hasState D g sz σ [.ref a0, .int x1] Q := by
  refine Met.ofW (cc := cX5_hasState) (maxL := 2) (ret := (some .boolean)) (by decide) rfl ?_
  intro p e s m args below meth c s₁ B hml hv
  obtain ⟨rfl, hsz, hP, hK, hD0⟩ := hv
  subst hsz
  have hr := B.returns
  have hlk := B.notSynchronized
  have X : CallFix p m c cX5_hasState 2 s _ wsX5_hasState RX5 := ⟨B.exec, B.bytes, hml, findClass_of_methodNamed B.named, atoms_spec (ws := wsX5_hasState) B.pre⟩
  have w := tw_w0 hP hD0
  have hl := lv_entry ([.ref a0, .int x1]) (n := 2) (Nat.le_of_ble_eq_true rfl)
  rw [lg_entry_eq]
  generalize (lg_sl ([.ref a0, .int x1]) ++ List.replicate (2 - (lg_sl ([.ref a0, .int x1])).length) Slot.unset).toArray = ls at hl ⊢
  have hl : lv_has ls 2 [(0, .ref a0), (1, .int x1)] := hl
  unfold wp_X5_hasState at h
  refine lv_iload_n X.1 X.2.1 dX5_hasState_0 rfl (lv_at hl 1 rfl) ?_
  refine lv_if_lt (tgt := 23) X.1 X.2.1 dX5_hasState_1 (by decide) (fun c1 => ?_) (fun c1 => ?_)
  · have h := h.1 c1
    refine lv_iconst (v := 0) X.1 X.2.1 dX5_hasState_23 (by decide) ?_
    exact tw_zret X hr hlk w (by decide) h dX5_hasState_24
  · have h := h.2 c1
    refine lv_iload_n X.1 X.2.1 dX5_hasState_4 rfl (lv_at hl 1 rfl) ?_
    refine lv_aload_n X.1 X.2.1 dX5_hasState_5 rfl (lv_at hl 0 rfl) ?_
    refine tw_get X hK w 5 iw_X5_hasState_5 h0 (by decide) rfl 14 (by decide) (List.mem_of_getElem? (i := 1) rfl) rfl dX5_hasState_6 ?_
    refine lv_icmp_ge (tgt := 23) X.1 X.2.1 dX5_hasState_9 (by decide) (fun c2 => ?_) (fun c2 => ?_)
    · have h := h.1 c2
      refine lv_iconst (v := 0) X.1 X.2.1 dX5_hasState_23 (by decide) ?_
      exact tw_zret X hr hlk w (by decide) h dX5_hasState_24
    · have h := h.2 c2
      refine lv_iload_n X.1 X.2.1 dX5_hasState_12 rfl (lv_at hl 1 rfl) ?_
      refine lv_sipush (v := 150) X.1 X.2.1 dX5_hasState_13 (by decide) ?_
      refine lv_icmp_ge (tgt := 23) X.1 X.2.1 dX5_hasState_16 (by decide) (fun c3 => ?_) (fun c3 => ?_)
      · have h := h.1 c3
        refine lv_iconst (v := 0) X.1 X.2.1 dX5_hasState_23 (by decide) ?_
        exact tw_zret X hr hlk w (by decide) h dX5_hasState_24
      · have h := h.2 c3
        refine lv_iconst (v := 1) X.1 X.2.1 dX5_hasState_19 (by decide) ?_
        refine lv_goto (tgt := 24) X.1 X.2.1 dX5_hasState_20 (by decide) ?_
        exact tw_zret X hr hlk w (by decide) h dX5_hasState_24

abbrev RM_X5_comesBack : Room := { frames := 1, cells := 0, slots := 0, locals := 21 }
theorem iw_X5_comesBack_5 : ∀ w ∈ wsX50, w ∈ wsX5_comesBack := fun w h => List.mem_cons_of_mem _ (List.mem_append_right _ (h))
def wp_X5_comesBack (g : tw_G) (σ : tw_S) (a0 : Nat) (x1 : Int32) (x2 : Int32) (Q : Int32 → tw_S → Prop) : Prop := wp_X5_hasState g σ a0 x1 (fun r2 σ1 => ((r2 = 0) → (((0 : Int32) = 0) → Q (-1 : Int32) σ1) ∧ (¬ ((0 : Int32) = 0) → vp_in ((((5 : Int32) * x1) + (1 : Int32)) + x2) 750 ∧ Q (tw_A σ1 (tw_R g a0 1) ((((5 : Int32) * x1) + (1 : Int32)) + x2).toNatClampNeg) σ1)) ∧ (¬ (r2 = 0) → ((x2 < 0) → (((0 : Int32) = 0) → Q (-1 : Int32) σ1) ∧ (¬ ((0 : Int32) = 0) → vp_in ((((5 : Int32) * x1) + (1 : Int32)) + x2) 750 ∧ Q (tw_A σ1 (tw_R g a0 1) ((((5 : Int32) * x1) + (1 : Int32)) + x2).toNatClampNeg) σ1)) ∧ (¬ (x2 < 0) → (((4 : Int32) ≤ x2) → (((0 : Int32) = 0) → Q (-1 : Int32) σ1) ∧ (¬ ((0 : Int32) = 0) → vp_in ((((5 : Int32) * x1) + (1 : Int32)) + x2) 750 ∧ Q (tw_A σ1 (tw_R g a0 1) ((((5 : Int32) * x1) + (1 : Int32)) + x2).toNatClampNeg) σ1)) ∧ (¬ ((4 : Int32) ≤ x2) → (((1 : Int32) = 0) → Q (-1 : Int32) σ1) ∧ (¬ ((1 : Int32) = 0) → vp_in ((((5 : Int32) * x1) + (1 : Int32)) + x2) 750 ∧ Q (tw_A σ1 (tw_R g a0 1) ((((5 : Int32) * x1) + (1 : Int32)) + x2).toNatClampNeg) σ1)))))
set_option maxHeartbeats 4000000 in
set_option maxRecDepth 100000 in
theorem ct_X5_comesBack (l : Launch) (D : va_G) (g : tw_G) (hT : tw_T g) (sz : Nat) (σ : tw_S) (a0 : Nat) (h0 : tw_is g 5 a0) (x1 : Int32) (x2 : Int32) (Q : Int32 → tw_S → Prop) (h : wp_X5_comesBack g σ a0 x1 x2 Q) : tw_Mi l yX5_comesBack wsX5_comesBack RM_X5_comesBack D g sz σ [.ref a0, .int x1, .int x2] Q := by
  refine Met.ofW (cc := cX5_comesBack) (maxL := 4) (ret := (some .int)) (by decide) rfl ?_
  intro p e s m args below meth c s₁ B hml hv
  obtain ⟨rfl, hsz, hP, hK, hD0⟩ := hv
  subst hsz
  have hr := B.returns
  have hlk := B.notSynchronized
  have X : CallFix p m c cX5_comesBack 4 s _ wsX5_comesBack RX5 := ⟨B.exec, B.bytes, hml, findClass_of_methodNamed B.named, atoms_spec (ws := wsX5_comesBack) B.pre⟩
  have w := tw_w0 hP hD0
  have hl := lv_entry ([.ref a0, .int x1, .int x2]) (n := 4) (Nat.le_of_ble_eq_true rfl)
  rw [lg_entry_eq]
  generalize (lg_sl ([.ref a0, .int x1, .int x2]) ++ List.replicate (4 - (lg_sl ([.ref a0, .int x1, .int x2])).length) Slot.unset).toArray = ls at hl ⊢
  have hl : lv_has ls 4 [(0, .ref a0), (1, .int x1), (2, .int x2)] := hl
  unfold wp_X5_comesBack at h
  refine lv_aload_n X.1 X.2.1 dX5_comesBack_0 rfl (lv_at hl 0 rfl) ?_
  refine lv_iload_n X.1 X.2.1 dX5_comesBack_1 rfl (lv_at hl 1 rfl) ?_
  refine tw_ci w (va_runV (As := [.int x1]) (rest := []) X (ct_X5_hasState l D g hT _ σ a0 h0 x1 _ h) (cwV 1 X.2.2.2.2 gX5_comesBack_X5_hasState rfl rfl rfl (by decide +kernel) ⟨Nat.le_of_ble_eq_true rfl, Nat.le_of_ble_eq_true rfl⟩) (tw_preV hK w h0 (by decide) rfl [.int x1]) rfl rfl hl.1 rfl (lv_room (Nat.le_of_ble_eq_true rfl)) dX5_comesBack_2 ⟨Nat.zero_le _, Nat.zero_le _⟩) (fun r2 σ1 H locs h w => ?_)
  refine lv_if_eq (tgt := 21) X.1 X.2.1 dX5_comesBack_5 (by decide) (fun c3 => ?_) (fun c3 => ?_)
  · have h := h.1 c3
    refine lv_iconst (v := 0) X.1 X.2.1 dX5_comesBack_21 (by decide) ?_
    refine lv_istore_n (lv' := [(3, .int (0 : Int32)), (0, .ref a0), (1, .int x1), (2, .int x2)]) X.1 X.2.1 dX5_comesBack_22 rfl hl (by decide) rfl (fun ls hl => ?_)
    refine lv_iload_n X.1 X.2.1 dX5_comesBack_23 rfl (lv_at hl 0 rfl) ?_
    refine lv_if_eq (tgt := 42) X.1 X.2.1 dX5_comesBack_24 (by decide) (fun c4 => ?_) (fun c4 => ?_)
    · have h := h.1 c4
      refine lv_iconst (v := -1) X.1 X.2.1 dX5_comesBack_42 (by decide) ?_
      exact tw_iret X hr hlk w h dX5_comesBack_43
    · have h := h.2 c4
      refine lv_aload_n X.1 X.2.1 dX5_comesBack_27 rfl (lv_at hl 1 rfl) ?_
      refine tw_get X hK w 5 iw_X5_comesBack_5 h0 (by decide) rfl 1 (by decide) (List.mem_of_getElem? (i := 1) rfl) rfl dX5_comesBack_28 ?_
      refine lv_iconst (v := 5) X.1 X.2.1 dX5_comesBack_31 (by decide) ?_
      refine lv_iload_n X.1 X.2.1 dX5_comesBack_32 rfl (lv_at hl 2 rfl) ?_
      refine lv_imul X.1 X.2.1 dX5_comesBack_33 ?_
      refine lv_iconst (v := 1) X.1 X.2.1 dX5_comesBack_34 (by decide) ?_
      refine lv_iadd X.1 X.2.1 dX5_comesBack_35 ?_
      refine lv_iload_n X.1 X.2.1 dX5_comesBack_36 rfl (lv_at hl 3 rfl) ?_
      refine lv_iadd X.1 X.2.1 dX5_comesBack_37 ?_
      obtain ⟨hi5, h⟩ := h
      refine tw_iald X hK w (tw_t_5_1 hT h0) (tw_n_5_1 hT h0) hi5 dX5_comesBack_38 ?_
      refine lv_goto (tgt := 43) X.1 X.2.1 dX5_comesBack_39 (by decide) ?_
      exact tw_iret X hr hlk w h dX5_comesBack_43
  · have h := h.2 c3
    refine lv_iload_n X.1 X.2.1 dX5_comesBack_8 rfl (lv_at hl 2 rfl) ?_
    refine lv_if_lt (tgt := 21) X.1 X.2.1 dX5_comesBack_9 (by decide) (fun c6 => ?_) (fun c6 => ?_)
    · have h := h.1 c6
      refine lv_iconst (v := 0) X.1 X.2.1 dX5_comesBack_21 (by decide) ?_
      refine lv_istore_n (lv' := [(3, .int (0 : Int32)), (0, .ref a0), (1, .int x1), (2, .int x2)]) X.1 X.2.1 dX5_comesBack_22 rfl hl (by decide) rfl (fun ls hl => ?_)
      refine lv_iload_n X.1 X.2.1 dX5_comesBack_23 rfl (lv_at hl 0 rfl) ?_
      refine lv_if_eq (tgt := 42) X.1 X.2.1 dX5_comesBack_24 (by decide) (fun c7 => ?_) (fun c7 => ?_)
      · have h := h.1 c7
        refine lv_iconst (v := -1) X.1 X.2.1 dX5_comesBack_42 (by decide) ?_
        exact tw_iret X hr hlk w h dX5_comesBack_43
      · have h := h.2 c7
        refine lv_aload_n X.1 X.2.1 dX5_comesBack_27 rfl (lv_at hl 1 rfl) ?_
        refine tw_get X hK w 5 iw_X5_comesBack_5 h0 (by decide) rfl 1 (by decide) (List.mem_of_getElem? (i := 1) rfl) rfl dX5_comesBack_28 ?_
        refine lv_iconst (v := 5) X.1 X.2.1 dX5_comesBack_31 (by decide) ?_
        refine lv_iload_n X.1 X.2.1 dX5_comesBack_32 rfl (lv_at hl 2 rfl) ?_
        refine lv_imul X.1 X.2.1 dX5_comesBack_33 ?_
        refine lv_iconst (v := 1) X.1 X.2.1 dX5_comesBack_34 (by decide) ?_
        refine lv_iadd X.1 X.2.1 dX5_comesBack_35 ?_
        refine lv_iload_n X.1 X.2.1 dX5_comesBack_36 rfl (lv_at hl 3 rfl) ?_
        refine lv_iadd X.1 X.2.1 dX5_comesBack_37 ?_
        obtain ⟨hi8, h⟩ := h
        refine tw_iald X hK w (tw_t_5_1 hT h0) (tw_n_5_1 hT h0) hi8 dX5_comesBack_38 ?_
        refine lv_goto (tgt := 43) X.1 X.2.1 dX5_comesBack_39 (by decide) ?_
        exact tw_iret X hr hlk w h dX5_comesBack_43
    · have h := h.2 c6
      refine lv_iload_n X.1 X.2.1 dX5_comesBack_12 rfl (lv_at hl 2 rfl) ?_
      refine lv_iconst (v := 4) X.1 X.2.1 dX5_comesBack_13 (by decide) ?_
      refine lv_icmp_ge (tgt := 21) X.1 X.2.1 dX5_comesBack_14 (by decide) (fun c9 => ?_) (fun c9 => ?_)
      · have h := h.1 c9
        refine lv_iconst (v := 0) X.1 X.2.1 dX5_comesBack_21 (by decide) ?_
        refine lv_istore_n (lv' := [(3, .int (0 : Int32)), (0, .ref a0), (1, .int x1), (2, .int x2)]) X.1 X.2.1 dX5_comesBack_22 rfl hl (by decide) rfl (fun ls hl => ?_)
        refine lv_iload_n X.1 X.2.1 dX5_comesBack_23 rfl (lv_at hl 0 rfl) ?_
        refine lv_if_eq (tgt := 42) X.1 X.2.1 dX5_comesBack_24 (by decide) (fun c10 => ?_) (fun c10 => ?_)
        · have h := h.1 c10
          refine lv_iconst (v := -1) X.1 X.2.1 dX5_comesBack_42 (by decide) ?_
          exact tw_iret X hr hlk w h dX5_comesBack_43
        · have h := h.2 c10
          refine lv_aload_n X.1 X.2.1 dX5_comesBack_27 rfl (lv_at hl 1 rfl) ?_
          refine tw_get X hK w 5 iw_X5_comesBack_5 h0 (by decide) rfl 1 (by decide) (List.mem_of_getElem? (i := 1) rfl) rfl dX5_comesBack_28 ?_
          refine lv_iconst (v := 5) X.1 X.2.1 dX5_comesBack_31 (by decide) ?_
          refine lv_iload_n X.1 X.2.1 dX5_comesBack_32 rfl (lv_at hl 2 rfl) ?_
          refine lv_imul X.1 X.2.1 dX5_comesBack_33 ?_
          refine lv_iconst (v := 1) X.1 X.2.1 dX5_comesBack_34 (by decide) ?_
          refine lv_iadd X.1 X.2.1 dX5_comesBack_35 ?_
          refine lv_iload_n X.1 X.2.1 dX5_comesBack_36 rfl (lv_at hl 3 rfl) ?_
          refine lv_iadd X.1 X.2.1 dX5_comesBack_37 ?_
          obtain ⟨hi11, h⟩ := h
          refine tw_iald X hK w (tw_t_5_1 hT h0) (tw_n_5_1 hT h0) hi11 dX5_comesBack_38 ?_
          refine lv_goto (tgt := 43) X.1 X.2.1 dX5_comesBack_39 (by decide) ?_
          exact tw_iret X hr hlk w h dX5_comesBack_43
      · have h := h.2 c9
        refine lv_iconst (v := 1) X.1 X.2.1 dX5_comesBack_17 (by decide) ?_
        refine lv_goto (tgt := 22) X.1 X.2.1 dX5_comesBack_18 (by decide) ?_
        refine lv_istore_n (lv' := [(3, .int (1 : Int32)), (0, .ref a0), (1, .int x1), (2, .int x2)]) X.1 X.2.1 dX5_comesBack_22 rfl hl (by decide) rfl (fun ls hl => ?_)
        refine lv_iload_n X.1 X.2.1 dX5_comesBack_23 rfl (lv_at hl 0 rfl) ?_
        refine lv_if_eq (tgt := 42) X.1 X.2.1 dX5_comesBack_24 (by decide) (fun c12 => ?_) (fun c12 => ?_)
        · have h := h.1 c12
          refine lv_iconst (v := -1) X.1 X.2.1 dX5_comesBack_42 (by decide) ?_
          exact tw_iret X hr hlk w h dX5_comesBack_43
        · have h := h.2 c12
          refine lv_aload_n X.1 X.2.1 dX5_comesBack_27 rfl (lv_at hl 1 rfl) ?_
          refine tw_get X hK w 5 iw_X5_comesBack_5 h0 (by decide) rfl 1 (by decide) (List.mem_of_getElem? (i := 1) rfl) rfl dX5_comesBack_28 ?_
          refine lv_iconst (v := 5) X.1 X.2.1 dX5_comesBack_31 (by decide) ?_
          refine lv_iload_n X.1 X.2.1 dX5_comesBack_32 rfl (lv_at hl 2 rfl) ?_
          refine lv_imul X.1 X.2.1 dX5_comesBack_33 ?_
          refine lv_iconst (v := 1) X.1 X.2.1 dX5_comesBack_34 (by decide) ?_
          refine lv_iadd X.1 X.2.1 dX5_comesBack_35 ?_
          refine lv_iload_n X.1 X.2.1 dX5_comesBack_36 rfl (lv_at hl 3 rfl) ?_
          refine lv_iadd X.1 X.2.1 dX5_comesBack_37 ?_
          obtain ⟨hi13, h⟩ := h
          refine tw_iald X hK w (tw_t_5_1 hT h0) (tw_n_5_1 hT h0) hi13 dX5_comesBack_38 ?_
          refine lv_goto (tgt := 43) X.1 X.2.1 dX5_comesBack_39 (by decide) ?_
          exact tw_iret X hr hlk w h dX5_comesBack_43

abbrev RM_X5_goOff : Room := { frames := 2, cells := 0, slots := 0, locals := 44 }
theorem iw_X5_goOff_5 : ∀ w ∈ wsX50, w ∈ wsX5_goOff := fun w h => List.mem_cons_of_mem _ (List.mem_append_left _ (List.mem_append_right _ (h)))
def wl_X5_goOff_6 (g : tw_G) (a0 : Nat) (x1 : Int32) (x2 : Int32) (Q : Int32 → tw_S → Prop) (k36 : tw_S → Prop) (k47 : Int32 → tw_S → Prop) (k71 : tw_S → Prop) : Nat → Int32 → Int32 → tw_S → Prop
  | 0, _, _, _ => False
  | n + 1, x4, x5, σ => (((4 : Int32) ≤ x5) → k71  σ) ∧ (¬ ((4 : Int32) ≤ x5) → ((x4 = (-1 : Int32)) → k71  σ) ∧ (¬ (x4 = (-1 : Int32)) → wp_X3_at g σ (tw_R g a0 0) x4 x2 (fun r4 σ3 => ((¬ r4 = (-1 : Int32)) → wp_X8_sideOf g σ3 r4 (fun r7 σ6 => ((¬ r7 = (1 : Int32)) → wp_X8_stateOf g σ6 r4 (fun r10 σ9 => wp_X5_comesBack g σ9 a0 x1 r10 (fun r12 σ11 => wl_X5_goOff_6 g a0 x1 x2 Q k36 k47 k71 n r12 (x5 + 1) σ11))) ∧ ((r7 = (1 : Int32)) → k47 r4 σ6))) ∧ ((r4 = (-1 : Int32)) → k36  σ3))))
def wp_X5_goOff (g : tw_G) (σ : tw_S) (a0 : Nat) (x1 : Int32) (x2 : Int32) (x3 : Int32) (Q : Int32 → tw_S → Prop) : Prop := ∃ n6, wl_X5_goOff_6 g a0 x1 x2 Q (fun σ13 => Q (-1 : Int32) σ13) (fun v14 σ15 => wp_X8_stateOf g σ15 v14 (fun r17 σ16 => Q r17 σ16)) (fun σ18 => Q (-1 : Int32) σ18) n6 x3 (0 : Int32) σ
set_option maxHeartbeats 4000000 in
set_option maxRecDepth 100000 in
theorem lp_X5_goOff_6 {p : Program} {l : Launch} {e : Env} {s : State} {m : MethodId} {args : Array Value} {below : List Frame} {meth : Method} {c : Code} {D : va_G} {g : tw_G} (X : CallFix p m c cX5_goOff 7 s args wsX5_goOff RX5) (hr : meth.sig.returnType = (some .int)) (hlk : meth.locks = false) (hK : tw_k D g s) (hT : tw_T g) {a0 : Nat} {x1 : Int32} {x2 : Int32} (h0 : tw_is g 5 a0) {Q : Int32 → tw_S → Prop} {k36 : tw_S → Prop} {k47 : Int32 → tw_S → Prop} {k71 : tw_S → Prop}
    (hk36 : ∀  (σ : tw_S) (H : Heap) (locs : List Loc) (ls : Array Slot), k36  σ → tw_w D g (tw_F g s.heap.size) s σ H locs → lv_has ls 7 [] → W p l e RM_X5_goOff s m args below meth c H locs 0 0 (tw_Qi Q D g below args s) (F0 m 36 ls []))
    (hk47 : ∀ (x6 : Int32) (σ : tw_S) (H : Heap) (locs : List Loc) (ls : Array Slot), k47 x6 σ → tw_w D g (tw_F g s.heap.size) s σ H locs → lv_has ls 7 [(6, .int x6)] → W p l e RM_X5_goOff s m args below meth c H locs 0 0 (tw_Qi Q D g below args s) (F0 m 47 ls []))
    (hk71 : ∀  (σ : tw_S) (H : Heap) (locs : List Loc) (ls : Array Slot), k71  σ → tw_w D g (tw_F g s.heap.size) s σ H locs → lv_has ls 7 [] → W p l e RM_X5_goOff s m args below meth c H locs 0 0 (tw_Qi Q D g below args s) (F0 m 71 ls []))
    : ∀ (n : Nat) (x4 : Int32) (x5 : Int32) (σ : tw_S) (H : Heap) (locs : List Loc) (ls : Array Slot), wl_X5_goOff_6 g a0 x1 x2 Q k36 k47 k71 n x4 x5 σ → tw_w D g (tw_F g s.heap.size) s σ H locs → lv_has ls 7 [(0, .ref a0), (1, .int x1), (2, .int x2), (4, .int x4), (5, .int x5)] → W p l e RM_X5_goOff s m args below meth c H locs 0 0 (tw_Qi Q D g below args s) (F0 m 6 ls []) := by
  intro n
  induction n with
  | zero =>
    intro x4 x5 σ H locs ls h w hl
    exact False.elim h
  | succ n ih =>
    intro x4 x5 σ H locs ls h w hl
    rw [wl_X5_goOff_6] at h
    refine lv_iload X.1 X.2.1 dX5_goOff_6 (lv_at hl 4 rfl) ?_
    refine lv_iconst (v := 4) X.1 X.2.1 dX5_goOff_8 (by decide) ?_
    refine lv_icmp_ge (tgt := 71) X.1 X.2.1 dX5_goOff_9 (by decide) (fun c1 => ?_) (fun c1 => ?_)
    · have h := h.1 c1
      exact hk71  σ _ _ ls h w (lv_sub hl [] rfl)
    · have h := h.2 c1
      refine lv_iload X.1 X.2.1 dX5_goOff_12 (lv_at hl 3 rfl) ?_
      refine lv_iconst (v := -1) X.1 X.2.1 dX5_goOff_14 (by decide) ?_
      refine lv_icmp_eq (tgt := 71) X.1 X.2.1 dX5_goOff_15 (by decide) (fun c2 => ?_) (fun c2 => ?_)
      · have h := h.1 c2
        exact hk71  σ _ _ ls h w (lv_sub hl [] rfl)
      · have h := h.2 c2
        refine lv_aload_n X.1 X.2.1 dX5_goOff_18 rfl (lv_at hl 0 rfl) ?_
        refine tw_get X hK w 5 iw_X5_goOff_5 h0 (by decide) rfl 0 (by decide) (List.mem_of_getElem? (i := 1) rfl) rfl dX5_goOff_19 ?_
        refine lv_iload X.1 X.2.1 dX5_goOff_22 (lv_at hl 3 rfl) ?_
        refine lv_iload_n X.1 X.2.1 dX5_goOff_24 rfl (lv_at hl 2 rfl) ?_
        refine tw_ci w (va_runV (As := [.int x4, .int x2]) (rest := []) X (ct_X3_at l D g hT _ σ (tw_R g a0 0) (tw_t_5_0 hT h0) x4 x2 _ h) (cwV 2 X.2.2.2.2 gX5_goOff_X3_at rfl rfl rfl (by decide +kernel) ⟨Nat.le_of_ble_eq_true rfl, Nat.le_of_ble_eq_true rfl⟩) (tw_preV hK w (tw_t_5_0 hT h0) (by decide) rfl [.int x4, .int x2]) rfl rfl hl.1 rfl (lv_room (Nat.le_of_ble_eq_true rfl)) dX5_goOff_25 ⟨Nat.zero_le _, Nat.zero_le _⟩) (fun r4 σ3 H locs h w => ?_)
        refine lv_istore (lv' := [(6, .int r4), (0, .ref a0), (1, .int x1), (2, .int x2), (4, .int x4), (5, .int x5)]) X.1 X.2.1 dX5_goOff_28 hl (by decide) rfl (fun ls hl => ?_)
        have hl := lv_sub (l' := [(6, .int r4), (0, .ref a0), (1, .int x1), (2, .int x2), (5, .int x5)]) hl [0, 1, 2, 3, 5] rfl
        refine lv_iload X.1 X.2.1 dX5_goOff_30 (lv_at hl 0 rfl) ?_
        refine lv_iconst (v := -1) X.1 X.2.1 dX5_goOff_32 (by decide) ?_
        refine lv_icmp_ne (tgt := 38) X.1 X.2.1 dX5_goOff_33 (by decide) (fun c5 => ?_) (fun c5 => ?_)
        · have h := h.1 c5
          refine lv_iload X.1 X.2.1 dX5_goOff_38 (lv_at hl 0 rfl) ?_
          refine tw_ci w (va_runSN (As := [.int r4]) (rest := []) X (ct_X8_sideOf l D g hT _ σ3 r4 _ h) ⟨va_cnB 1 X.2.2.2.2 gX5_goOff_X8_sideOf_n120 rfl rfl rfl (hK.2 _ (List.mem_of_getElem? (i := 11) rfl)) (X.2.2.2.2 _ (List.mem_of_getElem? (i := 10) rfl)) (by decide +kernel) ⟨Nat.le_of_ble_eq_true rfl, Nat.le_of_ble_eq_true rfl⟩, X.2.2.2.2 _ (List.mem_of_getElem? (i := 12) rfl), trivial⟩ (tw_pre hK w [.int r4]) rfl rfl hl.1 rfl (lv_room (Nat.le_of_ble_eq_true rfl)) dX5_goOff_40 ⟨Nat.zero_le _, Nat.zero_le _⟩) (fun r7 σ6 H locs h w => ?_)
          refine lv_iconst (v := 1) X.1 X.2.1 dX5_goOff_43 (by decide) ?_
          refine lv_icmp_ne (tgt := 53) X.1 X.2.1 dX5_goOff_44 (by decide) (fun c8 => ?_) (fun c8 => ?_)
          · have h := h.1 c8
            refine lv_aload_n X.1 X.2.1 dX5_goOff_53 rfl (lv_at hl 1 rfl) ?_
            refine lv_iload_n X.1 X.2.1 dX5_goOff_54 rfl (lv_at hl 2 rfl) ?_
            refine lv_iload X.1 X.2.1 dX5_goOff_55 (lv_at hl 0 rfl) ?_
            refine tw_ci w (va_runSN (As := [.int r4]) (rest := [.int x1, .ref a0]) X (ct_X8_stateOf l D g hT _ σ6 r4 _ h) ⟨va_cnB 1 X.2.2.2.2 gX5_goOff_X8_stateOf_n123 rfl rfl rfl (hK.2 _ (List.mem_of_getElem? (i := 12) rfl)) (X.2.2.2.2 _ (List.mem_of_getElem? (i := 10) rfl)) (by decide +kernel) ⟨Nat.le_of_ble_eq_true rfl, Nat.le_of_ble_eq_true rfl⟩, X.2.2.2.2 _ (List.mem_of_getElem? (i := 14) rfl), trivial⟩ (tw_pre hK w [.int r4]) rfl rfl hl.1 rfl (lv_room (Nat.le_of_ble_eq_true rfl)) dX5_goOff_57 ⟨Nat.zero_le _, Nat.zero_le _⟩) (fun r10 σ9 H locs h w => ?_)
            refine tw_ci w (va_runV (As := [.int x1, .int r10]) (rest := []) X (ct_X5_comesBack l D g hT _ σ9 a0 h0 x1 r10 _ h) (cwV 2 X.2.2.2.2 gX5_goOff_X5_comesBack rfl rfl rfl (by decide +kernel) ⟨Nat.le_of_ble_eq_true rfl, Nat.le_of_ble_eq_true rfl⟩) (tw_preV hK w h0 (by decide) rfl [.int x1, .int r10]) rfl rfl hl.1 rfl (lv_room (Nat.le_of_ble_eq_true rfl)) dX5_goOff_60 ⟨Nat.zero_le _, Nat.zero_le _⟩) (fun r12 σ11 H locs h w => ?_)
            refine lv_istore (lv' := [(4, .int r12), (6, .int r4), (0, .ref a0), (1, .int x1), (2, .int x2), (5, .int x5)]) X.1 X.2.1 dX5_goOff_63 hl (by decide) rfl (fun ls hl => ?_)
            have hl := lv_sub (l' := [(4, .int r12), (0, .ref a0), (1, .int x1), (2, .int x2), (5, .int x5)]) hl [0, 2, 3, 4, 5] rfl
            refine lv_iinc (v := (x5 + 1)) (lv' := [(5, .int (x5 + 1)), (4, .int r12), (0, .ref a0), (1, .int x1), (2, .int x2)]) X.1 X.2.1 dX5_goOff_65 hl (k := 4) rfl rfl (by decide) rfl (fun ls hl => ?_)
            refine lv_goto (tgt := 6) X.1 X.2.1 dX5_goOff_68 (by decide) ?_
            exact ih r12 (x5 + 1) σ11 _ _ ls h w (lv_sub hl [2, 3, 4, 1, 0] rfl)
          · have h := h.2 c8
            exact hk47 r4 σ6 _ _ ls h w (lv_sub hl [0] rfl)
        · have h := h.2 c5
          exact hk36  σ3 _ _ ls h w (lv_sub hl [] rfl)
set_option maxHeartbeats 4000000 in
set_option maxRecDepth 100000 in
theorem ct_X5_goOff (l : Launch) (D : va_G) (g : tw_G) (hT : tw_T g) (sz : Nat) (σ : tw_S) (a0 : Nat) (h0 : tw_is g 5 a0) (x1 : Int32) (x2 : Int32) (x3 : Int32) (Q : Int32 → tw_S → Prop) (h : wp_X5_goOff g σ a0 x1 x2 x3 Q) : tw_Mi l yX5_goOff wsX5_goOff RM_X5_goOff D g sz σ [.ref a0, .int x1, .int x2, .int x3] Q := by
  refine Met.ofW (cc := cX5_goOff) (maxL := 7) (ret := (some .int)) (by decide) rfl ?_
  intro p e s m args below meth c s₁ B hml hv
  obtain ⟨rfl, hsz, hP, hK, hD0⟩ := hv
  subst hsz
  have hr := B.returns
  have hlk := B.notSynchronized
  have X : CallFix p m c cX5_goOff 7 s _ wsX5_goOff RX5 := ⟨B.exec, B.bytes, hml, findClass_of_methodNamed B.named, atoms_spec (ws := wsX5_goOff) B.pre⟩
  have w := tw_w0 hP hD0
  have hl := lv_entry ([.ref a0, .int x1, .int x2, .int x3]) (n := 7) (Nat.le_of_ble_eq_true rfl)
  rw [lg_entry_eq]
  generalize (lg_sl ([.ref a0, .int x1, .int x2, .int x3]) ++ List.replicate (7 - (lg_sl ([.ref a0, .int x1, .int x2, .int x3])).length) Slot.unset).toArray = ls at hl ⊢
  have hl : lv_has ls 7 [(0, .ref a0), (1, .int x1), (2, .int x2), (3, .int x3)] := hl
  unfold wp_X5_goOff at h
  refine lv_iload_n X.1 X.2.1 dX5_goOff_0 rfl (lv_at hl 3 rfl) ?_
  refine lv_istore (lv' := [(4, .int x3), (0, .ref a0), (1, .int x1), (2, .int x2), (3, .int x3)]) X.1 X.2.1 dX5_goOff_1 hl (by decide) rfl (fun ls hl => ?_)
  have hl := lv_sub (l' := [(4, .int x3), (0, .ref a0), (1, .int x1), (2, .int x2)]) hl [0, 1, 2, 3] rfl
  refine lv_iconst (v := 0) X.1 X.2.1 dX5_goOff_3 (by decide) ?_
  refine lv_istore (lv' := [(5, .int (0 : Int32)), (4, .int x3), (0, .ref a0), (1, .int x1), (2, .int x2)]) X.1 X.2.1 dX5_goOff_4 hl (by decide) rfl (fun ls hl => ?_)
  obtain ⟨n6, h⟩ := h
  refine lp_X5_goOff_6 X hr hlk hK hT h0 (fun σ13 H locs ls h w hl => ?_) (fun v14 σ15 H locs ls h w hl => ?_) (fun σ18 H locs ls h w hl => ?_) n6 x3 (0 : Int32) σ _ _ ls h w (lv_sub hl [2, 3, 4, 1, 0] rfl)
  · skip
    refine lv_iconst (v := -1) X.1 X.2.1 dX5_goOff_36 (by decide) ?_
    exact tw_iret X hr hlk w h dX5_goOff_37
  · skip
    refine lv_iload X.1 X.2.1 dX5_goOff_47 (lv_at hl 0 rfl) ?_
    refine tw_ci w (va_runSN (As := [.int v14]) (rest := []) X (ct_X8_stateOf l D g hT _ σ15 v14 _ h) ⟨va_cnB 1 X.2.2.2.2 gX5_goOff_X8_stateOf_n123 rfl rfl rfl (hK.2 _ (List.mem_of_getElem? (i := 12) rfl)) (X.2.2.2.2 _ (List.mem_of_getElem? (i := 10) rfl)) (by decide +kernel) ⟨Nat.le_of_ble_eq_true rfl, Nat.le_of_ble_eq_true rfl⟩, X.2.2.2.2 _ (List.mem_of_getElem? (i := 14) rfl), trivial⟩ (tw_pre hK w [.int v14]) rfl rfl hl.1 rfl (lv_room (Nat.le_of_ble_eq_true rfl)) dX5_goOff_49 ⟨Nat.zero_le _, Nat.zero_le _⟩) (fun r17 σ16 H locs h w => ?_)
    exact tw_iret X hr hlk w h dX5_goOff_52
  · skip
    refine lv_iconst (v := -1) X.1 X.2.1 dX5_goOff_71 (by decide) ?_
    exact tw_iret X hr hlk w h dX5_goOff_72

abbrev RM_X5_firstOff : Room := { frames := 1, cells := 0, slots := 0, locals := 21 }
theorem iw_X5_firstOff_5 : ∀ w ∈ wsX50, w ∈ wsX5_firstOff := fun w h => List.mem_cons_of_mem _ (List.mem_append_right _ (h))
def wp_X5_firstOff (g : tw_G) (σ : tw_S) (a0 : Nat) (x1 : Int32) (Q : Int32 → tw_S → Prop) : Prop := wp_X5_hasState g σ a0 x1 (fun r2 σ1 => ((r2 = 0) → Q (-1 : Int32) σ1) ∧ (¬ (r2 = 0) → vp_in ((5 : Int32) * x1) 750 ∧ Q (tw_A σ1 (tw_R g a0 1) ((5 : Int32) * x1).toNatClampNeg) σ1))
set_option maxHeartbeats 4000000 in
set_option maxRecDepth 100000 in
theorem ct_X5_firstOff (l : Launch) (D : va_G) (g : tw_G) (hT : tw_T g) (sz : Nat) (σ : tw_S) (a0 : Nat) (h0 : tw_is g 5 a0) (x1 : Int32) (Q : Int32 → tw_S → Prop) (h : wp_X5_firstOff g σ a0 x1 Q) : tw_Mi l yX5_firstOff wsX5_firstOff RM_X5_firstOff D g sz σ [.ref a0, .int x1] Q := by
  refine Met.ofW (cc := cX5_firstOff) (maxL := 2) (ret := (some .int)) (by decide) rfl ?_
  intro p e s m args below meth c s₁ B hml hv
  obtain ⟨rfl, hsz, hP, hK, hD0⟩ := hv
  subst hsz
  have hr := B.returns
  have hlk := B.notSynchronized
  have X : CallFix p m c cX5_firstOff 2 s _ wsX5_firstOff RX5 := ⟨B.exec, B.bytes, hml, findClass_of_methodNamed B.named, atoms_spec (ws := wsX5_firstOff) B.pre⟩
  have w := tw_w0 hP hD0
  have hl := lv_entry ([.ref a0, .int x1]) (n := 2) (Nat.le_of_ble_eq_true rfl)
  rw [lg_entry_eq]
  generalize (lg_sl ([.ref a0, .int x1]) ++ List.replicate (2 - (lg_sl ([.ref a0, .int x1])).length) Slot.unset).toArray = ls at hl ⊢
  have hl : lv_has ls 2 [(0, .ref a0), (1, .int x1)] := hl
  unfold wp_X5_firstOff at h
  refine lv_aload_n X.1 X.2.1 dX5_firstOff_0 rfl (lv_at hl 0 rfl) ?_
  refine lv_iload_n X.1 X.2.1 dX5_firstOff_1 rfl (lv_at hl 1 rfl) ?_
  refine tw_ci w (va_runV (As := [.int x1]) (rest := []) X (ct_X5_hasState l D g hT _ σ a0 h0 x1 _ h) (cwV 1 X.2.2.2.2 gX5_firstOff_X5_hasState rfl rfl rfl (by decide +kernel) ⟨Nat.le_of_ble_eq_true rfl, Nat.le_of_ble_eq_true rfl⟩) (tw_preV hK w h0 (by decide) rfl [.int x1]) rfl rfl hl.1 rfl (lv_room (Nat.le_of_ble_eq_true rfl)) dX5_firstOff_2 ⟨Nat.zero_le _, Nat.zero_le _⟩) (fun r2 σ1 H locs h w => ?_)
  refine lv_if_eq (tgt := 19) X.1 X.2.1 dX5_firstOff_5 (by decide) (fun c3 => ?_) (fun c3 => ?_)
  · have h := h.1 c3
    refine lv_iconst (v := -1) X.1 X.2.1 dX5_firstOff_19 (by decide) ?_
    exact tw_iret X hr hlk w h dX5_firstOff_20
  · have h := h.2 c3
    refine lv_aload_n X.1 X.2.1 dX5_firstOff_8 rfl (lv_at hl 0 rfl) ?_
    refine tw_get X hK w 5 iw_X5_firstOff_5 h0 (by decide) rfl 1 (by decide) (List.mem_of_getElem? (i := 1) rfl) rfl dX5_firstOff_9 ?_
    refine lv_iconst (v := 5) X.1 X.2.1 dX5_firstOff_12 (by decide) ?_
    refine lv_iload_n X.1 X.2.1 dX5_firstOff_13 rfl (lv_at hl 1 rfl) ?_
    refine lv_imul X.1 X.2.1 dX5_firstOff_14 ?_
    obtain ⟨hi4, h⟩ := h
    refine tw_iald X hK w (tw_t_5_1 hT h0) (tw_n_5_1 hT h0) hi4 dX5_firstOff_15 ?_
    refine lv_goto (tgt := 20) X.1 X.2.1 dX5_firstOff_16 (by decide) ?_
    exact tw_iret X hr hlk w h dX5_firstOff_20

abbrev RM_X5_findBehind : Room := { frames := 3, cells := 0, slots := 0, locals := 70 }
theorem iw_X5_findBehind_5 : ∀ w ∈ wsX50, w ∈ wsX5_findBehind := fun w h => List.mem_cons_of_mem _ (List.mem_append_left _ (List.mem_append_right _ (h)))
def wl_X5_findBehind_28 (g : tw_G) (a0 : Nat) (x1 : Int32) (x2 : Int32) (Q : tw_S → Prop) (k54 : tw_S → Prop) : Nat → Int32 → tw_S → Prop
  | 0, _, _ => False
  | n + 1, x3, σ => (((5 : Int32) ≤ x3) → k54  σ) ∧ (¬ ((5 : Int32) ≤ x3) → wp_X5_goOff g σ a0 x1 x2 (x3 - (1 : Int32)) (fun r9 σ8 => vp_in x3 5 ∧ ∀ σ11, σ11 = (tw_sA σ8 (tw_R g a0 2) (upd (tw_A σ8 (tw_R g a0 2)) x3.toNatClampNeg r9)) → wl_X5_findBehind_28 g a0 x1 x2 Q k54 n (x3 + 1) σ11))
def wp_X5_findBehind (g : tw_G) (σ : tw_S) (a0 : Nat) (x1 : Int32) (x2 : Int32) (Q : tw_S → Prop) : Prop := ((¬ x1 = (-1 : Int32)) → wp_X5_firstOff g σ a0 x1 (fun r3 σ2 => wp_X5_goOff g σ2 a0 x1 x2 r3 (fun r5 σ4 => ∀ σ6, σ6 = (tw_sA σ4 (tw_R g a0 2) (upd (tw_A σ4 (tw_R g a0 2)) (0 : Int32).toNatClampNeg r5)) → ∃ n28, wl_X5_findBehind_28 g a0 x1 x2 Q (fun σ12 => Q σ12) n28 (1 : Int32) σ6))) ∧ ((x1 = (-1 : Int32)) → wp_X5_goOff g σ a0 x1 x2 (0 : Int32) (fun r14 σ13 => ∀ σ15, σ15 = (tw_sA σ13 (tw_R g a0 2) (upd (tw_A σ13 (tw_R g a0 2)) (0 : Int32).toNatClampNeg r14)) → ∃ n28, wl_X5_findBehind_28 g a0 x1 x2 Q (fun σ16 => Q σ16) n28 (1 : Int32) σ15))
set_option maxHeartbeats 4000000 in
set_option maxRecDepth 100000 in
theorem lp_X5_findBehind_28 {p : Program} {l : Launch} {e : Env} {s : State} {m : MethodId} {args : Array Value} {below : List Frame} {meth : Method} {c : Code} {D : va_G} {g : tw_G} (X : CallFix p m c cX5_findBehind 4 s args wsX5_findBehind RX5) (hr : meth.sig.returnType = none) (hlk : meth.locks = false) (hK : tw_k D g s) (hT : tw_T g) {a0 : Nat} {x1 : Int32} {x2 : Int32} (h0 : tw_is g 5 a0) {Q : tw_S → Prop} {k54 : tw_S → Prop}
    (hk54 : ∀  (σ : tw_S) (H : Heap) (locs : List Loc) (ls : Array Slot), k54  σ → tw_w D g (tw_F g s.heap.size) s σ H locs → lv_has ls 4 [] → W p l e RM_X5_findBehind s m args below meth c H locs 0 0 (tw_Qv Q D g below args s) (F0 m 54 ls []))
    : ∀ (n : Nat) (x3 : Int32) (σ : tw_S) (H : Heap) (locs : List Loc) (ls : Array Slot), wl_X5_findBehind_28 g a0 x1 x2 Q k54 n x3 σ → tw_w D g (tw_F g s.heap.size) s σ H locs → lv_has ls 4 [(0, .ref a0), (1, .int x1), (2, .int x2), (3, .int x3)] → W p l e RM_X5_findBehind s m args below meth c H locs 0 0 (tw_Qv Q D g below args s) (F0 m 28 ls []) := by
  intro n
  induction n with
  | zero =>
    intro x3 σ H locs ls h w hl
    exact False.elim h
  | succ n ih =>
    intro x3 σ H locs ls h w hl
    rw [wl_X5_findBehind_28] at h
    refine lv_iload_n X.1 X.2.1 dX5_findBehind_28 rfl (lv_at hl 3 rfl) ?_
    refine lv_iconst (v := 5) X.1 X.2.1 dX5_findBehind_29 (by decide) ?_
    refine lv_icmp_ge (tgt := 54) X.1 X.2.1 dX5_findBehind_30 (by decide) (fun c7 => ?_) (fun c7 => ?_)
    · have h := h.1 c7
      exact hk54  σ _ _ ls h w (lv_sub hl [] rfl)
    · have h := h.2 c7
      refine lv_aload_n X.1 X.2.1 dX5_findBehind_33 rfl (lv_at hl 0 rfl) ?_
      refine tw_get X hK w 5 iw_X5_findBehind_5 h0 (by decide) rfl 2 (by decide) (List.mem_of_getElem? (i := 1) rfl) rfl dX5_findBehind_34 ?_
      refine lv_iload_n X.1 X.2.1 dX5_findBehind_37 rfl (lv_at hl 3 rfl) ?_
      refine lv_aload_n X.1 X.2.1 dX5_findBehind_38 rfl (lv_at hl 0 rfl) ?_
      refine lv_iload_n X.1 X.2.1 dX5_findBehind_39 rfl (lv_at hl 1 rfl) ?_
      refine lv_iload_n X.1 X.2.1 dX5_findBehind_40 rfl (lv_at hl 2 rfl) ?_
      refine lv_iload_n X.1 X.2.1 dX5_findBehind_41 rfl (lv_at hl 3 rfl) ?_
      refine lv_iconst (v := 1) X.1 X.2.1 dX5_findBehind_42 (by decide) ?_
      refine lv_isub X.1 X.2.1 dX5_findBehind_43 ?_
      refine tw_ci w (va_runV (As := [.int x1, .int x2, .int (x3 - (1 : Int32))]) (rest := [.int x3, .ref (tw_R g a0 2)]) X (ct_X5_goOff l D g hT _ σ a0 h0 x1 x2 (x3 - (1 : Int32)) _ h) (cwV 3 X.2.2.2.2 gX5_findBehind_X5_goOff rfl rfl rfl (by decide +kernel) ⟨Nat.le_of_ble_eq_true rfl, Nat.le_of_ble_eq_true rfl⟩) (tw_preV hK w h0 (by decide) rfl [.int x1, .int x2, .int (x3 - (1 : Int32))]) rfl rfl hl.1 rfl (lv_room (Nat.le_of_ble_eq_true rfl)) dX5_findBehind_44 ⟨Nat.zero_le _, Nat.zero_le _⟩) (fun r9 σ8 H locs h w => ?_)
      obtain ⟨hi10, h⟩ := h
      refine tw_iast X hK w (tw_t_5_2 hT h0) (tw_n_5_2 hT h0) hi10 dX5_findBehind_47 (fun σ11 H locs eσ11 w => ?_)
      have h := h _ eσ11
      refine lv_iinc (v := (x3 + 1)) (lv' := [(3, .int (x3 + 1)), (0, .ref a0), (1, .int x1), (2, .int x2)]) X.1 X.2.1 dX5_findBehind_48 hl (k := 3) rfl rfl (by decide) rfl (fun ls hl => ?_)
      refine lv_goto (tgt := 28) X.1 X.2.1 dX5_findBehind_51 (by decide) ?_
      exact ih (x3 + 1) σ11 _ _ ls h w (lv_sub hl [1, 2, 3, 0] rfl)
set_option maxHeartbeats 4000000 in
set_option maxRecDepth 100000 in
theorem ct_X5_findBehind (l : Launch) (D : va_G) (g : tw_G) (hT : tw_T g) (sz : Nat) (σ : tw_S) (a0 : Nat) (h0 : tw_is g 5 a0) (x1 : Int32) (x2 : Int32) (Q : tw_S → Prop) (h : wp_X5_findBehind g σ a0 x1 x2 Q) : tw_Mv l yX5_findBehind wsX5_findBehind RM_X5_findBehind D g sz σ [.ref a0, .int x1, .int x2] Q := by
  refine Met.ofW (cc := cX5_findBehind) (maxL := 4) (ret := none) (by decide) rfl ?_
  intro p e s m args below meth c s₁ B hml hv
  obtain ⟨rfl, hsz, hP, hK, hD0⟩ := hv
  subst hsz
  have hr := B.returns
  have hlk := B.notSynchronized
  have X : CallFix p m c cX5_findBehind 4 s _ wsX5_findBehind RX5 := ⟨B.exec, B.bytes, hml, findClass_of_methodNamed B.named, atoms_spec (ws := wsX5_findBehind) B.pre⟩
  have w := tw_w0 hP hD0
  have hl := lv_entry ([.ref a0, .int x1, .int x2]) (n := 4) (Nat.le_of_ble_eq_true rfl)
  rw [lg_entry_eq]
  generalize (lg_sl ([.ref a0, .int x1, .int x2]) ++ List.replicate (4 - (lg_sl ([.ref a0, .int x1, .int x2])).length) Slot.unset).toArray = ls at hl ⊢
  have hl : lv_has ls 4 [(0, .ref a0), (1, .int x1), (2, .int x2)] := hl
  unfold wp_X5_findBehind at h
  refine lv_aload_n X.1 X.2.1 dX5_findBehind_0 rfl (lv_at hl 0 rfl) ?_
  refine tw_get X hK w 5 iw_X5_findBehind_5 h0 (by decide) rfl 2 (by decide) (List.mem_of_getElem? (i := 1) rfl) rfl dX5_findBehind_1 ?_
  refine lv_iconst (v := 0) X.1 X.2.1 dX5_findBehind_4 (by decide) ?_
  refine lv_aload_n X.1 X.2.1 dX5_findBehind_5 rfl (lv_at hl 0 rfl) ?_
  refine lv_iload_n X.1 X.2.1 dX5_findBehind_6 rfl (lv_at hl 1 rfl) ?_
  refine lv_iload_n X.1 X.2.1 dX5_findBehind_7 rfl (lv_at hl 2 rfl) ?_
  refine lv_iload_n X.1 X.2.1 dX5_findBehind_8 rfl (lv_at hl 1 rfl) ?_
  refine lv_iconst (v := -1) X.1 X.2.1 dX5_findBehind_9 (by decide) ?_
  refine lv_icmp_ne (tgt := 17) X.1 X.2.1 dX5_findBehind_10 (by decide) (fun c1 => ?_) (fun c1 => ?_)
  · have h := h.1 c1
    refine lv_aload_n X.1 X.2.1 dX5_findBehind_17 rfl (lv_at hl 0 rfl) ?_
    refine lv_iload_n X.1 X.2.1 dX5_findBehind_18 rfl (lv_at hl 1 rfl) ?_
    refine tw_ci w (va_runV (As := [.int x1]) (rest := [.int x2, .int x1, .ref a0, .int (0 : Int32), .ref (tw_R g a0 2)]) X (ct_X5_firstOff l D g hT _ σ a0 h0 x1 _ h) (cwV 1 X.2.2.2.2 gX5_findBehind_X5_firstOff rfl rfl rfl (by decide +kernel) ⟨Nat.le_of_ble_eq_true rfl, Nat.le_of_ble_eq_true rfl⟩) (tw_preV hK w h0 (by decide) rfl [.int x1]) rfl rfl hl.1 rfl (lv_room (Nat.le_of_ble_eq_true rfl)) dX5_findBehind_19 ⟨Nat.zero_le _, Nat.zero_le _⟩) (fun r3 σ2 H locs h w => ?_)
    refine tw_ci w (va_runV (As := [.int x1, .int x2, .int r3]) (rest := [.int (0 : Int32), .ref (tw_R g a0 2)]) X (ct_X5_goOff l D g hT _ σ2 a0 h0 x1 x2 r3 _ h) (cwV 3 X.2.2.2.2 gX5_findBehind_X5_goOff rfl rfl rfl (by decide +kernel) ⟨Nat.le_of_ble_eq_true rfl, Nat.le_of_ble_eq_true rfl⟩) (tw_preV hK w h0 (by decide) rfl [.int x1, .int x2, .int r3]) rfl rfl hl.1 rfl (lv_room (Nat.le_of_ble_eq_true rfl)) dX5_findBehind_22 ⟨Nat.zero_le _, Nat.zero_le _⟩) (fun r5 σ4 H locs h w => ?_)
    refine tw_iast X hK w (tw_t_5_2 hT h0) (tw_n_5_2 hT h0) (by unfold vp_in; decide) dX5_findBehind_25 (fun σ6 H locs eσ6 w => ?_)
    have h := h _ eσ6
    refine lv_iconst (v := 1) X.1 X.2.1 dX5_findBehind_26 (by decide) ?_
    refine lv_istore_n (lv' := [(3, .int (1 : Int32)), (0, .ref a0), (1, .int x1), (2, .int x2)]) X.1 X.2.1 dX5_findBehind_27 rfl hl (by decide) rfl (fun ls hl => ?_)
    obtain ⟨n28, h⟩ := h
    refine lp_X5_findBehind_28 X hr hlk hK hT h0 (fun σ12 H locs ls h w hl => ?_) n28 (1 : Int32) σ6 _ _ ls h w (lv_sub hl [1, 2, 3, 0] rfl)
    · skip
      exact tw_vret X hr hlk w h dX5_findBehind_54
  · have h := h.2 c1
    refine lv_iconst (v := 0) X.1 X.2.1 dX5_findBehind_13 (by decide) ?_
    refine lv_goto (tgt := 22) X.1 X.2.1 dX5_findBehind_14 (by decide) ?_
    refine tw_ci w (va_runV (As := [.int x1, .int x2, .int (0 : Int32)]) (rest := [.int (0 : Int32), .ref (tw_R g a0 2)]) X (ct_X5_goOff l D g hT _ σ a0 h0 x1 x2 (0 : Int32) _ h) (cwV 3 X.2.2.2.2 gX5_findBehind_X5_goOff rfl rfl rfl (by decide +kernel) ⟨Nat.le_of_ble_eq_true rfl, Nat.le_of_ble_eq_true rfl⟩) (tw_preV hK w h0 (by decide) rfl [.int x1, .int x2, .int (0 : Int32)]) rfl rfl hl.1 rfl (lv_room (Nat.le_of_ble_eq_true rfl)) dX5_findBehind_22 ⟨Nat.zero_le _, Nat.zero_le _⟩) (fun r14 σ13 H locs h w => ?_)
    refine tw_iast X hK w (tw_t_5_2 hT h0) (tw_n_5_2 hT h0) (by unfold vp_in; decide) dX5_findBehind_25 (fun σ15 H locs eσ15 w => ?_)
    have h := h _ eσ15
    refine lv_iconst (v := 1) X.1 X.2.1 dX5_findBehind_26 (by decide) ?_
    refine lv_istore_n (lv' := [(3, .int (1 : Int32)), (0, .ref a0), (1, .int x1), (2, .int x2)]) X.1 X.2.1 dX5_findBehind_27 rfl hl (by decide) rfl (fun ls hl => ?_)
    obtain ⟨n28, h⟩ := h
    refine lp_X5_findBehind_28 X hr hlk hK hT h0 (fun σ16 H locs ls h w hl => ?_) n28 (1 : Int32) σ15 _ _ ls h w (lv_sub hl [1, 2, 3, 0] rfl)
    · skip
      exact tw_vret X hr hlk w h dX5_findBehind_54

abbrev RM_X9_here : Room := { frames := 0, cells := 0, slots := 0, locals := 0 }
theorem iw_X9_here_9 : ∀ w ∈ wsX90, w ∈ wsX9_here := fun w h => List.mem_cons_of_mem _ (List.mem_append_right _ (h))
def wl_X9_here_0 (g : tw_G) (a0 : Nat) (Q : Int32 → tw_S → Prop) (k38 : tw_S → Prop) : Nat → tw_S → Prop
  | 0, _ => False
  | n + 1, σ => (((tw_I σ a0 2) ≤ (tw_I σ a0 3)) → k38  σ) ∧ (¬ ((tw_I σ a0 2) ≤ (tw_I σ a0 3)) → vp_in (tw_I σ a0 3) 240 ∧ ((¬ (tw_A σ (tw_R g a0 1) (tw_I σ a0 3).toNatClampNeg) = (32 : Int32)) → k38  σ) ∧ (((tw_A σ (tw_R g a0 1) (tw_I σ a0 3).toNatClampNeg) = (32 : Int32)) → ∀ σ4, σ4 = (tw_sI σ a0 3 ((tw_I σ a0 3) + (1 : Int32))) → wl_X9_here_0 g a0 Q k38 n  σ4))
def wp_X9_here (g : tw_G) (σ : tw_S) (a0 : Nat) (Q : Int32 → tw_S → Prop) : Prop := ∃ n0, wl_X9_here_0 g a0 Q (fun σ5 => (((tw_I σ5 a0 2) ≤ (tw_I σ5 a0 3)) → Q (-1 : Int32) σ5) ∧ (¬ ((tw_I σ5 a0 2) ≤ (tw_I σ5 a0 3)) → vp_in (tw_I σ5 a0 3) 240 ∧ Q (tw_A σ5 (tw_R g a0 1) (tw_I σ5 a0 3).toNatClampNeg) σ5)) n0  σ
set_option maxHeartbeats 4000000 in
set_option maxRecDepth 100000 in
theorem lp_X9_here_0 {p : Program} {l : Launch} {e : Env} {s : State} {m : MethodId} {args : Array Value} {below : List Frame} {meth : Method} {c : Code} {D : va_G} {g : tw_G} (X : CallFix p m c cX9_here 1 s args wsX9_here RX9) (hr : meth.sig.returnType = (some .int)) (hlk : meth.locks = false) (hK : tw_k D g s) (hT : tw_T g) {a0 : Nat} (h0 : tw_is g 9 a0) {Q : Int32 → tw_S → Prop} {k38 : tw_S → Prop}
    (hk38 : ∀  (σ : tw_S) (H : Heap) (locs : List Loc) (ls : Array Slot), k38  σ → tw_w D g (tw_F g s.heap.size) s σ H locs → lv_has ls 1 [(0, .ref a0)] → W p l e RM_X9_here s m args below meth c H locs 0 0 (tw_Qi Q D g below args s) (F0 m 38 ls []))
    : ∀ (n : Nat)  (σ : tw_S) (H : Heap) (locs : List Loc) (ls : Array Slot), wl_X9_here_0 g a0 Q k38 n  σ → tw_w D g (tw_F g s.heap.size) s σ H locs → lv_has ls 1 [(0, .ref a0)] → W p l e RM_X9_here s m args below meth c H locs 0 0 (tw_Qi Q D g below args s) (F0 m 0 ls []) := by
  intro n
  induction n with
  | zero =>
    intro  σ H locs ls h w hl
    exact False.elim h
  | succ n ih =>
    intro  σ H locs ls h w hl
    rw [wl_X9_here_0] at h
    refine lv_aload_n X.1 X.2.1 dX9_here_0 rfl (lv_at hl 0 rfl) ?_
    refine tw_get X hK w 9 iw_X9_here_9 h0 (by decide) rfl 3 (by decide) (List.mem_of_getElem? (i := 1) rfl) rfl dX9_here_1 ?_
    refine lv_aload_n X.1 X.2.1 dX9_here_4 rfl (lv_at hl 0 rfl) ?_
    refine tw_get X hK w 9 iw_X9_here_9 h0 (by decide) rfl 2 (by decide) (List.mem_of_getElem? (i := 2) rfl) rfl dX9_here_5 ?_
    refine lv_icmp_ge (tgt := 38) X.1 X.2.1 dX9_here_8 (by decide) (fun c1 => ?_) (fun c1 => ?_)
    · have h := h.1 c1
      exact hk38  σ _ _ ls h w (lv_sub hl [0] rfl)
    · have h := h.2 c1
      refine lv_aload_n X.1 X.2.1 dX9_here_11 rfl (lv_at hl 0 rfl) ?_
      refine tw_get X hK w 9 iw_X9_here_9 h0 (by decide) rfl 1 (by decide) (List.mem_of_getElem? (i := 3) rfl) rfl dX9_here_12 ?_
      refine lv_aload_n X.1 X.2.1 dX9_here_15 rfl (lv_at hl 0 rfl) ?_
      refine tw_get X hK w 9 iw_X9_here_9 h0 (by decide) rfl 3 (by decide) (List.mem_of_getElem? (i := 1) rfl) rfl dX9_here_16 ?_
      obtain ⟨hi2, h⟩ := h
      refine tw_iald X hK w (tw_t_9_1 hT h0) (tw_n_9_1 hT h0) hi2 dX9_here_19 ?_
      refine lv_bipush (v := 32) X.1 X.2.1 dX9_here_20 (by decide) ?_
      refine lv_icmp_ne (tgt := 38) X.1 X.2.1 dX9_here_22 (by decide) (fun c3 => ?_) (fun c3 => ?_)
      · have h := h.1 c3
        exact hk38  σ _ _ ls h w (lv_sub hl [0] rfl)
      · have h := h.2 c3
        refine lv_aload_n X.1 X.2.1 dX9_here_25 rfl (lv_at hl 0 rfl) ?_
        refine lv_dup X.1 X.2.1 dX9_here_26 rfl ?_
        refine tw_get X hK w 9 iw_X9_here_9 h0 (by decide) rfl 3 (by decide) (List.mem_of_getElem? (i := 1) rfl) rfl dX9_here_27 ?_
        refine lv_iconst (v := 1) X.1 X.2.1 dX9_here_30 (by decide) ?_
        refine lv_iadd X.1 X.2.1 dX9_here_31 ?_
        refine tw_putI X hK w 9 iw_X9_here_9 tyX9 tyX9_ok nmX9 h0 (by decide) rfl 3 (by decide) (List.mem_of_getElem? (i := 1) rfl) rfl (ty := .int) (by decide +kernel) rfl rfl (Nat.le_of_ble_eq_true rfl) (tw_f_9_3 g _ _ _) dX9_here_32 (fun σ4 H locs eσ4 w => ?_)
        have h := h _ eσ4
        refine lv_goto (tgt := 0) X.1 X.2.1 dX9_here_35 (by decide) ?_
        exact ih  σ4 _ _ ls h w (lv_sub hl [0] rfl)
set_option maxHeartbeats 4000000 in
set_option maxRecDepth 100000 in
theorem ct_X9_here (l : Launch) (D : va_G) (g : tw_G) (hT : tw_T g) (sz : Nat) (σ : tw_S) (a0 : Nat) (h0 : tw_is g 9 a0) (Q : Int32 → tw_S → Prop) (h : wp_X9_here g σ a0 Q) : tw_Mi l yX9_here wsX9_here RM_X9_here D g sz σ [.ref a0] Q := by
  refine Met.ofW (cc := cX9_here) (maxL := 1) (ret := (some .int)) (by decide) rfl ?_
  intro p e s m args below meth c s₁ B hml hv
  obtain ⟨rfl, hsz, hP, hK, hD0⟩ := hv
  subst hsz
  have hr := B.returns
  have hlk := B.notSynchronized
  have X : CallFix p m c cX9_here 1 s _ wsX9_here RX9 := ⟨B.exec, B.bytes, hml, findClass_of_methodNamed B.named, atoms_spec (ws := wsX9_here) B.pre⟩
  have w := tw_w0 hP hD0
  have hl := lv_entry ([.ref a0]) (n := 1) (Nat.le_of_ble_eq_true rfl)
  rw [lg_entry_eq]
  generalize (lg_sl ([.ref a0]) ++ List.replicate (1 - (lg_sl ([.ref a0])).length) Slot.unset).toArray = ls at hl ⊢
  have hl : lv_has ls 1 [(0, .ref a0)] := hl
  unfold wp_X9_here at h
  obtain ⟨n0, h⟩ := h
  refine lp_X9_here_0 X hr hlk hK hT h0 (fun σ5 H locs ls h w hl => ?_) n0  σ _ _ ls h w (lv_sub hl [0] rfl)
  · skip
    refine lv_aload_n X.1 X.2.1 dX9_here_38 rfl (lv_at hl 0 rfl) ?_
    refine tw_get X hK w 9 iw_X9_here_9 h0 (by decide) rfl 3 (by decide) (List.mem_of_getElem? (i := 1) rfl) rfl dX9_here_39 ?_
    refine lv_aload_n X.1 X.2.1 dX9_here_42 rfl (lv_at hl 0 rfl) ?_
    refine tw_get X hK w 9 iw_X9_here_9 h0 (by decide) rfl 2 (by decide) (List.mem_of_getElem? (i := 2) rfl) rfl dX9_here_43 ?_
    refine lv_icmp_ge (tgt := 61) X.1 X.2.1 dX9_here_46 (by decide) (fun c6 => ?_) (fun c6 => ?_)
    · have h := h.1 c6
      refine lv_iconst (v := -1) X.1 X.2.1 dX9_here_61 (by decide) ?_
      exact tw_iret X hr hlk w h dX9_here_62
    · have h := h.2 c6
      refine lv_aload_n X.1 X.2.1 dX9_here_49 rfl (lv_at hl 0 rfl) ?_
      refine tw_get X hK w 9 iw_X9_here_9 h0 (by decide) rfl 1 (by decide) (List.mem_of_getElem? (i := 3) rfl) rfl dX9_here_50 ?_
      refine lv_aload_n X.1 X.2.1 dX9_here_53 rfl (lv_at hl 0 rfl) ?_
      refine tw_get X hK w 9 iw_X9_here_9 h0 (by decide) rfl 3 (by decide) (List.mem_of_getElem? (i := 1) rfl) rfl dX9_here_54 ?_
      obtain ⟨hi7, h⟩ := h
      refine tw_iald X hK w (tw_t_9_1 hT h0) (tw_n_9_1 hT h0) hi7 dX9_here_57 ?_
      refine lv_goto (tgt := 62) X.1 X.2.1 dX9_here_58 (by decide) ?_
      exact tw_iret X hr hlk w h dX9_here_62

abbrev RM_X9_in : Room := { frames := 0, cells := 0, slots := 0, locals := 0 }
def wp_X9_in (g : tw_G) (σ : tw_S) (x0 : Int64) (x2 : Int64) (x4 : Int64) (Q : Int32 → tw_S → Prop) : Prop := (((lg_cmp x0 x2) < 0) → Q (0 : Int32) σ) ∧ (¬ ((lg_cmp x0 x2) < 0) → ((0 < (lg_cmp x0 x4)) → Q (0 : Int32) σ) ∧ (¬ (0 < (lg_cmp x0 x4)) → Q (1 : Int32) σ))
set_option maxHeartbeats 4000000 in
set_option maxRecDepth 100000 in
theorem ct_X9_in (l : Launch) (D : va_G) (g : tw_G) (hT : tw_T g) (sz : Nat) (σ : tw_S) (x0 : Int64) (x2 : Int64) (x4 : Int64) (Q : Int32 → tw_S → Prop) (h : wp_X9_in g σ x0 x2 x4 Q) : tw_Mi l yX9_in wsX9_in RM_X9_in D g sz σ [.long x0, .long x2, .long x4] Q := by
  refine Met.ofW (cc := cX9_in) (maxL := 6) (ret := (some .boolean)) (by decide) rfl ?_
  intro p e s m args below meth c s₁ B hml hv
  obtain ⟨rfl, hsz, hP, hK, hD0⟩ := hv
  subst hsz
  have hr := B.returns
  have hlk := B.notSynchronized
  have X : CallFix p m c cX9_in 6 s _ wsX9_in RX9 := ⟨B.exec, B.bytes, hml, findClass_of_methodNamed B.named, atoms_spec (ws := wsX9_in) B.pre⟩
  have w := tw_w0 hP hD0
  have hl := lv_entry ([.long x0, .long x2, .long x4]) (n := 6) (Nat.le_of_ble_eq_true rfl)
  rw [lg_entry_eq]
  generalize (lg_sl ([.long x0, .long x2, .long x4]) ++ List.replicate (6 - (lg_sl ([.long x0, .long x2, .long x4])).length) Slot.unset).toArray = ls at hl ⊢
  have hl : lv_has ls 6 [(0, .long x0), (2, .long x2), (4, .long x4)] := hl
  unfold wp_X9_in at h
  refine lv_lload_n X.1 X.2.1 dX9_in_0 rfl (lv_at hl 0 rfl) ?_
  refine lv_lload_n X.1 X.2.1 dX9_in_1 rfl (lv_at hl 1 rfl) ?_
  refine W.lcmp X.1 X.2.1 dX9_in_2 ?_
  refine lv_if_lt (tgt := 17) X.1 X.2.1 dX9_in_3 (by decide) (fun c1 => ?_) (fun c1 => ?_)
  · have h := h.1 c1
    refine lv_iconst (v := 0) X.1 X.2.1 dX9_in_17 (by decide) ?_
    exact tw_zret X hr hlk w (by decide) h dX9_in_18
  · have h := h.2 c1
    refine lv_lload_n X.1 X.2.1 dX9_in_6 rfl (lv_at hl 0 rfl) ?_
    refine lv_lload X.1 X.2.1 dX9_in_7 (lv_at hl 2 rfl) ?_
    refine W.lcmp X.1 X.2.1 dX9_in_9 ?_
    refine lv_if_gt (tgt := 17) X.1 X.2.1 dX9_in_10 (by decide) (fun c2 => ?_) (fun c2 => ?_)
    · have h := h.1 c2
      refine lv_iconst (v := 0) X.1 X.2.1 dX9_in_17 (by decide) ?_
      exact tw_zret X hr hlk w (by decide) h dX9_in_18
    · have h := h.2 c2
      refine lv_iconst (v := 1) X.1 X.2.1 dX9_in_13 (by decide) ?_
      refine lv_goto (tgt := 18) X.1 X.2.1 dX9_in_14 (by decide) ?_
      exact tw_zret X hr hlk w (by decide) h dX9_in_18

abbrev RM_X9_lots : Room := { frames := 0, cells := 0, slots := 0, locals := 0 }
theorem iw_X9_lots_9 : ∀ w ∈ wsX90, w ∈ wsX9_lots := fun w h => List.mem_cons_of_mem _ (List.mem_append_right _ (h))
def wp_X9_lots (g : tw_G) (σ : tw_S) (a0 : Nat) (x1 : Int32) (Q : Int32 → tw_S → Prop) : Prop := ∀ z1, z1 = (((tw_J σ a0 10) * (16807 : Int64)) - ((tw_J σ a0 10) * (16807 : Int64)) / (2147483647 : Int64) * (2147483647 : Int64)) → ∀ σ2, σ2 = (tw_sJ σ a0 10 z1) → ¬ (x1.toInt64) = 0 ∧ ∀ z3, z3 = ((tw_J σ2 a0 10) - (tw_J σ2 a0 10) / (x1.toInt64) * (x1.toInt64)) → Q (z3.toInt32) σ2
set_option maxHeartbeats 4000000 in
set_option maxRecDepth 100000 in
theorem ct_X9_lots (l : Launch) (D : va_G) (g : tw_G) (hT : tw_T g) (sz : Nat) (σ : tw_S) (a0 : Nat) (h0 : tw_is g 9 a0) (x1 : Int32) (Q : Int32 → tw_S → Prop) (h : wp_X9_lots g σ a0 x1 Q) : tw_Mi l yX9_lots wsX9_lots RM_X9_lots D g sz σ [.ref a0, .int x1] Q := by
  refine Met.ofW (cc := cX9_lots) (maxL := 2) (ret := (some .int)) (by decide) rfl ?_
  intro p e s m args below meth c s₁ B hml hv
  obtain ⟨rfl, hsz, hP, hK, hD0⟩ := hv
  subst hsz
  have hr := B.returns
  have hlk := B.notSynchronized
  have X : CallFix p m c cX9_lots 2 s _ wsX9_lots RX9 := ⟨B.exec, B.bytes, hml, findClass_of_methodNamed B.named, atoms_spec (ws := wsX9_lots) B.pre⟩
  have w := tw_w0 hP hD0
  have hl := lv_entry ([.ref a0, .int x1]) (n := 2) (Nat.le_of_ble_eq_true rfl)
  rw [lg_entry_eq]
  generalize (lg_sl ([.ref a0, .int x1]) ++ List.replicate (2 - (lg_sl ([.ref a0, .int x1])).length) Slot.unset).toArray = ls at hl ⊢
  have hl : lv_has ls 2 [(0, .ref a0), (1, .int x1)] := hl
  unfold wp_X9_lots at h
  refine lv_aload_n X.1 X.2.1 dX9_lots_0 rfl (lv_at hl 0 rfl) ?_
  refine lv_aload_n X.1 X.2.1 dX9_lots_1 rfl (lv_at hl 0 rfl) ?_
  refine tw_get X hK w 9 iw_X9_lots_9 h0 (by decide) rfl 10 (by decide) (List.mem_of_getElem? (i := 1) rfl) rfl dX9_lots_2 ?_
  refine lv_ldc2 (own := RX9) (v := 16807) X.1 X.2.1 X.2.2.2.1 (X.2.2.2.2 _ (List.mem_of_getElem? (i := 2) rfl)) dX9_lots_5 ?_
  refine lv_lmul X.1 X.2.1 dX9_lots_8 ?_
  refine lv_ldc2 (own := RX9) (v := 2147483647) X.1 X.2.1 X.2.2.2.1 (X.2.2.2.2 _ (List.mem_of_getElem? (i := 3) rfl)) dX9_lots_9 ?_
  refine lv_lrem X.1 X.2.1 dX9_lots_12 (by decide) ?_
  refine lv_topl (fun z1 ez1 => ?_)
  have h := h _ ez1
  refine tw_putJ X hK w 9 iw_X9_lots_9 tyX9 tyX9_ok nmX9 h0 (by decide) rfl 10 (by decide) (List.mem_of_getElem? (i := 1) rfl) rfl (ty := .long) (by decide +kernel) rfl rfl (Nat.le_of_ble_eq_true rfl) (tw_f_9_10 g _ _ _) dX9_lots_13 (fun σ2 H locs eσ2 w => ?_)
  have h := h _ eσ2
  refine lv_aload_n X.1 X.2.1 dX9_lots_16 rfl (lv_at hl 0 rfl) ?_
  refine tw_get X hK w 9 iw_X9_lots_9 h0 (by decide) rfl 10 (by decide) (List.mem_of_getElem? (i := 1) rfl) rfl dX9_lots_17 ?_
  refine lv_iload_n X.1 X.2.1 dX9_lots_20 rfl (lv_at hl 1 rfl) ?_
  refine lv_i2l (v := (x1.toInt64)) X.1 X.2.1 dX9_lots_21 rfl ?_
  obtain ⟨hne, h⟩ := h
  refine lv_lrem X.1 X.2.1 dX9_lots_22 hne ?_
  refine lv_topl (fun z3 ez3 => ?_)
  have h := h _ ez3
  refine lv_l2i (v := (z3.toInt32)) X.1 X.2.1 dX9_lots_23 rfl ?_
  exact tw_iret X hr hlk w h dX9_lots_24

abbrev RM_X9_signAt : Room := { frames := 0, cells := 0, slots := 0, locals := 0 }
theorem iw_X9_signAt_9 : ∀ w ∈ wsX90, w ∈ wsX9_signAt := fun w h => List.mem_cons_of_mem _ (List.mem_append_right _ (h))
def wp_X9_signAt (g : tw_G) (σ : tw_S) (a0 : Nat) (x1 : Int32) (Q : Int32 → tw_S → Prop) : Prop := ((¬ x1 = 0) → ((¬ x1 = ((tw_I σ a0 12) + (1 : Int32))) → vp_in (x1 - (1 : Int32)) 24 ∧ Q (tw_A σ (tw_R g a0 11) (x1 - (1 : Int32)).toNatClampNeg) σ) ∧ ((x1 = ((tw_I σ a0 12) + (1 : Int32))) → Q (3 : Int32) σ)) ∧ ((x1 = 0) → Q (2 : Int32) σ)
set_option maxHeartbeats 4000000 in
set_option maxRecDepth 100000 in
theorem ct_X9_signAt (l : Launch) (D : va_G) (g : tw_G) (hT : tw_T g) (sz : Nat) (σ : tw_S) (a0 : Nat) (h0 : tw_is g 9 a0) (x1 : Int32) (Q : Int32 → tw_S → Prop) (h : wp_X9_signAt g σ a0 x1 Q) : tw_Mi l yX9_signAt wsX9_signAt RM_X9_signAt D g sz σ [.ref a0, .int x1] Q := by
  refine Met.ofW (cc := cX9_signAt) (maxL := 2) (ret := (some .int)) (by decide) rfl ?_
  intro p e s m args below meth c s₁ B hml hv
  obtain ⟨rfl, hsz, hP, hK, hD0⟩ := hv
  subst hsz
  have hr := B.returns
  have hlk := B.notSynchronized
  have X : CallFix p m c cX9_signAt 2 s _ wsX9_signAt RX9 := ⟨B.exec, B.bytes, hml, findClass_of_methodNamed B.named, atoms_spec (ws := wsX9_signAt) B.pre⟩
  have w := tw_w0 hP hD0
  have hl := lv_entry ([.ref a0, .int x1]) (n := 2) (Nat.le_of_ble_eq_true rfl)
  rw [lg_entry_eq]
  generalize (lg_sl ([.ref a0, .int x1]) ++ List.replicate (2 - (lg_sl ([.ref a0, .int x1])).length) Slot.unset).toArray = ls at hl ⊢
  have hl : lv_has ls 2 [(0, .ref a0), (1, .int x1)] := hl
  unfold wp_X9_signAt at h
  refine lv_iload_n X.1 X.2.1 dX9_signAt_0 rfl (lv_at hl 1 rfl) ?_
  refine lv_if_ne (tgt := 8) X.1 X.2.1 dX9_signAt_1 (by decide) (fun c1 => ?_) (fun c1 => ?_)
  · have h := h.1 c1
    refine lv_iload_n X.1 X.2.1 dX9_signAt_8 rfl (lv_at hl 1 rfl) ?_
    refine lv_aload_n X.1 X.2.1 dX9_signAt_9 rfl (lv_at hl 0 rfl) ?_
    refine tw_get X hK w 9 iw_X9_signAt_9 h0 (by decide) rfl 12 (by decide) (List.mem_of_getElem? (i := 1) rfl) rfl dX9_signAt_10 ?_
    refine lv_iconst (v := 1) X.1 X.2.1 dX9_signAt_13 (by decide) ?_
    refine lv_iadd X.1 X.2.1 dX9_signAt_14 ?_
    refine lv_icmp_ne (tgt := 22) X.1 X.2.1 dX9_signAt_15 (by decide) (fun c2 => ?_) (fun c2 => ?_)
    · have h := h.1 c2
      refine lv_aload_n X.1 X.2.1 dX9_signAt_22 rfl (lv_at hl 0 rfl) ?_
      refine tw_get X hK w 9 iw_X9_signAt_9 h0 (by decide) rfl 11 (by decide) (List.mem_of_getElem? (i := 2) rfl) rfl dX9_signAt_23 ?_
      refine lv_iload_n X.1 X.2.1 dX9_signAt_26 rfl (lv_at hl 1 rfl) ?_
      refine lv_iconst (v := 1) X.1 X.2.1 dX9_signAt_27 (by decide) ?_
      refine lv_isub X.1 X.2.1 dX9_signAt_28 ?_
      obtain ⟨hi3, h⟩ := h
      refine tw_iald X hK w (tw_t_9_11 hT h0) (tw_n_9_11 hT h0) hi3 dX9_signAt_29 ?_
      exact tw_iret X hr hlk w h dX9_signAt_30
    · have h := h.2 c2
      refine lv_iconst (v := 3) X.1 X.2.1 dX9_signAt_18 (by decide) ?_
      refine lv_goto (tgt := 30) X.1 X.2.1 dX9_signAt_19 (by decide) ?_
      exact tw_iret X hr hlk w h dX9_signAt_30
  · have h := h.2 c1
    refine lv_iconst (v := 2) X.1 X.2.1 dX9_signAt_4 (by decide) ?_
    refine lv_goto (tgt := 30) X.1 X.2.1 dX9_signAt_5 (by decide) ?_
    exact tw_iret X hr hlk w h dX9_signAt_30

abbrev RM_X9_at : Room := { frames := 0, cells := 0, slots := 0, locals := 0 }
def wp_X9_at (g : tw_G) (σ : tw_S) (a0 : Nat) (x1 : Int32) (x2 : Int32) (Q : Int32 → tw_S → Prop) : Prop := Q (((151 : Int32) * x1) + x2) σ
set_option maxHeartbeats 4000000 in
set_option maxRecDepth 100000 in
theorem ct_X9_at (l : Launch) (D : va_G) (g : tw_G) (hT : tw_T g) (sz : Nat) (σ : tw_S) (a0 : Nat) (h0 : tw_is g 9 a0) (x1 : Int32) (x2 : Int32) (Q : Int32 → tw_S → Prop) (h : wp_X9_at g σ a0 x1 x2 Q) : tw_Mi l yX9_at wsX9_at RM_X9_at D g sz σ [.ref a0, .int x1, .int x2] Q := by
  refine Met.ofW (cc := cX9_at) (maxL := 3) (ret := (some .int)) (by decide) rfl ?_
  intro p e s m args below meth c s₁ B hml hv
  obtain ⟨rfl, hsz, hP, hK, hD0⟩ := hv
  subst hsz
  have hr := B.returns
  have hlk := B.notSynchronized
  have X : CallFix p m c cX9_at 3 s _ wsX9_at RX9 := ⟨B.exec, B.bytes, hml, findClass_of_methodNamed B.named, atoms_spec (ws := wsX9_at) B.pre⟩
  have w := tw_w0 hP hD0
  have hl := lv_entry ([.ref a0, .int x1, .int x2]) (n := 3) (Nat.le_of_ble_eq_true rfl)
  rw [lg_entry_eq]
  generalize (lg_sl ([.ref a0, .int x1, .int x2]) ++ List.replicate (3 - (lg_sl ([.ref a0, .int x1, .int x2])).length) Slot.unset).toArray = ls at hl ⊢
  have hl : lv_has ls 3 [(0, .ref a0), (1, .int x1), (2, .int x2)] := hl
  unfold wp_X9_at at h
  refine lv_sipush (v := 151) X.1 X.2.1 dX9_at_0 (by decide) ?_
  refine lv_iload_n X.1 X.2.1 dX9_at_3 rfl (lv_at hl 1 rfl) ?_
  refine lv_imul X.1 X.2.1 dX9_at_4 ?_
  refine lv_iload_n X.1 X.2.1 dX9_at_5 rfl (lv_at hl 2 rfl) ?_
  refine lv_iadd X.1 X.2.1 dX9_at_6 ?_
  exact tw_iret X hr hlk w h dX9_at_7

abbrev RM_X9_isBy : Room := { frames := 0, cells := 0, slots := 0, locals := 0 }
def wp_X9_isBy (g : tw_G) (σ : tw_S) (x0 : Int32) (x1 : Int32) (x2 : Int32) (Q : Int32 → tw_S → Prop) : Prop := ((¬ x0 = 0) → ((¬ x0 = (1 : Int32)) → ((¬ x0 = (2 : Int32)) → ((x1 = x2) → Q (0 : Int32) σ) ∧ (¬ (x1 = x2) → Q (1 : Int32) σ)) ∧ ((x0 = (2 : Int32)) → ((¬ x1 = (1 : Int32)) → Q (0 : Int32) σ) ∧ ((x1 = (1 : Int32)) → ((¬ x2 = 0) → Q (0 : Int32) σ) ∧ ((x2 = 0) → Q (1 : Int32) σ)))) ∧ ((x0 = (1 : Int32)) → (((x1 + x2) ≤ 0) → Q (0 : Int32) σ) ∧ (¬ ((x1 + x2) ≤ 0) → Q (1 : Int32) σ))) ∧ ((x0 = 0) → ((¬ (x1 + x2) = (2 : Int32)) → Q (0 : Int32) σ) ∧ (((x1 + x2) = (2 : Int32)) → Q (1 : Int32) σ))
set_option maxHeartbeats 4000000 in
set_option maxRecDepth 100000 in
theorem ct_X9_isBy (l : Launch) (D : va_G) (g : tw_G) (hT : tw_T g) (sz : Nat) (σ : tw_S) (x0 : Int32) (x1 : Int32) (x2 : Int32) (Q : Int32 → tw_S → Prop) (h : wp_X9_isBy g σ x0 x1 x2 Q) : tw_Mi l yX9_isBy wsX9_isBy RM_X9_isBy D g sz σ [.int x0, .int x1, .int x2] Q := by
  refine Met.ofW (cc := cX9_isBy) (maxL := 3) (ret := (some .boolean)) (by decide) rfl ?_
  intro p e s m args below meth c s₁ B hml hv
  obtain ⟨rfl, hsz, hP, hK, hD0⟩ := hv
  subst hsz
  have hr := B.returns
  have hlk := B.notSynchronized
  have X : CallFix p m c cX9_isBy 3 s _ wsX9_isBy RX9 := ⟨B.exec, B.bytes, hml, findClass_of_methodNamed B.named, atoms_spec (ws := wsX9_isBy) B.pre⟩
  have w := tw_w0 hP hD0
  have hl := lv_entry ([.int x0, .int x1, .int x2]) (n := 3) (Nat.le_of_ble_eq_true rfl)
  rw [lg_entry_eq]
  generalize (lg_sl ([.int x0, .int x1, .int x2]) ++ List.replicate (3 - (lg_sl ([.int x0, .int x1, .int x2])).length) Slot.unset).toArray = ls at hl ⊢
  have hl : lv_has ls 3 [(0, .int x0), (1, .int x1), (2, .int x2)] := hl
  unfold wp_X9_isBy at h
  refine lv_iload_n X.1 X.2.1 dX9_isBy_0 rfl (lv_at hl 0 rfl) ?_
  refine lv_if_ne (tgt := 19) X.1 X.2.1 dX9_isBy_1 (by decide) (fun c1 => ?_) (fun c1 => ?_)
  · have h := h.1 c1
    refine lv_iload_n X.1 X.2.1 dX9_isBy_19 rfl (lv_at hl 0 rfl) ?_
    refine lv_iconst (v := 1) X.1 X.2.1 dX9_isBy_20 (by decide) ?_
    refine lv_icmp_ne (tgt := 38) X.1 X.2.1 dX9_isBy_21 (by decide) (fun c2 => ?_) (fun c2 => ?_)
    · have h := h.1 c2
      refine lv_iload_n X.1 X.2.1 dX9_isBy_38 rfl (lv_at hl 0 rfl) ?_
      refine lv_iconst (v := 2) X.1 X.2.1 dX9_isBy_39 (by decide) ?_
      refine lv_icmp_ne (tgt := 60) X.1 X.2.1 dX9_isBy_40 (by decide) (fun c3 => ?_) (fun c3 => ?_)
      · have h := h.1 c3
        refine lv_iload_n X.1 X.2.1 dX9_isBy_60 rfl (lv_at hl 1 rfl) ?_
        refine lv_iload_n X.1 X.2.1 dX9_isBy_61 rfl (lv_at hl 2 rfl) ?_
        refine lv_icmp_eq (tgt := 69) X.1 X.2.1 dX9_isBy_62 (by decide) (fun c4 => ?_) (fun c4 => ?_)
        · have h := h.1 c4
          refine lv_iconst (v := 0) X.1 X.2.1 dX9_isBy_69 (by decide) ?_
          exact tw_zret X hr hlk w (by decide) h dX9_isBy_70
        · have h := h.2 c4
          refine lv_iconst (v := 1) X.1 X.2.1 dX9_isBy_65 (by decide) ?_
          refine lv_goto (tgt := 70) X.1 X.2.1 dX9_isBy_66 (by decide) ?_
          exact tw_zret X hr hlk w (by decide) h dX9_isBy_70
      · have h := h.2 c3
        refine lv_iload_n X.1 X.2.1 dX9_isBy_43 rfl (lv_at hl 1 rfl) ?_
        refine lv_iconst (v := 1) X.1 X.2.1 dX9_isBy_44 (by decide) ?_
        refine lv_icmp_ne (tgt := 56) X.1 X.2.1 dX9_isBy_45 (by decide) (fun c5 => ?_) (fun c5 => ?_)
        · have h := h.1 c5
          refine lv_iconst (v := 0) X.1 X.2.1 dX9_isBy_56 (by decide) ?_
          refine lv_goto (tgt := 70) X.1 X.2.1 dX9_isBy_57 (by decide) ?_
          exact tw_zret X hr hlk w (by decide) h dX9_isBy_70
        · have h := h.2 c5
          refine lv_iload_n X.1 X.2.1 dX9_isBy_48 rfl (lv_at hl 2 rfl) ?_
          refine lv_if_ne (tgt := 56) X.1 X.2.1 dX9_isBy_49 (by decide) (fun c6 => ?_) (fun c6 => ?_)
          · have h := h.1 c6
            refine lv_iconst (v := 0) X.1 X.2.1 dX9_isBy_56 (by decide) ?_
            refine lv_goto (tgt := 70) X.1 X.2.1 dX9_isBy_57 (by decide) ?_
            exact tw_zret X hr hlk w (by decide) h dX9_isBy_70
          · have h := h.2 c6
            refine lv_iconst (v := 1) X.1 X.2.1 dX9_isBy_52 (by decide) ?_
            refine lv_goto (tgt := 70) X.1 X.2.1 dX9_isBy_53 (by decide) ?_
            exact tw_zret X hr hlk w (by decide) h dX9_isBy_70
    · have h := h.2 c2
      refine lv_iload_n X.1 X.2.1 dX9_isBy_24 rfl (lv_at hl 1 rfl) ?_
      refine lv_iload_n X.1 X.2.1 dX9_isBy_25 rfl (lv_at hl 2 rfl) ?_
      refine lv_iadd X.1 X.2.1 dX9_isBy_26 ?_
      refine lv_if_le (tgt := 34) X.1 X.2.1 dX9_isBy_27 (by decide) (fun c7 => ?_) (fun c7 => ?_)
      · have h := h.1 c7
        refine lv_iconst (v := 0) X.1 X.2.1 dX9_isBy_34 (by decide) ?_
        refine lv_goto (tgt := 70) X.1 X.2.1 dX9_isBy_35 (by decide) ?_
        exact tw_zret X hr hlk w (by decide) h dX9_isBy_70
      · have h := h.2 c7
        refine lv_iconst (v := 1) X.1 X.2.1 dX9_isBy_30 (by decide) ?_
        refine lv_goto (tgt := 70) X.1 X.2.1 dX9_isBy_31 (by decide) ?_
        exact tw_zret X hr hlk w (by decide) h dX9_isBy_70
  · have h := h.2 c1
    refine lv_iload_n X.1 X.2.1 dX9_isBy_4 rfl (lv_at hl 1 rfl) ?_
    refine lv_iload_n X.1 X.2.1 dX9_isBy_5 rfl (lv_at hl 2 rfl) ?_
    refine lv_iadd X.1 X.2.1 dX9_isBy_6 ?_
    refine lv_iconst (v := 2) X.1 X.2.1 dX9_isBy_7 (by decide) ?_
    refine lv_icmp_ne (tgt := 15) X.1 X.2.1 dX9_isBy_8 (by decide) (fun c8 => ?_) (fun c8 => ?_)
    · have h := h.1 c8
      refine lv_iconst (v := 0) X.1 X.2.1 dX9_isBy_15 (by decide) ?_
      refine lv_goto (tgt := 70) X.1 X.2.1 dX9_isBy_16 (by decide) ?_
      exact tw_zret X hr hlk w (by decide) h dX9_isBy_70
    · have h := h.2 c8
      refine lv_iconst (v := 1) X.1 X.2.1 dX9_isBy_11 (by decide) ?_
      refine lv_goto (tgt := 70) X.1 X.2.1 dX9_isBy_12 (by decide) ?_
      exact tw_zret X hr hlk w (by decide) h dX9_isBy_70

abbrev RM_X9_keep : Room := { frames := 1, cells := 0, slots := 0, locals := 25 }
theorem iw_X9_keep_9 : ∀ w ∈ wsX90, w ∈ wsX9_keep := fun w h => List.mem_cons_of_mem _ (List.mem_append_right _ (h))
def wl_X9_keep_15 (g : tw_G) (a0 : Nat) (x1 : Int32) (Q : Int32 → tw_S → Prop) (k44 : tw_S → Prop) : Nat → Int32 → tw_S → Prop
  | 0, _, _ => False
  | n + 1, x2, σ => (((34 : Int32) ≤ x2) → k44  σ) ∧ (¬ ((34 : Int32) ≤ x2) → vp_in x2 34 ∧ vp_in (((34 : Int32) * x1) + x2) 68 ∧ ∀ σ7, σ7 = (tw_sA σ (tw_R g a0 34) (upd (tw_A σ (tw_R g a0 34)) (((34 : Int32) * x1) + x2).toNatClampNeg (tw_A σ (tw_R g a0 0) x2.toNatClampNeg))) → wl_X9_keep_15 g a0 x1 Q k44 n (x2 + 1) σ7)
def wp_X9_keep (g : tw_G) (σ : tw_S) (a0 : Nat) (x1 : Int32) (Q : Int32 → tw_S → Prop) : Prop := wp_X9_in g σ (x1.toInt64) (0 : Int64) (1 : Int64) (fun r2 σ1 => ((¬ r2 = 0) → ∃ n15, wl_X9_keep_15 g a0 x1 Q (fun σ8 => ∀ σ9, σ9 = (tw_sI σ8 a0 35 ((tw_I σ8 a0 35) ||| ((1 : Int32) <<< (x1 &&& 31)))) → ∀ σ10, σ10 = (tw_sI σ9 a0 9 (0 : Int32)) → Q (1 : Int32) σ10) n15 (0 : Int32) σ1) ∧ ((r2 = 0) → Q (-1000000001 : Int32) σ1))
set_option maxHeartbeats 4000000 in
set_option maxRecDepth 100000 in
theorem lp_X9_keep_15 {p : Program} {l : Launch} {e : Env} {s : State} {m : MethodId} {args : Array Value} {below : List Frame} {meth : Method} {c : Code} {D : va_G} {g : tw_G} (X : CallFix p m c cX9_keep 3 s args wsX9_keep RX9) (hr : meth.sig.returnType = (some .int)) (hlk : meth.locks = false) (hK : tw_k D g s) (hT : tw_T g) {a0 : Nat} {x1 : Int32} (h0 : tw_is g 9 a0) {Q : Int32 → tw_S → Prop} {k44 : tw_S → Prop}
    (hk44 : ∀  (σ : tw_S) (H : Heap) (locs : List Loc) (ls : Array Slot), k44  σ → tw_w D g (tw_F g s.heap.size) s σ H locs → lv_has ls 3 [(0, .ref a0), (1, .int x1)] → W p l e RM_X9_keep s m args below meth c H locs 0 0 (tw_Qi Q D g below args s) (F0 m 44 ls []))
    : ∀ (n : Nat) (x2 : Int32) (σ : tw_S) (H : Heap) (locs : List Loc) (ls : Array Slot), wl_X9_keep_15 g a0 x1 Q k44 n x2 σ → tw_w D g (tw_F g s.heap.size) s σ H locs → lv_has ls 3 [(0, .ref a0), (1, .int x1), (2, .int x2)] → W p l e RM_X9_keep s m args below meth c H locs 0 0 (tw_Qi Q D g below args s) (F0 m 15 ls []) := by
  intro n
  induction n with
  | zero =>
    intro x2 σ H locs ls h w hl
    exact False.elim h
  | succ n ih =>
    intro x2 σ H locs ls h w hl
    rw [wl_X9_keep_15] at h
    refine lv_iload_n X.1 X.2.1 dX9_keep_15 rfl (lv_at hl 2 rfl) ?_
    refine lv_bipush (v := 34) X.1 X.2.1 dX9_keep_16 (by decide) ?_
    refine lv_icmp_ge (tgt := 44) X.1 X.2.1 dX9_keep_18 (by decide) (fun c4 => ?_) (fun c4 => ?_)
    · have h := h.1 c4
      exact hk44  σ _ _ ls h w (lv_sub hl [0, 1] rfl)
    · have h := h.2 c4
      refine lv_aload_n X.1 X.2.1 dX9_keep_21 rfl (lv_at hl 0 rfl) ?_
      refine tw_get X hK w 9 iw_X9_keep_9 h0 (by decide) rfl 34 (by decide) (List.mem_of_getElem? (i := 2) rfl) rfl dX9_keep_22 ?_
      refine lv_bipush (v := 34) X.1 X.2.1 dX9_keep_25 (by decide) ?_
      refine lv_iload_n X.1 X.2.1 dX9_keep_27 rfl (lv_at hl 1 rfl) ?_
      refine lv_imul X.1 X.2.1 dX9_keep_28 ?_
      refine lv_iload_n X.1 X.2.1 dX9_keep_29 rfl (lv_at hl 2 rfl) ?_
      refine lv_iadd X.1 X.2.1 dX9_keep_30 ?_
      refine lv_aload_n X.1 X.2.1 dX9_keep_31 rfl (lv_at hl 0 rfl) ?_
      refine tw_get X hK w 9 iw_X9_keep_9 h0 (by decide) rfl 0 (by decide) (List.mem_of_getElem? (i := 3) rfl) rfl dX9_keep_32 ?_
      refine lv_iload_n X.1 X.2.1 dX9_keep_35 rfl (lv_at hl 2 rfl) ?_
      obtain ⟨hi5, h⟩ := h
      refine tw_iald X hK w (tw_t_9_0 hT h0) (tw_n_9_0 hT h0) hi5 dX9_keep_36 ?_
      obtain ⟨hi6, h⟩ := h
      refine tw_iast X hK w (tw_t_9_34 hT h0) (tw_n_9_34 hT h0) hi6 dX9_keep_37 (fun σ7 H locs eσ7 w => ?_)
      have h := h _ eσ7
      refine lv_iinc (v := (x2 + 1)) (lv' := [(2, .int (x2 + 1)), (0, .ref a0), (1, .int x1)]) X.1 X.2.1 dX9_keep_38 hl (k := 2) rfl rfl (by decide) rfl (fun ls hl => ?_)
      refine lv_goto (tgt := 15) X.1 X.2.1 dX9_keep_41 (by decide) ?_
      exact ih (x2 + 1) σ7 _ _ ls h w (lv_sub hl [1, 2, 0] rfl)
set_option maxHeartbeats 4000000 in
set_option maxRecDepth 100000 in
theorem ct_X9_keep (l : Launch) (D : va_G) (g : tw_G) (hT : tw_T g) (sz : Nat) (σ : tw_S) (a0 : Nat) (h0 : tw_is g 9 a0) (x1 : Int32) (Q : Int32 → tw_S → Prop) (h : wp_X9_keep g σ a0 x1 Q) : tw_Mi l yX9_keep wsX9_keep RM_X9_keep D g sz σ [.ref a0, .int x1] Q := by
  refine Met.ofW (cc := cX9_keep) (maxL := 3) (ret := (some .int)) (by decide) rfl ?_
  intro p e s m args below meth c s₁ B hml hv
  obtain ⟨rfl, hsz, hP, hK, hD0⟩ := hv
  subst hsz
  have hr := B.returns
  have hlk := B.notSynchronized
  have X : CallFix p m c cX9_keep 3 s _ wsX9_keep RX9 := ⟨B.exec, B.bytes, hml, findClass_of_methodNamed B.named, atoms_spec (ws := wsX9_keep) B.pre⟩
  have w := tw_w0 hP hD0
  have hl := lv_entry ([.ref a0, .int x1]) (n := 3) (Nat.le_of_ble_eq_true rfl)
  rw [lg_entry_eq]
  generalize (lg_sl ([.ref a0, .int x1]) ++ List.replicate (3 - (lg_sl ([.ref a0, .int x1])).length) Slot.unset).toArray = ls at hl ⊢
  have hl : lv_has ls 3 [(0, .ref a0), (1, .int x1)] := hl
  unfold wp_X9_keep at h
  refine lv_iload_n X.1 X.2.1 dX9_keep_0 rfl (lv_at hl 1 rfl) ?_
  refine lv_i2l (v := (x1.toInt64)) X.1 X.2.1 dX9_keep_1 rfl ?_
  refine lv_lconst (v := 0) X.1 X.2.1 dX9_keep_2 (by decide) ?_
  refine lv_lconst (v := 1) X.1 X.2.1 dX9_keep_3 (by decide) ?_
  refine tw_ci w (va_runS (As := [.long (x1.toInt64), .long (0 : Int64), .long (1 : Int64)]) (rest := []) X (ct_X9_in l D g hT _ σ (x1.toInt64) (0 : Int64) (1 : Int64) _ h) (va_cwS 3 X.2.2.2.2 gX9_keep_X9_in rfl rfl rfl (by decide +kernel) ⟨Nat.le_of_ble_eq_true rfl, Nat.le_of_ble_eq_true rfl⟩) (tw_pre hK w [.long (x1.toInt64), .long (0 : Int64), .long (1 : Int64)]) rfl rfl hl.1 rfl (lv_room (Nat.le_of_ble_eq_true rfl)) dX9_keep_4 ⟨Nat.zero_le _, Nat.zero_le _⟩) (fun r2 σ1 H locs h w => ?_)
  refine lv_if_ne (tgt := 13) X.1 X.2.1 dX9_keep_7 (by decide) (fun c3 => ?_) (fun c3 => ?_)
  · have h := h.1 c3
    refine lv_iconst (v := 0) X.1 X.2.1 dX9_keep_13 (by decide) ?_
    refine lv_istore_n (lv' := [(2, .int (0 : Int32)), (0, .ref a0), (1, .int x1)]) X.1 X.2.1 dX9_keep_14 rfl hl (by decide) rfl (fun ls hl => ?_)
    obtain ⟨n15, h⟩ := h
    refine lp_X9_keep_15 X hr hlk hK hT h0 (fun σ8 H locs ls h w hl => ?_) n15 (0 : Int32) σ1 _ _ ls h w (lv_sub hl [1, 2, 0] rfl)
    · skip
      refine lv_aload_n X.1 X.2.1 dX9_keep_44 rfl (lv_at hl 0 rfl) ?_
      refine lv_dup X.1 X.2.1 dX9_keep_45 rfl ?_
      refine tw_get X hK w 9 iw_X9_keep_9 h0 (by decide) rfl 35 (by decide) (List.mem_of_getElem? (i := 4) rfl) rfl dX9_keep_46 ?_
      refine lv_iconst (v := 1) X.1 X.2.1 dX9_keep_49 (by decide) ?_
      refine lv_iload_n X.1 X.2.1 dX9_keep_50 rfl (lv_at hl 1 rfl) ?_
      refine lv_ishl X.1 X.2.1 dX9_keep_51 ?_
      refine lv_ior X.1 X.2.1 dX9_keep_52 ?_
      refine tw_putI X hK w 9 iw_X9_keep_9 tyX9 tyX9_ok nmX9 h0 (by decide) rfl 35 (by decide) (List.mem_of_getElem? (i := 4) rfl) rfl (ty := .int) (by decide +kernel) rfl rfl (Nat.le_of_ble_eq_true rfl) (tw_f_9_35 g _ _ _) dX9_keep_53 (fun σ9 H locs eσ9 w => ?_)
      have h := h _ eσ9
      refine lv_aload_n X.1 X.2.1 dX9_keep_56 rfl (lv_at hl 0 rfl) ?_
      refine lv_iconst (v := 0) X.1 X.2.1 dX9_keep_57 (by decide) ?_
      refine tw_putI X hK w 9 iw_X9_keep_9 tyX9 tyX9_ok nmX9 h0 (by decide) rfl 9 (by decide) (List.mem_of_getElem? (i := 5) rfl) rfl (ty := .int) (by decide +kernel) rfl rfl (Nat.le_of_ble_eq_true rfl) (tw_f_9_9 g _ _ _) dX9_keep_58 (fun σ10 H locs eσ10 w => ?_)
      have h := h _ eσ10
      refine lv_iconst (v := 1) X.1 X.2.1 dX9_keep_61 (by decide) ?_
      exact tw_iret X hr hlk w h dX9_keep_62
  · have h := h.2 c3
    refine lv_ldc (own := RX9) (v := -1000000001) X.1 X.2.1 X.2.2.2.1 (X.2.2.2.2 _ (List.mem_of_getElem? (i := 1) rfl)) dX9_keep_10 ?_
    exact tw_iret X hr hlk w h dX9_keep_12

abbrev RM_X9_wordTo : Room := { frames := 0, cells := 0, slots := 0, locals := 0 }
theorem iw_X9_wordTo_9 : ∀ w ∈ wsX90, w ∈ wsX9_wordTo := fun w h => List.mem_cons_of_mem _ (List.mem_append_right _ (h))
def wl_X9_wordTo_10 (g : tw_G) (a0 : Nat) (Q : Int32 → tw_S → Prop) (k80 : Int64 → Int64 → Int32 → tw_S → Prop) : Nat → Int32 → Int64 → Int64 → Int32 → tw_S → Prop
  | 0, _, _, _, _, _ => False
  | n + 1, x2, x3, x5, x7, σ => vp_in x2 22500 ∧ (((tw_A σ (tw_R g a0 31) x2.toNatClampNeg) = (-1 : Int32)) → k80 x3 x5 x7 σ) ∧ (¬ ((tw_A σ (tw_R g a0 31) x2.toNatClampNeg) = (-1 : Int32)) → (((25 : Int32) ≤ x7) → (((25 : Int32) ≤ x7) → vp_in x2 22500 ∧ ∀ z6, z6 = ((tw_A σ (tw_R g a0 31) x2.toNatClampNeg) / (2 : Int32)) → wl_X9_wordTo_10 g a0 Q k80 n z6 (x3 + (0 : Int64)) (x5 * (1 : Int64)) (x7 + 1) σ) ∧ (¬ ((25 : Int32) ≤ x7) → vp_in x2 22500 ∧ ∀ z8, z8 = ((tw_A σ (tw_R g a0 31) x2.toNatClampNeg) / (2 : Int32)) → wl_X9_wordTo_10 g a0 Q k80 n z8 (x3 + (0 : Int64)) (x5 * (2 : Int64)) (x7 + 1) σ)) ∧ (¬ ((25 : Int32) ≤ x7) → vp_in x2 22500 ∧ ∀ z10, z10 = ((tw_A σ (tw_R g a0 31) x2.toNatClampNeg) - (tw_A σ (tw_R g a0 31) x2.toNatClampNeg) / (2 : Int32) * (2 : Int32)) → ∀ z11, z11 = (x3 + (x5 * (z10.toInt64))) → (((25 : Int32) ≤ x7) → vp_in x2 22500 ∧ ∀ z14, z14 = ((tw_A σ (tw_R g a0 31) x2.toNatClampNeg) / (2 : Int32)) → wl_X9_wordTo_10 g a0 Q k80 n z14 z11 (x5 * (1 : Int64)) (x7 + 1) σ) ∧ (¬ ((25 : Int32) ≤ x7) → vp_in x2 22500 ∧ ∀ z16, z16 = ((tw_A σ (tw_R g a0 31) x2.toNatClampNeg) / (2 : Int32)) → wl_X9_wordTo_10 g a0 Q k80 n z16 z11 (x5 * (2 : Int64)) (x7 + 1) σ)))
def wp_X9_wordTo (g : tw_G) (σ : tw_S) (a0 : Nat) (x1 : Int32) (Q : Int32 → tw_S → Prop) : Prop := ∃ n10, wl_X9_wordTo_10 g a0 Q (fun v17 v18 v19 σ20 => ((v19 ≤ (24 : Int32)) → Q ((v17 + v18).toInt32) σ20) ∧ (¬ (v19 ≤ (24 : Int32)) → Q (0 : Int32) σ20)) n10 x1 (0 : Int64) (1 : Int64) (0 : Int32) σ
set_option maxHeartbeats 4000000 in
set_option maxRecDepth 100000 in
theorem lp_X9_wordTo_10 {p : Program} {l : Launch} {e : Env} {s : State} {m : MethodId} {args : Array Value} {below : List Frame} {meth : Method} {c : Code} {D : va_G} {g : tw_G} (X : CallFix p m c cX9_wordTo 8 s args wsX9_wordTo RX9) (hr : meth.sig.returnType = (some .int)) (hlk : meth.locks = false) (hK : tw_k D g s) (hT : tw_T g) {a0 : Nat} (h0 : tw_is g 9 a0) {Q : Int32 → tw_S → Prop} {k80 : Int64 → Int64 → Int32 → tw_S → Prop}
    (hk80 : ∀ (x3 : Int64) (x5 : Int64) (x7 : Int32) (σ : tw_S) (H : Heap) (locs : List Loc) (ls : Array Slot), k80 x3 x5 x7 σ → tw_w D g (tw_F g s.heap.size) s σ H locs → lv_has ls 8 [(3, .long x3), (5, .long x5), (7, .int x7)] → W p l e RM_X9_wordTo s m args below meth c H locs 0 0 (tw_Qi Q D g below args s) (F0 m 80 ls []))
    : ∀ (n : Nat) (x2 : Int32) (x3 : Int64) (x5 : Int64) (x7 : Int32) (σ : tw_S) (H : Heap) (locs : List Loc) (ls : Array Slot), wl_X9_wordTo_10 g a0 Q k80 n x2 x3 x5 x7 σ → tw_w D g (tw_F g s.heap.size) s σ H locs → lv_has ls 8 [(0, .ref a0), (2, .int x2), (3, .long x3), (5, .long x5), (7, .int x7)] → W p l e RM_X9_wordTo s m args below meth c H locs 0 0 (tw_Qi Q D g below args s) (F0 m 10 ls []) := by
  intro n
  induction n with
  | zero =>
    intro x2 x3 x5 x7 σ H locs ls h w hl
    exact False.elim h
  | succ n ih =>
    intro x2 x3 x5 x7 σ H locs ls h w hl
    rw [wl_X9_wordTo_10] at h
    refine lv_aload_n X.1 X.2.1 dX9_wordTo_10 rfl (lv_at hl 0 rfl) ?_
    refine tw_get X hK w 9 iw_X9_wordTo_9 h0 (by decide) rfl 31 (by decide) (List.mem_of_getElem? (i := 1) rfl) rfl dX9_wordTo_11 ?_
    refine lv_iload_n X.1 X.2.1 dX9_wordTo_14 rfl (lv_at hl 1 rfl) ?_
    obtain ⟨hi1, h⟩ := h
    refine tw_iald X hK w (tw_t_9_31 hT h0) (tw_n_9_31 hT h0) hi1 dX9_wordTo_15 ?_
    refine lv_iconst (v := -1) X.1 X.2.1 dX9_wordTo_16 (by decide) ?_
    refine lv_icmp_eq (tgt := 80) X.1 X.2.1 dX9_wordTo_17 (by decide) (fun c2 => ?_) (fun c2 => ?_)
    · have h := h.1 c2
      exact hk80 x3 x5 x7 σ _ _ ls h w (lv_sub hl [2, 3, 4] rfl)
    · have h := h.2 c2
      refine lv_lload_n X.1 X.2.1 dX9_wordTo_20 rfl (lv_at hl 2 rfl) ?_
      refine lv_iload X.1 X.2.1 dX9_wordTo_21 (lv_at hl 4 rfl) ?_
      refine lv_bipush (v := 25) X.1 X.2.1 dX9_wordTo_23 (by decide) ?_
      refine lv_icmp_ge (tgt := 43) X.1 X.2.1 dX9_wordTo_25 (by decide) (fun c3 => ?_) (fun c3 => ?_)
      · have h := h.1 c3
        refine lv_lconst (v := 0) X.1 X.2.1 dX9_wordTo_43 (by decide) ?_
        refine lv_ladd X.1 X.2.1 dX9_wordTo_44 ?_
        refine lv_lstore_n (lv' := [(3, .long (x3 + (0 : Int64))), (0, .ref a0), (2, .int x2), (5, .long x5), (7, .int x7)]) X.1 X.2.1 dX9_wordTo_45 rfl hl (by decide) rfl (fun ls hl => ?_)
        refine lv_lload X.1 X.2.1 dX9_wordTo_46 (lv_at hl 3 rfl) ?_
        refine lv_iload X.1 X.2.1 dX9_wordTo_48 (lv_at hl 4 rfl) ?_
        refine lv_bipush (v := 25) X.1 X.2.1 dX9_wordTo_50 (by decide) ?_
        refine lv_icmp_ge (tgt := 61) X.1 X.2.1 dX9_wordTo_52 (by decide) (fun c4 => ?_) (fun c4 => ?_)
        · have h := h.1 c4
          refine lv_lconst (v := 1) X.1 X.2.1 dX9_wordTo_61 (by decide) ?_
          refine lv_lmul X.1 X.2.1 dX9_wordTo_62 ?_
          refine lv_lstore (lv' := [(5, .long (x5 * (1 : Int64))), (3, .long (x3 + (0 : Int64))), (0, .ref a0), (2, .int x2), (7, .int x7)]) X.1 X.2.1 dX9_wordTo_63 hl (by decide) rfl (fun ls hl => ?_)
          refine lv_iinc (v := (x7 + 1)) (lv' := [(7, .int (x7 + 1)), (5, .long (x5 * (1 : Int64))), (3, .long (x3 + (0 : Int64))), (0, .ref a0), (2, .int x2)]) X.1 X.2.1 dX9_wordTo_65 hl (k := 4) rfl rfl (by decide) rfl (fun ls hl => ?_)
          refine lv_aload_n X.1 X.2.1 dX9_wordTo_68 rfl (lv_at hl 3 rfl) ?_
          refine tw_get X hK w 9 iw_X9_wordTo_9 h0 (by decide) rfl 31 (by decide) (List.mem_of_getElem? (i := 1) rfl) rfl dX9_wordTo_69 ?_
          refine lv_iload_n X.1 X.2.1 dX9_wordTo_72 rfl (lv_at hl 4 rfl) ?_
          obtain ⟨hi5, h⟩ := h
          refine tw_iald X hK w (tw_t_9_31 hT h0) (tw_n_9_31 hT h0) hi5 dX9_wordTo_73 ?_
          refine lv_iconst (v := 2) X.1 X.2.1 dX9_wordTo_74 (by decide) ?_
          refine lv_idiv X.1 X.2.1 dX9_wordTo_75 (by decide) ?_
          refine lv_topi (fun z6 ez6 => ?_)
          have h := h _ ez6
          refine lv_istore_n (lv' := [(2, .int z6), (7, .int (x7 + 1)), (5, .long (x5 * (1 : Int64))), (3, .long (x3 + (0 : Int64))), (0, .ref a0)]) X.1 X.2.1 dX9_wordTo_76 rfl hl (by decide) rfl (fun ls hl => ?_)
          refine lv_goto (tgt := 10) X.1 X.2.1 dX9_wordTo_77 (by decide) ?_
          exact ih z6 (x3 + (0 : Int64)) (x5 * (1 : Int64)) (x7 + 1) σ _ _ ls h w (lv_sub hl [4, 0, 3, 2, 1] rfl)
        · have h := h.2 c4
          refine lv_ldc2 (own := RX9) (v := 2) X.1 X.2.1 X.2.2.2.1 (X.2.2.2.2 _ (List.mem_of_getElem? (i := 2) rfl)) dX9_wordTo_55 ?_
          refine lv_goto (tgt := 62) X.1 X.2.1 dX9_wordTo_58 (by decide) ?_
          refine lv_lmul X.1 X.2.1 dX9_wordTo_62 ?_
          refine lv_lstore (lv' := [(5, .long (x5 * (2 : Int64))), (3, .long (x3 + (0 : Int64))), (0, .ref a0), (2, .int x2), (7, .int x7)]) X.1 X.2.1 dX9_wordTo_63 hl (by decide) rfl (fun ls hl => ?_)
          refine lv_iinc (v := (x7 + 1)) (lv' := [(7, .int (x7 + 1)), (5, .long (x5 * (2 : Int64))), (3, .long (x3 + (0 : Int64))), (0, .ref a0), (2, .int x2)]) X.1 X.2.1 dX9_wordTo_65 hl (k := 4) rfl rfl (by decide) rfl (fun ls hl => ?_)
          refine lv_aload_n X.1 X.2.1 dX9_wordTo_68 rfl (lv_at hl 3 rfl) ?_
          refine tw_get X hK w 9 iw_X9_wordTo_9 h0 (by decide) rfl 31 (by decide) (List.mem_of_getElem? (i := 1) rfl) rfl dX9_wordTo_69 ?_
          refine lv_iload_n X.1 X.2.1 dX9_wordTo_72 rfl (lv_at hl 4 rfl) ?_
          obtain ⟨hi7, h⟩ := h
          refine tw_iald X hK w (tw_t_9_31 hT h0) (tw_n_9_31 hT h0) hi7 dX9_wordTo_73 ?_
          refine lv_iconst (v := 2) X.1 X.2.1 dX9_wordTo_74 (by decide) ?_
          refine lv_idiv X.1 X.2.1 dX9_wordTo_75 (by decide) ?_
          refine lv_topi (fun z8 ez8 => ?_)
          have h := h _ ez8
          refine lv_istore_n (lv' := [(2, .int z8), (7, .int (x7 + 1)), (5, .long (x5 * (2 : Int64))), (3, .long (x3 + (0 : Int64))), (0, .ref a0)]) X.1 X.2.1 dX9_wordTo_76 rfl hl (by decide) rfl (fun ls hl => ?_)
          refine lv_goto (tgt := 10) X.1 X.2.1 dX9_wordTo_77 (by decide) ?_
          exact ih z8 (x3 + (0 : Int64)) (x5 * (2 : Int64)) (x7 + 1) σ _ _ ls h w (lv_sub hl [4, 0, 3, 2, 1] rfl)
      · have h := h.2 c3
        refine lv_lload X.1 X.2.1 dX9_wordTo_28 (lv_at hl 3 rfl) ?_
        refine lv_aload_n X.1 X.2.1 dX9_wordTo_30 rfl (lv_at hl 0 rfl) ?_
        refine tw_get X hK w 9 iw_X9_wordTo_9 h0 (by decide) rfl 31 (by decide) (List.mem_of_getElem? (i := 1) rfl) rfl dX9_wordTo_31 ?_
        refine lv_iload_n X.1 X.2.1 dX9_wordTo_34 rfl (lv_at hl 1 rfl) ?_
        obtain ⟨hi9, h⟩ := h
        refine tw_iald X hK w (tw_t_9_31 hT h0) (tw_n_9_31 hT h0) hi9 dX9_wordTo_35 ?_
        refine lv_iconst (v := 2) X.1 X.2.1 dX9_wordTo_36 (by decide) ?_
        refine lv_irem X.1 X.2.1 dX9_wordTo_37 (by decide) ?_
        refine lv_topi (fun z10 ez10 => ?_)
        have h := h _ ez10
        refine lv_i2l (v := (z10.toInt64)) X.1 X.2.1 dX9_wordTo_38 rfl ?_
        refine lv_lmul X.1 X.2.1 dX9_wordTo_39 ?_
        refine lv_goto (tgt := 44) X.1 X.2.1 dX9_wordTo_40 (by decide) ?_
        refine lv_ladd X.1 X.2.1 dX9_wordTo_44 ?_
        refine lv_topl (fun z11 ez11 => ?_)
        have h := h _ ez11
        refine lv_lstore_n (lv' := [(3, .long z11), (0, .ref a0), (2, .int x2), (5, .long x5), (7, .int x7)]) X.1 X.2.1 dX9_wordTo_45 rfl hl (by decide) rfl (fun ls hl => ?_)
        refine lv_lload X.1 X.2.1 dX9_wordTo_46 (lv_at hl 3 rfl) ?_
        refine lv_iload X.1 X.2.1 dX9_wordTo_48 (lv_at hl 4 rfl) ?_
        refine lv_bipush (v := 25) X.1 X.2.1 dX9_wordTo_50 (by decide) ?_
        refine lv_icmp_ge (tgt := 61) X.1 X.2.1 dX9_wordTo_52 (by decide) (fun c12 => ?_) (fun c12 => ?_)
        · have h := h.1 c12
          refine lv_lconst (v := 1) X.1 X.2.1 dX9_wordTo_61 (by decide) ?_
          refine lv_lmul X.1 X.2.1 dX9_wordTo_62 ?_
          refine lv_lstore (lv' := [(5, .long (x5 * (1 : Int64))), (3, .long z11), (0, .ref a0), (2, .int x2), (7, .int x7)]) X.1 X.2.1 dX9_wordTo_63 hl (by decide) rfl (fun ls hl => ?_)
          refine lv_iinc (v := (x7 + 1)) (lv' := [(7, .int (x7 + 1)), (5, .long (x5 * (1 : Int64))), (3, .long z11), (0, .ref a0), (2, .int x2)]) X.1 X.2.1 dX9_wordTo_65 hl (k := 4) rfl rfl (by decide) rfl (fun ls hl => ?_)
          refine lv_aload_n X.1 X.2.1 dX9_wordTo_68 rfl (lv_at hl 3 rfl) ?_
          refine tw_get X hK w 9 iw_X9_wordTo_9 h0 (by decide) rfl 31 (by decide) (List.mem_of_getElem? (i := 1) rfl) rfl dX9_wordTo_69 ?_
          refine lv_iload_n X.1 X.2.1 dX9_wordTo_72 rfl (lv_at hl 4 rfl) ?_
          obtain ⟨hi13, h⟩ := h
          refine tw_iald X hK w (tw_t_9_31 hT h0) (tw_n_9_31 hT h0) hi13 dX9_wordTo_73 ?_
          refine lv_iconst (v := 2) X.1 X.2.1 dX9_wordTo_74 (by decide) ?_
          refine lv_idiv X.1 X.2.1 dX9_wordTo_75 (by decide) ?_
          refine lv_topi (fun z14 ez14 => ?_)
          have h := h _ ez14
          refine lv_istore_n (lv' := [(2, .int z14), (7, .int (x7 + 1)), (5, .long (x5 * (1 : Int64))), (3, .long z11), (0, .ref a0)]) X.1 X.2.1 dX9_wordTo_76 rfl hl (by decide) rfl (fun ls hl => ?_)
          refine lv_goto (tgt := 10) X.1 X.2.1 dX9_wordTo_77 (by decide) ?_
          exact ih z14 z11 (x5 * (1 : Int64)) (x7 + 1) σ _ _ ls h w (lv_sub hl [4, 0, 3, 2, 1] rfl)
        · have h := h.2 c12
          refine lv_ldc2 (own := RX9) (v := 2) X.1 X.2.1 X.2.2.2.1 (X.2.2.2.2 _ (List.mem_of_getElem? (i := 2) rfl)) dX9_wordTo_55 ?_
          refine lv_goto (tgt := 62) X.1 X.2.1 dX9_wordTo_58 (by decide) ?_
          refine lv_lmul X.1 X.2.1 dX9_wordTo_62 ?_
          refine lv_lstore (lv' := [(5, .long (x5 * (2 : Int64))), (3, .long z11), (0, .ref a0), (2, .int x2), (7, .int x7)]) X.1 X.2.1 dX9_wordTo_63 hl (by decide) rfl (fun ls hl => ?_)
          refine lv_iinc (v := (x7 + 1)) (lv' := [(7, .int (x7 + 1)), (5, .long (x5 * (2 : Int64))), (3, .long z11), (0, .ref a0), (2, .int x2)]) X.1 X.2.1 dX9_wordTo_65 hl (k := 4) rfl rfl (by decide) rfl (fun ls hl => ?_)
          refine lv_aload_n X.1 X.2.1 dX9_wordTo_68 rfl (lv_at hl 3 rfl) ?_
          refine tw_get X hK w 9 iw_X9_wordTo_9 h0 (by decide) rfl 31 (by decide) (List.mem_of_getElem? (i := 1) rfl) rfl dX9_wordTo_69 ?_
          refine lv_iload_n X.1 X.2.1 dX9_wordTo_72 rfl (lv_at hl 4 rfl) ?_
          obtain ⟨hi15, h⟩ := h
          refine tw_iald X hK w (tw_t_9_31 hT h0) (tw_n_9_31 hT h0) hi15 dX9_wordTo_73 ?_
          refine lv_iconst (v := 2) X.1 X.2.1 dX9_wordTo_74 (by decide) ?_
          refine lv_idiv X.1 X.2.1 dX9_wordTo_75 (by decide) ?_
          refine lv_topi (fun z16 ez16 => ?_)
          have h := h _ ez16
          refine lv_istore_n (lv' := [(2, .int z16), (7, .int (x7 + 1)), (5, .long (x5 * (2 : Int64))), (3, .long z11), (0, .ref a0)]) X.1 X.2.1 dX9_wordTo_76 rfl hl (by decide) rfl (fun ls hl => ?_)
          refine lv_goto (tgt := 10) X.1 X.2.1 dX9_wordTo_77 (by decide) ?_
          exact ih z16 z11 (x5 * (2 : Int64)) (x7 + 1) σ _ _ ls h w (lv_sub hl [4, 0, 3, 2, 1] rfl)
set_option maxHeartbeats 4000000 in
set_option maxRecDepth 100000 in
theorem ct_X9_wordTo (l : Launch) (D : va_G) (g : tw_G) (hT : tw_T g) (sz : Nat) (σ : tw_S) (a0 : Nat) (h0 : tw_is g 9 a0) (x1 : Int32) (Q : Int32 → tw_S → Prop) (h : wp_X9_wordTo g σ a0 x1 Q) : tw_Mi l yX9_wordTo wsX9_wordTo RM_X9_wordTo D g sz σ [.ref a0, .int x1] Q := by
  refine Met.ofW (cc := cX9_wordTo) (maxL := 8) (ret := (some .int)) (by decide) rfl ?_
  intro p e s m args below meth c s₁ B hml hv
  obtain ⟨rfl, hsz, hP, hK, hD0⟩ := hv
  subst hsz
  have hr := B.returns
  have hlk := B.notSynchronized
  have X : CallFix p m c cX9_wordTo 8 s _ wsX9_wordTo RX9 := ⟨B.exec, B.bytes, hml, findClass_of_methodNamed B.named, atoms_spec (ws := wsX9_wordTo) B.pre⟩
  have w := tw_w0 hP hD0
  have hl := lv_entry ([.ref a0, .int x1]) (n := 8) (Nat.le_of_ble_eq_true rfl)
  rw [lg_entry_eq]
  generalize (lg_sl ([.ref a0, .int x1]) ++ List.replicate (8 - (lg_sl ([.ref a0, .int x1])).length) Slot.unset).toArray = ls at hl ⊢
  have hl : lv_has ls 8 [(0, .ref a0), (1, .int x1)] := hl
  unfold wp_X9_wordTo at h
  refine lv_iload_n X.1 X.2.1 dX9_wordTo_0 rfl (lv_at hl 1 rfl) ?_
  refine lv_istore_n (lv' := [(2, .int x1), (0, .ref a0), (1, .int x1)]) X.1 X.2.1 dX9_wordTo_1 rfl hl (by decide) rfl (fun ls hl => ?_)
  have hl := lv_sub (l' := [(2, .int x1), (0, .ref a0)]) hl [0, 1] rfl
  refine lv_lconst (v := 0) X.1 X.2.1 dX9_wordTo_2 (by decide) ?_
  refine lv_lstore_n (lv' := [(3, .long (0 : Int64)), (2, .int x1), (0, .ref a0)]) X.1 X.2.1 dX9_wordTo_3 rfl hl (by decide) rfl (fun ls hl => ?_)
  refine lv_lconst (v := 1) X.1 X.2.1 dX9_wordTo_4 (by decide) ?_
  refine lv_lstore (lv' := [(5, .long (1 : Int64)), (3, .long (0 : Int64)), (2, .int x1), (0, .ref a0)]) X.1 X.2.1 dX9_wordTo_5 hl (by decide) rfl (fun ls hl => ?_)
  refine lv_iconst (v := 0) X.1 X.2.1 dX9_wordTo_7 (by decide) ?_
  refine lv_istore (lv' := [(7, .int (0 : Int32)), (5, .long (1 : Int64)), (3, .long (0 : Int64)), (2, .int x1), (0, .ref a0)]) X.1 X.2.1 dX9_wordTo_8 hl (by decide) rfl (fun ls hl => ?_)
  obtain ⟨n10, h⟩ := h
  refine lp_X9_wordTo_10 X hr hlk hK hT h0 (fun v17 v18 v19 σ20 H locs ls h w hl => ?_) n10 x1 (0 : Int64) (1 : Int64) (0 : Int32) σ _ _ ls h w (lv_sub hl [4, 3, 2, 1, 0] rfl)
  · skip
    refine lv_iload X.1 X.2.1 dX9_wordTo_80 (lv_at hl 2 rfl) ?_
    refine lv_bipush (v := 24) X.1 X.2.1 dX9_wordTo_82 (by decide) ?_
    refine lv_icmp_le (tgt := 91) X.1 X.2.1 dX9_wordTo_84 (by decide) (fun c21 => ?_) (fun c21 => ?_)
    · have h := h.1 c21
      refine lv_lload_n X.1 X.2.1 dX9_wordTo_91 rfl (lv_at hl 0 rfl) ?_
      refine lv_lload X.1 X.2.1 dX9_wordTo_92 (lv_at hl 1 rfl) ?_
      refine lv_ladd X.1 X.2.1 dX9_wordTo_94 ?_
      refine lv_l2i (v := ((v17 + v18).toInt32)) X.1 X.2.1 dX9_wordTo_95 rfl ?_
      exact tw_iret X hr hlk w h dX9_wordTo_96
    · have h := h.2 c21
      refine lv_iconst (v := 0) X.1 X.2.1 dX9_wordTo_87 (by decide) ?_
      refine lv_goto (tgt := 96) X.1 X.2.1 dX9_wordTo_88 (by decide) ?_
      exact tw_iret X hr hlk w h dX9_wordTo_96

abbrev RM_X9_moveAt : Room := { frames := 0, cells := 0, slots := 0, locals := 0 }
theorem iw_X9_moveAt_9 : ∀ w ∈ wsX90, w ∈ wsX9_moveAt := fun w h => List.mem_cons_of_mem _ (List.mem_append_right _ (h))
def wp_X9_moveAt (g : tw_G) (σ : tw_S) (a0 : Nat) (x1 : Int32) (x2 : Int32) (x3 : Int32) (Q : Int32 → tw_S → Prop) : Prop := vp_in (((((17 : Int32) * x1) + (1 : Int32)) + ((4 : Int32) * x2)) + x3) 34 ∧ Q (tw_A σ (tw_R g a0 0) (((((17 : Int32) * x1) + (1 : Int32)) + ((4 : Int32) * x2)) + x3).toNatClampNeg) σ
set_option maxHeartbeats 4000000 in
set_option maxRecDepth 100000 in
theorem ct_X9_moveAt (l : Launch) (D : va_G) (g : tw_G) (hT : tw_T g) (sz : Nat) (σ : tw_S) (a0 : Nat) (h0 : tw_is g 9 a0) (x1 : Int32) (x2 : Int32) (x3 : Int32) (Q : Int32 → tw_S → Prop) (h : wp_X9_moveAt g σ a0 x1 x2 x3 Q) : tw_Mi l yX9_moveAt wsX9_moveAt RM_X9_moveAt D g sz σ [.ref a0, .int x1, .int x2, .int x3] Q := by
  refine Met.ofW (cc := cX9_moveAt) (maxL := 4) (ret := (some .int)) (by decide) rfl ?_
  intro p e s m args below meth c s₁ B hml hv
  obtain ⟨rfl, hsz, hP, hK, hD0⟩ := hv
  subst hsz
  have hr := B.returns
  have hlk := B.notSynchronized
  have X : CallFix p m c cX9_moveAt 4 s _ wsX9_moveAt RX9 := ⟨B.exec, B.bytes, hml, findClass_of_methodNamed B.named, atoms_spec (ws := wsX9_moveAt) B.pre⟩
  have w := tw_w0 hP hD0
  have hl := lv_entry ([.ref a0, .int x1, .int x2, .int x3]) (n := 4) (Nat.le_of_ble_eq_true rfl)
  rw [lg_entry_eq]
  generalize (lg_sl ([.ref a0, .int x1, .int x2, .int x3]) ++ List.replicate (4 - (lg_sl ([.ref a0, .int x1, .int x2, .int x3])).length) Slot.unset).toArray = ls at hl ⊢
  have hl : lv_has ls 4 [(0, .ref a0), (1, .int x1), (2, .int x2), (3, .int x3)] := hl
  unfold wp_X9_moveAt at h
  refine lv_aload_n X.1 X.2.1 dX9_moveAt_0 rfl (lv_at hl 0 rfl) ?_
  refine tw_get X hK w 9 iw_X9_moveAt_9 h0 (by decide) rfl 0 (by decide) (List.mem_of_getElem? (i := 1) rfl) rfl dX9_moveAt_1 ?_
  refine lv_bipush (v := 17) X.1 X.2.1 dX9_moveAt_4 (by decide) ?_
  refine lv_iload_n X.1 X.2.1 dX9_moveAt_6 rfl (lv_at hl 1 rfl) ?_
  refine lv_imul X.1 X.2.1 dX9_moveAt_7 ?_
  refine lv_iconst (v := 1) X.1 X.2.1 dX9_moveAt_8 (by decide) ?_
  refine lv_iadd X.1 X.2.1 dX9_moveAt_9 ?_
  refine lv_iconst (v := 4) X.1 X.2.1 dX9_moveAt_10 (by decide) ?_
  refine lv_iload_n X.1 X.2.1 dX9_moveAt_11 rfl (lv_at hl 2 rfl) ?_
  refine lv_imul X.1 X.2.1 dX9_moveAt_12 ?_
  refine lv_iadd X.1 X.2.1 dX9_moveAt_13 ?_
  refine lv_iload_n X.1 X.2.1 dX9_moveAt_14 rfl (lv_at hl 3 rfl) ?_
  refine lv_iadd X.1 X.2.1 dX9_moveAt_15 ?_
  obtain ⟨hi1, h⟩ := h
  refine tw_iald X hK w (tw_t_9_0 hT h0) (tw_n_9_0 hT h0) hi1 dX9_moveAt_16 ?_
  exact tw_iret X hr hlk w h dX9_moveAt_17

abbrev RM_X8_imageAt : Room := { frames := 0, cells := 0, slots := 0, locals := 0 }
theorem iw_X8_imageAt_8 : ∀ w ∈ wsX80, w ∈ wsX8_imageAt := fun w h => List.mem_cons_of_mem _ (List.mem_append_right _ (h))
def wp_X8_imageAt (g : tw_G) (σ : tw_S) (a0 : Nat) (x1 : Int32) (Q : Option Nat → tw_S → Prop) : Prop := ((x1 < 0) → Q none σ) ∧ (¬ (x1 < 0) → (((2 : Int32) ≤ x1) → Q none σ) ∧ (¬ ((2 : Int32) ≤ x1) → vp_in x1 2 ∧ Q (some (tw_E g (tw_R g a0 2) x1.toNatClampNeg)) σ))
set_option maxHeartbeats 4000000 in
set_option maxRecDepth 100000 in
theorem ct_X8_imageAt (l : Launch) (D : va_G) (g : tw_G) (hT : tw_T g) (sz : Nat) (σ : tw_S) (a0 : Nat) (h0 : tw_is g 8 a0) (x1 : Int32) (Q : Option Nat → tw_S → Prop) (h : wp_X8_imageAt g σ a0 x1 Q) : tw_Mq l yX8_imageAt wsX8_imageAt RM_X8_imageAt D g sz σ [.ref a0, .int x1] (fun r σ => (∀ y, r = some y → tw_is g 0 y) ∧ Q r σ) := by
  refine Met.ofW (cc := cX8_imageAt) (maxL := 2) (ret := (some (.object "TwoWays$Both"))) (by decide) rfl ?_
  intro p e s m args below meth c s₁ B hml hv
  obtain ⟨rfl, hsz, hP, hK, hD0⟩ := hv
  subst hsz
  have hr := B.returns
  have hlk := B.notSynchronized
  have X : CallFix p m c cX8_imageAt 2 s _ wsX8_imageAt RX8 := ⟨B.exec, B.bytes, hml, findClass_of_methodNamed B.named, atoms_spec (ws := wsX8_imageAt) B.pre⟩
  have w := tw_w0 hP hD0
  have hl := lv_entry ([.ref a0, .int x1]) (n := 2) (Nat.le_of_ble_eq_true rfl)
  rw [lg_entry_eq]
  generalize (lg_sl ([.ref a0, .int x1]) ++ List.replicate (2 - (lg_sl ([.ref a0, .int x1])).length) Slot.unset).toArray = ls at hl ⊢
  have hl : lv_has ls 2 [(0, .ref a0), (1, .int x1)] := hl
  unfold wp_X8_imageAt at h
  refine lv_iload_n X.1 X.2.1 dX8_imageAt_0 rfl (lv_at hl 1 rfl) ?_
  refine lv_if_lt (tgt := 18) X.1 X.2.1 dX8_imageAt_1 (by decide) (fun c1 => ?_) (fun c1 => ?_)
  · have h := h.1 c1
    refine lv_null X.1 X.2.1 dX8_imageAt_18 ?_
    exact tw_qret (v := none) X hr hlk w ⟨fun _ e => (by cases e), h⟩ dX8_imageAt_19
  · have h := h.2 c1
    refine lv_iload_n X.1 X.2.1 dX8_imageAt_4 rfl (lv_at hl 1 rfl) ?_
    refine lv_iconst (v := 2) X.1 X.2.1 dX8_imageAt_5 (by decide) ?_
    refine lv_icmp_ge (tgt := 18) X.1 X.2.1 dX8_imageAt_6 (by decide) (fun c2 => ?_) (fun c2 => ?_)
    · have h := h.1 c2
      refine lv_null X.1 X.2.1 dX8_imageAt_18 ?_
      exact tw_qret (v := none) X hr hlk w ⟨fun _ e => (by cases e), h⟩ dX8_imageAt_19
    · have h := h.2 c2
      refine lv_aload_n X.1 X.2.1 dX8_imageAt_9 rfl (lv_at hl 0 rfl) ?_
      refine tw_get X hK w 8 iw_X8_imageAt_8 h0 (by decide) rfl 2 (by decide) (List.mem_of_getElem? (i := 1) rfl) rfl dX8_imageAt_10 ?_
      refine lv_iload_n X.1 X.2.1 dX8_imageAt_13 rfl (lv_at hl 1 rfl) ?_
      obtain ⟨hi3, h⟩ := h
      refine tw_aald X hK w (tw_t_8_2 hT h0) (tw_n_8_2 hT h0) hi3 dX8_imageAt_14 ?_
      refine lv_goto (tgt := 19) X.1 X.2.1 dX8_imageAt_15 (by decide) ?_
      exact tw_qret (v := some (tw_E g (tw_R g a0 2) x1.toNatClampNeg)) X hr hlk w ⟨fun _ e => (by cases e; exact (tw_t_13 hT (tw_t_8_2 hT h0) (tw_lt hi3 (tw_n_8_2 hT h0)))), h⟩ dX8_imageAt_19

abbrev RM_X8_lengthen : Room := { frames := 0, cells := 0, slots := 0, locals := 0 }
def wp_X8_lengthen (g : tw_G) (σ : tw_S) (x0 : Int32) (x1 : Int32) (Q : Int32 → tw_S → Prop) : Prop := ∀ z1, z1 = (((2 : Int32) * x0) + x1) → ((x0 = 0) → Q (0 : Int32) σ) ∧ (¬ (x0 = 0) → ((z1 < (33554432 : Int32)) → Q z1 σ) ∧ (¬ (z1 < (33554432 : Int32)) → Q (0 : Int32) σ))
set_option maxHeartbeats 4000000 in
set_option maxRecDepth 100000 in
theorem ct_X8_lengthen (l : Launch) (D : va_G) (g : tw_G) (hT : tw_T g) (sz : Nat) (σ : tw_S) (x0 : Int32) (x1 : Int32) (Q : Int32 → tw_S → Prop) (h : wp_X8_lengthen g σ x0 x1 Q) : tw_Mi l yX8_lengthen wsX8_lengthen RM_X8_lengthen D g sz σ [.int x0, .int x1] Q := by
  refine Met.ofW (cc := cX8_lengthen) (maxL := 3) (ret := (some .int)) (by decide) rfl ?_
  intro p e s m args below meth c s₁ B hml hv
  obtain ⟨rfl, hsz, hP, hK, hD0⟩ := hv
  subst hsz
  have hr := B.returns
  have hlk := B.notSynchronized
  have X : CallFix p m c cX8_lengthen 3 s _ wsX8_lengthen RX8 := ⟨B.exec, B.bytes, hml, findClass_of_methodNamed B.named, atoms_spec (ws := wsX8_lengthen) B.pre⟩
  have w := tw_w0 hP hD0
  have hl := lv_entry ([.int x0, .int x1]) (n := 3) (Nat.le_of_ble_eq_true rfl)
  rw [lg_entry_eq]
  generalize (lg_sl ([.int x0, .int x1]) ++ List.replicate (3 - (lg_sl ([.int x0, .int x1])).length) Slot.unset).toArray = ls at hl ⊢
  have hl : lv_has ls 3 [(0, .int x0), (1, .int x1)] := hl
  unfold wp_X8_lengthen at h
  refine lv_iconst (v := 2) X.1 X.2.1 dX8_lengthen_0 (by decide) ?_
  refine lv_iload_n X.1 X.2.1 dX8_lengthen_1 rfl (lv_at hl 0 rfl) ?_
  refine lv_imul X.1 X.2.1 dX8_lengthen_2 ?_
  refine lv_iload_n X.1 X.2.1 dX8_lengthen_3 rfl (lv_at hl 1 rfl) ?_
  refine lv_iadd X.1 X.2.1 dX8_lengthen_4 ?_
  refine lv_topi (fun z1 ez1 => ?_)
  have h := h _ ez1
  refine lv_istore_n (lv' := [(2, .int z1), (0, .int x0), (1, .int x1)]) X.1 X.2.1 dX8_lengthen_5 rfl hl (by decide) rfl (fun ls hl => ?_)
  have hl := lv_sub (l' := [(2, .int z1), (0, .int x0)]) hl [0, 1] rfl
  refine lv_iload_n X.1 X.2.1 dX8_lengthen_6 rfl (lv_at hl 1 rfl) ?_
  refine lv_if_eq (tgt := 16) X.1 X.2.1 dX8_lengthen_7 (by decide) (fun c2 => ?_) (fun c2 => ?_)
  · have h := h.1 c2
    refine lv_iconst (v := 0) X.1 X.2.1 dX8_lengthen_16 (by decide) ?_
    refine lv_goto (tgt := 21) X.1 X.2.1 dX8_lengthen_17 (by decide) ?_
    exact tw_iret X hr hlk w h dX8_lengthen_21
  · have h := h.2 c2
    refine lv_iload_n X.1 X.2.1 dX8_lengthen_10 rfl (lv_at hl 0 rfl) ?_
    refine lv_ldc (own := RX8) (v := 33554432) X.1 X.2.1 X.2.2.2.1 (X.2.2.2.2 _ (List.mem_of_getElem? (i := 1) rfl)) dX8_lengthen_11 ?_
    refine lv_icmp_lt (tgt := 20) X.1 X.2.1 dX8_lengthen_13 (by decide) (fun c3 => ?_) (fun c3 => ?_)
    · have h := h.1 c3
      refine lv_iload_n X.1 X.2.1 dX8_lengthen_20 rfl (lv_at hl 0 rfl) ?_
      exact tw_iret X hr hlk w h dX8_lengthen_21
    · have h := h.2 c3
      refine lv_iconst (v := 0) X.1 X.2.1 dX8_lengthen_16 (by decide) ?_
      refine lv_goto (tgt := 21) X.1 X.2.1 dX8_lengthen_17 (by decide) ?_
      exact tw_iret X hr hlk w h dX8_lengthen_21
end
